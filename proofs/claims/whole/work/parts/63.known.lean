set_option maxHeartbeats 8000000 in
set_option maxRecDepth 100000 in
theorem c_Mo_set_b (l : Launch) (D : va_G) (cs : Nat → ClassId) (L : List Nat) (f : Nat → va_E) (sz : Nat) (y m1 m2 m3 m5 m6 m7 m8 m9 m10 m11 m12 m13 m15 : Nat) (th pn rw_ fu fb : Int) (p0 : Nat) (vw bl : Nat → Int) (pw v1 : Int) (hF : Fc L [y, m5, m6]) (ha : f y = .inr (7, [.int (iI th), .ref m1, .ref m2, .ref m3, .int (iI pn), .ref m5, .ref m6, .ref m7, .ref m8, .ref m9, .ref m10, .ref m11, .ref m12, .ref m13, .int (iI rw_), .ref m15, .long (lI fu), .long (lI fb)])) (hpn : 0 ≤ pn ∧ pn ≤ 12) (hp0 : (p0 : Int) < pn) (hv5 : f m5 = .inl (cs 0, 72, .inl (ai vw))) (hb6 : f m6 = .inl (cs 2, 12, .inl (ai bl))) (hvw : ∀ j, j < 72 → -1000 ≤ vw j ∧ vw j ≤ 1000) (hpw : -2147483648 ≤ pw ∧ pw < 2147483648) (hv1 : -2147483648 ≤ v1 ∧ v1 < 2147483648) (hbad : pw < 0 ∨ 5 < pw ∨ v1 < -1000 ∨ 1000 < v1) : Met l (⟨"RealRootsModel", "set", "(III)I"⟩ : MethodName) (.code (⟨"RealRootsModel", "set", "(III)I"⟩ : MethodName) prog_9_method_22_code 5 (Option.some Jvm.ClassFile.FieldType.int) :: gw) ({ frames := 2, cells := 0, slots := 0, locals := 55 }) (va_Pc [.ref y, .int (iI ((p0 : Int))), .int (iI pw), .int (iI v1)] (K0 D vwCl (TY cs) L f sz)) (va_Qi (fun (r : Int32) (g : Nat → va_E) => r = iI (-2) ∧ g = mw f [(y, .inr (7, [.int (iI 0), .ref m1, .ref m2, .ref m3, .int (iI pn), .ref m5, .ref m6, .ref m7, .ref m8, .ref m9, .ref m10, .ref m11, .ref m12, .ref m13, .int (iI rw_), .ref m15, .long (lI fu), .long (lI fb)]))]) (K1 D vwCl (TY cs) (AL L sz) L) (AL L sz)) 0 0 (AL L sz) := by
  refine Met.ofW (cc := prog_9_method_22_code) (maxL := 5) (ret := (Option.some Jvm.ClassFile.FieldType.int)) (by decide) rfl ?_
  intro p e s m args below meth c s₁ Bd hml hv
  obtain ⟨rfl, hk0⟩ := hv
  obtain ⟨hsz, B⟩ := hk0.start
  subst hsz
  have hx := Bd.exec
  have hb := Bd.bytes
  have hr := Bd.returns
  have hlocks := Bd.notSynchronized
  have hts0 := atoms_spec Bd.pre
  have hown : s.vm.findClass RX7 = some m.cls := findClass_of_methodNamed Bd.named
  have hA : ∀ q, s.heap.size ≤ q → AL L s.heap.size q := fun _ h => Or.inr h
  have hl := lv_entry ([.ref y, .int (iI ((p0 : Int))), .int (iI pw), .int (iI v1)]) (n := 5) (Nat.le_of_ble_eq_true rfl)
  rw [lg_entry_eq]
  generalize (lg_sl ([.ref y, .int (iI ((p0 : Int))), .int (iI pw), .int (iI v1)]) ++ List.replicate (5 - (lg_sl ([.ref y, .int (iI ((p0 : Int))), .int (iI pw), .int (iI v1)])).length) Slot.unset).toArray = ls at hl ⊢
  refine absQ (fun Q R av hQ hR hav => ?_)
  have hts : ∀ w ∈ gw, w.before av s = true := by rw [hav]; exact fun w h => hts0 w (List.mem_cons_of_mem _ h)
  have hRf : R.frames = 2 := by rw [hR]; rfl
  have hRl : R.locals = 55 := by rw [hR]; rfl
  have hRc : R.cells = 0 := by rw [hR]; rfl
  have hRs : R.slots = 0 := by rw [hR]; rfl
  clear hR hts0 Bd
  have hl : lv_has ls 5 [(0, .ref y), (1, .int (iI ((p0 : Int)))), (2, .int (iI pw)), (3, .int (iI v1))] := hl
  have hfx : ∀ q ∈ ([(y, .inr (7, [.int (iI th), .ref m1, .ref m2, .ref m3, .int (iI pn), .ref m5, .ref m6, .ref m7, .ref m8, .ref m9, .ref m10, .ref m11, .ref m12, .ref m13, .int (iI rw_), .ref m15, .long (lI fu), .long (lI fb)])), (m5, .inl (cs 0, 72, .inl (ai vw))), (m6, .inl (cs 2, 12, .inl (ai bl)))] : List (Nat × va_E)), f q.1 = q.2 := fun q hq => by
    simp only [List.mem_cons, List.not_mem_nil, or_false] at hq
    rcases hq with rfl | rfl | rfl
    · exact ha
    · exact hv5
    · exact hb6
  have hmw : mw f [(y, .inr (7, [.int (iI th), .ref m1, .ref m2, .ref m3, .int (iI pn), .ref m5, .ref m6, .ref m7, .ref m8, .ref m9, .ref m10, .ref m11, .ref m12, .ref m13, .int (iI rw_), .ref m15, .long (lI fu), .long (lI fb)])), (m5, .inl (cs 0, 72, .inl (ai vw))), (m6, .inl (cs 2, 12, .inl (ai bl)))] = f := mw_self (fun k a e hk => hfx (a, e) (List.mem_of_getElem? hk))
  have B := B.focus [(y, .inr (7, [.int (iI th), .ref m1, .ref m2, .ref m3, .int (iI pn), .ref m5, .ref m6, .ref m7, .ref m8, .ref m9, .ref m10, .ref m11, .ref m12, .ref m13, .int (iI rw_), .ref m15, .long (lI fu), .long (lI fb)])), (m5, .inl (cs 0, 72, .inl (ai vw))), (m6, .inl (cs 2, 12, .inl (ai bl)))] hfx
  refine lv_aload_n hx hb d_Mo_set_0 rfl (lv_at hl 0 rfl) ?_
  refine x_iconst hx hb d_Mo_set_1 ?_
  refine x_put (C := RX7) (T := TX7) (N := 18) hx hb hts inX7 tyX7 tyX7_ok nmX7 hown B hF 0 rfl rfl 0 (by decide) (hts _ w_677) (fun _ h9 => h9) rfl (tyX7_ok 0 (by decide)) rfl rfl (Nat.le_of_ble_eq_true rfl) d_Mo_set_2 (fun H locs B => ?_)
  have B : Wb D vwCl (TY cs) L (mw f [(y, .inr (7, [.int (iI 0), .ref m1, .ref m2, .ref m3, .int (iI pn), .ref m5, .ref m6, .ref m7, .ref m8, .ref m9, .ref m10, .ref m11, .ref m12, .ref m13, .int (iI rw_), .ref m15, .long (lI fu), .long (lI fb)])), (m5, .inl (cs 0, 72, .inl (ai vw))), (m6, .inl (cs 2, 12, .inl (ai bl)))]) (AL L s.heap.size) s H _ := B
  refine lv_aload_n hx hb d_Mo_set_5 rfl (lv_at hl 0 rfl) ?_
  refine lv_iload_n hx hb d_Mo_set_6 rfl (lv_at hl 1 rfl) ?_
  refine x_calli B hA (va_runV (As := [.int (iI ((p0 : Int)))]) (rest := []) ⟨hx, hb, hml, hown, hts⟩ (c_Mo_is l D cs _ _ _ y m1 m2 m3 m5 m6 m7 m8 m9 m10 m11 m12 m13 m15 0 pn rw_ fu fb ((p0 : Int)) (hF.pick [0] rfl rfl) (mw_get (X := [(y, .inr (7, [.int (iI 0), .ref m1, .ref m2, .ref m3, .int (iI pn), .ref m5, .ref m6, .ref m7, .ref m8, .ref m9, .ref m10, .ref m11, .ref m12, .ref m13, .int (iI rw_), .ref m15, .long (lI fu), .long (lI fb)])), (m5, .inl (cs 0, 72, .inl (ai vw))), (m6, .inl (cs 2, 12, .inl (ai bl)))]) hF.1 (k := 0) rfl) hpn (by omega)) (cwV 1 hts (gw_V w_745 w_747 s_29 w_8 w_748) rfl rfl rfl (by decide +kernel) ⟨by rw [hRf]; exact Nat.le_of_ble_eq_true rfl, by rw [hRl]; exact Nat.le_of_ble_eq_true rfl⟩) ⟨K0.blind, B.recv (hF.2 _ (mw_key (k := 0) (X := [(y, .inr (7, [.int (iI 0), .ref m1, .ref m2, .ref m3, .int (iI pn), .ref m5, .ref m6, .ref m7, .ref m8, .ref m9, .ref m10, .ref m11, .ref m12, .ref m13, .int (iI rw_), .ref m15, .long (lI fu), .long (lI fb)])), (m5, .inl (cs 0, 72, .inl (ai vw))), (m6, .inl (cs 2, 12, .inl (ai bl)))]) rfl)) (mw_get (X := [(y, .inr (7, [.int (iI 0), .ref m1, .ref m2, .ref m3, .int (iI pn), .ref m5, .ref m6, .ref m7, .ref m8, .ref m9, .ref m10, .ref m11, .ref m12, .ref m13, .int (iI rw_), .ref m15, .long (lI fu), .long (lI fb)])), (m5, .inl (cs 0, 72, .inl (ai vw))), (m6, .inl (cs 2, 12, .inl (ai bl)))]) hF.1 (k := 0) rfl) rfl, B.pre _⟩ rfl rfl hl.1 rfl (lv_room (Nat.le_of_ble_eq_true rfl)) d_Mo_set_7 ⟨by rw [hRc]; omega, by rw [hRs]; omega⟩) (fun r7 g7 H locs hw B => ?_)
  obtain ⟨rfl, rfl⟩ := hw
  rw [if_pos (by omega)]
  have B : Wb D vwCl (TY cs) L (mw f [(y, .inr (7, [.int (iI 0), .ref m1, .ref m2, .ref m3, .int (iI pn), .ref m5, .ref m6, .ref m7, .ref m8, .ref m9, .ref m10, .ref m11, .ref m12, .ref m13, .int (iI rw_), .ref m15, .long (lI fu), .long (lI fb)])), (m5, .inl (cs 0, 72, .inl (ai vw))), (m6, .inl (cs 2, 12, .inl (ai bl)))]) (AL L s.heap.size) s H _ := B
  refine x_if_ne (tgt := 15) hx hb d_Mo_set_10 (by decide) (by omega) (fun h10 => ?_) (fun h10 => ?_)
  · refine lv_iload_n hx hb d_Mo_set_15 rfl (lv_at hl 2 rfl) ?_
    refine x_i2l hx hb d_Mo_set_16 (by omega) ?_
    refine x_lconst (z := 0) hx hb d_Mo_set_17 (by decide) ?_
    refine x_ldc2 (z := 5) hx hb hown (hts _ w_752) (by decide) d_Mo_set_18 ?_
    refine x_calli B hA (va_runS (As := [.long (lI pw), .long (lI 0), .long (lI 5)]) (rest := []) ⟨hx, hb, hml, hown, hts⟩ (c_Mo_in l D cs _ _ _ pw 0 5 (by omega) (by omega) (by omega)) (va_cwS 3 hts (gw_S w_749 w_750 w_8 w_751) rfl rfl rfl (by decide +kernel) ⟨by rw [hRf]; exact Nat.le_of_ble_eq_true rfl, by rw [hRl]; exact Nat.le_of_ble_eq_true rfl⟩) ⟨K0.blind, B.pre _⟩ rfl rfl hl.1 rfl (lv_room (Nat.le_of_ble_eq_true rfl)) d_Mo_set_21 ⟨by rw [hRc]; omega, by rw [hRs]; omega⟩) (fun r21 g21 H locs hw B => ?_)
    obtain ⟨rfl, rfl⟩ := hw
    have B : Wb D vwCl (TY cs) L (mw f [(y, .inr (7, [.int (iI 0), .ref m1, .ref m2, .ref m3, .int (iI pn), .ref m5, .ref m6, .ref m7, .ref m8, .ref m9, .ref m10, .ref m11, .ref m12, .ref m13, .int (iI rw_), .ref m15, .long (lI fu), .long (lI fb)])), (m5, .inl (cs 0, 72, .inl (ai vw))), (m6, .inl (cs 2, 12, .inl (ai bl)))]) (AL L s.heap.size) s H _ := B
    obtain ⟨b21, hb21⟩ : ∃ b : Int, b = if 0 ≤ pw ∧ pw ≤ 5 then 1 else 0 := ⟨_, rfl⟩
    rw [← hb21]
    have hc21 : (b21 = 1 ∧ 0 ≤ pw ∧ pw ≤ 5) ∨ (b21 = 0 ∧ (pw < 0 ∨ 5 < pw)) := by rw [hb21]; split <;> omega
    refine x_if_eq (tgt := 41) hx hb d_Mo_set_24 (by decide) (by omega) (fun h24 => ?_) (fun h24 => ?_)
    · refine x_bipush hx hb d_Mo_set_41 (by decide) ?_
      subst hQ hav
      exact x_iret hx hb hr hlocks B d_Mo_set_43 (⟨rfl, mw_tail (X := [(y, .inr (7, [.int (iI 0), .ref m1, .ref m2, .ref m3, .int (iI pn), .ref m5, .ref m6, .ref m7, .ref m8, .ref m9, .ref m10, .ref m11, .ref m12, .ref m13, .int (iI rw_), .ref m15, .long (lI fu), .long (lI fb)]))]) (Y := [(m5, .inl (cs 0, 72, .inl (ai vw))), (m6, .inl (cs 2, 12, .inl (ai bl)))]) (fun p hp => hfx p (List.mem_cons_of_mem _ hp))⟩)
    · refine lv_iload_n hx hb d_Mo_set_27 rfl (lv_at hl 3 rfl) ?_
      refine x_i2l hx hb d_Mo_set_28 (by omega) ?_
      refine x_ldc2 (z := -1000) hx hb hown (hts _ w_753) (by decide) d_Mo_set_29 ?_
      refine x_ldc2 (z := 1000) hx hb hown (hts _ w_754) (by decide) d_Mo_set_32 ?_
      refine x_calli B hA (va_runS (As := [.long (lI v1), .long (lI (-1000)), .long (lI 1000)]) (rest := []) ⟨hx, hb, hml, hown, hts⟩ (c_Mo_in l D cs _ _ _ v1 (-1000) 1000 (by omega) (by omega) (by omega)) (va_cwS 3 hts (gw_S w_749 w_750 w_8 w_751) rfl rfl rfl (by decide +kernel) ⟨by rw [hRf]; exact Nat.le_of_ble_eq_true rfl, by rw [hRl]; exact Nat.le_of_ble_eq_true rfl⟩) ⟨K0.blind, B.pre _⟩ rfl rfl hl.1 rfl (lv_room (Nat.le_of_ble_eq_true rfl)) d_Mo_set_35 ⟨by rw [hRc]; omega, by rw [hRs]; omega⟩) (fun r35 g35 H locs hw B => ?_)
      obtain ⟨rfl, rfl⟩ := hw
      have B : Wb D vwCl (TY cs) L (mw f [(y, .inr (7, [.int (iI 0), .ref m1, .ref m2, .ref m3, .int (iI pn), .ref m5, .ref m6, .ref m7, .ref m8, .ref m9, .ref m10, .ref m11, .ref m12, .ref m13, .int (iI rw_), .ref m15, .long (lI fu), .long (lI fb)])), (m5, .inl (cs 0, 72, .inl (ai vw))), (m6, .inl (cs 2, 12, .inl (ai bl)))]) (AL L s.heap.size) s H _ := B
      obtain ⟨b35, hb35⟩ : ∃ b : Int, b = if (-1000) ≤ v1 ∧ v1 ≤ 1000 then 1 else 0 := ⟨_, rfl⟩
      rw [← hb35]
      have hc35 : (b35 = 1 ∧ (-1000) ≤ v1 ∧ v1 ≤ 1000) ∨ (b35 = 0 ∧ (v1 < (-1000) ∨ 1000 < v1)) := by rw [hb35]; split <;> omega
      refine x_if_ne (tgt := 44) hx hb d_Mo_set_38 (by decide) (by omega) (fun h38 => ?_) (fun h38 => ?_)
      · exfalso; omega
      · refine x_bipush hx hb d_Mo_set_41 (by decide) ?_
        subst hQ hav
        exact x_iret hx hb hr hlocks B d_Mo_set_43 (⟨rfl, mw_tail (X := [(y, .inr (7, [.int (iI 0), .ref m1, .ref m2, .ref m3, .int (iI pn), .ref m5, .ref m6, .ref m7, .ref m8, .ref m9, .ref m10, .ref m11, .ref m12, .ref m13, .int (iI rw_), .ref m15, .long (lI fu), .long (lI fb)]))]) (Y := [(m5, .inl (cs 0, 72, .inl (ai vw))), (m6, .inl (cs 2, 12, .inl (ai bl)))]) (fun p hp => hfx p (List.mem_cons_of_mem _ hp))⟩)
  · exfalso; omega
set_option maxHeartbeats 8000000 in
set_option maxRecDepth 100000 in
theorem c_Mo_set_k (l : Launch) (D : va_G) (cs : Nat → ClassId) (L : List Nat) (f : Nat → va_E) (sz : Nat) (y m1 m2 m3 m5 m6 m7 m8 m9 m10 m11 m12 m13 m15 : Nat) (th pn rw_ fu fb : Int) (p0 : Nat) (vw bl : Nat → Int) (k : Nat) (v1 : Int) (hF : Fc L [y, m5, m6]) (ha : f y = .inr (7, [.int (iI th), .ref m1, .ref m2, .ref m3, .int (iI pn), .ref m5, .ref m6, .ref m7, .ref m8, .ref m9, .ref m10, .ref m11, .ref m12, .ref m13, .int (iI rw_), .ref m15, .long (lI fu), .long (lI fb)])) (hpn : 0 ≤ pn ∧ pn ≤ 12) (hp0 : (p0 : Int) < pn) (hv5 : f m5 = .inl (cs 0, 72, .inl (ai vw))) (hb6 : f m6 = .inl (cs 2, 12, .inl (ai bl))) (hvw : ∀ j, j < 72 → -1000 ≤ vw j ∧ vw j ≤ 1000) (hk : k ≤ 5) (hv1 : -1000 ≤ v1 ∧ v1 ≤ 1000) : Met l (⟨"RealRootsModel", "set", "(III)I"⟩ : MethodName) (.code (⟨"RealRootsModel", "set", "(III)I"⟩ : MethodName) prog_9_method_22_code 5 (Option.some Jvm.ClassFile.FieldType.int) :: gw) ({ frames := 2, cells := 0, slots := 0, locals := 55 }) (va_Pc [.ref y, .int (iI ((p0 : Int))), .int (iI ((k : Int))), .int (iI v1)] (K0 D vwCl (TY cs) L f sz)) (va_Qi (fun (r : Int32) (g : Nat → va_E) => r = iI (vw (6 * p0 + k) + 1000) ∧ g = mw f [(y, .inr (7, [.int (iI 0), .ref m1, .ref m2, .ref m3, .int (iI pn), .ref m5, .ref m6, .ref m7, .ref m8, .ref m9, .ref m10, .ref m11, .ref m12, .ref m13, .int (iI rw_), .ref m15, .long (lI fu), .long (lI fb)])), (m5, .inl (cs 0, 72, .inl (ai (up vw (6 * p0 + k) v1)))), (m6, .inl (cs 2, 12, .inl (ai (up bl p0 0))))]) (K1 D vwCl (TY cs) (AL L sz) L) (AL L sz)) 0 0 (AL L sz) := by
  refine Met.ofW (cc := prog_9_method_22_code) (maxL := 5) (ret := (Option.some Jvm.ClassFile.FieldType.int)) (by decide) rfl ?_
  intro p e s m args below meth c s₁ Bd hml hv
  obtain ⟨rfl, hk0⟩ := hv
  obtain ⟨hsz, B⟩ := hk0.start
  subst hsz
  have hx := Bd.exec
  have hb := Bd.bytes
  have hr := Bd.returns
  have hlocks := Bd.notSynchronized
  have hts0 := atoms_spec Bd.pre
  have hown : s.vm.findClass RX7 = some m.cls := findClass_of_methodNamed Bd.named
  have hA : ∀ q, s.heap.size ≤ q → AL L s.heap.size q := fun _ h => Or.inr h
  have hl := lv_entry ([.ref y, .int (iI ((p0 : Int))), .int (iI ((k : Int))), .int (iI v1)]) (n := 5) (Nat.le_of_ble_eq_true rfl)
  rw [lg_entry_eq]
  generalize (lg_sl ([.ref y, .int (iI ((p0 : Int))), .int (iI ((k : Int))), .int (iI v1)]) ++ List.replicate (5 - (lg_sl ([.ref y, .int (iI ((p0 : Int))), .int (iI ((k : Int))), .int (iI v1)])).length) Slot.unset).toArray = ls at hl ⊢
  refine absQ (fun Q R av hQ hR hav => ?_)
  have hts : ∀ w ∈ gw, w.before av s = true := by rw [hav]; exact fun w h => hts0 w (List.mem_cons_of_mem _ h)
  have hRf : R.frames = 2 := by rw [hR]; rfl
  have hRl : R.locals = 55 := by rw [hR]; rfl
  have hRc : R.cells = 0 := by rw [hR]; rfl
  have hRs : R.slots = 0 := by rw [hR]; rfl
  clear hR hts0 Bd
  have hl : lv_has ls 5 [(0, .ref y), (1, .int (iI ((p0 : Int)))), (2, .int (iI ((k : Int)))), (3, .int (iI v1))] := hl
  have hfx : ∀ q ∈ ([(y, .inr (7, [.int (iI th), .ref m1, .ref m2, .ref m3, .int (iI pn), .ref m5, .ref m6, .ref m7, .ref m8, .ref m9, .ref m10, .ref m11, .ref m12, .ref m13, .int (iI rw_), .ref m15, .long (lI fu), .long (lI fb)])), (m5, .inl (cs 0, 72, .inl (ai vw))), (m6, .inl (cs 2, 12, .inl (ai bl)))] : List (Nat × va_E)), f q.1 = q.2 := fun q hq => by
    simp only [List.mem_cons, List.not_mem_nil, or_false] at hq
    rcases hq with rfl | rfl | rfl
    · exact ha
    · exact hv5
    · exact hb6
  have hmw : mw f [(y, .inr (7, [.int (iI th), .ref m1, .ref m2, .ref m3, .int (iI pn), .ref m5, .ref m6, .ref m7, .ref m8, .ref m9, .ref m10, .ref m11, .ref m12, .ref m13, .int (iI rw_), .ref m15, .long (lI fu), .long (lI fb)])), (m5, .inl (cs 0, 72, .inl (ai vw))), (m6, .inl (cs 2, 12, .inl (ai bl)))] = f := mw_self (fun k a e hk => hfx (a, e) (List.mem_of_getElem? hk))
  have B := B.focus [(y, .inr (7, [.int (iI th), .ref m1, .ref m2, .ref m3, .int (iI pn), .ref m5, .ref m6, .ref m7, .ref m8, .ref m9, .ref m10, .ref m11, .ref m12, .ref m13, .int (iI rw_), .ref m15, .long (lI fu), .long (lI fb)])), (m5, .inl (cs 0, 72, .inl (ai vw))), (m6, .inl (cs 2, 12, .inl (ai bl)))] hfx
  refine lv_aload_n hx hb d_Mo_set_0 rfl (lv_at hl 0 rfl) ?_
  refine x_iconst hx hb d_Mo_set_1 ?_
  refine x_put (C := RX7) (T := TX7) (N := 18) hx hb hts inX7 tyX7 tyX7_ok nmX7 hown B hF 0 rfl rfl 0 (by decide) (hts _ w_677) (fun _ h9 => h9) rfl (tyX7_ok 0 (by decide)) rfl rfl (Nat.le_of_ble_eq_true rfl) d_Mo_set_2 (fun H locs B => ?_)
  have B : Wb D vwCl (TY cs) L (mw f [(y, .inr (7, [.int (iI 0), .ref m1, .ref m2, .ref m3, .int (iI pn), .ref m5, .ref m6, .ref m7, .ref m8, .ref m9, .ref m10, .ref m11, .ref m12, .ref m13, .int (iI rw_), .ref m15, .long (lI fu), .long (lI fb)])), (m5, .inl (cs 0, 72, .inl (ai vw))), (m6, .inl (cs 2, 12, .inl (ai bl)))]) (AL L s.heap.size) s H _ := B
  refine lv_aload_n hx hb d_Mo_set_5 rfl (lv_at hl 0 rfl) ?_
  refine lv_iload_n hx hb d_Mo_set_6 rfl (lv_at hl 1 rfl) ?_
  refine x_calli B hA (va_runV (As := [.int (iI ((p0 : Int)))]) (rest := []) ⟨hx, hb, hml, hown, hts⟩ (c_Mo_is l D cs _ _ _ y m1 m2 m3 m5 m6 m7 m8 m9 m10 m11 m12 m13 m15 0 pn rw_ fu fb ((p0 : Int)) (hF.pick [0] rfl rfl) (mw_get (X := [(y, .inr (7, [.int (iI 0), .ref m1, .ref m2, .ref m3, .int (iI pn), .ref m5, .ref m6, .ref m7, .ref m8, .ref m9, .ref m10, .ref m11, .ref m12, .ref m13, .int (iI rw_), .ref m15, .long (lI fu), .long (lI fb)])), (m5, .inl (cs 0, 72, .inl (ai vw))), (m6, .inl (cs 2, 12, .inl (ai bl)))]) hF.1 (k := 0) rfl) hpn (by omega)) (cwV 1 hts (gw_V w_745 w_747 s_29 w_8 w_748) rfl rfl rfl (by decide +kernel) ⟨by rw [hRf]; exact Nat.le_of_ble_eq_true rfl, by rw [hRl]; exact Nat.le_of_ble_eq_true rfl⟩) ⟨K0.blind, B.recv (hF.2 _ (mw_key (k := 0) (X := [(y, .inr (7, [.int (iI 0), .ref m1, .ref m2, .ref m3, .int (iI pn), .ref m5, .ref m6, .ref m7, .ref m8, .ref m9, .ref m10, .ref m11, .ref m12, .ref m13, .int (iI rw_), .ref m15, .long (lI fu), .long (lI fb)])), (m5, .inl (cs 0, 72, .inl (ai vw))), (m6, .inl (cs 2, 12, .inl (ai bl)))]) rfl)) (mw_get (X := [(y, .inr (7, [.int (iI 0), .ref m1, .ref m2, .ref m3, .int (iI pn), .ref m5, .ref m6, .ref m7, .ref m8, .ref m9, .ref m10, .ref m11, .ref m12, .ref m13, .int (iI rw_), .ref m15, .long (lI fu), .long (lI fb)])), (m5, .inl (cs 0, 72, .inl (ai vw))), (m6, .inl (cs 2, 12, .inl (ai bl)))]) hF.1 (k := 0) rfl) rfl, B.pre _⟩ rfl rfl hl.1 rfl (lv_room (Nat.le_of_ble_eq_true rfl)) d_Mo_set_7 ⟨by rw [hRc]; omega, by rw [hRs]; omega⟩) (fun r7 g7 H locs hw B => ?_)
  obtain ⟨rfl, rfl⟩ := hw
  rw [if_pos (by omega)]
  have B : Wb D vwCl (TY cs) L (mw f [(y, .inr (7, [.int (iI 0), .ref m1, .ref m2, .ref m3, .int (iI pn), .ref m5, .ref m6, .ref m7, .ref m8, .ref m9, .ref m10, .ref m11, .ref m12, .ref m13, .int (iI rw_), .ref m15, .long (lI fu), .long (lI fb)])), (m5, .inl (cs 0, 72, .inl (ai vw))), (m6, .inl (cs 2, 12, .inl (ai bl)))]) (AL L s.heap.size) s H _ := B
  refine x_if_ne (tgt := 15) hx hb d_Mo_set_10 (by decide) (by omega) (fun h10 => ?_) (fun h10 => ?_)
  · refine lv_iload_n hx hb d_Mo_set_15 rfl (lv_at hl 2 rfl) ?_
    refine x_i2l hx hb d_Mo_set_16 (by omega) ?_
    refine x_lconst (z := 0) hx hb d_Mo_set_17 (by decide) ?_
    refine x_ldc2 (z := 5) hx hb hown (hts _ w_752) (by decide) d_Mo_set_18 ?_
    refine x_calli B hA (va_runS (As := [.long (lI ((k : Int))), .long (lI 0), .long (lI 5)]) (rest := []) ⟨hx, hb, hml, hown, hts⟩ (c_Mo_in l D cs _ _ _ ((k : Int)) 0 5 (by omega) (by omega) (by omega)) (va_cwS 3 hts (gw_S w_749 w_750 w_8 w_751) rfl rfl rfl (by decide +kernel) ⟨by rw [hRf]; exact Nat.le_of_ble_eq_true rfl, by rw [hRl]; exact Nat.le_of_ble_eq_true rfl⟩) ⟨K0.blind, B.pre _⟩ rfl rfl hl.1 rfl (lv_room (Nat.le_of_ble_eq_true rfl)) d_Mo_set_21 ⟨by rw [hRc]; omega, by rw [hRs]; omega⟩) (fun r21 g21 H locs hw B => ?_)
    obtain ⟨rfl, rfl⟩ := hw
    rw [if_pos (by omega)]
    have B : Wb D vwCl (TY cs) L (mw f [(y, .inr (7, [.int (iI 0), .ref m1, .ref m2, .ref m3, .int (iI pn), .ref m5, .ref m6, .ref m7, .ref m8, .ref m9, .ref m10, .ref m11, .ref m12, .ref m13, .int (iI rw_), .ref m15, .long (lI fu), .long (lI fb)])), (m5, .inl (cs 0, 72, .inl (ai vw))), (m6, .inl (cs 2, 12, .inl (ai bl)))]) (AL L s.heap.size) s H _ := B
    refine x_if_eq (tgt := 41) hx hb d_Mo_set_24 (by decide) (by omega) (fun h24 => ?_) (fun h24 => ?_)
    · exfalso; omega
    · refine lv_iload_n hx hb d_Mo_set_27 rfl (lv_at hl 3 rfl) ?_
      refine x_i2l hx hb d_Mo_set_28 (by omega) ?_
      refine x_ldc2 (z := -1000) hx hb hown (hts _ w_753) (by decide) d_Mo_set_29 ?_
      refine x_ldc2 (z := 1000) hx hb hown (hts _ w_754) (by decide) d_Mo_set_32 ?_
      refine x_calli B hA (va_runS (As := [.long (lI v1), .long (lI (-1000)), .long (lI 1000)]) (rest := []) ⟨hx, hb, hml, hown, hts⟩ (c_Mo_in l D cs _ _ _ v1 (-1000) 1000 (by omega) (by omega) (by omega)) (va_cwS 3 hts (gw_S w_749 w_750 w_8 w_751) rfl rfl rfl (by decide +kernel) ⟨by rw [hRf]; exact Nat.le_of_ble_eq_true rfl, by rw [hRl]; exact Nat.le_of_ble_eq_true rfl⟩) ⟨K0.blind, B.pre _⟩ rfl rfl hl.1 rfl (lv_room (Nat.le_of_ble_eq_true rfl)) d_Mo_set_35 ⟨by rw [hRc]; omega, by rw [hRs]; omega⟩) (fun r35 g35 H locs hw B => ?_)
      obtain ⟨rfl, rfl⟩ := hw
      rw [if_pos (by omega)]
      have B : Wb D vwCl (TY cs) L (mw f [(y, .inr (7, [.int (iI 0), .ref m1, .ref m2, .ref m3, .int (iI pn), .ref m5, .ref m6, .ref m7, .ref m8, .ref m9, .ref m10, .ref m11, .ref m12, .ref m13, .int (iI rw_), .ref m15, .long (lI fu), .long (lI fb)])), (m5, .inl (cs 0, 72, .inl (ai vw))), (m6, .inl (cs 2, 12, .inl (ai bl)))]) (AL L s.heap.size) s H _ := B
      refine x_if_ne (tgt := 44) hx hb d_Mo_set_38 (by decide) (by omega) (fun h38 => ?_) (fun h38 => ?_)
      · refine lv_aload_n hx hb d_Mo_set_44 rfl (lv_at hl 0 rfl) ?_
        refine x_get (C := RX7) (T := TX7) (N := 18) hx hb hts inX7 hown B hF 0 rfl rfl 5 (by decide) (hts _ w_682) (fun _ h9 => h9) rfl d_Mo_set_45 ?_
        refine x_bipush hx hb d_Mo_set_48 (by decide) ?_
        refine lv_iload_n hx hb d_Mo_set_50 rfl (lv_at hl 1 rfl) ?_
        refine x_imul hx hb d_Mo_set_51 ?_
        refine lv_iload_n hx hb d_Mo_set_52 rfl (lv_at hl 2 rfl) ?_
        refine x_iadd hx hb d_Mo_set_53 ?_
        refine x_iald hx hb B hF 1 0 rfl rfl (6 * p0 + k) (by omega) (by omega) (by decide) d_Mo_set_54 ?_
        refine lv_istore (lv' := [(4, .int (iI (vw (6 * p0 + k)))), (0, .ref y), (1, .int (iI ((p0 : Int)))), (2, .int (iI ((k : Int)))), (3, .int (iI v1))]) hx hb d_Mo_set_55 hl (by decide) rfl (fun ls hl => ?_)
        refine lv_aload_n hx hb d_Mo_set_57 rfl (lv_at hl 1 rfl) ?_
        refine x_get (C := RX7) (T := TX7) (N := 18) hx hb hts inX7 hown B hF 0 rfl rfl 5 (by decide) (hts _ w_682) (fun _ h9 => h9) rfl d_Mo_set_58 ?_
        refine x_bipush hx hb d_Mo_set_61 (by decide) ?_
        refine lv_iload_n hx hb d_Mo_set_63 rfl (lv_at hl 2 rfl) ?_
        refine x_imul hx hb d_Mo_set_64 ?_
        refine lv_iload_n hx hb d_Mo_set_65 rfl (lv_at hl 3 rfl) ?_
        refine x_iadd hx hb d_Mo_set_66 ?_
        refine lv_iload_n hx hb d_Mo_set_67 rfl (lv_at hl 4 rfl) ?_
        refine x_iast hx hb B hF 1 0 rfl rfl (6 * p0 + k) (by omega) (by omega) (by decide) d_Mo_set_68 (fun H locs B => ?_)
        have B : Wb D vwCl (TY cs) L (mw f [(y, .inr (7, [.int (iI 0), .ref m1, .ref m2, .ref m3, .int (iI pn), .ref m5, .ref m6, .ref m7, .ref m8, .ref m9, .ref m10, .ref m11, .ref m12, .ref m13, .int (iI rw_), .ref m15, .long (lI fu), .long (lI fb)])), (m5, .inl (cs 0, 72, .inl (ai (up vw (6 * p0 + k) v1)))), (m6, .inl (cs 2, 12, .inl (ai bl)))]) (AL L s.heap.size) s H _ := B
        refine lv_aload_n hx hb d_Mo_set_69 rfl (lv_at hl 1 rfl) ?_
        refine x_get (C := RX7) (T := TX7) (N := 18) hx hb hts inX7 hown B hF 0 rfl rfl 6 (by decide) (hts _ w_683) (fun _ h9 => h9) rfl d_Mo_set_70 ?_
        refine lv_iload_n hx hb d_Mo_set_73 rfl (lv_at hl 2 rfl) ?_
        refine x_iconst hx hb d_Mo_set_74 ?_
        refine x_zast hx hb B hF 2 2 rfl rfl p0 (by omega) (by omega) (by decide) (by decide) d_Mo_set_75 (fun H locs B => ?_)
        have B : Wb D vwCl (TY cs) L (mw f [(y, .inr (7, [.int (iI 0), .ref m1, .ref m2, .ref m3, .int (iI pn), .ref m5, .ref m6, .ref m7, .ref m8, .ref m9, .ref m10, .ref m11, .ref m12, .ref m13, .int (iI rw_), .ref m15, .long (lI fu), .long (lI fb)])), (m5, .inl (cs 0, 72, .inl (ai (up vw (6 * p0 + k) v1)))), (m6, .inl (cs 2, 12, .inl (ai (up bl p0 0))))]) (AL L s.heap.size) s H _ := B
        refine lv_iload hx hb d_Mo_set_76 (lv_at hl 0 rfl) ?_
        refine x_sipush hx hb d_Mo_set_78 (by decide) ?_
        refine x_iadd hx hb d_Mo_set_81 ?_
        subst hQ hav
        exact x_iret hx hb hr hlocks B d_Mo_set_82 (⟨rfl, rfl⟩)
      · exfalso; omega
  · exfalso; omega
set_option maxHeartbeats 8000000 in
set_option maxRecDepth 100000 in
theorem c_Mo_coefficient_b (l : Launch) (D : va_G) (cs : Nat → ClassId) (L : List Nat) (f : Nat → va_E) (sz : Nat) (y m1 m2 m3 m5 m6 m7 m8 m9 m10 m11 m12 m13 m15 : Nat) (th pn rw_ fu fb : Int) (p0 : Nat) (vw bl : Nat → Int) (pw : Int) (hF : Fc L [y, m5, m6]) (ha : f y = .inr (7, [.int (iI th), .ref m1, .ref m2, .ref m3, .int (iI pn), .ref m5, .ref m6, .ref m7, .ref m8, .ref m9, .ref m10, .ref m11, .ref m12, .ref m13, .int (iI rw_), .ref m15, .long (lI fu), .long (lI fb)])) (hpn : 0 ≤ pn ∧ pn ≤ 12) (hp0 : (p0 : Int) < pn) (hv5 : f m5 = .inl (cs 0, 72, .inl (ai vw))) (hb6 : f m6 = .inl (cs 2, 12, .inl (ai bl))) (hvw : ∀ j, j < 72 → -1000 ≤ vw j ∧ vw j ≤ 1000) (hpw : -2147483648 ≤ pw ∧ pw < 2147483648) (hbad : pw < 0 ∨ 5 < pw) : Met l (⟨"RealRootsModel", "coefficient", "(II)I"⟩ : MethodName) (.code (⟨"RealRootsModel", "coefficient", "(II)I"⟩ : MethodName) prog_9_method_23_code 3 (Option.some Jvm.ClassFile.FieldType.int) :: gw) ({ frames := 2, cells := 0, slots := 0, locals := 55 }) (va_Pc [.ref y, .int (iI ((p0 : Int))), .int (iI pw)] (K0 D vwCl (TY cs) L f sz)) (va_Qi (fun (r : Int32) (g : Nat → va_E) => r = iI 0 ∧ g = mw f [(y, .inr (7, [.int (iI 0), .ref m1, .ref m2, .ref m3, .int (iI pn), .ref m5, .ref m6, .ref m7, .ref m8, .ref m9, .ref m10, .ref m11, .ref m12, .ref m13, .int (iI rw_), .ref m15, .long (lI fu), .long (lI fb)]))]) (K1 D vwCl (TY cs) (AL L sz) L) (AL L sz)) 0 0 (AL L sz) := by
  refine Met.ofW (cc := prog_9_method_23_code) (maxL := 3) (ret := (Option.some Jvm.ClassFile.FieldType.int)) (by decide) rfl ?_
  intro p e s m args below meth c s₁ Bd hml hv
  obtain ⟨rfl, hk0⟩ := hv
  obtain ⟨hsz, B⟩ := hk0.start
  subst hsz
  have hx := Bd.exec
  have hb := Bd.bytes
  have hr := Bd.returns
  have hlocks := Bd.notSynchronized
  have hts0 := atoms_spec Bd.pre
  have hown : s.vm.findClass RX7 = some m.cls := findClass_of_methodNamed Bd.named
  have hA : ∀ q, s.heap.size ≤ q → AL L s.heap.size q := fun _ h => Or.inr h
  have hl := lv_entry ([.ref y, .int (iI ((p0 : Int))), .int (iI pw)]) (n := 3) (Nat.le_of_ble_eq_true rfl)
  rw [lg_entry_eq]
  generalize (lg_sl ([.ref y, .int (iI ((p0 : Int))), .int (iI pw)]) ++ List.replicate (3 - (lg_sl ([.ref y, .int (iI ((p0 : Int))), .int (iI pw)])).length) Slot.unset).toArray = ls at hl ⊢
  refine absQ (fun Q R av hQ hR hav => ?_)
  have hts : ∀ w ∈ gw, w.before av s = true := by rw [hav]; exact fun w h => hts0 w (List.mem_cons_of_mem _ h)
  have hRf : R.frames = 2 := by rw [hR]; rfl
  have hRl : R.locals = 55 := by rw [hR]; rfl
  have hRc : R.cells = 0 := by rw [hR]; rfl
  have hRs : R.slots = 0 := by rw [hR]; rfl
  clear hR hts0 Bd
  have hl : lv_has ls 3 [(0, .ref y), (1, .int (iI ((p0 : Int)))), (2, .int (iI pw))] := hl
  have hfx : ∀ q ∈ ([(y, .inr (7, [.int (iI th), .ref m1, .ref m2, .ref m3, .int (iI pn), .ref m5, .ref m6, .ref m7, .ref m8, .ref m9, .ref m10, .ref m11, .ref m12, .ref m13, .int (iI rw_), .ref m15, .long (lI fu), .long (lI fb)])), (m5, .inl (cs 0, 72, .inl (ai vw))), (m6, .inl (cs 2, 12, .inl (ai bl)))] : List (Nat × va_E)), f q.1 = q.2 := fun q hq => by
    simp only [List.mem_cons, List.not_mem_nil, or_false] at hq
    rcases hq with rfl | rfl | rfl
    · exact ha
    · exact hv5
    · exact hb6
  have hmw : mw f [(y, .inr (7, [.int (iI th), .ref m1, .ref m2, .ref m3, .int (iI pn), .ref m5, .ref m6, .ref m7, .ref m8, .ref m9, .ref m10, .ref m11, .ref m12, .ref m13, .int (iI rw_), .ref m15, .long (lI fu), .long (lI fb)])), (m5, .inl (cs 0, 72, .inl (ai vw))), (m6, .inl (cs 2, 12, .inl (ai bl)))] = f := mw_self (fun k a e hk => hfx (a, e) (List.mem_of_getElem? hk))
  have B := B.focus [(y, .inr (7, [.int (iI th), .ref m1, .ref m2, .ref m3, .int (iI pn), .ref m5, .ref m6, .ref m7, .ref m8, .ref m9, .ref m10, .ref m11, .ref m12, .ref m13, .int (iI rw_), .ref m15, .long (lI fu), .long (lI fb)])), (m5, .inl (cs 0, 72, .inl (ai vw))), (m6, .inl (cs 2, 12, .inl (ai bl)))] hfx
  refine lv_aload_n hx hb d_Mo_coefficient_0 rfl (lv_at hl 0 rfl) ?_
  refine x_iconst hx hb d_Mo_coefficient_1 ?_
  refine x_put (C := RX7) (T := TX7) (N := 18) hx hb hts inX7 tyX7 tyX7_ok nmX7 hown B hF 0 rfl rfl 0 (by decide) (hts _ w_677) (fun _ h9 => h9) rfl (tyX7_ok 0 (by decide)) rfl rfl (Nat.le_of_ble_eq_true rfl) d_Mo_coefficient_2 (fun H locs B => ?_)
  have B : Wb D vwCl (TY cs) L (mw f [(y, .inr (7, [.int (iI 0), .ref m1, .ref m2, .ref m3, .int (iI pn), .ref m5, .ref m6, .ref m7, .ref m8, .ref m9, .ref m10, .ref m11, .ref m12, .ref m13, .int (iI rw_), .ref m15, .long (lI fu), .long (lI fb)])), (m5, .inl (cs 0, 72, .inl (ai vw))), (m6, .inl (cs 2, 12, .inl (ai bl)))]) (AL L s.heap.size) s H _ := B
  refine lv_aload_n hx hb d_Mo_coefficient_5 rfl (lv_at hl 0 rfl) ?_
  refine lv_iload_n hx hb d_Mo_coefficient_6 rfl (lv_at hl 1 rfl) ?_
  refine x_calli B hA (va_runV (As := [.int (iI ((p0 : Int)))]) (rest := []) ⟨hx, hb, hml, hown, hts⟩ (c_Mo_is l D cs _ _ _ y m1 m2 m3 m5 m6 m7 m8 m9 m10 m11 m12 m13 m15 0 pn rw_ fu fb ((p0 : Int)) (hF.pick [0] rfl rfl) (mw_get (X := [(y, .inr (7, [.int (iI 0), .ref m1, .ref m2, .ref m3, .int (iI pn), .ref m5, .ref m6, .ref m7, .ref m8, .ref m9, .ref m10, .ref m11, .ref m12, .ref m13, .int (iI rw_), .ref m15, .long (lI fu), .long (lI fb)])), (m5, .inl (cs 0, 72, .inl (ai vw))), (m6, .inl (cs 2, 12, .inl (ai bl)))]) hF.1 (k := 0) rfl) hpn (by omega)) (cwV 1 hts (gw_V w_745 w_747 s_29 w_8 w_748) rfl rfl rfl (by decide +kernel) ⟨by rw [hRf]; exact Nat.le_of_ble_eq_true rfl, by rw [hRl]; exact Nat.le_of_ble_eq_true rfl⟩) ⟨K0.blind, B.recv (hF.2 _ (mw_key (k := 0) (X := [(y, .inr (7, [.int (iI 0), .ref m1, .ref m2, .ref m3, .int (iI pn), .ref m5, .ref m6, .ref m7, .ref m8, .ref m9, .ref m10, .ref m11, .ref m12, .ref m13, .int (iI rw_), .ref m15, .long (lI fu), .long (lI fb)])), (m5, .inl (cs 0, 72, .inl (ai vw))), (m6, .inl (cs 2, 12, .inl (ai bl)))]) rfl)) (mw_get (X := [(y, .inr (7, [.int (iI 0), .ref m1, .ref m2, .ref m3, .int (iI pn), .ref m5, .ref m6, .ref m7, .ref m8, .ref m9, .ref m10, .ref m11, .ref m12, .ref m13, .int (iI rw_), .ref m15, .long (lI fu), .long (lI fb)])), (m5, .inl (cs 0, 72, .inl (ai vw))), (m6, .inl (cs 2, 12, .inl (ai bl)))]) hF.1 (k := 0) rfl) rfl, B.pre _⟩ rfl rfl hl.1 rfl (lv_room (Nat.le_of_ble_eq_true rfl)) d_Mo_coefficient_7 ⟨by rw [hRc]; omega, by rw [hRs]; omega⟩) (fun r7 g7 H locs hw B => ?_)
  obtain ⟨rfl, rfl⟩ := hw
  rw [if_pos (by omega)]
  have B : Wb D vwCl (TY cs) L (mw f [(y, .inr (7, [.int (iI 0), .ref m1, .ref m2, .ref m3, .int (iI pn), .ref m5, .ref m6, .ref m7, .ref m8, .ref m9, .ref m10, .ref m11, .ref m12, .ref m13, .int (iI rw_), .ref m15, .long (lI fu), .long (lI fb)])), (m5, .inl (cs 0, 72, .inl (ai vw))), (m6, .inl (cs 2, 12, .inl (ai bl)))]) (AL L s.heap.size) s H _ := B
  refine x_if_eq (tgt := 39) hx hb d_Mo_coefficient_10 (by decide) (by omega) (fun h10 => ?_) (fun h10 => ?_)
  · exfalso; omega
  · refine lv_iload_n hx hb d_Mo_coefficient_13 rfl (lv_at hl 2 rfl) ?_
    refine x_i2l hx hb d_Mo_coefficient_14 (by omega) ?_
    refine x_lconst (z := 0) hx hb d_Mo_coefficient_15 (by decide) ?_
    refine x_ldc2 (z := 5) hx hb hown (hts _ w_752) (by decide) d_Mo_coefficient_16 ?_
    refine x_calli B hA (va_runS (As := [.long (lI pw), .long (lI 0), .long (lI 5)]) (rest := []) ⟨hx, hb, hml, hown, hts⟩ (c_Mo_in l D cs _ _ _ pw 0 5 (by omega) (by omega) (by omega)) (va_cwS 3 hts (gw_S w_749 w_750 w_8 w_751) rfl rfl rfl (by decide +kernel) ⟨by rw [hRf]; exact Nat.le_of_ble_eq_true rfl, by rw [hRl]; exact Nat.le_of_ble_eq_true rfl⟩) ⟨K0.blind, B.pre _⟩ rfl rfl hl.1 rfl (lv_room (Nat.le_of_ble_eq_true rfl)) d_Mo_coefficient_19 ⟨by rw [hRc]; omega, by rw [hRs]; omega⟩) (fun r19 g19 H locs hw B => ?_)
    obtain ⟨rfl, rfl⟩ := hw
    have B : Wb D vwCl (TY cs) L (mw f [(y, .inr (7, [.int (iI 0), .ref m1, .ref m2, .ref m3, .int (iI pn), .ref m5, .ref m6, .ref m7, .ref m8, .ref m9, .ref m10, .ref m11, .ref m12, .ref m13, .int (iI rw_), .ref m15, .long (lI fu), .long (lI fb)])), (m5, .inl (cs 0, 72, .inl (ai vw))), (m6, .inl (cs 2, 12, .inl (ai bl)))]) (AL L s.heap.size) s H _ := B
    obtain ⟨b19, hb19⟩ : ∃ b : Int, b = if 0 ≤ pw ∧ pw ≤ 5 then 1 else 0 := ⟨_, rfl⟩
    rw [← hb19]
    have hc19 : (b19 = 1 ∧ 0 ≤ pw ∧ pw ≤ 5) ∨ (b19 = 0 ∧ (pw < 0 ∨ 5 < pw)) := by rw [hb19]; split <;> omega
    refine x_if_eq (tgt := 39) hx hb d_Mo_coefficient_22 (by decide) (by omega) (fun h22 => ?_) (fun h22 => ?_)
    · refine x_iconst hx hb d_Mo_coefficient_39 ?_
      subst hQ hav
      exact x_iret hx hb hr hlocks B d_Mo_coefficient_40 (⟨rfl, mw_tail (X := [(y, .inr (7, [.int (iI 0), .ref m1, .ref m2, .ref m3, .int (iI pn), .ref m5, .ref m6, .ref m7, .ref m8, .ref m9, .ref m10, .ref m11, .ref m12, .ref m13, .int (iI rw_), .ref m15, .long (lI fu), .long (lI fb)]))]) (Y := [(m5, .inl (cs 0, 72, .inl (ai vw))), (m6, .inl (cs 2, 12, .inl (ai bl)))]) (fun p hp => hfx p (List.mem_cons_of_mem _ hp))⟩)
    · exfalso; omega
set_option maxHeartbeats 8000000 in
set_option maxRecDepth 100000 in
theorem c_Mo_coefficient_k (l : Launch) (D : va_G) (cs : Nat → ClassId) (L : List Nat) (f : Nat → va_E) (sz : Nat) (y m1 m2 m3 m5 m6 m7 m8 m9 m10 m11 m12 m13 m15 : Nat) (th pn rw_ fu fb : Int) (p0 : Nat) (vw bl : Nat → Int) (k : Nat) (hF : Fc L [y, m5, m6]) (ha : f y = .inr (7, [.int (iI th), .ref m1, .ref m2, .ref m3, .int (iI pn), .ref m5, .ref m6, .ref m7, .ref m8, .ref m9, .ref m10, .ref m11, .ref m12, .ref m13, .int (iI rw_), .ref m15, .long (lI fu), .long (lI fb)])) (hpn : 0 ≤ pn ∧ pn ≤ 12) (hp0 : (p0 : Int) < pn) (hv5 : f m5 = .inl (cs 0, 72, .inl (ai vw))) (hb6 : f m6 = .inl (cs 2, 12, .inl (ai bl))) (hvw : ∀ j, j < 72 → -1000 ≤ vw j ∧ vw j ≤ 1000) (hk : k ≤ 5) : Met l (⟨"RealRootsModel", "coefficient", "(II)I"⟩ : MethodName) (.code (⟨"RealRootsModel", "coefficient", "(II)I"⟩ : MethodName) prog_9_method_23_code 3 (Option.some Jvm.ClassFile.FieldType.int) :: gw) ({ frames := 2, cells := 0, slots := 0, locals := 55 }) (va_Pc [.ref y, .int (iI ((p0 : Int))), .int (iI ((k : Int)))] (K0 D vwCl (TY cs) L f sz)) (va_Qi (fun (r : Int32) (g : Nat → va_E) => r = iI (vw (6 * p0 + k)) ∧ g = mw f [(y, .inr (7, [.int (iI 0), .ref m1, .ref m2, .ref m3, .int (iI pn), .ref m5, .ref m6, .ref m7, .ref m8, .ref m9, .ref m10, .ref m11, .ref m12, .ref m13, .int (iI rw_), .ref m15, .long (lI fu), .long (lI fb)]))]) (K1 D vwCl (TY cs) (AL L sz) L) (AL L sz)) 0 0 (AL L sz) := by
  refine Met.ofW (cc := prog_9_method_23_code) (maxL := 3) (ret := (Option.some Jvm.ClassFile.FieldType.int)) (by decide) rfl ?_
  intro p e s m args below meth c s₁ Bd hml hv
  obtain ⟨rfl, hk0⟩ := hv
  obtain ⟨hsz, B⟩ := hk0.start
  subst hsz
  have hx := Bd.exec
  have hb := Bd.bytes
  have hr := Bd.returns
  have hlocks := Bd.notSynchronized
  have hts0 := atoms_spec Bd.pre
  have hown : s.vm.findClass RX7 = some m.cls := findClass_of_methodNamed Bd.named
  have hA : ∀ q, s.heap.size ≤ q → AL L s.heap.size q := fun _ h => Or.inr h
  have hl := lv_entry ([.ref y, .int (iI ((p0 : Int))), .int (iI ((k : Int)))]) (n := 3) (Nat.le_of_ble_eq_true rfl)
  rw [lg_entry_eq]
  generalize (lg_sl ([.ref y, .int (iI ((p0 : Int))), .int (iI ((k : Int)))]) ++ List.replicate (3 - (lg_sl ([.ref y, .int (iI ((p0 : Int))), .int (iI ((k : Int)))])).length) Slot.unset).toArray = ls at hl ⊢
  refine absQ (fun Q R av hQ hR hav => ?_)
  have hts : ∀ w ∈ gw, w.before av s = true := by rw [hav]; exact fun w h => hts0 w (List.mem_cons_of_mem _ h)
  have hRf : R.frames = 2 := by rw [hR]; rfl
  have hRl : R.locals = 55 := by rw [hR]; rfl
  have hRc : R.cells = 0 := by rw [hR]; rfl
  have hRs : R.slots = 0 := by rw [hR]; rfl
  clear hR hts0 Bd
  have hl : lv_has ls 3 [(0, .ref y), (1, .int (iI ((p0 : Int)))), (2, .int (iI ((k : Int))))] := hl
  have hfx : ∀ q ∈ ([(y, .inr (7, [.int (iI th), .ref m1, .ref m2, .ref m3, .int (iI pn), .ref m5, .ref m6, .ref m7, .ref m8, .ref m9, .ref m10, .ref m11, .ref m12, .ref m13, .int (iI rw_), .ref m15, .long (lI fu), .long (lI fb)])), (m5, .inl (cs 0, 72, .inl (ai vw))), (m6, .inl (cs 2, 12, .inl (ai bl)))] : List (Nat × va_E)), f q.1 = q.2 := fun q hq => by
    simp only [List.mem_cons, List.not_mem_nil, or_false] at hq
    rcases hq with rfl | rfl | rfl
    · exact ha
    · exact hv5
    · exact hb6
  have hmw : mw f [(y, .inr (7, [.int (iI th), .ref m1, .ref m2, .ref m3, .int (iI pn), .ref m5, .ref m6, .ref m7, .ref m8, .ref m9, .ref m10, .ref m11, .ref m12, .ref m13, .int (iI rw_), .ref m15, .long (lI fu), .long (lI fb)])), (m5, .inl (cs 0, 72, .inl (ai vw))), (m6, .inl (cs 2, 12, .inl (ai bl)))] = f := mw_self (fun k a e hk => hfx (a, e) (List.mem_of_getElem? hk))
  have B := B.focus [(y, .inr (7, [.int (iI th), .ref m1, .ref m2, .ref m3, .int (iI pn), .ref m5, .ref m6, .ref m7, .ref m8, .ref m9, .ref m10, .ref m11, .ref m12, .ref m13, .int (iI rw_), .ref m15, .long (lI fu), .long (lI fb)])), (m5, .inl (cs 0, 72, .inl (ai vw))), (m6, .inl (cs 2, 12, .inl (ai bl)))] hfx
  refine lv_aload_n hx hb d_Mo_coefficient_0 rfl (lv_at hl 0 rfl) ?_
  refine x_iconst hx hb d_Mo_coefficient_1 ?_
  refine x_put (C := RX7) (T := TX7) (N := 18) hx hb hts inX7 tyX7 tyX7_ok nmX7 hown B hF 0 rfl rfl 0 (by decide) (hts _ w_677) (fun _ h9 => h9) rfl (tyX7_ok 0 (by decide)) rfl rfl (Nat.le_of_ble_eq_true rfl) d_Mo_coefficient_2 (fun H locs B => ?_)
  have B : Wb D vwCl (TY cs) L (mw f [(y, .inr (7, [.int (iI 0), .ref m1, .ref m2, .ref m3, .int (iI pn), .ref m5, .ref m6, .ref m7, .ref m8, .ref m9, .ref m10, .ref m11, .ref m12, .ref m13, .int (iI rw_), .ref m15, .long (lI fu), .long (lI fb)])), (m5, .inl (cs 0, 72, .inl (ai vw))), (m6, .inl (cs 2, 12, .inl (ai bl)))]) (AL L s.heap.size) s H _ := B
  refine lv_aload_n hx hb d_Mo_coefficient_5 rfl (lv_at hl 0 rfl) ?_
  refine lv_iload_n hx hb d_Mo_coefficient_6 rfl (lv_at hl 1 rfl) ?_
  refine x_calli B hA (va_runV (As := [.int (iI ((p0 : Int)))]) (rest := []) ⟨hx, hb, hml, hown, hts⟩ (c_Mo_is l D cs _ _ _ y m1 m2 m3 m5 m6 m7 m8 m9 m10 m11 m12 m13 m15 0 pn rw_ fu fb ((p0 : Int)) (hF.pick [0] rfl rfl) (mw_get (X := [(y, .inr (7, [.int (iI 0), .ref m1, .ref m2, .ref m3, .int (iI pn), .ref m5, .ref m6, .ref m7, .ref m8, .ref m9, .ref m10, .ref m11, .ref m12, .ref m13, .int (iI rw_), .ref m15, .long (lI fu), .long (lI fb)])), (m5, .inl (cs 0, 72, .inl (ai vw))), (m6, .inl (cs 2, 12, .inl (ai bl)))]) hF.1 (k := 0) rfl) hpn (by omega)) (cwV 1 hts (gw_V w_745 w_747 s_29 w_8 w_748) rfl rfl rfl (by decide +kernel) ⟨by rw [hRf]; exact Nat.le_of_ble_eq_true rfl, by rw [hRl]; exact Nat.le_of_ble_eq_true rfl⟩) ⟨K0.blind, B.recv (hF.2 _ (mw_key (k := 0) (X := [(y, .inr (7, [.int (iI 0), .ref m1, .ref m2, .ref m3, .int (iI pn), .ref m5, .ref m6, .ref m7, .ref m8, .ref m9, .ref m10, .ref m11, .ref m12, .ref m13, .int (iI rw_), .ref m15, .long (lI fu), .long (lI fb)])), (m5, .inl (cs 0, 72, .inl (ai vw))), (m6, .inl (cs 2, 12, .inl (ai bl)))]) rfl)) (mw_get (X := [(y, .inr (7, [.int (iI 0), .ref m1, .ref m2, .ref m3, .int (iI pn), .ref m5, .ref m6, .ref m7, .ref m8, .ref m9, .ref m10, .ref m11, .ref m12, .ref m13, .int (iI rw_), .ref m15, .long (lI fu), .long (lI fb)])), (m5, .inl (cs 0, 72, .inl (ai vw))), (m6, .inl (cs 2, 12, .inl (ai bl)))]) hF.1 (k := 0) rfl) rfl, B.pre _⟩ rfl rfl hl.1 rfl (lv_room (Nat.le_of_ble_eq_true rfl)) d_Mo_coefficient_7 ⟨by rw [hRc]; omega, by rw [hRs]; omega⟩) (fun r7 g7 H locs hw B => ?_)
  obtain ⟨rfl, rfl⟩ := hw
  rw [if_pos (by omega)]
  have B : Wb D vwCl (TY cs) L (mw f [(y, .inr (7, [.int (iI 0), .ref m1, .ref m2, .ref m3, .int (iI pn), .ref m5, .ref m6, .ref m7, .ref m8, .ref m9, .ref m10, .ref m11, .ref m12, .ref m13, .int (iI rw_), .ref m15, .long (lI fu), .long (lI fb)])), (m5, .inl (cs 0, 72, .inl (ai vw))), (m6, .inl (cs 2, 12, .inl (ai bl)))]) (AL L s.heap.size) s H _ := B
  refine x_if_eq (tgt := 39) hx hb d_Mo_coefficient_10 (by decide) (by omega) (fun h10 => ?_) (fun h10 => ?_)
  · exfalso; omega
  · refine lv_iload_n hx hb d_Mo_coefficient_13 rfl (lv_at hl 2 rfl) ?_
    refine x_i2l hx hb d_Mo_coefficient_14 (by omega) ?_
    refine x_lconst (z := 0) hx hb d_Mo_coefficient_15 (by decide) ?_
    refine x_ldc2 (z := 5) hx hb hown (hts _ w_752) (by decide) d_Mo_coefficient_16 ?_
    refine x_calli B hA (va_runS (As := [.long (lI ((k : Int))), .long (lI 0), .long (lI 5)]) (rest := []) ⟨hx, hb, hml, hown, hts⟩ (c_Mo_in l D cs _ _ _ ((k : Int)) 0 5 (by omega) (by omega) (by omega)) (va_cwS 3 hts (gw_S w_749 w_750 w_8 w_751) rfl rfl rfl (by decide +kernel) ⟨by rw [hRf]; exact Nat.le_of_ble_eq_true rfl, by rw [hRl]; exact Nat.le_of_ble_eq_true rfl⟩) ⟨K0.blind, B.pre _⟩ rfl rfl hl.1 rfl (lv_room (Nat.le_of_ble_eq_true rfl)) d_Mo_coefficient_19 ⟨by rw [hRc]; omega, by rw [hRs]; omega⟩) (fun r19 g19 H locs hw B => ?_)
    obtain ⟨rfl, rfl⟩ := hw
    rw [if_pos (by omega)]
    have B : Wb D vwCl (TY cs) L (mw f [(y, .inr (7, [.int (iI 0), .ref m1, .ref m2, .ref m3, .int (iI pn), .ref m5, .ref m6, .ref m7, .ref m8, .ref m9, .ref m10, .ref m11, .ref m12, .ref m13, .int (iI rw_), .ref m15, .long (lI fu), .long (lI fb)])), (m5, .inl (cs 0, 72, .inl (ai vw))), (m6, .inl (cs 2, 12, .inl (ai bl)))]) (AL L s.heap.size) s H _ := B
    refine x_if_eq (tgt := 39) hx hb d_Mo_coefficient_22 (by decide) (by omega) (fun h22 => ?_) (fun h22 => ?_)
    · exfalso; omega
    · refine lv_aload_n hx hb d_Mo_coefficient_25 rfl (lv_at hl 0 rfl) ?_
      refine x_get (C := RX7) (T := TX7) (N := 18) hx hb hts inX7 hown B hF 0 rfl rfl 5 (by decide) (hts _ w_682) (fun _ h9 => h9) rfl d_Mo_coefficient_26 ?_
      refine x_bipush hx hb d_Mo_coefficient_29 (by decide) ?_
      refine lv_iload_n hx hb d_Mo_coefficient_31 rfl (lv_at hl 1 rfl) ?_
      refine x_imul hx hb d_Mo_coefficient_32 ?_
      refine lv_iload_n hx hb d_Mo_coefficient_33 rfl (lv_at hl 2 rfl) ?_
      refine x_iadd hx hb d_Mo_coefficient_34 ?_
      refine x_iald hx hb B hF 1 0 rfl rfl (6 * p0 + k) (by omega) (by omega) (by decide) d_Mo_coefficient_35 ?_
      refine lv_goto (tgt := 40) hx hb d_Mo_coefficient_36 (by decide) ?_
      subst hQ hav
      exact x_iret hx hb hr hlocks B d_Mo_coefficient_40 (⟨rfl, mw_tail (X := [(y, .inr (7, [.int (iI 0), .ref m1, .ref m2, .ref m3, .int (iI pn), .ref m5, .ref m6, .ref m7, .ref m8, .ref m9, .ref m10, .ref m11, .ref m12, .ref m13, .int (iI rw_), .ref m15, .long (lI fu), .long (lI fb)]))]) (Y := [(m5, .inl (cs 0, 72, .inl (ai vw))), (m6, .inl (cs 2, 12, .inl (ai bl)))]) (fun p hp => hfx p (List.mem_cons_of_mem _ hp))⟩)
theorem d_Mo_degreeOf_0 : decode prog_9_method_24_code 0 = .ok (.iconst 5, 1) := by decide +kernel
theorem d_Mo_degreeOf_1 : decode prog_9_method_24_code 1 = .ok (.istore_n 2, 1) := by decide +kernel
theorem d_Mo_degreeOf_2 : decode prog_9_method_24_code 2 = .ok (.iload_n 2, 1) := by decide +kernel
theorem d_Mo_degreeOf_3 : decode prog_9_method_24_code 3 = .ok (.ifCond .lt 23, 3) := by decide +kernel
theorem d_Mo_degreeOf_6 : decode prog_9_method_24_code 6 = .ok (.aload_n 0, 1) := by decide +kernel
theorem d_Mo_degreeOf_7 : decode prog_9_method_24_code 7 = .ok (.getfield 19, 3) := by decide +kernel
theorem d_Mo_degreeOf_10 : decode prog_9_method_24_code 10 = .ok (.bipush 6, 2) := by decide +kernel
theorem d_Mo_degreeOf_12 : decode prog_9_method_24_code 12 = .ok (.iload_n 1, 1) := by decide +kernel
theorem d_Mo_degreeOf_13 : decode prog_9_method_24_code 13 = .ok (.imul, 1) := by decide +kernel
theorem d_Mo_degreeOf_14 : decode prog_9_method_24_code 14 = .ok (.iload_n 2, 1) := by decide +kernel
theorem d_Mo_degreeOf_15 : decode prog_9_method_24_code 15 = .ok (.iadd, 1) := by decide +kernel
theorem d_Mo_degreeOf_16 : decode prog_9_method_24_code 16 = .ok (.iaload, 1) := by decide +kernel
theorem d_Mo_degreeOf_17 : decode prog_9_method_24_code 17 = .ok (.ifCond .ne 9, 3) := by decide +kernel
theorem d_Mo_degreeOf_20 : decode prog_9_method_24_code 20 = .ok (.iinc 2 (-1), 3) := by decide +kernel
theorem d_Mo_degreeOf_23 : decode prog_9_method_24_code 23 = .ok (.goto (-21), 3) := by decide +kernel
theorem d_Mo_degreeOf_26 : decode prog_9_method_24_code 26 = .ok (.iload_n 2, 1) := by decide +kernel
theorem d_Mo_degreeOf_27 : decode prog_9_method_24_code 27 = .ok (.ireturn, 1) := by decide +kernel
set_option maxHeartbeats 8000000 in
set_option maxRecDepth 100000 in
theorem c_Mo_degreeOf (l : Launch) (D : va_G) (cs : Nat → ClassId) (L : List Nat) (f : Nat → va_E) (sz : Nat) (y m1 m2 m3 m5 m6 m7 m8 m9 m10 m11 m12 m13 m15 : Nat) (th pn rw_ fu fb : Int) (p0 : Nat) (vw : Nat → Int) (hF : Fc L [y, m5]) (ha : f y = .inr (7, [.int (iI th), .ref m1, .ref m2, .ref m3, .int (iI pn), .ref m5, .ref m6, .ref m7, .ref m8, .ref m9, .ref m10, .ref m11, .ref m12, .ref m13, .int (iI rw_), .ref m15, .long (lI fu), .long (lI fb)])) (hp : p0 < 12) (hv5 : f m5 = .inl (cs 0, 72, .inl (ai vw))) (hvw : ∀ j, j < 72 → -1000 ≤ vw j ∧ vw j ≤ 1000) : Met l (⟨"RealRootsModel", "degreeOf", "(I)I"⟩ : MethodName) (.code (⟨"RealRootsModel", "degreeOf", "(I)I"⟩ : MethodName) prog_9_method_24_code 3 (Option.some Jvm.ClassFile.FieldType.int) :: gw) ({ frames := 0, cells := 0, slots := 0, locals := 0 }) (va_Pc [.ref y, .int (iI ((p0 : Int)))] (K0 D vwCl (TY cs) L f sz)) (va_Qi (fun (r : Int32) (g : Nat → va_E) => ∃ k : Nat, r = iI ((k : Int) - 1) ∧ k ≤ 6 ∧ (∀ j, k ≤ j → j < 6 → vw (6 * p0 + j) = 0) ∧ (0 < k → vw (6 * p0 + (k - 1)) ≠ 0) ∧ g = f) (K1 D vwCl (TY cs) (AL L sz) L) (AL L sz)) 0 0 (AL L sz) := by
  refine Met.ofW (cc := prog_9_method_24_code) (maxL := 3) (ret := (Option.some Jvm.ClassFile.FieldType.int)) (by decide) rfl ?_
  intro p e s m args below meth c s₁ Bd hml hv
  obtain ⟨rfl, hk0⟩ := hv
  obtain ⟨hsz, B⟩ := hk0.start
  subst hsz
  have hx := Bd.exec
  have hb := Bd.bytes
  have hr := Bd.returns
  have hlocks := Bd.notSynchronized
  have hts0 := atoms_spec Bd.pre
  have hown : s.vm.findClass RX7 = some m.cls := findClass_of_methodNamed Bd.named
  have hA : ∀ q, s.heap.size ≤ q → AL L s.heap.size q := fun _ h => Or.inr h
  have hl := lv_entry ([.ref y, .int (iI ((p0 : Int)))]) (n := 3) (Nat.le_of_ble_eq_true rfl)
  rw [lg_entry_eq]
  generalize (lg_sl ([.ref y, .int (iI ((p0 : Int)))]) ++ List.replicate (3 - (lg_sl ([.ref y, .int (iI ((p0 : Int)))])).length) Slot.unset).toArray = ls at hl ⊢
  refine absQ (fun Q R av hQ hR hav => ?_)
  have hts : ∀ w ∈ gw, w.before av s = true := by rw [hav]; exact fun w h => hts0 w (List.mem_cons_of_mem _ h)
  have hRf : R.frames = 0 := by rw [hR]; rfl
  have hRl : R.locals = 0 := by rw [hR]; rfl
  have hRc : R.cells = 0 := by rw [hR]; rfl
  have hRs : R.slots = 0 := by rw [hR]; rfl
  clear hR hts0 Bd
  have hl : lv_has ls 3 [(0, .ref y), (1, .int (iI ((p0 : Int))))] := hl
  have hfx : ∀ q ∈ ([(y, .inr (7, [.int (iI th), .ref m1, .ref m2, .ref m3, .int (iI pn), .ref m5, .ref m6, .ref m7, .ref m8, .ref m9, .ref m10, .ref m11, .ref m12, .ref m13, .int (iI rw_), .ref m15, .long (lI fu), .long (lI fb)])), (m5, .inl (cs 0, 72, .inl (ai vw)))] : List (Nat × va_E)), f q.1 = q.2 := fun q hq => by
    simp only [List.mem_cons, List.not_mem_nil, or_false] at hq
    rcases hq with rfl | rfl
    · exact ha
    · exact hv5
  have hmw : mw f [(y, .inr (7, [.int (iI th), .ref m1, .ref m2, .ref m3, .int (iI pn), .ref m5, .ref m6, .ref m7, .ref m8, .ref m9, .ref m10, .ref m11, .ref m12, .ref m13, .int (iI rw_), .ref m15, .long (lI fu), .long (lI fb)])), (m5, .inl (cs 0, 72, .inl (ai vw)))] = f := mw_self (fun k a e hk => hfx (a, e) (List.mem_of_getElem? hk))
  have B := B.focus [(y, .inr (7, [.int (iI th), .ref m1, .ref m2, .ref m3, .int (iI pn), .ref m5, .ref m6, .ref m7, .ref m8, .ref m9, .ref m10, .ref m11, .ref m12, .ref m13, .int (iI rw_), .ref m15, .long (lI fu), .long (lI fb)])), (m5, .inl (cs 0, 72, .inl (ai vw)))] hfx
  refine x_iconst hx hb d_Mo_degreeOf_0 ?_
  refine lv_istore_n (lv' := [(2, .int (iI 5)), (0, .ref y), (1, .int (iI ((p0 : Int))))]) hx hb d_Mo_degreeOf_1 rfl hl (by decide) rfl (fun ls hl => ?_)
  have LP : ∀ (fuel : Nat) (k : Nat), k < fuel → (k ≤ 6) → (∀ j, k ≤ j → j < 6 → vw (6 * p0 + j) = 0) → ∀ (H : Heap) (locs : List Loc) (ls : Array Slot), Wb D vwCl (TY cs) L (mw f [(y, .inr (7, [.int (iI th), .ref m1, .ref m2, .ref m3, .int (iI pn), .ref m5, .ref m6, .ref m7, .ref m8, .ref m9, .ref m10, .ref m11, .ref m12, .ref m13, .int (iI rw_), .ref m15, .long (lI fu), .long (lI fb)])), (m5, .inl (cs 0, 72, .inl (ai vw)))]) (AL L s.heap.size) s H locs → lv_has ls 3 [(2, .int (iI ((k : Int) - 1))), (0, .ref y), (1, .int (iI ((p0 : Int))))] → W p l e R s m av below meth c H locs (0) (0) Q (F0 m 2 ls []) := by
    intro fuel
    induction fuel with
    | zero => intro k hfu; exact absurd hfu (Nat.not_lt_zero _)
    | succ fuel ih_LP =>
      intro k hfu_LP hk hz H locs ls B hl
      refine lv_iload_n hx hb d_Mo_degreeOf_2 rfl (lv_at hl 0 rfl) ?_
      refine x_if_lt (tgt := 26) hx hb d_Mo_degreeOf_3 (by decide) (by omega) (fun h3 => ?_) (fun h3 => ?_)
      · refine lv_iload_n hx hb d_Mo_degreeOf_26 rfl (lv_at hl 0 rfl) ?_
        have B := B.of_eq hmw
        subst hQ hav
        exact x_iret hx hb hr hlocks B d_Mo_degreeOf_27 (⟨k, rfl, hk, hz, fun h0 => by first | omega | (exfalso; omega), rfl⟩)
      · have hv9 := hvw (6 * p0 + (k - 1)) (by omega)
        refine lv_aload_n hx hb d_Mo_degreeOf_6 rfl (lv_at hl 1 rfl) ?_
        refine x_get (C := RX7) (T := TX7) (N := 18) hx hb hts inX7 hown B hF 0 rfl rfl 5 (by decide) (hts _ w_682) (fun _ h9 => h9) rfl d_Mo_degreeOf_7 ?_
        refine x_bipush hx hb d_Mo_degreeOf_10 (by decide) ?_
        refine lv_iload_n hx hb d_Mo_degreeOf_12 rfl (lv_at hl 2 rfl) ?_
        refine x_imul hx hb d_Mo_degreeOf_13 ?_
        refine lv_iload_n hx hb d_Mo_degreeOf_14 rfl (lv_at hl 0 rfl) ?_
        refine x_iadd hx hb d_Mo_degreeOf_15 ?_
        refine x_iald hx hb B hF 1 0 rfl rfl (6 * p0 + (k - 1)) (by omega) (by omega) (by decide) d_Mo_degreeOf_16 ?_
        refine x_if_ne (tgt := 26) hx hb d_Mo_degreeOf_17 (by decide) (by omega) (fun h17 => ?_) (fun h17 => ?_)
        · refine lv_iload_n hx hb d_Mo_degreeOf_26 rfl (lv_at hl 0 rfl) ?_
          have B := B.of_eq hmw
          subst hQ hav
          exact x_iret hx hb hr hlocks B d_Mo_degreeOf_27 (⟨k, rfl, hk, hz, fun h0 => by first | omega | (exfalso; omega), rfl⟩)
        · refine x_iinc (lv' := [(2, .int (iI (((k : Int) - 1) + (-1)))), (0, .ref y), (1, .int (iI ((p0 : Int))))]) hx hb d_Mo_degreeOf_20 hl (q := 0) rfl rfl (by decide) rfl (fun ls hl => ?_)
          refine lv_goto (tgt := 2) hx hb d_Mo_degreeOf_23 (by decide) ?_
          rw [show (k : Int) - 1 + (-1) = ((k - 1 : Nat) : Int) - 1 by omega] at hl
          exact ih_LP (k - 1) (by omega) (by omega) (fun j h1 h2 => by
          by_cases hj : k ≤ j
          · exact hz j hj h2
          · rw [show j = k - 1 by omega]; omega) _ _ _ B (lv_sub hl [0, 1, 2] rfl)
  exact LP _ 6 (Nat.lt_succ_self _) (by omega) (fun j h1 h2 => by omega) _ _ _ B (lv_sub hl [0, 1, 2] rfl)
set_option maxHeartbeats 8000000 in
set_option maxRecDepth 100000 in
theorem c_Mo_degree_k (l : Launch) (D : va_G) (cs : Nat → ClassId) (L : List Nat) (f : Nat → va_E) (sz : Nat) (y m1 m2 m3 m5 m6 m7 m8 m9 m10 m11 m12 m13 m15 : Nat) (th pn rw_ fu fb : Int) (p0 : Nat) (vw bl : Nat → Int) (hF : Fc L [y, m5, m6]) (ha : f y = .inr (7, [.int (iI th), .ref m1, .ref m2, .ref m3, .int (iI pn), .ref m5, .ref m6, .ref m7, .ref m8, .ref m9, .ref m10, .ref m11, .ref m12, .ref m13, .int (iI rw_), .ref m15, .long (lI fu), .long (lI fb)])) (hpn : 0 ≤ pn ∧ pn ≤ 12) (hp0 : (p0 : Int) < pn) (hv5 : f m5 = .inl (cs 0, 72, .inl (ai vw))) (hb6 : f m6 = .inl (cs 2, 12, .inl (ai bl))) (hvw : ∀ j, j < 72 → -1000 ≤ vw j ∧ vw j ≤ 1000) : Met l (⟨"RealRootsModel", "degree", "(I)I"⟩ : MethodName) (.code (⟨"RealRootsModel", "degree", "(I)I"⟩ : MethodName) prog_9_method_25_code 2 (Option.some Jvm.ClassFile.FieldType.int) :: gw) ({ frames := 2, cells := 0, slots := 0, locals := 55 }) (va_Pc [.ref y, .int (iI ((p0 : Int)))] (K0 D vwCl (TY cs) L f sz)) (va_Qi (fun (r : Int32) (g : Nat → va_E) => ∃ k : Nat, r = iI ((k : Int) - 1) ∧ k ≤ 6 ∧ (∀ j, k ≤ j → j < 6 → vw (6 * p0 + j) = 0) ∧ (0 < k → vw (6 * p0 + (k - 1)) ≠ 0) ∧ g = mw f [(y, .inr (7, [.int (iI 0), .ref m1, .ref m2, .ref m3, .int (iI pn), .ref m5, .ref m6, .ref m7, .ref m8, .ref m9, .ref m10, .ref m11, .ref m12, .ref m13, .int (iI rw_), .ref m15, .long (lI fu), .long (lI fb)]))]) (K1 D vwCl (TY cs) (AL L sz) L) (AL L sz)) 0 0 (AL L sz) := by
  refine Met.ofW (cc := prog_9_method_25_code) (maxL := 2) (ret := (Option.some Jvm.ClassFile.FieldType.int)) (by decide) rfl ?_
  intro p e s m args below meth c s₁ Bd hml hv
  obtain ⟨rfl, hk0⟩ := hv
  obtain ⟨hsz, B⟩ := hk0.start
  subst hsz
  have hx := Bd.exec
  have hb := Bd.bytes
  have hr := Bd.returns
  have hlocks := Bd.notSynchronized
  have hts0 := atoms_spec Bd.pre
  have hown : s.vm.findClass RX7 = some m.cls := findClass_of_methodNamed Bd.named
  have hA : ∀ q, s.heap.size ≤ q → AL L s.heap.size q := fun _ h => Or.inr h
  have hl := lv_entry ([.ref y, .int (iI ((p0 : Int)))]) (n := 2) (Nat.le_of_ble_eq_true rfl)
  rw [lg_entry_eq]
  generalize (lg_sl ([.ref y, .int (iI ((p0 : Int)))]) ++ List.replicate (2 - (lg_sl ([.ref y, .int (iI ((p0 : Int)))])).length) Slot.unset).toArray = ls at hl ⊢
  refine absQ (fun Q R av hQ hR hav => ?_)
  have hts : ∀ w ∈ gw, w.before av s = true := by rw [hav]; exact fun w h => hts0 w (List.mem_cons_of_mem _ h)
  have hRf : R.frames = 2 := by rw [hR]; rfl
  have hRl : R.locals = 55 := by rw [hR]; rfl
  have hRc : R.cells = 0 := by rw [hR]; rfl
  have hRs : R.slots = 0 := by rw [hR]; rfl
  clear hR hts0 Bd
  have hl : lv_has ls 2 [(0, .ref y), (1, .int (iI ((p0 : Int))))] := hl
  have hfx : ∀ q ∈ ([(y, .inr (7, [.int (iI th), .ref m1, .ref m2, .ref m3, .int (iI pn), .ref m5, .ref m6, .ref m7, .ref m8, .ref m9, .ref m10, .ref m11, .ref m12, .ref m13, .int (iI rw_), .ref m15, .long (lI fu), .long (lI fb)])), (m5, .inl (cs 0, 72, .inl (ai vw))), (m6, .inl (cs 2, 12, .inl (ai bl)))] : List (Nat × va_E)), f q.1 = q.2 := fun q hq => by
    simp only [List.mem_cons, List.not_mem_nil, or_false] at hq
    rcases hq with rfl | rfl | rfl
    · exact ha
    · exact hv5
    · exact hb6
  have hmw : mw f [(y, .inr (7, [.int (iI th), .ref m1, .ref m2, .ref m3, .int (iI pn), .ref m5, .ref m6, .ref m7, .ref m8, .ref m9, .ref m10, .ref m11, .ref m12, .ref m13, .int (iI rw_), .ref m15, .long (lI fu), .long (lI fb)])), (m5, .inl (cs 0, 72, .inl (ai vw))), (m6, .inl (cs 2, 12, .inl (ai bl)))] = f := mw_self (fun k a e hk => hfx (a, e) (List.mem_of_getElem? hk))
  have B := B.focus [(y, .inr (7, [.int (iI th), .ref m1, .ref m2, .ref m3, .int (iI pn), .ref m5, .ref m6, .ref m7, .ref m8, .ref m9, .ref m10, .ref m11, .ref m12, .ref m13, .int (iI rw_), .ref m15, .long (lI fu), .long (lI fb)])), (m5, .inl (cs 0, 72, .inl (ai vw))), (m6, .inl (cs 2, 12, .inl (ai bl)))] hfx
  refine lv_aload_n hx hb d_Mo_degree_0 rfl (lv_at hl 0 rfl) ?_
  refine x_iconst hx hb d_Mo_degree_1 ?_
  refine x_put (C := RX7) (T := TX7) (N := 18) hx hb hts inX7 tyX7 tyX7_ok nmX7 hown B hF 0 rfl rfl 0 (by decide) (hts _ w_677) (fun _ h9 => h9) rfl (tyX7_ok 0 (by decide)) rfl rfl (Nat.le_of_ble_eq_true rfl) d_Mo_degree_2 (fun H locs B => ?_)
  have B : Wb D vwCl (TY cs) L (mw f [(y, .inr (7, [.int (iI 0), .ref m1, .ref m2, .ref m3, .int (iI pn), .ref m5, .ref m6, .ref m7, .ref m8, .ref m9, .ref m10, .ref m11, .ref m12, .ref m13, .int (iI rw_), .ref m15, .long (lI fu), .long (lI fb)])), (m5, .inl (cs 0, 72, .inl (ai vw))), (m6, .inl (cs 2, 12, .inl (ai bl)))]) (AL L s.heap.size) s H _ := B
  refine lv_aload_n hx hb d_Mo_degree_5 rfl (lv_at hl 0 rfl) ?_
  refine lv_iload_n hx hb d_Mo_degree_6 rfl (lv_at hl 1 rfl) ?_
  refine x_calli B hA (va_runV (As := [.int (iI ((p0 : Int)))]) (rest := []) ⟨hx, hb, hml, hown, hts⟩ (c_Mo_is l D cs _ _ _ y m1 m2 m3 m5 m6 m7 m8 m9 m10 m11 m12 m13 m15 0 pn rw_ fu fb ((p0 : Int)) (hF.pick [0] rfl rfl) (mw_get (X := [(y, .inr (7, [.int (iI 0), .ref m1, .ref m2, .ref m3, .int (iI pn), .ref m5, .ref m6, .ref m7, .ref m8, .ref m9, .ref m10, .ref m11, .ref m12, .ref m13, .int (iI rw_), .ref m15, .long (lI fu), .long (lI fb)])), (m5, .inl (cs 0, 72, .inl (ai vw))), (m6, .inl (cs 2, 12, .inl (ai bl)))]) hF.1 (k := 0) rfl) hpn (by omega)) (cwV 1 hts (gw_V w_745 w_747 s_29 w_8 w_748) rfl rfl rfl (by decide +kernel) ⟨by rw [hRf]; exact Nat.le_of_ble_eq_true rfl, by rw [hRl]; exact Nat.le_of_ble_eq_true rfl⟩) ⟨K0.blind, B.recv (hF.2 _ (mw_key (k := 0) (X := [(y, .inr (7, [.int (iI 0), .ref m1, .ref m2, .ref m3, .int (iI pn), .ref m5, .ref m6, .ref m7, .ref m8, .ref m9, .ref m10, .ref m11, .ref m12, .ref m13, .int (iI rw_), .ref m15, .long (lI fu), .long (lI fb)])), (m5, .inl (cs 0, 72, .inl (ai vw))), (m6, .inl (cs 2, 12, .inl (ai bl)))]) rfl)) (mw_get (X := [(y, .inr (7, [.int (iI 0), .ref m1, .ref m2, .ref m3, .int (iI pn), .ref m5, .ref m6, .ref m7, .ref m8, .ref m9, .ref m10, .ref m11, .ref m12, .ref m13, .int (iI rw_), .ref m15, .long (lI fu), .long (lI fb)])), (m5, .inl (cs 0, 72, .inl (ai vw))), (m6, .inl (cs 2, 12, .inl (ai bl)))]) hF.1 (k := 0) rfl) rfl, B.pre _⟩ rfl rfl hl.1 rfl (lv_room (Nat.le_of_ble_eq_true rfl)) d_Mo_degree_7 ⟨by rw [hRc]; omega, by rw [hRs]; omega⟩) (fun r7 g7 H locs hw B => ?_)
  obtain ⟨rfl, rfl⟩ := hw
  rw [if_pos (by omega)]
  have B : Wb D vwCl (TY cs) L (mw f [(y, .inr (7, [.int (iI 0), .ref m1, .ref m2, .ref m3, .int (iI pn), .ref m5, .ref m6, .ref m7, .ref m8, .ref m9, .ref m10, .ref m11, .ref m12, .ref m13, .int (iI rw_), .ref m15, .long (lI fu), .long (lI fb)])), (m5, .inl (cs 0, 72, .inl (ai vw))), (m6, .inl (cs 2, 12, .inl (ai bl)))]) (AL L s.heap.size) s H _ := B
  refine x_if_eq (tgt := 21) hx hb d_Mo_degree_10 (by decide) (by omega) (fun h10 => ?_) (fun h10 => ?_)
  · exfalso; omega
  · refine lv_aload_n hx hb d_Mo_degree_13 rfl (lv_at hl 0 rfl) ?_
    refine lv_iload_n hx hb d_Mo_degree_14 rfl (lv_at hl 1 rfl) ?_
    refine x_calli B hA (va_runV (As := [.int (iI ((p0 : Int)))]) (rest := []) ⟨hx, hb, hml, hown, hts⟩ (c_Mo_degreeOf l D cs _ _ _ y m1 m2 m3 m5 m6 m7 m8 m9 m10 m11 m12 m13 m15 0 pn rw_ fu fb p0 vw (hF.pick [0, 1] rfl rfl) (mw_get (X := [(y, .inr (7, [.int (iI 0), .ref m1, .ref m2, .ref m3, .int (iI pn), .ref m5, .ref m6, .ref m7, .ref m8, .ref m9, .ref m10, .ref m11, .ref m12, .ref m13, .int (iI rw_), .ref m15, .long (lI fu), .long (lI fb)])), (m5, .inl (cs 0, 72, .inl (ai vw))), (m6, .inl (cs 2, 12, .inl (ai bl)))]) hF.1 (k := 0) rfl) (by omega) (mw_get (X := [(y, .inr (7, [.int (iI 0), .ref m1, .ref m2, .ref m3, .int (iI pn), .ref m5, .ref m6, .ref m7, .ref m8, .ref m9, .ref m10, .ref m11, .ref m12, .ref m13, .int (iI rw_), .ref m15, .long (lI fu), .long (lI fb)])), (m5, .inl (cs 0, 72, .inl (ai vw))), (m6, .inl (cs 2, 12, .inl (ai bl)))]) hF.1 (k := 1) rfl) hvw) (cwV 1 hts (gw_V w_763 w_765 s_30 w_8 w_766) rfl rfl rfl (by decide +kernel) ⟨by rw [hRf]; exact Nat.le_of_ble_eq_true rfl, by rw [hRl]; exact Nat.le_of_ble_eq_true rfl⟩) ⟨K0.blind, B.recv (hF.2 _ (mw_key (k := 0) (X := [(y, .inr (7, [.int (iI 0), .ref m1, .ref m2, .ref m3, .int (iI pn), .ref m5, .ref m6, .ref m7, .ref m8, .ref m9, .ref m10, .ref m11, .ref m12, .ref m13, .int (iI rw_), .ref m15, .long (lI fu), .long (lI fb)])), (m5, .inl (cs 0, 72, .inl (ai vw))), (m6, .inl (cs 2, 12, .inl (ai bl)))]) rfl)) (mw_get (X := [(y, .inr (7, [.int (iI 0), .ref m1, .ref m2, .ref m3, .int (iI pn), .ref m5, .ref m6, .ref m7, .ref m8, .ref m9, .ref m10, .ref m11, .ref m12, .ref m13, .int (iI rw_), .ref m15, .long (lI fu), .long (lI fb)])), (m5, .inl (cs 0, 72, .inl (ai vw))), (m6, .inl (cs 2, 12, .inl (ai bl)))]) hF.1 (k := 0) rfl) rfl, B.pre _⟩ rfl rfl hl.1 rfl (lv_room (Nat.le_of_ble_eq_true rfl)) d_Mo_degree_15 ⟨by rw [hRc]; omega, by rw [hRs]; omega⟩) (fun r15 g15 H locs hw B => ?_)
    obtain ⟨k0, rfl, hk06, hk0z, hk0l, rfl⟩ := hw
    have B : Wb D vwCl (TY cs) L (mw f [(y, .inr (7, [.int (iI 0), .ref m1, .ref m2, .ref m3, .int (iI pn), .ref m5, .ref m6, .ref m7, .ref m8, .ref m9, .ref m10, .ref m11, .ref m12, .ref m13, .int (iI rw_), .ref m15, .long (lI fu), .long (lI fb)])), (m5, .inl (cs 0, 72, .inl (ai vw))), (m6, .inl (cs 2, 12, .inl (ai bl)))]) (AL L s.heap.size) s H _ := B
    refine lv_goto (tgt := 23) hx hb d_Mo_degree_18 (by decide) ?_
    subst hQ hav
    exact x_iret hx hb hr hlocks B d_Mo_degree_23 (⟨k0, rfl, hk06, hk0z, hk0l, mw_tail (X := [(y, .inr (7, [.int (iI 0), .ref m1, .ref m2, .ref m3, .int (iI pn), .ref m5, .ref m6, .ref m7, .ref m8, .ref m9, .ref m10, .ref m11, .ref m12, .ref m13, .int (iI rw_), .ref m15, .long (lI fu), .long (lI fb)]))]) (Y := [(m5, .inl (cs 0, 72, .inl (ai vw))), (m6, .inl (cs 2, 12, .inl (ai bl)))]) (fun p hp => hfx p (List.mem_cons_of_mem _ hp))⟩)
