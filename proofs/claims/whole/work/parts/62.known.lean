set_option maxHeartbeats 8000000 in
set_option maxRecDepth 100000 in
theorem c_RR_set_b (l : Launch) (D : va_G) (cs : Nat → ClassId) (L : List Nat) (f : Nat → va_E) (sz : Nat) (x c0 c2 c3 c4 c5 c6 c7 c8 c9 c10 c11 : Nat) (hd ll ln : Int) (cv vv fr pa p0 : Nat) (gc : Nat → Option Nat) (vw : Nat → Int) (se mn : Int) (pw v1 : Int) (hF : Fc L [c0, x, cv, vv]) (ha : f x = .inr (6, [.ref c0, .int (iI hd), .ref c2, .ref c3, .ref c4, .ref c5, .ref c6, .ref c7, .ref c8, .ref c9, .ref c10, .ref c11, .int (iI ll), .int (iI ln)])) (hhd : 0 ≤ hd ∧ hd ≤ 12) (hp0 : (p0 : Int) < hd) (hc : f c0 = .inl (cs 4, 12, .inr (.inr (.inr (.inr gc))))) (hcv : f cv = .inr (2, [.ref vv, .ref fr, .ref pa, .int (iI se), .int (iI mn)])) (hgc : gc p0 = some cv) (hv : f vv = .inl (cs 0, 6, .inl (ai vw))) (hvw : ∀ j, j < 6 → -1000 ≤ vw j ∧ vw j ≤ 1000) (hpw : -2147483648 ≤ pw ∧ pw < 2147483648) (hv1 : -2147483648 ≤ v1 ∧ v1 < 2147483648) (hbad : pw < 0 ∨ 5 < pw ∨ v1 < -1000 ∨ 1000 < v1) : Met l (⟨"RealRoots", "set", "(III)I"⟩ : MethodName) (.code (⟨"RealRoots", "set", "(III)I"⟩ : MethodName) prog_1_method_3_code 5 (Option.some Jvm.ClassFile.FieldType.int) :: gw) ({ frames := 1, cells := 0, slots := 0, locals := 25 }) (va_Pc [.ref x, .int (iI ((p0 : Int))), .int (iI pw), .int (iI v1)] (K0 D vwCl (TY cs) L f sz)) (va_Qi (fun (r : Int32) (g : Nat → va_E) => r = iI (-2) ∧ g = f) (K1 D vwCl (TY cs) (AL L sz) L) (AL L sz)) 0 0 (AL L sz) := by
  refine Met.ofW (cc := prog_1_method_3_code) (maxL := 5) (ret := (Option.some Jvm.ClassFile.FieldType.int)) (by decide) rfl ?_
  intro p e s m args below meth c s₁ Bd hml hv
  obtain ⟨rfl, hk0⟩ := hv
  obtain ⟨hsz, B⟩ := hk0.start
  subst hsz
  have hx := Bd.exec
  have hb := Bd.bytes
  have hr := Bd.returns
  have hlocks := Bd.notSynchronized
  have hts0 := atoms_spec Bd.pre
  have hown : s.vm.findClass RX6 = some m.cls := findClass_of_methodNamed Bd.named
  have hA : ∀ q, s.heap.size ≤ q → AL L s.heap.size q := fun _ h => Or.inr h
  have hl := lv_entry ([.ref x, .int (iI ((p0 : Int))), .int (iI pw), .int (iI v1)]) (n := 5) (Nat.le_of_ble_eq_true rfl)
  rw [lg_entry_eq]
  generalize (lg_sl ([.ref x, .int (iI ((p0 : Int))), .int (iI pw), .int (iI v1)]) ++ List.replicate (5 - (lg_sl ([.ref x, .int (iI ((p0 : Int))), .int (iI pw), .int (iI v1)])).length) Slot.unset).toArray = ls at hl ⊢
  refine absQ (fun Q R av hQ hR hav => ?_)
  have hts : ∀ w ∈ gw, w.before av s = true := by rw [hav]; exact fun w h => hts0 w (List.mem_cons_of_mem _ h)
  have hRf : R.frames = 1 := by rw [hR]; rfl
  have hRl : R.locals = 25 := by rw [hR]; rfl
  have hRc : R.cells = 0 := by rw [hR]; rfl
  have hRs : R.slots = 0 := by rw [hR]; rfl
  clear hR hts0 Bd
  have hl : lv_has ls 5 [(0, .ref x), (1, .int (iI ((p0 : Int)))), (2, .int (iI pw)), (3, .int (iI v1))] := hl
  have hfx : ∀ q ∈ ([(c0, .inl (cs 4, 12, .inr (.inr (.inr (.inr gc))))), (x, .inr (6, [.ref c0, .int (iI hd), .ref c2, .ref c3, .ref c4, .ref c5, .ref c6, .ref c7, .ref c8, .ref c9, .ref c10, .ref c11, .int (iI ll), .int (iI ln)])), (cv, .inr (2, [.ref vv, .ref fr, .ref pa, .int (iI se), .int (iI mn)])), (vv, .inl (cs 0, 6, .inl (ai vw)))] : List (Nat × va_E)), f q.1 = q.2 := fun q hq => by
    simp only [List.mem_cons, List.not_mem_nil, or_false] at hq
    rcases hq with rfl | rfl | rfl | rfl
    · exact hc
    · exact ha
    · exact hcv
    · exact hv
  have hmw : mw f [(c0, .inl (cs 4, 12, .inr (.inr (.inr (.inr gc))))), (x, .inr (6, [.ref c0, .int (iI hd), .ref c2, .ref c3, .ref c4, .ref c5, .ref c6, .ref c7, .ref c8, .ref c9, .ref c10, .ref c11, .int (iI ll), .int (iI ln)])), (cv, .inr (2, [.ref vv, .ref fr, .ref pa, .int (iI se), .int (iI mn)])), (vv, .inl (cs 0, 6, .inl (ai vw)))] = f := mw_self (fun k a e hk => hfx (a, e) (List.mem_of_getElem? hk))
  have B := B.focus [(c0, .inl (cs 4, 12, .inr (.inr (.inr (.inr gc))))), (x, .inr (6, [.ref c0, .int (iI hd), .ref c2, .ref c3, .ref c4, .ref c5, .ref c6, .ref c7, .ref c8, .ref c9, .ref c10, .ref c11, .int (iI ll), .int (iI ln)])), (cv, .inr (2, [.ref vv, .ref fr, .ref pa, .int (iI se), .int (iI mn)])), (vv, .inl (cs 0, 6, .inl (ai vw)))] hfx
  refine lv_aload_n hx hb d_RR_set_0 rfl (lv_at hl 0 rfl) ?_
  refine lv_iload_n hx hb d_RR_set_1 rfl (lv_at hl 1 rfl) ?_
  refine x_calli B hA (va_runV (As := [.int (iI ((p0 : Int)))]) (rest := []) ⟨hx, hb, hml, hown, hts⟩ (c_RR_unknown l D cs _ _ _ x c0 c2 c3 c4 c5 c6 c7 c8 c9 c10 c11 hd ll ln ((p0 : Int)) (hF.pick [1] rfl rfl) (mw_get (X := [(c0, .inl (cs 4, 12, .inr (.inr (.inr (.inr gc))))), (x, .inr (6, [.ref c0, .int (iI hd), .ref c2, .ref c3, .ref c4, .ref c5, .ref c6, .ref c7, .ref c8, .ref c9, .ref c10, .ref c11, .int (iI ll), .int (iI ln)])), (cv, .inr (2, [.ref vv, .ref fr, .ref pa, .int (iI se), .int (iI mn)])), (vv, .inl (cs 0, 6, .inl (ai vw)))]) hF.1 (k := 1) rfl) hhd (by omega)) (cwV 1 hts (gw_V w_261 w_263 s_3 w_1 w_264) rfl rfl rfl (by decide +kernel) ⟨by rw [hRf]; exact Nat.le_of_ble_eq_true rfl, by rw [hRl]; exact Nat.le_of_ble_eq_true rfl⟩) ⟨K0.blind, B.recv (hF.2 _ (mw_key (k := 1) (X := [(c0, .inl (cs 4, 12, .inr (.inr (.inr (.inr gc))))), (x, .inr (6, [.ref c0, .int (iI hd), .ref c2, .ref c3, .ref c4, .ref c5, .ref c6, .ref c7, .ref c8, .ref c9, .ref c10, .ref c11, .int (iI ll), .int (iI ln)])), (cv, .inr (2, [.ref vv, .ref fr, .ref pa, .int (iI se), .int (iI mn)])), (vv, .inl (cs 0, 6, .inl (ai vw)))]) rfl)) (mw_get (X := [(c0, .inl (cs 4, 12, .inr (.inr (.inr (.inr gc))))), (x, .inr (6, [.ref c0, .int (iI hd), .ref c2, .ref c3, .ref c4, .ref c5, .ref c6, .ref c7, .ref c8, .ref c9, .ref c10, .ref c11, .int (iI ll), .int (iI ln)])), (cv, .inr (2, [.ref vv, .ref fr, .ref pa, .int (iI se), .int (iI mn)])), (vv, .inl (cs 0, 6, .inl (ai vw)))]) hF.1 (k := 1) rfl) rfl, B.pre _⟩ rfl rfl hl.1 rfl (lv_room (Nat.le_of_ble_eq_true rfl)) d_RR_set_2 ⟨by rw [hRc]; omega, by rw [hRs]; omega⟩) (fun r2 g2 H locs hw B => ?_)
  obtain ⟨rfl, rfl⟩ := hw
  rw [if_neg (by omega)]
  have B : Wb D vwCl (TY cs) L (mw f [(c0, .inl (cs 4, 12, .inr (.inr (.inr (.inr gc))))), (x, .inr (6, [.ref c0, .int (iI hd), .ref c2, .ref c3, .ref c4, .ref c5, .ref c6, .ref c7, .ref c8, .ref c9, .ref c10, .ref c11, .int (iI ll), .int (iI ln)])), (cv, .inr (2, [.ref vv, .ref fr, .ref pa, .int (iI se), .int (iI mn)])), (vv, .inl (cs 0, 6, .inl (ai vw)))]) (AL L s.heap.size) s H _ := B
  refine x_if_eq (tgt := 10) hx hb d_RR_set_5 (by decide) (by omega) (fun h5 => ?_) (fun h5 => ?_)
  · refine lv_iload_n hx hb d_RR_set_10 rfl (lv_at hl 2 rfl) ?_
    refine x_if_lt (tgt := 34) hx hb d_RR_set_11 (by decide) (by omega) (fun h11 => ?_) (fun h11 => ?_)
    · refine x_bipush hx hb d_RR_set_34 (by decide) ?_
      have B := B.of_eq hmw
      subst hQ hav
      exact x_iret hx hb hr hlocks B d_RR_set_36 (⟨rfl, rfl⟩)
    · refine lv_iload_n hx hb d_RR_set_14 rfl (lv_at hl 2 rfl) ?_
      refine x_bipush hx hb d_RR_set_15 (by decide) ?_
      refine x_icmp_ge (tgt := 34) hx hb d_RR_set_17 (by decide) (by omega) (by omega) (fun h17 => ?_) (fun h17 => ?_)
      · refine x_bipush hx hb d_RR_set_34 (by decide) ?_
        have B := B.of_eq hmw
        subst hQ hav
        exact x_iret hx hb hr hlocks B d_RR_set_36 (⟨rfl, rfl⟩)
      · refine lv_iload_n hx hb d_RR_set_20 rfl (lv_at hl 3 rfl) ?_
        refine x_sipush hx hb d_RR_set_21 (by decide) ?_
        refine x_icmp_lt (tgt := 34) hx hb d_RR_set_24 (by decide) (by omega) (by omega) (fun h24 => ?_) (fun h24 => ?_)
        · refine x_bipush hx hb d_RR_set_34 (by decide) ?_
          have B := B.of_eq hmw
          subst hQ hav
          exact x_iret hx hb hr hlocks B d_RR_set_36 (⟨rfl, rfl⟩)
        · refine lv_iload_n hx hb d_RR_set_27 rfl (lv_at hl 3 rfl) ?_
          refine x_sipush hx hb d_RR_set_28 (by decide) ?_
          refine x_icmp_le (tgt := 37) hx hb d_RR_set_31 (by decide) (by omega) (by omega) (fun h31 => ?_) (fun h31 => ?_)
          · exfalso; omega
          · refine x_bipush hx hb d_RR_set_34 (by decide) ?_
            have B := B.of_eq hmw
            subst hQ hav
            exact x_iret hx hb hr hlocks B d_RR_set_36 (⟨rfl, rfl⟩)
  · exfalso; omega
set_option maxHeartbeats 8000000 in
set_option maxRecDepth 100000 in
theorem c_RR_set_k (l : Launch) (D : va_G) (cs : Nat → ClassId) (L : List Nat) (f : Nat → va_E) (sz : Nat) (x c0 c2 c3 c4 c5 c6 c7 c8 c9 c10 c11 : Nat) (hd ll ln : Int) (cv vv fr pa p0 : Nat) (gc : Nat → Option Nat) (vw : Nat → Int) (se mn : Int) (k : Nat) (v1 : Int) (hF : Fc L [c0, x, cv, vv]) (ha : f x = .inr (6, [.ref c0, .int (iI hd), .ref c2, .ref c3, .ref c4, .ref c5, .ref c6, .ref c7, .ref c8, .ref c9, .ref c10, .ref c11, .int (iI ll), .int (iI ln)])) (hhd : 0 ≤ hd ∧ hd ≤ 12) (hp0 : (p0 : Int) < hd) (hc : f c0 = .inl (cs 4, 12, .inr (.inr (.inr (.inr gc))))) (hcv : f cv = .inr (2, [.ref vv, .ref fr, .ref pa, .int (iI se), .int (iI mn)])) (hgc : gc p0 = some cv) (hv : f vv = .inl (cs 0, 6, .inl (ai vw))) (hvw : ∀ j, j < 6 → -1000 ≤ vw j ∧ vw j ≤ 1000) (hk : k ≤ 5) (hv1 : -1000 ≤ v1 ∧ v1 ≤ 1000) : Met l (⟨"RealRoots", "set", "(III)I"⟩ : MethodName) (.code (⟨"RealRoots", "set", "(III)I"⟩ : MethodName) prog_1_method_3_code 5 (Option.some Jvm.ClassFile.FieldType.int) :: gw) ({ frames := 1, cells := 0, slots := 0, locals := 25 }) (va_Pc [.ref x, .int (iI ((p0 : Int))), .int (iI ((k : Int))), .int (iI v1)] (K0 D vwCl (TY cs) L f sz)) (va_Qi (fun (r : Int32) (g : Nat → va_E) => r = iI (vw k + 1000) ∧ ((vw k = v1 ∧ g = f) ∨ (vw k ≠ v1 ∧ g = mw f [(x, .inr (6, [.ref c0, .int (iI hd), .ref c2, .ref c3, .ref c4, .ref c5, .ref c6, .ref c7, .ref c8, .ref c9, .ref c10, .ref c11, .int (iI ll), .int (iI 0)])), (cv, .inr (2, [.ref vv, .ref fr, .ref pa, .int (iI 0), .int (iI mn)])), (vv, .inl (cs 0, 6, .inl (ai (up vw k v1))))]))) (K1 D vwCl (TY cs) (AL L sz) L) (AL L sz)) 0 0 (AL L sz) := by
  refine Met.ofW (cc := prog_1_method_3_code) (maxL := 5) (ret := (Option.some Jvm.ClassFile.FieldType.int)) (by decide) rfl ?_
  intro p e s m args below meth c s₁ Bd hml hv
  obtain ⟨rfl, hk0⟩ := hv
  obtain ⟨hsz, B⟩ := hk0.start
  subst hsz
  have hx := Bd.exec
  have hb := Bd.bytes
  have hr := Bd.returns
  have hlocks := Bd.notSynchronized
  have hts0 := atoms_spec Bd.pre
  have hown : s.vm.findClass RX6 = some m.cls := findClass_of_methodNamed Bd.named
  have hA : ∀ q, s.heap.size ≤ q → AL L s.heap.size q := fun _ h => Or.inr h
  have hl := lv_entry ([.ref x, .int (iI ((p0 : Int))), .int (iI ((k : Int))), .int (iI v1)]) (n := 5) (Nat.le_of_ble_eq_true rfl)
  rw [lg_entry_eq]
  generalize (lg_sl ([.ref x, .int (iI ((p0 : Int))), .int (iI ((k : Int))), .int (iI v1)]) ++ List.replicate (5 - (lg_sl ([.ref x, .int (iI ((p0 : Int))), .int (iI ((k : Int))), .int (iI v1)])).length) Slot.unset).toArray = ls at hl ⊢
  refine absQ (fun Q R av hQ hR hav => ?_)
  have hts : ∀ w ∈ gw, w.before av s = true := by rw [hav]; exact fun w h => hts0 w (List.mem_cons_of_mem _ h)
  have hRf : R.frames = 1 := by rw [hR]; rfl
  have hRl : R.locals = 25 := by rw [hR]; rfl
  have hRc : R.cells = 0 := by rw [hR]; rfl
  have hRs : R.slots = 0 := by rw [hR]; rfl
  clear hR hts0 Bd
  have hl : lv_has ls 5 [(0, .ref x), (1, .int (iI ((p0 : Int)))), (2, .int (iI ((k : Int)))), (3, .int (iI v1))] := hl
  have hfx : ∀ q ∈ ([(c0, .inl (cs 4, 12, .inr (.inr (.inr (.inr gc))))), (x, .inr (6, [.ref c0, .int (iI hd), .ref c2, .ref c3, .ref c4, .ref c5, .ref c6, .ref c7, .ref c8, .ref c9, .ref c10, .ref c11, .int (iI ll), .int (iI ln)])), (cv, .inr (2, [.ref vv, .ref fr, .ref pa, .int (iI se), .int (iI mn)])), (vv, .inl (cs 0, 6, .inl (ai vw)))] : List (Nat × va_E)), f q.1 = q.2 := fun q hq => by
    simp only [List.mem_cons, List.not_mem_nil, or_false] at hq
    rcases hq with rfl | rfl | rfl | rfl
    · exact hc
    · exact ha
    · exact hcv
    · exact hv
  have hmw : mw f [(c0, .inl (cs 4, 12, .inr (.inr (.inr (.inr gc))))), (x, .inr (6, [.ref c0, .int (iI hd), .ref c2, .ref c3, .ref c4, .ref c5, .ref c6, .ref c7, .ref c8, .ref c9, .ref c10, .ref c11, .int (iI ll), .int (iI ln)])), (cv, .inr (2, [.ref vv, .ref fr, .ref pa, .int (iI se), .int (iI mn)])), (vv, .inl (cs 0, 6, .inl (ai vw)))] = f := mw_self (fun k a e hk => hfx (a, e) (List.mem_of_getElem? hk))
  have B := B.focus [(c0, .inl (cs 4, 12, .inr (.inr (.inr (.inr gc))))), (x, .inr (6, [.ref c0, .int (iI hd), .ref c2, .ref c3, .ref c4, .ref c5, .ref c6, .ref c7, .ref c8, .ref c9, .ref c10, .ref c11, .int (iI ll), .int (iI ln)])), (cv, .inr (2, [.ref vv, .ref fr, .ref pa, .int (iI se), .int (iI mn)])), (vv, .inl (cs 0, 6, .inl (ai vw)))] hfx
  refine lv_aload_n hx hb d_RR_set_0 rfl (lv_at hl 0 rfl) ?_
  refine lv_iload_n hx hb d_RR_set_1 rfl (lv_at hl 1 rfl) ?_
  refine x_calli B hA (va_runV (As := [.int (iI ((p0 : Int)))]) (rest := []) ⟨hx, hb, hml, hown, hts⟩ (c_RR_unknown l D cs _ _ _ x c0 c2 c3 c4 c5 c6 c7 c8 c9 c10 c11 hd ll ln ((p0 : Int)) (hF.pick [1] rfl rfl) (mw_get (X := [(c0, .inl (cs 4, 12, .inr (.inr (.inr (.inr gc))))), (x, .inr (6, [.ref c0, .int (iI hd), .ref c2, .ref c3, .ref c4, .ref c5, .ref c6, .ref c7, .ref c8, .ref c9, .ref c10, .ref c11, .int (iI ll), .int (iI ln)])), (cv, .inr (2, [.ref vv, .ref fr, .ref pa, .int (iI se), .int (iI mn)])), (vv, .inl (cs 0, 6, .inl (ai vw)))]) hF.1 (k := 1) rfl) hhd (by omega)) (cwV 1 hts (gw_V w_261 w_263 s_3 w_1 w_264) rfl rfl rfl (by decide +kernel) ⟨by rw [hRf]; exact Nat.le_of_ble_eq_true rfl, by rw [hRl]; exact Nat.le_of_ble_eq_true rfl⟩) ⟨K0.blind, B.recv (hF.2 _ (mw_key (k := 1) (X := [(c0, .inl (cs 4, 12, .inr (.inr (.inr (.inr gc))))), (x, .inr (6, [.ref c0, .int (iI hd), .ref c2, .ref c3, .ref c4, .ref c5, .ref c6, .ref c7, .ref c8, .ref c9, .ref c10, .ref c11, .int (iI ll), .int (iI ln)])), (cv, .inr (2, [.ref vv, .ref fr, .ref pa, .int (iI se), .int (iI mn)])), (vv, .inl (cs 0, 6, .inl (ai vw)))]) rfl)) (mw_get (X := [(c0, .inl (cs 4, 12, .inr (.inr (.inr (.inr gc))))), (x, .inr (6, [.ref c0, .int (iI hd), .ref c2, .ref c3, .ref c4, .ref c5, .ref c6, .ref c7, .ref c8, .ref c9, .ref c10, .ref c11, .int (iI ll), .int (iI ln)])), (cv, .inr (2, [.ref vv, .ref fr, .ref pa, .int (iI se), .int (iI mn)])), (vv, .inl (cs 0, 6, .inl (ai vw)))]) hF.1 (k := 1) rfl) rfl, B.pre _⟩ rfl rfl hl.1 rfl (lv_room (Nat.le_of_ble_eq_true rfl)) d_RR_set_2 ⟨by rw [hRc]; omega, by rw [hRs]; omega⟩) (fun r2 g2 H locs hw B => ?_)
  obtain ⟨rfl, rfl⟩ := hw
  rw [if_neg (by omega)]
  have B : Wb D vwCl (TY cs) L (mw f [(c0, .inl (cs 4, 12, .inr (.inr (.inr (.inr gc))))), (x, .inr (6, [.ref c0, .int (iI hd), .ref c2, .ref c3, .ref c4, .ref c5, .ref c6, .ref c7, .ref c8, .ref c9, .ref c10, .ref c11, .int (iI ll), .int (iI ln)])), (cv, .inr (2, [.ref vv, .ref fr, .ref pa, .int (iI se), .int (iI mn)])), (vv, .inl (cs 0, 6, .inl (ai vw)))]) (AL L s.heap.size) s H _ := B
  refine x_if_eq (tgt := 10) hx hb d_RR_set_5 (by decide) (by omega) (fun h5 => ?_) (fun h5 => ?_)
  · refine lv_iload_n hx hb d_RR_set_10 rfl (lv_at hl 2 rfl) ?_
    refine x_if_lt (tgt := 34) hx hb d_RR_set_11 (by decide) (by omega) (fun h11 => ?_) (fun h11 => ?_)
    · exfalso; omega
    · refine lv_iload_n hx hb d_RR_set_14 rfl (lv_at hl 2 rfl) ?_
      refine x_bipush hx hb d_RR_set_15 (by decide) ?_
      refine x_icmp_ge (tgt := 34) hx hb d_RR_set_17 (by decide) (by omega) (by omega) (fun h17 => ?_) (fun h17 => ?_)
      · exfalso; omega
      · refine lv_iload_n hx hb d_RR_set_20 rfl (lv_at hl 3 rfl) ?_
        refine x_sipush hx hb d_RR_set_21 (by decide) ?_
        refine x_icmp_lt (tgt := 34) hx hb d_RR_set_24 (by decide) (by omega) (by omega) (fun h24 => ?_) (fun h24 => ?_)
        · exfalso; omega
        · refine lv_iload_n hx hb d_RR_set_27 rfl (lv_at hl 3 rfl) ?_
          refine x_sipush hx hb d_RR_set_28 (by decide) ?_
          refine x_icmp_le (tgt := 37) hx hb d_RR_set_31 (by decide) (by omega) (by omega) (fun h31 => ?_) (fun h31 => ?_)
          · refine lv_aload_n hx hb d_RR_set_37 rfl (lv_at hl 0 rfl) ?_
            refine x_get (C := RX6) (T := TX6) (N := 14) hx hb hts inX6 hown B hF 1 rfl rfl 0 (by decide) (hts _ w_197) (fun _ h9 => h9) rfl d_RR_set_38 ?_
            refine lv_iload_n hx hb d_RR_set_41 rfl (lv_at hl 1 rfl) ?_
            refine x_aald hx hb B hF 0 4 rfl rfl p0 (rfl) (by omega) (by decide) (hgc) d_RR_set_42 ?_
            refine x_get (C := RX2) (T := TX2) (N := 5) hx hb hts inX2 hown B hF 2 rfl rfl 0 (by decide) (hts _ w_177) (fun _ h9 => h9) rfl d_RR_set_43 ?_
            refine lv_iload_n hx hb d_RR_set_46 rfl (lv_at hl 2 rfl) ?_
            refine x_iald hx hb B hF 3 0 rfl rfl k (by omega) (by omega) (by decide) d_RR_set_47 ?_
            refine lv_istore (lv' := [(4, .int (iI (vw k))), (0, .ref x), (1, .int (iI ((p0 : Int)))), (2, .int (iI ((k : Int)))), (3, .int (iI v1))]) hx hb d_RR_set_48 hl (by decide) rfl (fun ls hl => ?_)
            have hvk := hvw k (by omega)
            refine lv_iload hx hb d_RR_set_50 (lv_at hl 0 rfl) ?_
            refine lv_iload_n hx hb d_RR_set_52 rfl (lv_at hl 4 rfl) ?_
            refine x_icmp_eq (tgt := 83) hx hb d_RR_set_53 (by decide) (by omega) (by omega) (fun h53 => ?_) (fun h53 => ?_)
            · refine lv_iload hx hb d_RR_set_83 (lv_at hl 0 rfl) ?_
              refine x_sipush hx hb d_RR_set_85 (by decide) ?_
              refine x_iadd hx hb d_RR_set_88 ?_
              have B := B.of_eq hmw
              subst hQ hav
              exact x_iret hx hb hr hlocks B d_RR_set_89 (⟨rfl, Or.inl ⟨by omega, rfl⟩⟩)
            · refine lv_aload_n hx hb d_RR_set_56 rfl (lv_at hl 1 rfl) ?_
              refine x_get (C := RX6) (T := TX6) (N := 14) hx hb hts inX6 hown B hF 1 rfl rfl 0 (by decide) (hts _ w_197) (fun _ h9 => h9) rfl d_RR_set_57 ?_
              refine lv_iload_n hx hb d_RR_set_60 rfl (lv_at hl 2 rfl) ?_
              refine x_aald hx hb B hF 0 4 rfl rfl p0 (rfl) (by omega) (by decide) (hgc) d_RR_set_61 ?_
              refine x_get (C := RX2) (T := TX2) (N := 5) hx hb hts inX2 hown B hF 2 rfl rfl 0 (by decide) (hts _ w_177) (fun _ h9 => h9) rfl d_RR_set_62 ?_
              refine lv_iload_n hx hb d_RR_set_65 rfl (lv_at hl 3 rfl) ?_
              refine lv_iload_n hx hb d_RR_set_66 rfl (lv_at hl 4 rfl) ?_
              refine x_iast hx hb B hF 3 0 rfl rfl k (by omega) (by omega) (by decide) d_RR_set_67 (fun H locs B => ?_)
              have B : Wb D vwCl (TY cs) L (mw f [(c0, .inl (cs 4, 12, .inr (.inr (.inr (.inr gc))))), (x, .inr (6, [.ref c0, .int (iI hd), .ref c2, .ref c3, .ref c4, .ref c5, .ref c6, .ref c7, .ref c8, .ref c9, .ref c10, .ref c11, .int (iI ll), .int (iI ln)])), (cv, .inr (2, [.ref vv, .ref fr, .ref pa, .int (iI se), .int (iI mn)])), (vv, .inl (cs 0, 6, .inl (ai (up vw k v1))))]) (AL L s.heap.size) s H _ := B
              refine lv_aload_n hx hb d_RR_set_68 rfl (lv_at hl 1 rfl) ?_
              refine x_get (C := RX6) (T := TX6) (N := 14) hx hb hts inX6 hown B hF 1 rfl rfl 0 (by decide) (hts _ w_197) (fun _ h9 => h9) rfl d_RR_set_69 ?_
              refine lv_iload_n hx hb d_RR_set_72 rfl (lv_at hl 2 rfl) ?_
              refine x_aald hx hb B hF 0 4 rfl rfl p0 (rfl) (by omega) (by decide) (hgc) d_RR_set_73 ?_
              refine x_iconst hx hb d_RR_set_74 ?_
              refine x_put (C := RX2) (T := TX2) (N := 5) hx hb hts inX2 tyX2 tyX2_ok nmX2 hown B hF 2 rfl rfl 3 (by decide) (hts _ w_183) (fun _ h9 => h9) rfl (tyX2_ok 3 (by decide)) rfl rfl (Nat.le_of_ble_eq_true rfl) d_RR_set_75 (fun H locs B => ?_)
              have B : Wb D vwCl (TY cs) L (mw f [(c0, .inl (cs 4, 12, .inr (.inr (.inr (.inr gc))))), (x, .inr (6, [.ref c0, .int (iI hd), .ref c2, .ref c3, .ref c4, .ref c5, .ref c6, .ref c7, .ref c8, .ref c9, .ref c10, .ref c11, .int (iI ll), .int (iI ln)])), (cv, .inr (2, [.ref vv, .ref fr, .ref pa, .int (iI 0), .int (iI mn)])), (vv, .inl (cs 0, 6, .inl (ai (up vw k v1))))]) (AL L s.heap.size) s H _ := B
              refine lv_aload_n hx hb d_RR_set_78 rfl (lv_at hl 1 rfl) ?_
              refine x_iconst hx hb d_RR_set_79 ?_
              refine x_put (C := RX6) (T := TX6) (N := 14) hx hb hts inX6 tyX6 tyX6_ok nmX6 hown B hF 1 rfl rfl 13 (by decide) (hts _ w_210) (fun _ h9 => h9) rfl (tyX6_ok 13 (by decide)) rfl rfl (Nat.le_of_ble_eq_true rfl) d_RR_set_80 (fun H locs B => ?_)
              have B : Wb D vwCl (TY cs) L (mw f [(c0, .inl (cs 4, 12, .inr (.inr (.inr (.inr gc))))), (x, .inr (6, [.ref c0, .int (iI hd), .ref c2, .ref c3, .ref c4, .ref c5, .ref c6, .ref c7, .ref c8, .ref c9, .ref c10, .ref c11, .int (iI ll), .int (iI 0)])), (cv, .inr (2, [.ref vv, .ref fr, .ref pa, .int (iI 0), .int (iI mn)])), (vv, .inl (cs 0, 6, .inl (ai (up vw k v1))))]) (AL L s.heap.size) s H _ := B
              refine lv_iload hx hb d_RR_set_83 (lv_at hl 0 rfl) ?_
              refine x_sipush hx hb d_RR_set_85 (by decide) ?_
              refine x_iadd hx hb d_RR_set_88 ?_
              subst hQ hav
              exact x_iret hx hb hr hlocks B d_RR_set_89 (⟨rfl, Or.inr ⟨by omega, mw_drop (f := f) (X := [(x, .inr (6, [.ref c0, .int (iI hd), .ref c2, .ref c3, .ref c4, .ref c5, .ref c6, .ref c7, .ref c8, .ref c9, .ref c10, .ref c11, .int (iI ll), .int (iI 0)])), (cv, .inr (2, [.ref vv, .ref fr, .ref pa, .int (iI 0), .int (iI mn)])), (vv, .inl (cs 0, 6, .inl (ai (up vw k v1))))]) hc (List.nodup_cons.mp hF.1).1⟩⟩)
          · exfalso; omega
  · exfalso; omega
set_option maxHeartbeats 8000000 in
set_option maxRecDepth 100000 in
theorem c_RR_coefficient_b (l : Launch) (D : va_G) (cs : Nat → ClassId) (L : List Nat) (f : Nat → va_E) (sz : Nat) (x c0 c2 c3 c4 c5 c6 c7 c8 c9 c10 c11 : Nat) (hd ll ln : Int) (cv vv fr pa p0 : Nat) (gc : Nat → Option Nat) (vw : Nat → Int) (se mn : Int) (pw : Int) (hF : Fc L [c0, x, cv, vv]) (ha : f x = .inr (6, [.ref c0, .int (iI hd), .ref c2, .ref c3, .ref c4, .ref c5, .ref c6, .ref c7, .ref c8, .ref c9, .ref c10, .ref c11, .int (iI ll), .int (iI ln)])) (hhd : 0 ≤ hd ∧ hd ≤ 12) (hp0 : (p0 : Int) < hd) (hc : f c0 = .inl (cs 4, 12, .inr (.inr (.inr (.inr gc))))) (hcv : f cv = .inr (2, [.ref vv, .ref fr, .ref pa, .int (iI se), .int (iI mn)])) (hgc : gc p0 = some cv) (hv : f vv = .inl (cs 0, 6, .inl (ai vw))) (hvw : ∀ j, j < 6 → -1000 ≤ vw j ∧ vw j ≤ 1000) (hpw : -2147483648 ≤ pw ∧ pw < 2147483648) (hbad : pw < 0 ∨ 5 < pw) : Met l (⟨"RealRoots", "coefficient", "(II)I"⟩ : MethodName) (.code (⟨"RealRoots", "coefficient", "(II)I"⟩ : MethodName) prog_1_method_4_code 3 (Option.some Jvm.ClassFile.FieldType.int) :: gw) ({ frames := 1, cells := 0, slots := 0, locals := 25 }) (va_Pc [.ref x, .int (iI ((p0 : Int))), .int (iI pw)] (K0 D vwCl (TY cs) L f sz)) (va_Qi (fun (r : Int32) (g : Nat → va_E) => r = iI 0 ∧ g = f) (K1 D vwCl (TY cs) (AL L sz) L) (AL L sz)) 0 0 (AL L sz) := by
  refine Met.ofW (cc := prog_1_method_4_code) (maxL := 3) (ret := (Option.some Jvm.ClassFile.FieldType.int)) (by decide) rfl ?_
  intro p e s m args below meth c s₁ Bd hml hv
  obtain ⟨rfl, hk0⟩ := hv
  obtain ⟨hsz, B⟩ := hk0.start
  subst hsz
  have hx := Bd.exec
  have hb := Bd.bytes
  have hr := Bd.returns
  have hlocks := Bd.notSynchronized
  have hts0 := atoms_spec Bd.pre
  have hown : s.vm.findClass RX6 = some m.cls := findClass_of_methodNamed Bd.named
  have hA : ∀ q, s.heap.size ≤ q → AL L s.heap.size q := fun _ h => Or.inr h
  have hl := lv_entry ([.ref x, .int (iI ((p0 : Int))), .int (iI pw)]) (n := 3) (Nat.le_of_ble_eq_true rfl)
  rw [lg_entry_eq]
  generalize (lg_sl ([.ref x, .int (iI ((p0 : Int))), .int (iI pw)]) ++ List.replicate (3 - (lg_sl ([.ref x, .int (iI ((p0 : Int))), .int (iI pw)])).length) Slot.unset).toArray = ls at hl ⊢
  refine absQ (fun Q R av hQ hR hav => ?_)
  have hts : ∀ w ∈ gw, w.before av s = true := by rw [hav]; exact fun w h => hts0 w (List.mem_cons_of_mem _ h)
  have hRf : R.frames = 1 := by rw [hR]; rfl
  have hRl : R.locals = 25 := by rw [hR]; rfl
  have hRc : R.cells = 0 := by rw [hR]; rfl
  have hRs : R.slots = 0 := by rw [hR]; rfl
  clear hR hts0 Bd
  have hl : lv_has ls 3 [(0, .ref x), (1, .int (iI ((p0 : Int)))), (2, .int (iI pw))] := hl
  have hfx : ∀ q ∈ ([(c0, .inl (cs 4, 12, .inr (.inr (.inr (.inr gc))))), (x, .inr (6, [.ref c0, .int (iI hd), .ref c2, .ref c3, .ref c4, .ref c5, .ref c6, .ref c7, .ref c8, .ref c9, .ref c10, .ref c11, .int (iI ll), .int (iI ln)])), (cv, .inr (2, [.ref vv, .ref fr, .ref pa, .int (iI se), .int (iI mn)])), (vv, .inl (cs 0, 6, .inl (ai vw)))] : List (Nat × va_E)), f q.1 = q.2 := fun q hq => by
    simp only [List.mem_cons, List.not_mem_nil, or_false] at hq
    rcases hq with rfl | rfl | rfl | rfl
    · exact hc
    · exact ha
    · exact hcv
    · exact hv
  have hmw : mw f [(c0, .inl (cs 4, 12, .inr (.inr (.inr (.inr gc))))), (x, .inr (6, [.ref c0, .int (iI hd), .ref c2, .ref c3, .ref c4, .ref c5, .ref c6, .ref c7, .ref c8, .ref c9, .ref c10, .ref c11, .int (iI ll), .int (iI ln)])), (cv, .inr (2, [.ref vv, .ref fr, .ref pa, .int (iI se), .int (iI mn)])), (vv, .inl (cs 0, 6, .inl (ai vw)))] = f := mw_self (fun k a e hk => hfx (a, e) (List.mem_of_getElem? hk))
  have B := B.focus [(c0, .inl (cs 4, 12, .inr (.inr (.inr (.inr gc))))), (x, .inr (6, [.ref c0, .int (iI hd), .ref c2, .ref c3, .ref c4, .ref c5, .ref c6, .ref c7, .ref c8, .ref c9, .ref c10, .ref c11, .int (iI ll), .int (iI ln)])), (cv, .inr (2, [.ref vv, .ref fr, .ref pa, .int (iI se), .int (iI mn)])), (vv, .inl (cs 0, 6, .inl (ai vw)))] hfx
  refine lv_aload_n hx hb d_RR_coefficient_0 rfl (lv_at hl 0 rfl) ?_
  refine lv_iload_n hx hb d_RR_coefficient_1 rfl (lv_at hl 1 rfl) ?_
  refine x_calli B hA (va_runV (As := [.int (iI ((p0 : Int)))]) (rest := []) ⟨hx, hb, hml, hown, hts⟩ (c_RR_unknown l D cs _ _ _ x c0 c2 c3 c4 c5 c6 c7 c8 c9 c10 c11 hd ll ln ((p0 : Int)) (hF.pick [1] rfl rfl) (mw_get (X := [(c0, .inl (cs 4, 12, .inr (.inr (.inr (.inr gc))))), (x, .inr (6, [.ref c0, .int (iI hd), .ref c2, .ref c3, .ref c4, .ref c5, .ref c6, .ref c7, .ref c8, .ref c9, .ref c10, .ref c11, .int (iI ll), .int (iI ln)])), (cv, .inr (2, [.ref vv, .ref fr, .ref pa, .int (iI se), .int (iI mn)])), (vv, .inl (cs 0, 6, .inl (ai vw)))]) hF.1 (k := 1) rfl) hhd (by omega)) (cwV 1 hts (gw_V w_261 w_263 s_3 w_1 w_264) rfl rfl rfl (by decide +kernel) ⟨by rw [hRf]; exact Nat.le_of_ble_eq_true rfl, by rw [hRl]; exact Nat.le_of_ble_eq_true rfl⟩) ⟨K0.blind, B.recv (hF.2 _ (mw_key (k := 1) (X := [(c0, .inl (cs 4, 12, .inr (.inr (.inr (.inr gc))))), (x, .inr (6, [.ref c0, .int (iI hd), .ref c2, .ref c3, .ref c4, .ref c5, .ref c6, .ref c7, .ref c8, .ref c9, .ref c10, .ref c11, .int (iI ll), .int (iI ln)])), (cv, .inr (2, [.ref vv, .ref fr, .ref pa, .int (iI se), .int (iI mn)])), (vv, .inl (cs 0, 6, .inl (ai vw)))]) rfl)) (mw_get (X := [(c0, .inl (cs 4, 12, .inr (.inr (.inr (.inr gc))))), (x, .inr (6, [.ref c0, .int (iI hd), .ref c2, .ref c3, .ref c4, .ref c5, .ref c6, .ref c7, .ref c8, .ref c9, .ref c10, .ref c11, .int (iI ll), .int (iI ln)])), (cv, .inr (2, [.ref vv, .ref fr, .ref pa, .int (iI se), .int (iI mn)])), (vv, .inl (cs 0, 6, .inl (ai vw)))]) hF.1 (k := 1) rfl) rfl, B.pre _⟩ rfl rfl hl.1 rfl (lv_room (Nat.le_of_ble_eq_true rfl)) d_RR_coefficient_2 ⟨by rw [hRc]; omega, by rw [hRs]; omega⟩) (fun r2 g2 H locs hw B => ?_)
  obtain ⟨rfl, rfl⟩ := hw
  rw [if_neg (by omega)]
  have B : Wb D vwCl (TY cs) L (mw f [(c0, .inl (cs 4, 12, .inr (.inr (.inr (.inr gc))))), (x, .inr (6, [.ref c0, .int (iI hd), .ref c2, .ref c3, .ref c4, .ref c5, .ref c6, .ref c7, .ref c8, .ref c9, .ref c10, .ref c11, .int (iI ll), .int (iI ln)])), (cv, .inr (2, [.ref vv, .ref fr, .ref pa, .int (iI se), .int (iI mn)])), (vv, .inl (cs 0, 6, .inl (ai vw)))]) (AL L s.heap.size) s H _ := B
  refine x_if_ne (tgt := 18) hx hb d_RR_coefficient_5 (by decide) (by omega) (fun h5 => ?_) (fun h5 => ?_)
  · exfalso; omega
  · refine lv_iload_n hx hb d_RR_coefficient_8 rfl (lv_at hl 2 rfl) ?_
    refine x_if_lt (tgt := 18) hx hb d_RR_coefficient_9 (by decide) (by omega) (fun h9 => ?_) (fun h9 => ?_)
    · refine x_iconst hx hb d_RR_coefficient_18 ?_
      refine lv_goto (tgt := 33) hx hb d_RR_coefficient_19 (by decide) ?_
      have B := B.of_eq hmw
      subst hQ hav
      exact x_iret hx hb hr hlocks B d_RR_coefficient_33 (⟨rfl, rfl⟩)
    · refine lv_iload_n hx hb d_RR_coefficient_12 rfl (lv_at hl 2 rfl) ?_
      refine x_bipush hx hb d_RR_coefficient_13 (by decide) ?_
      refine x_icmp_lt (tgt := 22) hx hb d_RR_coefficient_15 (by decide) (by omega) (by omega) (fun h15 => ?_) (fun h15 => ?_)
      · exfalso; omega
      · refine x_iconst hx hb d_RR_coefficient_18 ?_
        refine lv_goto (tgt := 33) hx hb d_RR_coefficient_19 (by decide) ?_
        have B := B.of_eq hmw
        subst hQ hav
        exact x_iret hx hb hr hlocks B d_RR_coefficient_33 (⟨rfl, rfl⟩)
set_option maxHeartbeats 8000000 in
set_option maxRecDepth 100000 in
theorem c_RR_coefficient_k (l : Launch) (D : va_G) (cs : Nat → ClassId) (L : List Nat) (f : Nat → va_E) (sz : Nat) (x c0 c2 c3 c4 c5 c6 c7 c8 c9 c10 c11 : Nat) (hd ll ln : Int) (cv vv fr pa p0 : Nat) (gc : Nat → Option Nat) (vw : Nat → Int) (se mn : Int) (k : Nat) (hF : Fc L [c0, x, cv, vv]) (ha : f x = .inr (6, [.ref c0, .int (iI hd), .ref c2, .ref c3, .ref c4, .ref c5, .ref c6, .ref c7, .ref c8, .ref c9, .ref c10, .ref c11, .int (iI ll), .int (iI ln)])) (hhd : 0 ≤ hd ∧ hd ≤ 12) (hp0 : (p0 : Int) < hd) (hc : f c0 = .inl (cs 4, 12, .inr (.inr (.inr (.inr gc))))) (hcv : f cv = .inr (2, [.ref vv, .ref fr, .ref pa, .int (iI se), .int (iI mn)])) (hgc : gc p0 = some cv) (hv : f vv = .inl (cs 0, 6, .inl (ai vw))) (hvw : ∀ j, j < 6 → -1000 ≤ vw j ∧ vw j ≤ 1000) (hk : k ≤ 5) : Met l (⟨"RealRoots", "coefficient", "(II)I"⟩ : MethodName) (.code (⟨"RealRoots", "coefficient", "(II)I"⟩ : MethodName) prog_1_method_4_code 3 (Option.some Jvm.ClassFile.FieldType.int) :: gw) ({ frames := 1, cells := 0, slots := 0, locals := 25 }) (va_Pc [.ref x, .int (iI ((p0 : Int))), .int (iI ((k : Int)))] (K0 D vwCl (TY cs) L f sz)) (va_Qi (fun (r : Int32) (g : Nat → va_E) => r = iI (vw k) ∧ g = f) (K1 D vwCl (TY cs) (AL L sz) L) (AL L sz)) 0 0 (AL L sz) := by
  refine Met.ofW (cc := prog_1_method_4_code) (maxL := 3) (ret := (Option.some Jvm.ClassFile.FieldType.int)) (by decide) rfl ?_
  intro p e s m args below meth c s₁ Bd hml hv
  obtain ⟨rfl, hk0⟩ := hv
  obtain ⟨hsz, B⟩ := hk0.start
  subst hsz
  have hx := Bd.exec
  have hb := Bd.bytes
  have hr := Bd.returns
  have hlocks := Bd.notSynchronized
  have hts0 := atoms_spec Bd.pre
  have hown : s.vm.findClass RX6 = some m.cls := findClass_of_methodNamed Bd.named
  have hA : ∀ q, s.heap.size ≤ q → AL L s.heap.size q := fun _ h => Or.inr h
  have hl := lv_entry ([.ref x, .int (iI ((p0 : Int))), .int (iI ((k : Int)))]) (n := 3) (Nat.le_of_ble_eq_true rfl)
  rw [lg_entry_eq]
  generalize (lg_sl ([.ref x, .int (iI ((p0 : Int))), .int (iI ((k : Int)))]) ++ List.replicate (3 - (lg_sl ([.ref x, .int (iI ((p0 : Int))), .int (iI ((k : Int)))])).length) Slot.unset).toArray = ls at hl ⊢
  refine absQ (fun Q R av hQ hR hav => ?_)
  have hts : ∀ w ∈ gw, w.before av s = true := by rw [hav]; exact fun w h => hts0 w (List.mem_cons_of_mem _ h)
  have hRf : R.frames = 1 := by rw [hR]; rfl
  have hRl : R.locals = 25 := by rw [hR]; rfl
  have hRc : R.cells = 0 := by rw [hR]; rfl
  have hRs : R.slots = 0 := by rw [hR]; rfl
  clear hR hts0 Bd
  have hl : lv_has ls 3 [(0, .ref x), (1, .int (iI ((p0 : Int)))), (2, .int (iI ((k : Int))))] := hl
  have hfx : ∀ q ∈ ([(c0, .inl (cs 4, 12, .inr (.inr (.inr (.inr gc))))), (x, .inr (6, [.ref c0, .int (iI hd), .ref c2, .ref c3, .ref c4, .ref c5, .ref c6, .ref c7, .ref c8, .ref c9, .ref c10, .ref c11, .int (iI ll), .int (iI ln)])), (cv, .inr (2, [.ref vv, .ref fr, .ref pa, .int (iI se), .int (iI mn)])), (vv, .inl (cs 0, 6, .inl (ai vw)))] : List (Nat × va_E)), f q.1 = q.2 := fun q hq => by
    simp only [List.mem_cons, List.not_mem_nil, or_false] at hq
    rcases hq with rfl | rfl | rfl | rfl
    · exact hc
    · exact ha
    · exact hcv
    · exact hv
  have hmw : mw f [(c0, .inl (cs 4, 12, .inr (.inr (.inr (.inr gc))))), (x, .inr (6, [.ref c0, .int (iI hd), .ref c2, .ref c3, .ref c4, .ref c5, .ref c6, .ref c7, .ref c8, .ref c9, .ref c10, .ref c11, .int (iI ll), .int (iI ln)])), (cv, .inr (2, [.ref vv, .ref fr, .ref pa, .int (iI se), .int (iI mn)])), (vv, .inl (cs 0, 6, .inl (ai vw)))] = f := mw_self (fun k a e hk => hfx (a, e) (List.mem_of_getElem? hk))
  have B := B.focus [(c0, .inl (cs 4, 12, .inr (.inr (.inr (.inr gc))))), (x, .inr (6, [.ref c0, .int (iI hd), .ref c2, .ref c3, .ref c4, .ref c5, .ref c6, .ref c7, .ref c8, .ref c9, .ref c10, .ref c11, .int (iI ll), .int (iI ln)])), (cv, .inr (2, [.ref vv, .ref fr, .ref pa, .int (iI se), .int (iI mn)])), (vv, .inl (cs 0, 6, .inl (ai vw)))] hfx
  refine lv_aload_n hx hb d_RR_coefficient_0 rfl (lv_at hl 0 rfl) ?_
  refine lv_iload_n hx hb d_RR_coefficient_1 rfl (lv_at hl 1 rfl) ?_
  refine x_calli B hA (va_runV (As := [.int (iI ((p0 : Int)))]) (rest := []) ⟨hx, hb, hml, hown, hts⟩ (c_RR_unknown l D cs _ _ _ x c0 c2 c3 c4 c5 c6 c7 c8 c9 c10 c11 hd ll ln ((p0 : Int)) (hF.pick [1] rfl rfl) (mw_get (X := [(c0, .inl (cs 4, 12, .inr (.inr (.inr (.inr gc))))), (x, .inr (6, [.ref c0, .int (iI hd), .ref c2, .ref c3, .ref c4, .ref c5, .ref c6, .ref c7, .ref c8, .ref c9, .ref c10, .ref c11, .int (iI ll), .int (iI ln)])), (cv, .inr (2, [.ref vv, .ref fr, .ref pa, .int (iI se), .int (iI mn)])), (vv, .inl (cs 0, 6, .inl (ai vw)))]) hF.1 (k := 1) rfl) hhd (by omega)) (cwV 1 hts (gw_V w_261 w_263 s_3 w_1 w_264) rfl rfl rfl (by decide +kernel) ⟨by rw [hRf]; exact Nat.le_of_ble_eq_true rfl, by rw [hRl]; exact Nat.le_of_ble_eq_true rfl⟩) ⟨K0.blind, B.recv (hF.2 _ (mw_key (k := 1) (X := [(c0, .inl (cs 4, 12, .inr (.inr (.inr (.inr gc))))), (x, .inr (6, [.ref c0, .int (iI hd), .ref c2, .ref c3, .ref c4, .ref c5, .ref c6, .ref c7, .ref c8, .ref c9, .ref c10, .ref c11, .int (iI ll), .int (iI ln)])), (cv, .inr (2, [.ref vv, .ref fr, .ref pa, .int (iI se), .int (iI mn)])), (vv, .inl (cs 0, 6, .inl (ai vw)))]) rfl)) (mw_get (X := [(c0, .inl (cs 4, 12, .inr (.inr (.inr (.inr gc))))), (x, .inr (6, [.ref c0, .int (iI hd), .ref c2, .ref c3, .ref c4, .ref c5, .ref c6, .ref c7, .ref c8, .ref c9, .ref c10, .ref c11, .int (iI ll), .int (iI ln)])), (cv, .inr (2, [.ref vv, .ref fr, .ref pa, .int (iI se), .int (iI mn)])), (vv, .inl (cs 0, 6, .inl (ai vw)))]) hF.1 (k := 1) rfl) rfl, B.pre _⟩ rfl rfl hl.1 rfl (lv_room (Nat.le_of_ble_eq_true rfl)) d_RR_coefficient_2 ⟨by rw [hRc]; omega, by rw [hRs]; omega⟩) (fun r2 g2 H locs hw B => ?_)
  obtain ⟨rfl, rfl⟩ := hw
  rw [if_neg (by omega)]
  have B : Wb D vwCl (TY cs) L (mw f [(c0, .inl (cs 4, 12, .inr (.inr (.inr (.inr gc))))), (x, .inr (6, [.ref c0, .int (iI hd), .ref c2, .ref c3, .ref c4, .ref c5, .ref c6, .ref c7, .ref c8, .ref c9, .ref c10, .ref c11, .int (iI ll), .int (iI ln)])), (cv, .inr (2, [.ref vv, .ref fr, .ref pa, .int (iI se), .int (iI mn)])), (vv, .inl (cs 0, 6, .inl (ai vw)))]) (AL L s.heap.size) s H _ := B
  refine x_if_ne (tgt := 18) hx hb d_RR_coefficient_5 (by decide) (by omega) (fun h5 => ?_) (fun h5 => ?_)
  · exfalso; omega
  · refine lv_iload_n hx hb d_RR_coefficient_8 rfl (lv_at hl 2 rfl) ?_
    refine x_if_lt (tgt := 18) hx hb d_RR_coefficient_9 (by decide) (by omega) (fun h9 => ?_) (fun h9 => ?_)
    · exfalso; omega
    · refine lv_iload_n hx hb d_RR_coefficient_12 rfl (lv_at hl 2 rfl) ?_
      refine x_bipush hx hb d_RR_coefficient_13 (by decide) ?_
      refine x_icmp_lt (tgt := 22) hx hb d_RR_coefficient_15 (by decide) (by omega) (by omega) (fun h15 => ?_) (fun h15 => ?_)
      · refine lv_aload_n hx hb d_RR_coefficient_22 rfl (lv_at hl 0 rfl) ?_
        refine x_get (C := RX6) (T := TX6) (N := 14) hx hb hts inX6 hown B hF 1 rfl rfl 0 (by decide) (hts _ w_197) (fun _ h9 => h9) rfl d_RR_coefficient_23 ?_
        refine lv_iload_n hx hb d_RR_coefficient_26 rfl (lv_at hl 1 rfl) ?_
        refine x_aald hx hb B hF 0 4 rfl rfl p0 (rfl) (by omega) (by decide) (hgc) d_RR_coefficient_27 ?_
        refine x_get (C := RX2) (T := TX2) (N := 5) hx hb hts inX2 hown B hF 2 rfl rfl 0 (by decide) (hts _ w_177) (fun _ h9 => h9) rfl d_RR_coefficient_28 ?_
        refine lv_iload_n hx hb d_RR_coefficient_31 rfl (lv_at hl 2 rfl) ?_
        refine x_iald hx hb B hF 3 0 rfl rfl k (by omega) (by omega) (by decide) d_RR_coefficient_32 ?_
        have B := B.of_eq hmw
        subst hQ hav
        exact x_iret hx hb hr hlocks B d_RR_coefficient_33 (⟨rfl, rfl⟩)
      · exfalso; omega
set_option maxHeartbeats 8000000 in
set_option maxRecDepth 100000 in
theorem c_RR_degree_k (l : Launch) (D : va_G) (cs : Nat → ClassId) (L : List Nat) (f : Nat → va_E) (sz : Nat) (x c0 c2 c3 c4 c5 c6 c7 c8 c9 c10 c11 : Nat) (hd ll ln : Int) (cv vv fr pa p0 : Nat) (gc : Nat → Option Nat) (vw : Nat → Int) (se mn : Int) (hF : Fc L [c0, x, cv, vv]) (ha : f x = .inr (6, [.ref c0, .int (iI hd), .ref c2, .ref c3, .ref c4, .ref c5, .ref c6, .ref c7, .ref c8, .ref c9, .ref c10, .ref c11, .int (iI ll), .int (iI ln)])) (hhd : 0 ≤ hd ∧ hd ≤ 12) (hp0 : (p0 : Int) < hd) (hc : f c0 = .inl (cs 4, 12, .inr (.inr (.inr (.inr gc))))) (hcv : f cv = .inr (2, [.ref vv, .ref fr, .ref pa, .int (iI se), .int (iI mn)])) (hgc : gc p0 = some cv) (hv : f vv = .inl (cs 0, 6, .inl (ai vw))) (hvw : ∀ j, j < 6 → -1000 ≤ vw j ∧ vw j ≤ 1000) : Met l (⟨"RealRoots", "degree", "(I)I"⟩ : MethodName) (.code (⟨"RealRoots", "degree", "(I)I"⟩ : MethodName) prog_1_method_6_code 2 (Option.some Jvm.ClassFile.FieldType.int) :: gw) ({ frames := 1, cells := 0, slots := 0, locals := 25 }) (va_Pc [.ref x, .int (iI ((p0 : Int)))] (K0 D vwCl (TY cs) L f sz)) (va_Qi (fun (r : Int32) (g : Nat → va_E) => ∃ k : Nat, r = iI ((k : Int) - 1) ∧ k ≤ 6 ∧ (∀ j, k ≤ j → j < 6 → vw j = 0) ∧ (0 < k → vw (k - 1) ≠ 0) ∧ g = f) (K1 D vwCl (TY cs) (AL L sz) L) (AL L sz)) 0 0 (AL L sz) := by
  refine Met.ofW (cc := prog_1_method_6_code) (maxL := 2) (ret := (Option.some Jvm.ClassFile.FieldType.int)) (by decide) rfl ?_
  intro p e s m args below meth c s₁ Bd hml hv
  obtain ⟨rfl, hk0⟩ := hv
  obtain ⟨hsz, B⟩ := hk0.start
  subst hsz
  have hx := Bd.exec
  have hb := Bd.bytes
  have hr := Bd.returns
  have hlocks := Bd.notSynchronized
  have hts0 := atoms_spec Bd.pre
  have hown : s.vm.findClass RX6 = some m.cls := findClass_of_methodNamed Bd.named
  have hA : ∀ q, s.heap.size ≤ q → AL L s.heap.size q := fun _ h => Or.inr h
  have hl := lv_entry ([.ref x, .int (iI ((p0 : Int)))]) (n := 2) (Nat.le_of_ble_eq_true rfl)
  rw [lg_entry_eq]
  generalize (lg_sl ([.ref x, .int (iI ((p0 : Int)))]) ++ List.replicate (2 - (lg_sl ([.ref x, .int (iI ((p0 : Int)))])).length) Slot.unset).toArray = ls at hl ⊢
  refine absQ (fun Q R av hQ hR hav => ?_)
  have hts : ∀ w ∈ gw, w.before av s = true := by rw [hav]; exact fun w h => hts0 w (List.mem_cons_of_mem _ h)
  have hRf : R.frames = 1 := by rw [hR]; rfl
  have hRl : R.locals = 25 := by rw [hR]; rfl
  have hRc : R.cells = 0 := by rw [hR]; rfl
  have hRs : R.slots = 0 := by rw [hR]; rfl
  clear hR hts0 Bd
  have hl : lv_has ls 2 [(0, .ref x), (1, .int (iI ((p0 : Int))))] := hl
  have hfx : ∀ q ∈ ([(c0, .inl (cs 4, 12, .inr (.inr (.inr (.inr gc))))), (x, .inr (6, [.ref c0, .int (iI hd), .ref c2, .ref c3, .ref c4, .ref c5, .ref c6, .ref c7, .ref c8, .ref c9, .ref c10, .ref c11, .int (iI ll), .int (iI ln)])), (cv, .inr (2, [.ref vv, .ref fr, .ref pa, .int (iI se), .int (iI mn)])), (vv, .inl (cs 0, 6, .inl (ai vw)))] : List (Nat × va_E)), f q.1 = q.2 := fun q hq => by
    simp only [List.mem_cons, List.not_mem_nil, or_false] at hq
    rcases hq with rfl | rfl | rfl | rfl
    · exact hc
    · exact ha
    · exact hcv
    · exact hv
  have hmw : mw f [(c0, .inl (cs 4, 12, .inr (.inr (.inr (.inr gc))))), (x, .inr (6, [.ref c0, .int (iI hd), .ref c2, .ref c3, .ref c4, .ref c5, .ref c6, .ref c7, .ref c8, .ref c9, .ref c10, .ref c11, .int (iI ll), .int (iI ln)])), (cv, .inr (2, [.ref vv, .ref fr, .ref pa, .int (iI se), .int (iI mn)])), (vv, .inl (cs 0, 6, .inl (ai vw)))] = f := mw_self (fun k a e hk => hfx (a, e) (List.mem_of_getElem? hk))
  have B := B.focus [(c0, .inl (cs 4, 12, .inr (.inr (.inr (.inr gc))))), (x, .inr (6, [.ref c0, .int (iI hd), .ref c2, .ref c3, .ref c4, .ref c5, .ref c6, .ref c7, .ref c8, .ref c9, .ref c10, .ref c11, .int (iI ll), .int (iI ln)])), (cv, .inr (2, [.ref vv, .ref fr, .ref pa, .int (iI se), .int (iI mn)])), (vv, .inl (cs 0, 6, .inl (ai vw)))] hfx
  refine lv_aload_n hx hb d_RR_degree_0 rfl (lv_at hl 0 rfl) ?_
  refine lv_iload_n hx hb d_RR_degree_1 rfl (lv_at hl 1 rfl) ?_
  refine x_calli B hA (va_runV (As := [.int (iI ((p0 : Int)))]) (rest := []) ⟨hx, hb, hml, hown, hts⟩ (c_RR_unknown l D cs _ _ _ x c0 c2 c3 c4 c5 c6 c7 c8 c9 c10 c11 hd ll ln ((p0 : Int)) (hF.pick [1] rfl rfl) (mw_get (X := [(c0, .inl (cs 4, 12, .inr (.inr (.inr (.inr gc))))), (x, .inr (6, [.ref c0, .int (iI hd), .ref c2, .ref c3, .ref c4, .ref c5, .ref c6, .ref c7, .ref c8, .ref c9, .ref c10, .ref c11, .int (iI ll), .int (iI ln)])), (cv, .inr (2, [.ref vv, .ref fr, .ref pa, .int (iI se), .int (iI mn)])), (vv, .inl (cs 0, 6, .inl (ai vw)))]) hF.1 (k := 1) rfl) hhd (by omega)) (cwV 1 hts (gw_V w_261 w_263 s_3 w_1 w_264) rfl rfl rfl (by decide +kernel) ⟨by rw [hRf]; exact Nat.le_of_ble_eq_true rfl, by rw [hRl]; exact Nat.le_of_ble_eq_true rfl⟩) ⟨K0.blind, B.recv (hF.2 _ (mw_key (k := 1) (X := [(c0, .inl (cs 4, 12, .inr (.inr (.inr (.inr gc))))), (x, .inr (6, [.ref c0, .int (iI hd), .ref c2, .ref c3, .ref c4, .ref c5, .ref c6, .ref c7, .ref c8, .ref c9, .ref c10, .ref c11, .int (iI ll), .int (iI ln)])), (cv, .inr (2, [.ref vv, .ref fr, .ref pa, .int (iI se), .int (iI mn)])), (vv, .inl (cs 0, 6, .inl (ai vw)))]) rfl)) (mw_get (X := [(c0, .inl (cs 4, 12, .inr (.inr (.inr (.inr gc))))), (x, .inr (6, [.ref c0, .int (iI hd), .ref c2, .ref c3, .ref c4, .ref c5, .ref c6, .ref c7, .ref c8, .ref c9, .ref c10, .ref c11, .int (iI ll), .int (iI ln)])), (cv, .inr (2, [.ref vv, .ref fr, .ref pa, .int (iI se), .int (iI mn)])), (vv, .inl (cs 0, 6, .inl (ai vw)))]) hF.1 (k := 1) rfl) rfl, B.pre _⟩ rfl rfl hl.1 rfl (lv_room (Nat.le_of_ble_eq_true rfl)) d_RR_degree_2 ⟨by rw [hRc]; omega, by rw [hRs]; omega⟩) (fun r2 g2 H locs hw B => ?_)
  obtain ⟨rfl, rfl⟩ := hw
  rw [if_neg (by omega)]
  have B : Wb D vwCl (TY cs) L (mw f [(c0, .inl (cs 4, 12, .inr (.inr (.inr (.inr gc))))), (x, .inr (6, [.ref c0, .int (iI hd), .ref c2, .ref c3, .ref c4, .ref c5, .ref c6, .ref c7, .ref c8, .ref c9, .ref c10, .ref c11, .int (iI ll), .int (iI ln)])), (cv, .inr (2, [.ref vv, .ref fr, .ref pa, .int (iI se), .int (iI mn)])), (vv, .inl (cs 0, 6, .inl (ai vw)))]) (AL L s.heap.size) s H _ := B
  refine x_if_eq (tgt := 13) hx hb d_RR_degree_5 (by decide) (by omega) (fun h5 => ?_) (fun h5 => ?_)
  · refine lv_aload_n hx hb d_RR_degree_13 rfl (lv_at hl 0 rfl) ?_
    refine x_get (C := RX6) (T := TX6) (N := 14) hx hb hts inX6 hown B hF 1 rfl rfl 0 (by decide) (hts _ w_197) (fun _ h9 => h9) rfl d_RR_degree_14 ?_
    refine lv_iload_n hx hb d_RR_degree_17 rfl (lv_at hl 1 rfl) ?_
    refine x_aald hx hb B hF 0 4 rfl rfl p0 (rfl) (by omega) (by decide) (hgc) d_RR_degree_18 ?_
    refine x_get (C := RX2) (T := TX2) (N := 5) hx hb hts inX2 hown B hF 2 rfl rfl 0 (by decide) (hts _ w_177) (fun _ h9 => h9) rfl d_RR_degree_19 ?_
    refine x_calli B hA (va_runS (As := [.ref vv]) (rest := []) ⟨hx, hb, hml, hown, hts⟩ (c_RR_topOf l D cs _ _ _ vv vw (hF.pick [3] rfl rfl) (mw_get (X := [(c0, .inl (cs 4, 12, .inr (.inr (.inr (.inr gc))))), (x, .inr (6, [.ref c0, .int (iI hd), .ref c2, .ref c3, .ref c4, .ref c5, .ref c6, .ref c7, .ref c8, .ref c9, .ref c10, .ref c11, .int (iI ll), .int (iI ln)])), (cv, .inr (2, [.ref vv, .ref fr, .ref pa, .int (iI se), .int (iI mn)])), (vv, .inl (cs 0, 6, .inl (ai vw)))]) hF.1 (k := 3) rfl) (fun j hj => by have := hvw j hj; omega)) (va_cwS 1 hts (gw_S w_273 w_274 w_1 w_275) rfl rfl rfl (by decide +kernel) ⟨by rw [hRf]; exact Nat.le_of_ble_eq_true rfl, by rw [hRl]; exact Nat.le_of_ble_eq_true rfl⟩) ⟨K0.blind, B.pre _⟩ rfl rfl hl.1 rfl (lv_room (Nat.le_of_ble_eq_true rfl)) d_RR_degree_22 ⟨by rw [hRc]; omega, by rw [hRs]; omega⟩) (fun r22 g22 H locs hw B => ?_)
    obtain ⟨k0, rfl, hk06, hk0z, hk0l, rfl⟩ := hw
    have B : Wb D vwCl (TY cs) L (mw f [(c0, .inl (cs 4, 12, .inr (.inr (.inr (.inr gc))))), (x, .inr (6, [.ref c0, .int (iI hd), .ref c2, .ref c3, .ref c4, .ref c5, .ref c6, .ref c7, .ref c8, .ref c9, .ref c10, .ref c11, .int (iI ll), .int (iI ln)])), (cv, .inr (2, [.ref vv, .ref fr, .ref pa, .int (iI se), .int (iI mn)])), (vv, .inl (cs 0, 6, .inl (ai vw)))]) (AL L s.heap.size) s H _ := B
    have B := B.of_eq hmw
    subst hQ hav
    exact x_iret hx hb hr hlocks B d_RR_degree_25 (⟨k0, rfl, hk06, hk0z, hk0l, rfl⟩)
  · exfalso; omega
