set_option maxHeartbeats 8000000 in
set_option maxRecDepth 100000 in
theorem c_Mo_make_n (l : Launch) (D : va_G) (cs : Nat → ClassId) (L : List Nat) (f : Nat → va_E) (sz : Nat) (y m1 m2 m3 m5 m6 m7 m8 m9 m10 m11 m12 m13 m15 : Nat) (th pn rw_ fu fb : Int) (cv : Nat → Int) (p0 : Nat) (kd b : Int) (hF : Fc L [y, m5]) (ha : f y = .inr (7, [.int (iI th), .ref m1, .ref m2, .ref m3, .int (iI pn), .ref m5, .ref m6, .ref m7, .ref m8, .ref m9, .ref m10, .ref m11, .ref m12, .ref m13, .int (iI rw_), .ref m15, .long (lI fu), .long (lI fb)])) (hm5 : f m5 = .inl (cs 0, 72, .inl (ai cv))) (hp0 : p0 < 12) (hcv : ∀ j, j < 72 → -1000 ≤ cv j ∧ cv j ≤ 1000) (hpn : 0 ≤ pn ∧ pn ≤ 12) (hpp : (p0 : Int) < pn) (hkd : kd < 0 ∨ 9 < kd) (hkd : -2147483648 ≤ kd ∧ kd < 2147483648) (hb : -2147483648 ≤ b ∧ b < 2147483648) : Met l (⟨"RealRootsModel", "make", "(III)I"⟩ : MethodName) (.code (⟨"RealRootsModel", "make", "(III)I"⟩ : MethodName) prog_9_method_36_code 9 (Option.some Jvm.ClassFile.FieldType.int) :: gw) ({ frames := 2, cells := 0, slots := 0, locals := 60 }) (va_Pc [.ref y, .int (iI kd), .int (iI ((p0 : Int))), .int (iI b)] (K0 D vwCl (TY cs) L f sz)) (va_Qi (fun (r : Int32) (g : Nat → va_E) => r = iI (-1) ∧ g = mw f [(y, .inr (7, [.int (iI 0), .ref m1, .ref m2, .ref m3, .int (iI pn), .ref m5, .ref m6, .ref m7, .ref m8, .ref m9, .ref m10, .ref m11, .ref m12, .ref m13, .int (iI rw_), .ref m15, .long (lI fu), .long (lI fb)]))]) (K1 D vwCl (TY cs) (AL L sz) L) (AL L sz)) 0 0 (AL L sz) := by
  refine Met.ofW (cc := prog_9_method_36_code) (maxL := 9) (ret := (Option.some Jvm.ClassFile.FieldType.int)) (by decide) rfl ?_
  intro p e s m args below meth c s₁ Bd hml hv
  obtain ⟨rfl, hk0⟩ := hv
  obtain ⟨hsz, B⟩ := hk0.start
  subst hsz
  have hx := Bd.exec
  have hb := Bd.bytes
  have hr := Bd.returns
  have hlocks := Bd.notSynchronized
  have hts0 := atoms_spec Bd.pre
  have hown : s.vm.findClass RX7 = some m.cls := findClass_of_methodNamed Bd.named
  have hA : ∀ q, s.heap.size ≤ q → AL L s.heap.size q := fun _ h => Or.inr h
  have hl := lv_entry ([.ref y, .int (iI kd), .int (iI ((p0 : Int))), .int (iI b)]) (n := 9) (Nat.le_of_ble_eq_true rfl)
  rw [lg_entry_eq]
  generalize (lg_sl ([.ref y, .int (iI kd), .int (iI ((p0 : Int))), .int (iI b)]) ++ List.replicate (9 - (lg_sl ([.ref y, .int (iI kd), .int (iI ((p0 : Int))), .int (iI b)])).length) Slot.unset).toArray = ls at hl ⊢
  refine absQ (fun Q R av hQ hR hav => ?_)
  have hts : ∀ w ∈ gw, w.before av s = true := by rw [hav]; exact fun w h => hts0 w (List.mem_cons_of_mem _ h)
  have hRf : R.frames = 2 := by rw [hR]; rfl
  have hRl : R.locals = 60 := by rw [hR]; rfl
  have hRc : R.cells = 0 := by rw [hR]; rfl
  have hRs : R.slots = 0 := by rw [hR]; rfl
  clear hR hts0 Bd
  have hl : lv_has ls 9 [(0, .ref y), (1, .int (iI kd)), (2, .int (iI ((p0 : Int)))), (3, .int (iI b))] := hl
  have hfx : ∀ q ∈ ([(y, .inr (7, [.int (iI th), .ref m1, .ref m2, .ref m3, .int (iI pn), .ref m5, .ref m6, .ref m7, .ref m8, .ref m9, .ref m10, .ref m11, .ref m12, .ref m13, .int (iI rw_), .ref m15, .long (lI fu), .long (lI fb)])), (m5, .inl (cs 0, 72, .inl (ai cv)))] : List (Nat × va_E)), f q.1 = q.2 := fun q hq => by
    simp only [List.mem_cons, List.not_mem_nil, or_false] at hq
    rcases hq with rfl | rfl
    · exact ha
    · exact hm5
  have hmw : mw f [(y, .inr (7, [.int (iI th), .ref m1, .ref m2, .ref m3, .int (iI pn), .ref m5, .ref m6, .ref m7, .ref m8, .ref m9, .ref m10, .ref m11, .ref m12, .ref m13, .int (iI rw_), .ref m15, .long (lI fu), .long (lI fb)])), (m5, .inl (cs 0, 72, .inl (ai cv)))] = f := mw_self (fun k a e hk => hfx (a, e) (List.mem_of_getElem? hk))
  have B := B.focus [(y, .inr (7, [.int (iI th), .ref m1, .ref m2, .ref m3, .int (iI pn), .ref m5, .ref m6, .ref m7, .ref m8, .ref m9, .ref m10, .ref m11, .ref m12, .ref m13, .int (iI rw_), .ref m15, .long (lI fu), .long (lI fb)])), (m5, .inl (cs 0, 72, .inl (ai cv)))] hfx
  refine lv_aload_n hx hb d_Mo_make_0 rfl (lv_at hl 0 rfl) ?_
  refine x_iconst hx hb d_Mo_make_1 ?_
  refine x_put (C := RX7) (T := TX7) (N := 18) hx hb hts inX7 tyX7 tyX7_ok nmX7 hown B hF 0 rfl rfl 0 (by decide) (hts _ w_677) (fun _ h9 => h9) rfl (tyX7_ok 0 (by decide)) rfl rfl (Nat.le_of_ble_eq_true rfl) d_Mo_make_2 (fun H locs B => ?_)
  have B : Wb D vwCl (TY cs) L (mw f [(y, .inr (7, [.int (iI 0), .ref m1, .ref m2, .ref m3, .int (iI pn), .ref m5, .ref m6, .ref m7, .ref m8, .ref m9, .ref m10, .ref m11, .ref m12, .ref m13, .int (iI rw_), .ref m15, .long (lI fu), .long (lI fb)])), (m5, .inl (cs 0, 72, .inl (ai cv)))]) (AL L s.heap.size) s H _ := B
  refine lv_iload_n hx hb d_Mo_make_5 rfl (lv_at hl 1 rfl) ?_
  refine x_if_eq (tgt := 24) hx hb d_Mo_make_6 (by decide) (by omega) (fun h6 => ?_) (fun h6 => ?_)
  · refine x_iconst hx hb d_Mo_make_24 ?_
    refine lv_goto (tgt := 29) hx hb d_Mo_make_25 (by decide) ?_
    refine lv_istore (lv' := [(4, .int (iI 1)), (0, .ref y), (1, .int (iI kd)), (2, .int (iI ((p0 : Int)))), (3, .int (iI b))]) hx hb d_Mo_make_29 hl (by decide) rfl (fun ls hl => ?_)
    refine lv_iload_n hx hb d_Mo_make_31 rfl (lv_at hl 2 rfl) ?_
    refine x_i2l hx hb d_Mo_make_32 (by omega) ?_
    refine x_lconst (z := 0) hx hb d_Mo_make_33 (by decide) ?_
    refine x_ldc2 (z := 9) hx hb hown (hts _ w_775) (by decide) d_Mo_make_34 ?_
    refine x_calli B hA (va_runS (As := [.long (lI kd), .long (lI 0), .long (lI 9)]) (rest := []) ⟨hx, hb, hml, hown, hts⟩ (c_Mo_in l D cs _ _ _ kd 0 9 (by omega) (by omega) (by omega)) (va_cwS 3 hts (gw_S w_749 w_750 w_8 w_751) rfl rfl rfl (by decide +kernel) ⟨by rw [hRf]; exact Nat.le_of_ble_eq_true rfl, by rw [hRl]; exact Nat.le_of_ble_eq_true rfl⟩) ⟨K0.blind, B.pre _⟩ rfl rfl hl.1 rfl (lv_room (Nat.le_of_ble_eq_true rfl)) d_Mo_make_37 ⟨by rw [hRc]; omega, by rw [hRs]; omega⟩) (fun r37 g37 H locs hw B => ?_)
    obtain ⟨rfl, rfl⟩ := hw
    rw [if_neg (by omega)]
    have B : Wb D vwCl (TY cs) L (mw f [(y, .inr (7, [.int (iI 0), .ref m1, .ref m2, .ref m3, .int (iI pn), .ref m5, .ref m6, .ref m7, .ref m8, .ref m9, .ref m10, .ref m11, .ref m12, .ref m13, .int (iI rw_), .ref m15, .long (lI fu), .long (lI fb)])), (m5, .inl (cs 0, 72, .inl (ai cv)))]) (AL L s.heap.size) s H _ := B
    refine x_if_eq (tgt := 64) hx hb d_Mo_make_40 (by decide) (by omega) (fun h40 => ?_) (fun h40 => ?_)
    · refine x_iconst hx hb d_Mo_make_64 ?_
      subst hQ hav
      exact x_iret hx hb hr hlocks B d_Mo_make_65 (⟨rfl, mw_tail (X := [(y, .inr (7, [.int (iI 0), .ref m1, .ref m2, .ref m3, .int (iI pn), .ref m5, .ref m6, .ref m7, .ref m8, .ref m9, .ref m10, .ref m11, .ref m12, .ref m13, .int (iI rw_), .ref m15, .long (lI fu), .long (lI fb)]))]) (Y := [(m5, .inl (cs 0, 72, .inl (ai cv)))]) (fun p hp => hfx p (List.mem_cons_of_mem _ hp))⟩)
    · exfalso; omega
  · refine lv_iload_n hx hb d_Mo_make_9 rfl (lv_at hl 1 rfl) ?_
    refine x_iconst hx hb d_Mo_make_10 ?_
    refine x_icmp_eq (tgt := 24) hx hb d_Mo_make_11 (by decide) (by omega) (by omega) (fun h11 => ?_) (fun h11 => ?_)
    · refine x_iconst hx hb d_Mo_make_24 ?_
      refine lv_goto (tgt := 29) hx hb d_Mo_make_25 (by decide) ?_
      refine lv_istore (lv' := [(4, .int (iI 1)), (0, .ref y), (1, .int (iI kd)), (2, .int (iI ((p0 : Int)))), (3, .int (iI b))]) hx hb d_Mo_make_29 hl (by decide) rfl (fun ls hl => ?_)
      refine lv_iload_n hx hb d_Mo_make_31 rfl (lv_at hl 2 rfl) ?_
      refine x_i2l hx hb d_Mo_make_32 (by omega) ?_
      refine x_lconst (z := 0) hx hb d_Mo_make_33 (by decide) ?_
      refine x_ldc2 (z := 9) hx hb hown (hts _ w_775) (by decide) d_Mo_make_34 ?_
      refine x_calli B hA (va_runS (As := [.long (lI kd), .long (lI 0), .long (lI 9)]) (rest := []) ⟨hx, hb, hml, hown, hts⟩ (c_Mo_in l D cs _ _ _ kd 0 9 (by omega) (by omega) (by omega)) (va_cwS 3 hts (gw_S w_749 w_750 w_8 w_751) rfl rfl rfl (by decide +kernel) ⟨by rw [hRf]; exact Nat.le_of_ble_eq_true rfl, by rw [hRl]; exact Nat.le_of_ble_eq_true rfl⟩) ⟨K0.blind, B.pre _⟩ rfl rfl hl.1 rfl (lv_room (Nat.le_of_ble_eq_true rfl)) d_Mo_make_37 ⟨by rw [hRc]; omega, by rw [hRs]; omega⟩) (fun r37 g37 H locs hw B => ?_)
      obtain ⟨rfl, rfl⟩ := hw
      rw [if_neg (by omega)]
      have B : Wb D vwCl (TY cs) L (mw f [(y, .inr (7, [.int (iI 0), .ref m1, .ref m2, .ref m3, .int (iI pn), .ref m5, .ref m6, .ref m7, .ref m8, .ref m9, .ref m10, .ref m11, .ref m12, .ref m13, .int (iI rw_), .ref m15, .long (lI fu), .long (lI fb)])), (m5, .inl (cs 0, 72, .inl (ai cv)))]) (AL L s.heap.size) s H _ := B
      refine x_if_eq (tgt := 64) hx hb d_Mo_make_40 (by decide) (by omega) (fun h40 => ?_) (fun h40 => ?_)
      · refine x_iconst hx hb d_Mo_make_64 ?_
        subst hQ hav
        exact x_iret hx hb hr hlocks B d_Mo_make_65 (⟨rfl, mw_tail (X := [(y, .inr (7, [.int (iI 0), .ref m1, .ref m2, .ref m3, .int (iI pn), .ref m5, .ref m6, .ref m7, .ref m8, .ref m9, .ref m10, .ref m11, .ref m12, .ref m13, .int (iI rw_), .ref m15, .long (lI fu), .long (lI fb)]))]) (Y := [(m5, .inl (cs 0, 72, .inl (ai cv)))]) (fun p hp => hfx p (List.mem_cons_of_mem _ hp))⟩)
      · exfalso; omega
    · refine lv_iload_n hx hb d_Mo_make_14 rfl (lv_at hl 1 rfl) ?_
      refine x_iconst hx hb d_Mo_make_15 ?_
      refine x_icmp_eq (tgt := 24) hx hb d_Mo_make_16 (by decide) (by omega) (by omega) (fun h16 => ?_) (fun h16 => ?_)
      · refine x_iconst hx hb d_Mo_make_24 ?_
        refine lv_goto (tgt := 29) hx hb d_Mo_make_25 (by decide) ?_
        refine lv_istore (lv' := [(4, .int (iI 1)), (0, .ref y), (1, .int (iI kd)), (2, .int (iI ((p0 : Int)))), (3, .int (iI b))]) hx hb d_Mo_make_29 hl (by decide) rfl (fun ls hl => ?_)
        refine lv_iload_n hx hb d_Mo_make_31 rfl (lv_at hl 2 rfl) ?_
        refine x_i2l hx hb d_Mo_make_32 (by omega) ?_
        refine x_lconst (z := 0) hx hb d_Mo_make_33 (by decide) ?_
        refine x_ldc2 (z := 9) hx hb hown (hts _ w_775) (by decide) d_Mo_make_34 ?_
        refine x_calli B hA (va_runS (As := [.long (lI kd), .long (lI 0), .long (lI 9)]) (rest := []) ⟨hx, hb, hml, hown, hts⟩ (c_Mo_in l D cs _ _ _ kd 0 9 (by omega) (by omega) (by omega)) (va_cwS 3 hts (gw_S w_749 w_750 w_8 w_751) rfl rfl rfl (by decide +kernel) ⟨by rw [hRf]; exact Nat.le_of_ble_eq_true rfl, by rw [hRl]; exact Nat.le_of_ble_eq_true rfl⟩) ⟨K0.blind, B.pre _⟩ rfl rfl hl.1 rfl (lv_room (Nat.le_of_ble_eq_true rfl)) d_Mo_make_37 ⟨by rw [hRc]; omega, by rw [hRs]; omega⟩) (fun r37 g37 H locs hw B => ?_)
        obtain ⟨rfl, rfl⟩ := hw
        rw [if_neg (by omega)]
        have B : Wb D vwCl (TY cs) L (mw f [(y, .inr (7, [.int (iI 0), .ref m1, .ref m2, .ref m3, .int (iI pn), .ref m5, .ref m6, .ref m7, .ref m8, .ref m9, .ref m10, .ref m11, .ref m12, .ref m13, .int (iI rw_), .ref m15, .long (lI fu), .long (lI fb)])), (m5, .inl (cs 0, 72, .inl (ai cv)))]) (AL L s.heap.size) s H _ := B
        refine x_if_eq (tgt := 64) hx hb d_Mo_make_40 (by decide) (by omega) (fun h40 => ?_) (fun h40 => ?_)
        · refine x_iconst hx hb d_Mo_make_64 ?_
          subst hQ hav
          exact x_iret hx hb hr hlocks B d_Mo_make_65 (⟨rfl, mw_tail (X := [(y, .inr (7, [.int (iI 0), .ref m1, .ref m2, .ref m3, .int (iI pn), .ref m5, .ref m6, .ref m7, .ref m8, .ref m9, .ref m10, .ref m11, .ref m12, .ref m13, .int (iI rw_), .ref m15, .long (lI fu), .long (lI fb)]))]) (Y := [(m5, .inl (cs 0, 72, .inl (ai cv)))]) (fun p hp => hfx p (List.mem_cons_of_mem _ hp))⟩)
        · exfalso; omega
      · refine lv_iload_n hx hb d_Mo_make_19 rfl (lv_at hl 1 rfl) ?_
        refine x_iconst hx hb d_Mo_make_20 ?_
        refine x_icmp_ne (tgt := 28) hx hb d_Mo_make_21 (by decide) (by omega) (by omega) (fun h21 => ?_) (fun h21 => ?_)
        · refine x_iconst hx hb d_Mo_make_28 ?_
          refine lv_istore (lv' := [(4, .int (iI 0)), (0, .ref y), (1, .int (iI kd)), (2, .int (iI ((p0 : Int)))), (3, .int (iI b))]) hx hb d_Mo_make_29 hl (by decide) rfl (fun ls hl => ?_)
          refine lv_iload_n hx hb d_Mo_make_31 rfl (lv_at hl 2 rfl) ?_
          refine x_i2l hx hb d_Mo_make_32 (by omega) ?_
          refine x_lconst (z := 0) hx hb d_Mo_make_33 (by decide) ?_
          refine x_ldc2 (z := 9) hx hb hown (hts _ w_775) (by decide) d_Mo_make_34 ?_
          refine x_calli B hA (va_runS (As := [.long (lI kd), .long (lI 0), .long (lI 9)]) (rest := []) ⟨hx, hb, hml, hown, hts⟩ (c_Mo_in l D cs _ _ _ kd 0 9 (by omega) (by omega) (by omega)) (va_cwS 3 hts (gw_S w_749 w_750 w_8 w_751) rfl rfl rfl (by decide +kernel) ⟨by rw [hRf]; exact Nat.le_of_ble_eq_true rfl, by rw [hRl]; exact Nat.le_of_ble_eq_true rfl⟩) ⟨K0.blind, B.pre _⟩ rfl rfl hl.1 rfl (lv_room (Nat.le_of_ble_eq_true rfl)) d_Mo_make_37 ⟨by rw [hRc]; omega, by rw [hRs]; omega⟩) (fun r37 g37 H locs hw B => ?_)
          obtain ⟨rfl, rfl⟩ := hw
          rw [if_neg (by omega)]
          have B : Wb D vwCl (TY cs) L (mw f [(y, .inr (7, [.int (iI 0), .ref m1, .ref m2, .ref m3, .int (iI pn), .ref m5, .ref m6, .ref m7, .ref m8, .ref m9, .ref m10, .ref m11, .ref m12, .ref m13, .int (iI rw_), .ref m15, .long (lI fu), .long (lI fb)])), (m5, .inl (cs 0, 72, .inl (ai cv)))]) (AL L s.heap.size) s H _ := B
          refine x_if_eq (tgt := 64) hx hb d_Mo_make_40 (by decide) (by omega) (fun h40 => ?_) (fun h40 => ?_)
          · refine x_iconst hx hb d_Mo_make_64 ?_
            subst hQ hav
            exact x_iret hx hb hr hlocks B d_Mo_make_65 (⟨rfl, mw_tail (X := [(y, .inr (7, [.int (iI 0), .ref m1, .ref m2, .ref m3, .int (iI pn), .ref m5, .ref m6, .ref m7, .ref m8, .ref m9, .ref m10, .ref m11, .ref m12, .ref m13, .int (iI rw_), .ref m15, .long (lI fu), .long (lI fb)]))]) (Y := [(m5, .inl (cs 0, 72, .inl (ai cv)))]) (fun p hp => hfx p (List.mem_cons_of_mem _ hp))⟩)
          · exfalso; omega
        · refine x_iconst hx hb d_Mo_make_24 ?_
          refine lv_goto (tgt := 29) hx hb d_Mo_make_25 (by decide) ?_
          refine lv_istore (lv' := [(4, .int (iI 1)), (0, .ref y), (1, .int (iI kd)), (2, .int (iI ((p0 : Int)))), (3, .int (iI b))]) hx hb d_Mo_make_29 hl (by decide) rfl (fun ls hl => ?_)
          refine lv_iload_n hx hb d_Mo_make_31 rfl (lv_at hl 2 rfl) ?_
          refine x_i2l hx hb d_Mo_make_32 (by omega) ?_
          refine x_lconst (z := 0) hx hb d_Mo_make_33 (by decide) ?_
          refine x_ldc2 (z := 9) hx hb hown (hts _ w_775) (by decide) d_Mo_make_34 ?_
          refine x_calli B hA (va_runS (As := [.long (lI kd), .long (lI 0), .long (lI 9)]) (rest := []) ⟨hx, hb, hml, hown, hts⟩ (c_Mo_in l D cs _ _ _ kd 0 9 (by omega) (by omega) (by omega)) (va_cwS 3 hts (gw_S w_749 w_750 w_8 w_751) rfl rfl rfl (by decide +kernel) ⟨by rw [hRf]; exact Nat.le_of_ble_eq_true rfl, by rw [hRl]; exact Nat.le_of_ble_eq_true rfl⟩) ⟨K0.blind, B.pre _⟩ rfl rfl hl.1 rfl (lv_room (Nat.le_of_ble_eq_true rfl)) d_Mo_make_37 ⟨by rw [hRc]; omega, by rw [hRs]; omega⟩) (fun r37 g37 H locs hw B => ?_)
          obtain ⟨rfl, rfl⟩ := hw
          rw [if_neg (by omega)]
          have B : Wb D vwCl (TY cs) L (mw f [(y, .inr (7, [.int (iI 0), .ref m1, .ref m2, .ref m3, .int (iI pn), .ref m5, .ref m6, .ref m7, .ref m8, .ref m9, .ref m10, .ref m11, .ref m12, .ref m13, .int (iI rw_), .ref m15, .long (lI fu), .long (lI fb)])), (m5, .inl (cs 0, 72, .inl (ai cv)))]) (AL L s.heap.size) s H _ := B
          refine x_if_eq (tgt := 64) hx hb d_Mo_make_40 (by decide) (by omega) (fun h40 => ?_) (fun h40 => ?_)
          · refine x_iconst hx hb d_Mo_make_64 ?_
            subst hQ hav
            exact x_iret hx hb hr hlocks B d_Mo_make_65 (⟨rfl, mw_tail (X := [(y, .inr (7, [.int (iI 0), .ref m1, .ref m2, .ref m3, .int (iI pn), .ref m5, .ref m6, .ref m7, .ref m8, .ref m9, .ref m10, .ref m11, .ref m12, .ref m13, .int (iI rw_), .ref m15, .long (lI fu), .long (lI fb)]))]) (Y := [(m5, .inl (cs 0, 72, .inl (ai cv)))]) (fun p hp => hfx p (List.mem_cons_of_mem _ hp))⟩)
          · exfalso; omega
set_option maxHeartbeats 8000000 in
set_option maxRecDepth 100000 in
theorem c_Mo_make_u0 (l : Launch) (D : va_G) (cs : Nat → ClassId) (L : List Nat) (f : Nat → va_E) (sz : Nat) (y m1 m2 m3 m5 m6 m7 m8 m9 m10 m11 m12 m13 m15 : Nat) (th pn rw_ fu fb : Int) (cv : Nat → Int) (p0 : Nat) (b : Int) (hF : Fc L [y, m5]) (ha : f y = .inr (7, [.int (iI th), .ref m1, .ref m2, .ref m3, .int (iI pn), .ref m5, .ref m6, .ref m7, .ref m8, .ref m9, .ref m10, .ref m11, .ref m12, .ref m13, .int (iI rw_), .ref m15, .long (lI fu), .long (lI fb)])) (hm5 : f m5 = .inl (cs 0, 72, .inl (ai cv))) (hp0 : p0 < 12) (hcv : ∀ j, j < 72 → -1000 ≤ cv j ∧ cv j ≤ 1000) (hpn : 0 ≤ pn ∧ pn ≤ 12) (hpp : (p0 : Int) < pn) (hun : b < 0 ∨ pn ≤ b) (hb : -2147483648 ≤ b ∧ b < 2147483648) : Met l (⟨"RealRootsModel", "make", "(III)I"⟩ : MethodName) (.code (⟨"RealRootsModel", "make", "(III)I"⟩ : MethodName) prog_9_method_36_code 9 (Option.some Jvm.ClassFile.FieldType.int) :: gw) ({ frames := 2, cells := 0, slots := 0, locals := 60 }) (va_Pc [.ref y, .int (iI 0), .int (iI ((p0 : Int))), .int (iI b)] (K0 D vwCl (TY cs) L f sz)) (va_Qi (fun (r : Int32) (g : Nat → va_E) => r = iI (-1) ∧ g = mw f [(y, .inr (7, [.int (iI 0), .ref m1, .ref m2, .ref m3, .int (iI pn), .ref m5, .ref m6, .ref m7, .ref m8, .ref m9, .ref m10, .ref m11, .ref m12, .ref m13, .int (iI rw_), .ref m15, .long (lI fu), .long (lI fb)]))]) (K1 D vwCl (TY cs) (AL L sz) L) (AL L sz)) 0 0 (AL L sz) := by
  refine Met.ofW (cc := prog_9_method_36_code) (maxL := 9) (ret := (Option.some Jvm.ClassFile.FieldType.int)) (by decide) rfl ?_
  intro p e s m args below meth c s₁ Bd hml hv
  obtain ⟨rfl, hk0⟩ := hv
  obtain ⟨hsz, B⟩ := hk0.start
  subst hsz
  have hx := Bd.exec
  have hb := Bd.bytes
  have hr := Bd.returns
  have hlocks := Bd.notSynchronized
  have hts0 := atoms_spec Bd.pre
  have hown : s.vm.findClass RX7 = some m.cls := findClass_of_methodNamed Bd.named
  have hA : ∀ q, s.heap.size ≤ q → AL L s.heap.size q := fun _ h => Or.inr h
  have hl := lv_entry ([.ref y, .int (iI 0), .int (iI ((p0 : Int))), .int (iI b)]) (n := 9) (Nat.le_of_ble_eq_true rfl)
  rw [lg_entry_eq]
  generalize (lg_sl ([.ref y, .int (iI 0), .int (iI ((p0 : Int))), .int (iI b)]) ++ List.replicate (9 - (lg_sl ([.ref y, .int (iI 0), .int (iI ((p0 : Int))), .int (iI b)])).length) Slot.unset).toArray = ls at hl ⊢
  refine absQ (fun Q R av hQ hR hav => ?_)
  have hts : ∀ w ∈ gw, w.before av s = true := by rw [hav]; exact fun w h => hts0 w (List.mem_cons_of_mem _ h)
  have hRf : R.frames = 2 := by rw [hR]; rfl
  have hRl : R.locals = 60 := by rw [hR]; rfl
  have hRc : R.cells = 0 := by rw [hR]; rfl
  have hRs : R.slots = 0 := by rw [hR]; rfl
  clear hR hts0 Bd
  have hl : lv_has ls 9 [(0, .ref y), (1, .int (iI 0)), (2, .int (iI ((p0 : Int)))), (3, .int (iI b))] := hl
  have hfx : ∀ q ∈ ([(y, .inr (7, [.int (iI th), .ref m1, .ref m2, .ref m3, .int (iI pn), .ref m5, .ref m6, .ref m7, .ref m8, .ref m9, .ref m10, .ref m11, .ref m12, .ref m13, .int (iI rw_), .ref m15, .long (lI fu), .long (lI fb)])), (m5, .inl (cs 0, 72, .inl (ai cv)))] : List (Nat × va_E)), f q.1 = q.2 := fun q hq => by
    simp only [List.mem_cons, List.not_mem_nil, or_false] at hq
    rcases hq with rfl | rfl
    · exact ha
    · exact hm5
  have hmw : mw f [(y, .inr (7, [.int (iI th), .ref m1, .ref m2, .ref m3, .int (iI pn), .ref m5, .ref m6, .ref m7, .ref m8, .ref m9, .ref m10, .ref m11, .ref m12, .ref m13, .int (iI rw_), .ref m15, .long (lI fu), .long (lI fb)])), (m5, .inl (cs 0, 72, .inl (ai cv)))] = f := mw_self (fun k a e hk => hfx (a, e) (List.mem_of_getElem? hk))
  have B := B.focus [(y, .inr (7, [.int (iI th), .ref m1, .ref m2, .ref m3, .int (iI pn), .ref m5, .ref m6, .ref m7, .ref m8, .ref m9, .ref m10, .ref m11, .ref m12, .ref m13, .int (iI rw_), .ref m15, .long (lI fu), .long (lI fb)])), (m5, .inl (cs 0, 72, .inl (ai cv)))] hfx
  refine lv_aload_n hx hb d_Mo_make_0 rfl (lv_at hl 0 rfl) ?_
  refine x_iconst hx hb d_Mo_make_1 ?_
  refine x_put (C := RX7) (T := TX7) (N := 18) hx hb hts inX7 tyX7 tyX7_ok nmX7 hown B hF 0 rfl rfl 0 (by decide) (hts _ w_677) (fun _ h9 => h9) rfl (tyX7_ok 0 (by decide)) rfl rfl (Nat.le_of_ble_eq_true rfl) d_Mo_make_2 (fun H locs B => ?_)
  have B : Wb D vwCl (TY cs) L (mw f [(y, .inr (7, [.int (iI 0), .ref m1, .ref m2, .ref m3, .int (iI pn), .ref m5, .ref m6, .ref m7, .ref m8, .ref m9, .ref m10, .ref m11, .ref m12, .ref m13, .int (iI rw_), .ref m15, .long (lI fu), .long (lI fb)])), (m5, .inl (cs 0, 72, .inl (ai cv)))]) (AL L s.heap.size) s H _ := B
  refine lv_iload_n hx hb d_Mo_make_5 rfl (lv_at hl 1 rfl) ?_
  refine x_if_eq (tgt := 24) hx hb d_Mo_make_6 (by decide) (by omega) (fun h6 => ?_) (fun h6 => ?_)
  · refine x_iconst hx hb d_Mo_make_24 ?_
    refine lv_goto (tgt := 29) hx hb d_Mo_make_25 (by decide) ?_
    refine lv_istore (lv' := [(4, .int (iI 1)), (0, .ref y), (1, .int (iI 0)), (2, .int (iI ((p0 : Int)))), (3, .int (iI b))]) hx hb d_Mo_make_29 hl (by decide) rfl (fun ls hl => ?_)
    refine lv_iload_n hx hb d_Mo_make_31 rfl (lv_at hl 2 rfl) ?_
    refine x_i2l hx hb d_Mo_make_32 (by omega) ?_
    refine x_lconst (z := 0) hx hb d_Mo_make_33 (by decide) ?_
    refine x_ldc2 (z := 9) hx hb hown (hts _ w_775) (by decide) d_Mo_make_34 ?_
    refine x_calli B hA (va_runS (As := [.long (lI 0), .long (lI 0), .long (lI 9)]) (rest := []) ⟨hx, hb, hml, hown, hts⟩ (c_Mo_in l D cs _ _ _ 0 0 9 (by omega) (by omega) (by omega)) (va_cwS 3 hts (gw_S w_749 w_750 w_8 w_751) rfl rfl rfl (by decide +kernel) ⟨by rw [hRf]; exact Nat.le_of_ble_eq_true rfl, by rw [hRl]; exact Nat.le_of_ble_eq_true rfl⟩) ⟨K0.blind, B.pre _⟩ rfl rfl hl.1 rfl (lv_room (Nat.le_of_ble_eq_true rfl)) d_Mo_make_37 ⟨by rw [hRc]; omega, by rw [hRs]; omega⟩) (fun r37 g37 H locs hw B => ?_)
    obtain ⟨rfl, rfl⟩ := hw
    rw [if_pos (by omega)]
    have B : Wb D vwCl (TY cs) L (mw f [(y, .inr (7, [.int (iI 0), .ref m1, .ref m2, .ref m3, .int (iI pn), .ref m5, .ref m6, .ref m7, .ref m8, .ref m9, .ref m10, .ref m11, .ref m12, .ref m13, .int (iI rw_), .ref m15, .long (lI fu), .long (lI fb)])), (m5, .inl (cs 0, 72, .inl (ai cv)))]) (AL L s.heap.size) s H _ := B
    refine x_if_eq (tgt := 64) hx hb d_Mo_make_40 (by decide) (by omega) (fun h40 => ?_) (fun h40 => ?_)
    · exfalso; omega
    · refine lv_aload_n hx hb d_Mo_make_43 rfl (lv_at hl 1 rfl) ?_
      refine lv_iload_n hx hb d_Mo_make_44 rfl (lv_at hl 3 rfl) ?_
      refine x_calli B hA (va_runV (As := [.int (iI ((p0 : Int)))]) (rest := []) ⟨hx, hb, hml, hown, hts⟩ (c_Mo_is l D cs _ _ _ y m1 m2 m3 m5 m6 m7 m8 m9 m10 m11 m12 m13 m15 0 pn rw_ fu fb ((p0 : Int)) (hF.pick [0] rfl rfl) (mw_get (X := [(y, .inr (7, [.int (iI 0), .ref m1, .ref m2, .ref m3, .int (iI pn), .ref m5, .ref m6, .ref m7, .ref m8, .ref m9, .ref m10, .ref m11, .ref m12, .ref m13, .int (iI rw_), .ref m15, .long (lI fu), .long (lI fb)])), (m5, .inl (cs 0, 72, .inl (ai cv)))]) hF.1 (k := 0) rfl) hpn (by omega)) (cwV 1 hts (gw_V w_745 w_747 s_29 w_8 w_748) rfl rfl rfl (by decide +kernel) ⟨by rw [hRf]; exact Nat.le_of_ble_eq_true rfl, by rw [hRl]; exact Nat.le_of_ble_eq_true rfl⟩) ⟨K0.blind, B.recv (hF.2 _ (mw_key (k := 0) (X := [(y, .inr (7, [.int (iI 0), .ref m1, .ref m2, .ref m3, .int (iI pn), .ref m5, .ref m6, .ref m7, .ref m8, .ref m9, .ref m10, .ref m11, .ref m12, .ref m13, .int (iI rw_), .ref m15, .long (lI fu), .long (lI fb)])), (m5, .inl (cs 0, 72, .inl (ai cv)))]) rfl)) (mw_get (X := [(y, .inr (7, [.int (iI 0), .ref m1, .ref m2, .ref m3, .int (iI pn), .ref m5, .ref m6, .ref m7, .ref m8, .ref m9, .ref m10, .ref m11, .ref m12, .ref m13, .int (iI rw_), .ref m15, .long (lI fu), .long (lI fb)])), (m5, .inl (cs 0, 72, .inl (ai cv)))]) hF.1 (k := 0) rfl) rfl, B.pre _⟩ rfl rfl hl.1 rfl (lv_room (Nat.le_of_ble_eq_true rfl)) d_Mo_make_45 ⟨by rw [hRc]; omega, by rw [hRs]; omega⟩) (fun r45 g45 H locs hw B => ?_)
      obtain ⟨rfl, rfl⟩ := hw
      rw [if_pos (by omega)]
      have B : Wb D vwCl (TY cs) L (mw f [(y, .inr (7, [.int (iI 0), .ref m1, .ref m2, .ref m3, .int (iI pn), .ref m5, .ref m6, .ref m7, .ref m8, .ref m9, .ref m10, .ref m11, .ref m12, .ref m13, .int (iI rw_), .ref m15, .long (lI fu), .long (lI fb)])), (m5, .inl (cs 0, 72, .inl (ai cv)))]) (AL L s.heap.size) s H _ := B
      refine x_if_eq (tgt := 64) hx hb d_Mo_make_48 (by decide) (by omega) (fun h48 => ?_) (fun h48 => ?_)
      · exfalso; omega
      · refine lv_iload hx hb d_Mo_make_51 (lv_at hl 0 rfl) ?_
        refine x_if_eq (tgt := 66) hx hb d_Mo_make_53 (by decide) (by omega) (fun h53 => ?_) (fun h53 => ?_)
        · exfalso; omega
        · refine lv_aload_n hx hb d_Mo_make_56 rfl (lv_at hl 1 rfl) ?_
          refine lv_iload_n hx hb d_Mo_make_57 rfl (lv_at hl 4 rfl) ?_
          refine x_calli B hA (va_runV (As := [.int (iI b)]) (rest := []) ⟨hx, hb, hml, hown, hts⟩ (c_Mo_is_f l D cs _ _ _ y m1 m2 m3 m5 m6 m7 m8 m9 m10 m11 m12 m13 m15 0 pn rw_ fu fb b (hF.pick [0] rfl rfl) (mw_get (X := [(y, .inr (7, [.int (iI 0), .ref m1, .ref m2, .ref m3, .int (iI pn), .ref m5, .ref m6, .ref m7, .ref m8, .ref m9, .ref m10, .ref m11, .ref m12, .ref m13, .int (iI rw_), .ref m15, .long (lI fu), .long (lI fb)])), (m5, .inl (cs 0, 72, .inl (ai cv)))]) hF.1 (k := 0) rfl) hpn (by omega) (by omega)) (cwV 1 hts (gw_V w_745 w_747 s_29 w_8 w_748) rfl rfl rfl (by decide +kernel) ⟨by rw [hRf]; exact Nat.le_of_ble_eq_true rfl, by rw [hRl]; exact Nat.le_of_ble_eq_true rfl⟩) ⟨K0.blind, B.recv (hF.2 _ (mw_key (k := 0) (X := [(y, .inr (7, [.int (iI 0), .ref m1, .ref m2, .ref m3, .int (iI pn), .ref m5, .ref m6, .ref m7, .ref m8, .ref m9, .ref m10, .ref m11, .ref m12, .ref m13, .int (iI rw_), .ref m15, .long (lI fu), .long (lI fb)])), (m5, .inl (cs 0, 72, .inl (ai cv)))]) rfl)) (mw_get (X := [(y, .inr (7, [.int (iI 0), .ref m1, .ref m2, .ref m3, .int (iI pn), .ref m5, .ref m6, .ref m7, .ref m8, .ref m9, .ref m10, .ref m11, .ref m12, .ref m13, .int (iI rw_), .ref m15, .long (lI fu), .long (lI fb)])), (m5, .inl (cs 0, 72, .inl (ai cv)))]) hF.1 (k := 0) rfl) rfl, B.pre _⟩ rfl rfl hl.1 rfl (lv_room (Nat.le_of_ble_eq_true rfl)) d_Mo_make_58 ⟨by rw [hRc]; omega, by rw [hRs]; omega⟩) (fun r58 g58 H locs hw B => ?_)
          obtain ⟨rfl, rfl⟩ := hw
          have B : Wb D vwCl (TY cs) L (mw f [(y, .inr (7, [.int (iI 0), .ref m1, .ref m2, .ref m3, .int (iI pn), .ref m5, .ref m6, .ref m7, .ref m8, .ref m9, .ref m10, .ref m11, .ref m12, .ref m13, .int (iI rw_), .ref m15, .long (lI fu), .long (lI fb)])), (m5, .inl (cs 0, 72, .inl (ai cv)))]) (AL L s.heap.size) s H _ := B
          refine x_if_ne (tgt := 66) hx hb d_Mo_make_61 (by decide) (by omega) (fun h61 => ?_) (fun h61 => ?_)
          · exfalso; omega
          · refine x_iconst hx hb d_Mo_make_64 ?_
            subst hQ hav
            exact x_iret hx hb hr hlocks B d_Mo_make_65 (⟨rfl, mw_tail (X := [(y, .inr (7, [.int (iI 0), .ref m1, .ref m2, .ref m3, .int (iI pn), .ref m5, .ref m6, .ref m7, .ref m8, .ref m9, .ref m10, .ref m11, .ref m12, .ref m13, .int (iI rw_), .ref m15, .long (lI fu), .long (lI fb)]))]) (Y := [(m5, .inl (cs 0, 72, .inl (ai cv)))]) (fun p hp => hfx p (List.mem_cons_of_mem _ hp))⟩)
  · exfalso; omega
set_option maxHeartbeats 8000000 in
set_option maxRecDepth 100000 in
theorem c_Mo_make_u1 (l : Launch) (D : va_G) (cs : Nat → ClassId) (L : List Nat) (f : Nat → va_E) (sz : Nat) (y m1 m2 m3 m5 m6 m7 m8 m9 m10 m11 m12 m13 m15 : Nat) (th pn rw_ fu fb : Int) (cv : Nat → Int) (p0 : Nat) (b : Int) (hF : Fc L [y, m5]) (ha : f y = .inr (7, [.int (iI th), .ref m1, .ref m2, .ref m3, .int (iI pn), .ref m5, .ref m6, .ref m7, .ref m8, .ref m9, .ref m10, .ref m11, .ref m12, .ref m13, .int (iI rw_), .ref m15, .long (lI fu), .long (lI fb)])) (hm5 : f m5 = .inl (cs 0, 72, .inl (ai cv))) (hp0 : p0 < 12) (hcv : ∀ j, j < 72 → -1000 ≤ cv j ∧ cv j ≤ 1000) (hpn : 0 ≤ pn ∧ pn ≤ 12) (hpp : (p0 : Int) < pn) (hun : b < 0 ∨ pn ≤ b) (hb : -2147483648 ≤ b ∧ b < 2147483648) : Met l (⟨"RealRootsModel", "make", "(III)I"⟩ : MethodName) (.code (⟨"RealRootsModel", "make", "(III)I"⟩ : MethodName) prog_9_method_36_code 9 (Option.some Jvm.ClassFile.FieldType.int) :: gw) ({ frames := 2, cells := 0, slots := 0, locals := 60 }) (va_Pc [.ref y, .int (iI 1), .int (iI ((p0 : Int))), .int (iI b)] (K0 D vwCl (TY cs) L f sz)) (va_Qi (fun (r : Int32) (g : Nat → va_E) => r = iI (-1) ∧ g = mw f [(y, .inr (7, [.int (iI 0), .ref m1, .ref m2, .ref m3, .int (iI pn), .ref m5, .ref m6, .ref m7, .ref m8, .ref m9, .ref m10, .ref m11, .ref m12, .ref m13, .int (iI rw_), .ref m15, .long (lI fu), .long (lI fb)]))]) (K1 D vwCl (TY cs) (AL L sz) L) (AL L sz)) 0 0 (AL L sz) := by
  refine Met.ofW (cc := prog_9_method_36_code) (maxL := 9) (ret := (Option.some Jvm.ClassFile.FieldType.int)) (by decide) rfl ?_
  intro p e s m args below meth c s₁ Bd hml hv
  obtain ⟨rfl, hk0⟩ := hv
  obtain ⟨hsz, B⟩ := hk0.start
  subst hsz
  have hx := Bd.exec
  have hb := Bd.bytes
  have hr := Bd.returns
  have hlocks := Bd.notSynchronized
  have hts0 := atoms_spec Bd.pre
  have hown : s.vm.findClass RX7 = some m.cls := findClass_of_methodNamed Bd.named
  have hA : ∀ q, s.heap.size ≤ q → AL L s.heap.size q := fun _ h => Or.inr h
  have hl := lv_entry ([.ref y, .int (iI 1), .int (iI ((p0 : Int))), .int (iI b)]) (n := 9) (Nat.le_of_ble_eq_true rfl)
  rw [lg_entry_eq]
  generalize (lg_sl ([.ref y, .int (iI 1), .int (iI ((p0 : Int))), .int (iI b)]) ++ List.replicate (9 - (lg_sl ([.ref y, .int (iI 1), .int (iI ((p0 : Int))), .int (iI b)])).length) Slot.unset).toArray = ls at hl ⊢
  refine absQ (fun Q R av hQ hR hav => ?_)
  have hts : ∀ w ∈ gw, w.before av s = true := by rw [hav]; exact fun w h => hts0 w (List.mem_cons_of_mem _ h)
  have hRf : R.frames = 2 := by rw [hR]; rfl
  have hRl : R.locals = 60 := by rw [hR]; rfl
  have hRc : R.cells = 0 := by rw [hR]; rfl
  have hRs : R.slots = 0 := by rw [hR]; rfl
  clear hR hts0 Bd
  have hl : lv_has ls 9 [(0, .ref y), (1, .int (iI 1)), (2, .int (iI ((p0 : Int)))), (3, .int (iI b))] := hl
  have hfx : ∀ q ∈ ([(y, .inr (7, [.int (iI th), .ref m1, .ref m2, .ref m3, .int (iI pn), .ref m5, .ref m6, .ref m7, .ref m8, .ref m9, .ref m10, .ref m11, .ref m12, .ref m13, .int (iI rw_), .ref m15, .long (lI fu), .long (lI fb)])), (m5, .inl (cs 0, 72, .inl (ai cv)))] : List (Nat × va_E)), f q.1 = q.2 := fun q hq => by
    simp only [List.mem_cons, List.not_mem_nil, or_false] at hq
    rcases hq with rfl | rfl
    · exact ha
    · exact hm5
  have hmw : mw f [(y, .inr (7, [.int (iI th), .ref m1, .ref m2, .ref m3, .int (iI pn), .ref m5, .ref m6, .ref m7, .ref m8, .ref m9, .ref m10, .ref m11, .ref m12, .ref m13, .int (iI rw_), .ref m15, .long (lI fu), .long (lI fb)])), (m5, .inl (cs 0, 72, .inl (ai cv)))] = f := mw_self (fun k a e hk => hfx (a, e) (List.mem_of_getElem? hk))
  have B := B.focus [(y, .inr (7, [.int (iI th), .ref m1, .ref m2, .ref m3, .int (iI pn), .ref m5, .ref m6, .ref m7, .ref m8, .ref m9, .ref m10, .ref m11, .ref m12, .ref m13, .int (iI rw_), .ref m15, .long (lI fu), .long (lI fb)])), (m5, .inl (cs 0, 72, .inl (ai cv)))] hfx
  refine lv_aload_n hx hb d_Mo_make_0 rfl (lv_at hl 0 rfl) ?_
  refine x_iconst hx hb d_Mo_make_1 ?_
  refine x_put (C := RX7) (T := TX7) (N := 18) hx hb hts inX7 tyX7 tyX7_ok nmX7 hown B hF 0 rfl rfl 0 (by decide) (hts _ w_677) (fun _ h9 => h9) rfl (tyX7_ok 0 (by decide)) rfl rfl (Nat.le_of_ble_eq_true rfl) d_Mo_make_2 (fun H locs B => ?_)
  have B : Wb D vwCl (TY cs) L (mw f [(y, .inr (7, [.int (iI 0), .ref m1, .ref m2, .ref m3, .int (iI pn), .ref m5, .ref m6, .ref m7, .ref m8, .ref m9, .ref m10, .ref m11, .ref m12, .ref m13, .int (iI rw_), .ref m15, .long (lI fu), .long (lI fb)])), (m5, .inl (cs 0, 72, .inl (ai cv)))]) (AL L s.heap.size) s H _ := B
  refine lv_iload_n hx hb d_Mo_make_5 rfl (lv_at hl 1 rfl) ?_
  refine x_if_eq (tgt := 24) hx hb d_Mo_make_6 (by decide) (by omega) (fun h6 => ?_) (fun h6 => ?_)
  · exfalso; omega
  · refine lv_iload_n hx hb d_Mo_make_9 rfl (lv_at hl 1 rfl) ?_
    refine x_iconst hx hb d_Mo_make_10 ?_
    refine x_icmp_eq (tgt := 24) hx hb d_Mo_make_11 (by decide) (by omega) (by omega) (fun h11 => ?_) (fun h11 => ?_)
    · refine x_iconst hx hb d_Mo_make_24 ?_
      refine lv_goto (tgt := 29) hx hb d_Mo_make_25 (by decide) ?_
      refine lv_istore (lv' := [(4, .int (iI 1)), (0, .ref y), (1, .int (iI 1)), (2, .int (iI ((p0 : Int)))), (3, .int (iI b))]) hx hb d_Mo_make_29 hl (by decide) rfl (fun ls hl => ?_)
      refine lv_iload_n hx hb d_Mo_make_31 rfl (lv_at hl 2 rfl) ?_
      refine x_i2l hx hb d_Mo_make_32 (by omega) ?_
      refine x_lconst (z := 0) hx hb d_Mo_make_33 (by decide) ?_
      refine x_ldc2 (z := 9) hx hb hown (hts _ w_775) (by decide) d_Mo_make_34 ?_
      refine x_calli B hA (va_runS (As := [.long (lI 1), .long (lI 0), .long (lI 9)]) (rest := []) ⟨hx, hb, hml, hown, hts⟩ (c_Mo_in l D cs _ _ _ 1 0 9 (by omega) (by omega) (by omega)) (va_cwS 3 hts (gw_S w_749 w_750 w_8 w_751) rfl rfl rfl (by decide +kernel) ⟨by rw [hRf]; exact Nat.le_of_ble_eq_true rfl, by rw [hRl]; exact Nat.le_of_ble_eq_true rfl⟩) ⟨K0.blind, B.pre _⟩ rfl rfl hl.1 rfl (lv_room (Nat.le_of_ble_eq_true rfl)) d_Mo_make_37 ⟨by rw [hRc]; omega, by rw [hRs]; omega⟩) (fun r37 g37 H locs hw B => ?_)
      obtain ⟨rfl, rfl⟩ := hw
      rw [if_pos (by omega)]
      have B : Wb D vwCl (TY cs) L (mw f [(y, .inr (7, [.int (iI 0), .ref m1, .ref m2, .ref m3, .int (iI pn), .ref m5, .ref m6, .ref m7, .ref m8, .ref m9, .ref m10, .ref m11, .ref m12, .ref m13, .int (iI rw_), .ref m15, .long (lI fu), .long (lI fb)])), (m5, .inl (cs 0, 72, .inl (ai cv)))]) (AL L s.heap.size) s H _ := B
      refine x_if_eq (tgt := 64) hx hb d_Mo_make_40 (by decide) (by omega) (fun h40 => ?_) (fun h40 => ?_)
      · exfalso; omega
      · refine lv_aload_n hx hb d_Mo_make_43 rfl (lv_at hl 1 rfl) ?_
        refine lv_iload_n hx hb d_Mo_make_44 rfl (lv_at hl 3 rfl) ?_
        refine x_calli B hA (va_runV (As := [.int (iI ((p0 : Int)))]) (rest := []) ⟨hx, hb, hml, hown, hts⟩ (c_Mo_is l D cs _ _ _ y m1 m2 m3 m5 m6 m7 m8 m9 m10 m11 m12 m13 m15 0 pn rw_ fu fb ((p0 : Int)) (hF.pick [0] rfl rfl) (mw_get (X := [(y, .inr (7, [.int (iI 0), .ref m1, .ref m2, .ref m3, .int (iI pn), .ref m5, .ref m6, .ref m7, .ref m8, .ref m9, .ref m10, .ref m11, .ref m12, .ref m13, .int (iI rw_), .ref m15, .long (lI fu), .long (lI fb)])), (m5, .inl (cs 0, 72, .inl (ai cv)))]) hF.1 (k := 0) rfl) hpn (by omega)) (cwV 1 hts (gw_V w_745 w_747 s_29 w_8 w_748) rfl rfl rfl (by decide +kernel) ⟨by rw [hRf]; exact Nat.le_of_ble_eq_true rfl, by rw [hRl]; exact Nat.le_of_ble_eq_true rfl⟩) ⟨K0.blind, B.recv (hF.2 _ (mw_key (k := 0) (X := [(y, .inr (7, [.int (iI 0), .ref m1, .ref m2, .ref m3, .int (iI pn), .ref m5, .ref m6, .ref m7, .ref m8, .ref m9, .ref m10, .ref m11, .ref m12, .ref m13, .int (iI rw_), .ref m15, .long (lI fu), .long (lI fb)])), (m5, .inl (cs 0, 72, .inl (ai cv)))]) rfl)) (mw_get (X := [(y, .inr (7, [.int (iI 0), .ref m1, .ref m2, .ref m3, .int (iI pn), .ref m5, .ref m6, .ref m7, .ref m8, .ref m9, .ref m10, .ref m11, .ref m12, .ref m13, .int (iI rw_), .ref m15, .long (lI fu), .long (lI fb)])), (m5, .inl (cs 0, 72, .inl (ai cv)))]) hF.1 (k := 0) rfl) rfl, B.pre _⟩ rfl rfl hl.1 rfl (lv_room (Nat.le_of_ble_eq_true rfl)) d_Mo_make_45 ⟨by rw [hRc]; omega, by rw [hRs]; omega⟩) (fun r45 g45 H locs hw B => ?_)
        obtain ⟨rfl, rfl⟩ := hw
        rw [if_pos (by omega)]
        have B : Wb D vwCl (TY cs) L (mw f [(y, .inr (7, [.int (iI 0), .ref m1, .ref m2, .ref m3, .int (iI pn), .ref m5, .ref m6, .ref m7, .ref m8, .ref m9, .ref m10, .ref m11, .ref m12, .ref m13, .int (iI rw_), .ref m15, .long (lI fu), .long (lI fb)])), (m5, .inl (cs 0, 72, .inl (ai cv)))]) (AL L s.heap.size) s H _ := B
        refine x_if_eq (tgt := 64) hx hb d_Mo_make_48 (by decide) (by omega) (fun h48 => ?_) (fun h48 => ?_)
        · exfalso; omega
        · refine lv_iload hx hb d_Mo_make_51 (lv_at hl 0 rfl) ?_
          refine x_if_eq (tgt := 66) hx hb d_Mo_make_53 (by decide) (by omega) (fun h53 => ?_) (fun h53 => ?_)
          · exfalso; omega
          · refine lv_aload_n hx hb d_Mo_make_56 rfl (lv_at hl 1 rfl) ?_
            refine lv_iload_n hx hb d_Mo_make_57 rfl (lv_at hl 4 rfl) ?_
            refine x_calli B hA (va_runV (As := [.int (iI b)]) (rest := []) ⟨hx, hb, hml, hown, hts⟩ (c_Mo_is_f l D cs _ _ _ y m1 m2 m3 m5 m6 m7 m8 m9 m10 m11 m12 m13 m15 0 pn rw_ fu fb b (hF.pick [0] rfl rfl) (mw_get (X := [(y, .inr (7, [.int (iI 0), .ref m1, .ref m2, .ref m3, .int (iI pn), .ref m5, .ref m6, .ref m7, .ref m8, .ref m9, .ref m10, .ref m11, .ref m12, .ref m13, .int (iI rw_), .ref m15, .long (lI fu), .long (lI fb)])), (m5, .inl (cs 0, 72, .inl (ai cv)))]) hF.1 (k := 0) rfl) hpn (by omega) (by omega)) (cwV 1 hts (gw_V w_745 w_747 s_29 w_8 w_748) rfl rfl rfl (by decide +kernel) ⟨by rw [hRf]; exact Nat.le_of_ble_eq_true rfl, by rw [hRl]; exact Nat.le_of_ble_eq_true rfl⟩) ⟨K0.blind, B.recv (hF.2 _ (mw_key (k := 0) (X := [(y, .inr (7, [.int (iI 0), .ref m1, .ref m2, .ref m3, .int (iI pn), .ref m5, .ref m6, .ref m7, .ref m8, .ref m9, .ref m10, .ref m11, .ref m12, .ref m13, .int (iI rw_), .ref m15, .long (lI fu), .long (lI fb)])), (m5, .inl (cs 0, 72, .inl (ai cv)))]) rfl)) (mw_get (X := [(y, .inr (7, [.int (iI 0), .ref m1, .ref m2, .ref m3, .int (iI pn), .ref m5, .ref m6, .ref m7, .ref m8, .ref m9, .ref m10, .ref m11, .ref m12, .ref m13, .int (iI rw_), .ref m15, .long (lI fu), .long (lI fb)])), (m5, .inl (cs 0, 72, .inl (ai cv)))]) hF.1 (k := 0) rfl) rfl, B.pre _⟩ rfl rfl hl.1 rfl (lv_room (Nat.le_of_ble_eq_true rfl)) d_Mo_make_58 ⟨by rw [hRc]; omega, by rw [hRs]; omega⟩) (fun r58 g58 H locs hw B => ?_)
            obtain ⟨rfl, rfl⟩ := hw
            have B : Wb D vwCl (TY cs) L (mw f [(y, .inr (7, [.int (iI 0), .ref m1, .ref m2, .ref m3, .int (iI pn), .ref m5, .ref m6, .ref m7, .ref m8, .ref m9, .ref m10, .ref m11, .ref m12, .ref m13, .int (iI rw_), .ref m15, .long (lI fu), .long (lI fb)])), (m5, .inl (cs 0, 72, .inl (ai cv)))]) (AL L s.heap.size) s H _ := B
            refine x_if_ne (tgt := 66) hx hb d_Mo_make_61 (by decide) (by omega) (fun h61 => ?_) (fun h61 => ?_)
            · exfalso; omega
            · refine x_iconst hx hb d_Mo_make_64 ?_
              subst hQ hav
              exact x_iret hx hb hr hlocks B d_Mo_make_65 (⟨rfl, mw_tail (X := [(y, .inr (7, [.int (iI 0), .ref m1, .ref m2, .ref m3, .int (iI pn), .ref m5, .ref m6, .ref m7, .ref m8, .ref m9, .ref m10, .ref m11, .ref m12, .ref m13, .int (iI rw_), .ref m15, .long (lI fu), .long (lI fb)]))]) (Y := [(m5, .inl (cs 0, 72, .inl (ai cv)))]) (fun p hp => hfx p (List.mem_cons_of_mem _ hp))⟩)
    · exfalso; omega
set_option maxHeartbeats 8000000 in
set_option maxRecDepth 100000 in
theorem c_Mo_make_u2 (l : Launch) (D : va_G) (cs : Nat → ClassId) (L : List Nat) (f : Nat → va_E) (sz : Nat) (y m1 m2 m3 m5 m6 m7 m8 m9 m10 m11 m12 m13 m15 : Nat) (th pn rw_ fu fb : Int) (cv : Nat → Int) (p0 : Nat) (b : Int) (hF : Fc L [y, m5]) (ha : f y = .inr (7, [.int (iI th), .ref m1, .ref m2, .ref m3, .int (iI pn), .ref m5, .ref m6, .ref m7, .ref m8, .ref m9, .ref m10, .ref m11, .ref m12, .ref m13, .int (iI rw_), .ref m15, .long (lI fu), .long (lI fb)])) (hm5 : f m5 = .inl (cs 0, 72, .inl (ai cv))) (hp0 : p0 < 12) (hcv : ∀ j, j < 72 → -1000 ≤ cv j ∧ cv j ≤ 1000) (hpn : 0 ≤ pn ∧ pn ≤ 12) (hpp : (p0 : Int) < pn) (hun : b < 0 ∨ pn ≤ b) (hb : -2147483648 ≤ b ∧ b < 2147483648) : Met l (⟨"RealRootsModel", "make", "(III)I"⟩ : MethodName) (.code (⟨"RealRootsModel", "make", "(III)I"⟩ : MethodName) prog_9_method_36_code 9 (Option.some Jvm.ClassFile.FieldType.int) :: gw) ({ frames := 2, cells := 0, slots := 0, locals := 60 }) (va_Pc [.ref y, .int (iI 2), .int (iI ((p0 : Int))), .int (iI b)] (K0 D vwCl (TY cs) L f sz)) (va_Qi (fun (r : Int32) (g : Nat → va_E) => r = iI (-1) ∧ g = mw f [(y, .inr (7, [.int (iI 0), .ref m1, .ref m2, .ref m3, .int (iI pn), .ref m5, .ref m6, .ref m7, .ref m8, .ref m9, .ref m10, .ref m11, .ref m12, .ref m13, .int (iI rw_), .ref m15, .long (lI fu), .long (lI fb)]))]) (K1 D vwCl (TY cs) (AL L sz) L) (AL L sz)) 0 0 (AL L sz) := by
  refine Met.ofW (cc := prog_9_method_36_code) (maxL := 9) (ret := (Option.some Jvm.ClassFile.FieldType.int)) (by decide) rfl ?_
  intro p e s m args below meth c s₁ Bd hml hv
  obtain ⟨rfl, hk0⟩ := hv
  obtain ⟨hsz, B⟩ := hk0.start
  subst hsz
  have hx := Bd.exec
  have hb := Bd.bytes
  have hr := Bd.returns
  have hlocks := Bd.notSynchronized
  have hts0 := atoms_spec Bd.pre
  have hown : s.vm.findClass RX7 = some m.cls := findClass_of_methodNamed Bd.named
  have hA : ∀ q, s.heap.size ≤ q → AL L s.heap.size q := fun _ h => Or.inr h
  have hl := lv_entry ([.ref y, .int (iI 2), .int (iI ((p0 : Int))), .int (iI b)]) (n := 9) (Nat.le_of_ble_eq_true rfl)
  rw [lg_entry_eq]
  generalize (lg_sl ([.ref y, .int (iI 2), .int (iI ((p0 : Int))), .int (iI b)]) ++ List.replicate (9 - (lg_sl ([.ref y, .int (iI 2), .int (iI ((p0 : Int))), .int (iI b)])).length) Slot.unset).toArray = ls at hl ⊢
  refine absQ (fun Q R av hQ hR hav => ?_)
  have hts : ∀ w ∈ gw, w.before av s = true := by rw [hav]; exact fun w h => hts0 w (List.mem_cons_of_mem _ h)
  have hRf : R.frames = 2 := by rw [hR]; rfl
  have hRl : R.locals = 60 := by rw [hR]; rfl
  have hRc : R.cells = 0 := by rw [hR]; rfl
  have hRs : R.slots = 0 := by rw [hR]; rfl
  clear hR hts0 Bd
  have hl : lv_has ls 9 [(0, .ref y), (1, .int (iI 2)), (2, .int (iI ((p0 : Int)))), (3, .int (iI b))] := hl
  have hfx : ∀ q ∈ ([(y, .inr (7, [.int (iI th), .ref m1, .ref m2, .ref m3, .int (iI pn), .ref m5, .ref m6, .ref m7, .ref m8, .ref m9, .ref m10, .ref m11, .ref m12, .ref m13, .int (iI rw_), .ref m15, .long (lI fu), .long (lI fb)])), (m5, .inl (cs 0, 72, .inl (ai cv)))] : List (Nat × va_E)), f q.1 = q.2 := fun q hq => by
    simp only [List.mem_cons, List.not_mem_nil, or_false] at hq
    rcases hq with rfl | rfl
    · exact ha
    · exact hm5
  have hmw : mw f [(y, .inr (7, [.int (iI th), .ref m1, .ref m2, .ref m3, .int (iI pn), .ref m5, .ref m6, .ref m7, .ref m8, .ref m9, .ref m10, .ref m11, .ref m12, .ref m13, .int (iI rw_), .ref m15, .long (lI fu), .long (lI fb)])), (m5, .inl (cs 0, 72, .inl (ai cv)))] = f := mw_self (fun k a e hk => hfx (a, e) (List.mem_of_getElem? hk))
  have B := B.focus [(y, .inr (7, [.int (iI th), .ref m1, .ref m2, .ref m3, .int (iI pn), .ref m5, .ref m6, .ref m7, .ref m8, .ref m9, .ref m10, .ref m11, .ref m12, .ref m13, .int (iI rw_), .ref m15, .long (lI fu), .long (lI fb)])), (m5, .inl (cs 0, 72, .inl (ai cv)))] hfx
  refine lv_aload_n hx hb d_Mo_make_0 rfl (lv_at hl 0 rfl) ?_
  refine x_iconst hx hb d_Mo_make_1 ?_
  refine x_put (C := RX7) (T := TX7) (N := 18) hx hb hts inX7 tyX7 tyX7_ok nmX7 hown B hF 0 rfl rfl 0 (by decide) (hts _ w_677) (fun _ h9 => h9) rfl (tyX7_ok 0 (by decide)) rfl rfl (Nat.le_of_ble_eq_true rfl) d_Mo_make_2 (fun H locs B => ?_)
  have B : Wb D vwCl (TY cs) L (mw f [(y, .inr (7, [.int (iI 0), .ref m1, .ref m2, .ref m3, .int (iI pn), .ref m5, .ref m6, .ref m7, .ref m8, .ref m9, .ref m10, .ref m11, .ref m12, .ref m13, .int (iI rw_), .ref m15, .long (lI fu), .long (lI fb)])), (m5, .inl (cs 0, 72, .inl (ai cv)))]) (AL L s.heap.size) s H _ := B
  refine lv_iload_n hx hb d_Mo_make_5 rfl (lv_at hl 1 rfl) ?_
  refine x_if_eq (tgt := 24) hx hb d_Mo_make_6 (by decide) (by omega) (fun h6 => ?_) (fun h6 => ?_)
  · exfalso; omega
  · refine lv_iload_n hx hb d_Mo_make_9 rfl (lv_at hl 1 rfl) ?_
    refine x_iconst hx hb d_Mo_make_10 ?_
    refine x_icmp_eq (tgt := 24) hx hb d_Mo_make_11 (by decide) (by omega) (by omega) (fun h11 => ?_) (fun h11 => ?_)
    · exfalso; omega
    · refine lv_iload_n hx hb d_Mo_make_14 rfl (lv_at hl 1 rfl) ?_
      refine x_iconst hx hb d_Mo_make_15 ?_
      refine x_icmp_eq (tgt := 24) hx hb d_Mo_make_16 (by decide) (by omega) (by omega) (fun h16 => ?_) (fun h16 => ?_)
      · refine x_iconst hx hb d_Mo_make_24 ?_
        refine lv_goto (tgt := 29) hx hb d_Mo_make_25 (by decide) ?_
        refine lv_istore (lv' := [(4, .int (iI 1)), (0, .ref y), (1, .int (iI 2)), (2, .int (iI ((p0 : Int)))), (3, .int (iI b))]) hx hb d_Mo_make_29 hl (by decide) rfl (fun ls hl => ?_)
        refine lv_iload_n hx hb d_Mo_make_31 rfl (lv_at hl 2 rfl) ?_
        refine x_i2l hx hb d_Mo_make_32 (by omega) ?_
        refine x_lconst (z := 0) hx hb d_Mo_make_33 (by decide) ?_
        refine x_ldc2 (z := 9) hx hb hown (hts _ w_775) (by decide) d_Mo_make_34 ?_
        refine x_calli B hA (va_runS (As := [.long (lI 2), .long (lI 0), .long (lI 9)]) (rest := []) ⟨hx, hb, hml, hown, hts⟩ (c_Mo_in l D cs _ _ _ 2 0 9 (by omega) (by omega) (by omega)) (va_cwS 3 hts (gw_S w_749 w_750 w_8 w_751) rfl rfl rfl (by decide +kernel) ⟨by rw [hRf]; exact Nat.le_of_ble_eq_true rfl, by rw [hRl]; exact Nat.le_of_ble_eq_true rfl⟩) ⟨K0.blind, B.pre _⟩ rfl rfl hl.1 rfl (lv_room (Nat.le_of_ble_eq_true rfl)) d_Mo_make_37 ⟨by rw [hRc]; omega, by rw [hRs]; omega⟩) (fun r37 g37 H locs hw B => ?_)
        obtain ⟨rfl, rfl⟩ := hw
        rw [if_pos (by omega)]
        have B : Wb D vwCl (TY cs) L (mw f [(y, .inr (7, [.int (iI 0), .ref m1, .ref m2, .ref m3, .int (iI pn), .ref m5, .ref m6, .ref m7, .ref m8, .ref m9, .ref m10, .ref m11, .ref m12, .ref m13, .int (iI rw_), .ref m15, .long (lI fu), .long (lI fb)])), (m5, .inl (cs 0, 72, .inl (ai cv)))]) (AL L s.heap.size) s H _ := B
        refine x_if_eq (tgt := 64) hx hb d_Mo_make_40 (by decide) (by omega) (fun h40 => ?_) (fun h40 => ?_)
        · exfalso; omega
        · refine lv_aload_n hx hb d_Mo_make_43 rfl (lv_at hl 1 rfl) ?_
          refine lv_iload_n hx hb d_Mo_make_44 rfl (lv_at hl 3 rfl) ?_
          refine x_calli B hA (va_runV (As := [.int (iI ((p0 : Int)))]) (rest := []) ⟨hx, hb, hml, hown, hts⟩ (c_Mo_is l D cs _ _ _ y m1 m2 m3 m5 m6 m7 m8 m9 m10 m11 m12 m13 m15 0 pn rw_ fu fb ((p0 : Int)) (hF.pick [0] rfl rfl) (mw_get (X := [(y, .inr (7, [.int (iI 0), .ref m1, .ref m2, .ref m3, .int (iI pn), .ref m5, .ref m6, .ref m7, .ref m8, .ref m9, .ref m10, .ref m11, .ref m12, .ref m13, .int (iI rw_), .ref m15, .long (lI fu), .long (lI fb)])), (m5, .inl (cs 0, 72, .inl (ai cv)))]) hF.1 (k := 0) rfl) hpn (by omega)) (cwV 1 hts (gw_V w_745 w_747 s_29 w_8 w_748) rfl rfl rfl (by decide +kernel) ⟨by rw [hRf]; exact Nat.le_of_ble_eq_true rfl, by rw [hRl]; exact Nat.le_of_ble_eq_true rfl⟩) ⟨K0.blind, B.recv (hF.2 _ (mw_key (k := 0) (X := [(y, .inr (7, [.int (iI 0), .ref m1, .ref m2, .ref m3, .int (iI pn), .ref m5, .ref m6, .ref m7, .ref m8, .ref m9, .ref m10, .ref m11, .ref m12, .ref m13, .int (iI rw_), .ref m15, .long (lI fu), .long (lI fb)])), (m5, .inl (cs 0, 72, .inl (ai cv)))]) rfl)) (mw_get (X := [(y, .inr (7, [.int (iI 0), .ref m1, .ref m2, .ref m3, .int (iI pn), .ref m5, .ref m6, .ref m7, .ref m8, .ref m9, .ref m10, .ref m11, .ref m12, .ref m13, .int (iI rw_), .ref m15, .long (lI fu), .long (lI fb)])), (m5, .inl (cs 0, 72, .inl (ai cv)))]) hF.1 (k := 0) rfl) rfl, B.pre _⟩ rfl rfl hl.1 rfl (lv_room (Nat.le_of_ble_eq_true rfl)) d_Mo_make_45 ⟨by rw [hRc]; omega, by rw [hRs]; omega⟩) (fun r45 g45 H locs hw B => ?_)
          obtain ⟨rfl, rfl⟩ := hw
          rw [if_pos (by omega)]
          have B : Wb D vwCl (TY cs) L (mw f [(y, .inr (7, [.int (iI 0), .ref m1, .ref m2, .ref m3, .int (iI pn), .ref m5, .ref m6, .ref m7, .ref m8, .ref m9, .ref m10, .ref m11, .ref m12, .ref m13, .int (iI rw_), .ref m15, .long (lI fu), .long (lI fb)])), (m5, .inl (cs 0, 72, .inl (ai cv)))]) (AL L s.heap.size) s H _ := B
          refine x_if_eq (tgt := 64) hx hb d_Mo_make_48 (by decide) (by omega) (fun h48 => ?_) (fun h48 => ?_)
          · exfalso; omega
          · refine lv_iload hx hb d_Mo_make_51 (lv_at hl 0 rfl) ?_
            refine x_if_eq (tgt := 66) hx hb d_Mo_make_53 (by decide) (by omega) (fun h53 => ?_) (fun h53 => ?_)
            · exfalso; omega
            · refine lv_aload_n hx hb d_Mo_make_56 rfl (lv_at hl 1 rfl) ?_
              refine lv_iload_n hx hb d_Mo_make_57 rfl (lv_at hl 4 rfl) ?_
              refine x_calli B hA (va_runV (As := [.int (iI b)]) (rest := []) ⟨hx, hb, hml, hown, hts⟩ (c_Mo_is_f l D cs _ _ _ y m1 m2 m3 m5 m6 m7 m8 m9 m10 m11 m12 m13 m15 0 pn rw_ fu fb b (hF.pick [0] rfl rfl) (mw_get (X := [(y, .inr (7, [.int (iI 0), .ref m1, .ref m2, .ref m3, .int (iI pn), .ref m5, .ref m6, .ref m7, .ref m8, .ref m9, .ref m10, .ref m11, .ref m12, .ref m13, .int (iI rw_), .ref m15, .long (lI fu), .long (lI fb)])), (m5, .inl (cs 0, 72, .inl (ai cv)))]) hF.1 (k := 0) rfl) hpn (by omega) (by omega)) (cwV 1 hts (gw_V w_745 w_747 s_29 w_8 w_748) rfl rfl rfl (by decide +kernel) ⟨by rw [hRf]; exact Nat.le_of_ble_eq_true rfl, by rw [hRl]; exact Nat.le_of_ble_eq_true rfl⟩) ⟨K0.blind, B.recv (hF.2 _ (mw_key (k := 0) (X := [(y, .inr (7, [.int (iI 0), .ref m1, .ref m2, .ref m3, .int (iI pn), .ref m5, .ref m6, .ref m7, .ref m8, .ref m9, .ref m10, .ref m11, .ref m12, .ref m13, .int (iI rw_), .ref m15, .long (lI fu), .long (lI fb)])), (m5, .inl (cs 0, 72, .inl (ai cv)))]) rfl)) (mw_get (X := [(y, .inr (7, [.int (iI 0), .ref m1, .ref m2, .ref m3, .int (iI pn), .ref m5, .ref m6, .ref m7, .ref m8, .ref m9, .ref m10, .ref m11, .ref m12, .ref m13, .int (iI rw_), .ref m15, .long (lI fu), .long (lI fb)])), (m5, .inl (cs 0, 72, .inl (ai cv)))]) hF.1 (k := 0) rfl) rfl, B.pre _⟩ rfl rfl hl.1 rfl (lv_room (Nat.le_of_ble_eq_true rfl)) d_Mo_make_58 ⟨by rw [hRc]; omega, by rw [hRs]; omega⟩) (fun r58 g58 H locs hw B => ?_)
              obtain ⟨rfl, rfl⟩ := hw
              have B : Wb D vwCl (TY cs) L (mw f [(y, .inr (7, [.int (iI 0), .ref m1, .ref m2, .ref m3, .int (iI pn), .ref m5, .ref m6, .ref m7, .ref m8, .ref m9, .ref m10, .ref m11, .ref m12, .ref m13, .int (iI rw_), .ref m15, .long (lI fu), .long (lI fb)])), (m5, .inl (cs 0, 72, .inl (ai cv)))]) (AL L s.heap.size) s H _ := B
              refine x_if_ne (tgt := 66) hx hb d_Mo_make_61 (by decide) (by omega) (fun h61 => ?_) (fun h61 => ?_)
              · exfalso; omega
              · refine x_iconst hx hb d_Mo_make_64 ?_
                subst hQ hav
                exact x_iret hx hb hr hlocks B d_Mo_make_65 (⟨rfl, mw_tail (X := [(y, .inr (7, [.int (iI 0), .ref m1, .ref m2, .ref m3, .int (iI pn), .ref m5, .ref m6, .ref m7, .ref m8, .ref m9, .ref m10, .ref m11, .ref m12, .ref m13, .int (iI rw_), .ref m15, .long (lI fu), .long (lI fb)]))]) (Y := [(m5, .inl (cs 0, 72, .inl (ai cv)))]) (fun p hp => hfx p (List.mem_cons_of_mem _ hp))⟩)
      · exfalso; omega
set_option maxHeartbeats 8000000 in
set_option maxRecDepth 100000 in
theorem c_Mo_make_u4 (l : Launch) (D : va_G) (cs : Nat → ClassId) (L : List Nat) (f : Nat → va_E) (sz : Nat) (y m1 m2 m3 m5 m6 m7 m8 m9 m10 m11 m12 m13 m15 : Nat) (th pn rw_ fu fb : Int) (cv : Nat → Int) (p0 : Nat) (b : Int) (hF : Fc L [y, m5]) (ha : f y = .inr (7, [.int (iI th), .ref m1, .ref m2, .ref m3, .int (iI pn), .ref m5, .ref m6, .ref m7, .ref m8, .ref m9, .ref m10, .ref m11, .ref m12, .ref m13, .int (iI rw_), .ref m15, .long (lI fu), .long (lI fb)])) (hm5 : f m5 = .inl (cs 0, 72, .inl (ai cv))) (hp0 : p0 < 12) (hcv : ∀ j, j < 72 → -1000 ≤ cv j ∧ cv j ≤ 1000) (hpn : 0 ≤ pn ∧ pn ≤ 12) (hpp : (p0 : Int) < pn) (hun : b < 0 ∨ pn ≤ b) (hb : -2147483648 ≤ b ∧ b < 2147483648) : Met l (⟨"RealRootsModel", "make", "(III)I"⟩ : MethodName) (.code (⟨"RealRootsModel", "make", "(III)I"⟩ : MethodName) prog_9_method_36_code 9 (Option.some Jvm.ClassFile.FieldType.int) :: gw) ({ frames := 2, cells := 0, slots := 0, locals := 60 }) (va_Pc [.ref y, .int (iI 4), .int (iI ((p0 : Int))), .int (iI b)] (K0 D vwCl (TY cs) L f sz)) (va_Qi (fun (r : Int32) (g : Nat → va_E) => r = iI (-1) ∧ g = mw f [(y, .inr (7, [.int (iI 0), .ref m1, .ref m2, .ref m3, .int (iI pn), .ref m5, .ref m6, .ref m7, .ref m8, .ref m9, .ref m10, .ref m11, .ref m12, .ref m13, .int (iI rw_), .ref m15, .long (lI fu), .long (lI fb)]))]) (K1 D vwCl (TY cs) (AL L sz) L) (AL L sz)) 0 0 (AL L sz) := by
  refine Met.ofW (cc := prog_9_method_36_code) (maxL := 9) (ret := (Option.some Jvm.ClassFile.FieldType.int)) (by decide) rfl ?_
  intro p e s m args below meth c s₁ Bd hml hv
  obtain ⟨rfl, hk0⟩ := hv
  obtain ⟨hsz, B⟩ := hk0.start
  subst hsz
  have hx := Bd.exec
  have hb := Bd.bytes
  have hr := Bd.returns
  have hlocks := Bd.notSynchronized
  have hts0 := atoms_spec Bd.pre
  have hown : s.vm.findClass RX7 = some m.cls := findClass_of_methodNamed Bd.named
  have hA : ∀ q, s.heap.size ≤ q → AL L s.heap.size q := fun _ h => Or.inr h
  have hl := lv_entry ([.ref y, .int (iI 4), .int (iI ((p0 : Int))), .int (iI b)]) (n := 9) (Nat.le_of_ble_eq_true rfl)
  rw [lg_entry_eq]
  generalize (lg_sl ([.ref y, .int (iI 4), .int (iI ((p0 : Int))), .int (iI b)]) ++ List.replicate (9 - (lg_sl ([.ref y, .int (iI 4), .int (iI ((p0 : Int))), .int (iI b)])).length) Slot.unset).toArray = ls at hl ⊢
  refine absQ (fun Q R av hQ hR hav => ?_)
  have hts : ∀ w ∈ gw, w.before av s = true := by rw [hav]; exact fun w h => hts0 w (List.mem_cons_of_mem _ h)
  have hRf : R.frames = 2 := by rw [hR]; rfl
  have hRl : R.locals = 60 := by rw [hR]; rfl
  have hRc : R.cells = 0 := by rw [hR]; rfl
  have hRs : R.slots = 0 := by rw [hR]; rfl
  clear hR hts0 Bd
  have hl : lv_has ls 9 [(0, .ref y), (1, .int (iI 4)), (2, .int (iI ((p0 : Int)))), (3, .int (iI b))] := hl
  have hfx : ∀ q ∈ ([(y, .inr (7, [.int (iI th), .ref m1, .ref m2, .ref m3, .int (iI pn), .ref m5, .ref m6, .ref m7, .ref m8, .ref m9, .ref m10, .ref m11, .ref m12, .ref m13, .int (iI rw_), .ref m15, .long (lI fu), .long (lI fb)])), (m5, .inl (cs 0, 72, .inl (ai cv)))] : List (Nat × va_E)), f q.1 = q.2 := fun q hq => by
    simp only [List.mem_cons, List.not_mem_nil, or_false] at hq
    rcases hq with rfl | rfl
    · exact ha
    · exact hm5
  have hmw : mw f [(y, .inr (7, [.int (iI th), .ref m1, .ref m2, .ref m3, .int (iI pn), .ref m5, .ref m6, .ref m7, .ref m8, .ref m9, .ref m10, .ref m11, .ref m12, .ref m13, .int (iI rw_), .ref m15, .long (lI fu), .long (lI fb)])), (m5, .inl (cs 0, 72, .inl (ai cv)))] = f := mw_self (fun k a e hk => hfx (a, e) (List.mem_of_getElem? hk))
  have B := B.focus [(y, .inr (7, [.int (iI th), .ref m1, .ref m2, .ref m3, .int (iI pn), .ref m5, .ref m6, .ref m7, .ref m8, .ref m9, .ref m10, .ref m11, .ref m12, .ref m13, .int (iI rw_), .ref m15, .long (lI fu), .long (lI fb)])), (m5, .inl (cs 0, 72, .inl (ai cv)))] hfx
  refine lv_aload_n hx hb d_Mo_make_0 rfl (lv_at hl 0 rfl) ?_
  refine x_iconst hx hb d_Mo_make_1 ?_
  refine x_put (C := RX7) (T := TX7) (N := 18) hx hb hts inX7 tyX7 tyX7_ok nmX7 hown B hF 0 rfl rfl 0 (by decide) (hts _ w_677) (fun _ h9 => h9) rfl (tyX7_ok 0 (by decide)) rfl rfl (Nat.le_of_ble_eq_true rfl) d_Mo_make_2 (fun H locs B => ?_)
  have B : Wb D vwCl (TY cs) L (mw f [(y, .inr (7, [.int (iI 0), .ref m1, .ref m2, .ref m3, .int (iI pn), .ref m5, .ref m6, .ref m7, .ref m8, .ref m9, .ref m10, .ref m11, .ref m12, .ref m13, .int (iI rw_), .ref m15, .long (lI fu), .long (lI fb)])), (m5, .inl (cs 0, 72, .inl (ai cv)))]) (AL L s.heap.size) s H _ := B
  refine lv_iload_n hx hb d_Mo_make_5 rfl (lv_at hl 1 rfl) ?_
  refine x_if_eq (tgt := 24) hx hb d_Mo_make_6 (by decide) (by omega) (fun h6 => ?_) (fun h6 => ?_)
  · exfalso; omega
  · refine lv_iload_n hx hb d_Mo_make_9 rfl (lv_at hl 1 rfl) ?_
    refine x_iconst hx hb d_Mo_make_10 ?_
    refine x_icmp_eq (tgt := 24) hx hb d_Mo_make_11 (by decide) (by omega) (by omega) (fun h11 => ?_) (fun h11 => ?_)
    · exfalso; omega
    · refine lv_iload_n hx hb d_Mo_make_14 rfl (lv_at hl 1 rfl) ?_
      refine x_iconst hx hb d_Mo_make_15 ?_
      refine x_icmp_eq (tgt := 24) hx hb d_Mo_make_16 (by decide) (by omega) (by omega) (fun h16 => ?_) (fun h16 => ?_)
      · exfalso; omega
      · refine lv_iload_n hx hb d_Mo_make_19 rfl (lv_at hl 1 rfl) ?_
        refine x_iconst hx hb d_Mo_make_20 ?_
        refine x_icmp_ne (tgt := 28) hx hb d_Mo_make_21 (by decide) (by omega) (by omega) (fun h21 => ?_) (fun h21 => ?_)
        · exfalso; omega
        · refine x_iconst hx hb d_Mo_make_24 ?_
          refine lv_goto (tgt := 29) hx hb d_Mo_make_25 (by decide) ?_
          refine lv_istore (lv' := [(4, .int (iI 1)), (0, .ref y), (1, .int (iI 4)), (2, .int (iI ((p0 : Int)))), (3, .int (iI b))]) hx hb d_Mo_make_29 hl (by decide) rfl (fun ls hl => ?_)
          refine lv_iload_n hx hb d_Mo_make_31 rfl (lv_at hl 2 rfl) ?_
          refine x_i2l hx hb d_Mo_make_32 (by omega) ?_
          refine x_lconst (z := 0) hx hb d_Mo_make_33 (by decide) ?_
          refine x_ldc2 (z := 9) hx hb hown (hts _ w_775) (by decide) d_Mo_make_34 ?_
          refine x_calli B hA (va_runS (As := [.long (lI 4), .long (lI 0), .long (lI 9)]) (rest := []) ⟨hx, hb, hml, hown, hts⟩ (c_Mo_in l D cs _ _ _ 4 0 9 (by omega) (by omega) (by omega)) (va_cwS 3 hts (gw_S w_749 w_750 w_8 w_751) rfl rfl rfl (by decide +kernel) ⟨by rw [hRf]; exact Nat.le_of_ble_eq_true rfl, by rw [hRl]; exact Nat.le_of_ble_eq_true rfl⟩) ⟨K0.blind, B.pre _⟩ rfl rfl hl.1 rfl (lv_room (Nat.le_of_ble_eq_true rfl)) d_Mo_make_37 ⟨by rw [hRc]; omega, by rw [hRs]; omega⟩) (fun r37 g37 H locs hw B => ?_)
          obtain ⟨rfl, rfl⟩ := hw
          rw [if_pos (by omega)]
          have B : Wb D vwCl (TY cs) L (mw f [(y, .inr (7, [.int (iI 0), .ref m1, .ref m2, .ref m3, .int (iI pn), .ref m5, .ref m6, .ref m7, .ref m8, .ref m9, .ref m10, .ref m11, .ref m12, .ref m13, .int (iI rw_), .ref m15, .long (lI fu), .long (lI fb)])), (m5, .inl (cs 0, 72, .inl (ai cv)))]) (AL L s.heap.size) s H _ := B
          refine x_if_eq (tgt := 64) hx hb d_Mo_make_40 (by decide) (by omega) (fun h40 => ?_) (fun h40 => ?_)
          · exfalso; omega
          · refine lv_aload_n hx hb d_Mo_make_43 rfl (lv_at hl 1 rfl) ?_
            refine lv_iload_n hx hb d_Mo_make_44 rfl (lv_at hl 3 rfl) ?_
            refine x_calli B hA (va_runV (As := [.int (iI ((p0 : Int)))]) (rest := []) ⟨hx, hb, hml, hown, hts⟩ (c_Mo_is l D cs _ _ _ y m1 m2 m3 m5 m6 m7 m8 m9 m10 m11 m12 m13 m15 0 pn rw_ fu fb ((p0 : Int)) (hF.pick [0] rfl rfl) (mw_get (X := [(y, .inr (7, [.int (iI 0), .ref m1, .ref m2, .ref m3, .int (iI pn), .ref m5, .ref m6, .ref m7, .ref m8, .ref m9, .ref m10, .ref m11, .ref m12, .ref m13, .int (iI rw_), .ref m15, .long (lI fu), .long (lI fb)])), (m5, .inl (cs 0, 72, .inl (ai cv)))]) hF.1 (k := 0) rfl) hpn (by omega)) (cwV 1 hts (gw_V w_745 w_747 s_29 w_8 w_748) rfl rfl rfl (by decide +kernel) ⟨by rw [hRf]; exact Nat.le_of_ble_eq_true rfl, by rw [hRl]; exact Nat.le_of_ble_eq_true rfl⟩) ⟨K0.blind, B.recv (hF.2 _ (mw_key (k := 0) (X := [(y, .inr (7, [.int (iI 0), .ref m1, .ref m2, .ref m3, .int (iI pn), .ref m5, .ref m6, .ref m7, .ref m8, .ref m9, .ref m10, .ref m11, .ref m12, .ref m13, .int (iI rw_), .ref m15, .long (lI fu), .long (lI fb)])), (m5, .inl (cs 0, 72, .inl (ai cv)))]) rfl)) (mw_get (X := [(y, .inr (7, [.int (iI 0), .ref m1, .ref m2, .ref m3, .int (iI pn), .ref m5, .ref m6, .ref m7, .ref m8, .ref m9, .ref m10, .ref m11, .ref m12, .ref m13, .int (iI rw_), .ref m15, .long (lI fu), .long (lI fb)])), (m5, .inl (cs 0, 72, .inl (ai cv)))]) hF.1 (k := 0) rfl) rfl, B.pre _⟩ rfl rfl hl.1 rfl (lv_room (Nat.le_of_ble_eq_true rfl)) d_Mo_make_45 ⟨by rw [hRc]; omega, by rw [hRs]; omega⟩) (fun r45 g45 H locs hw B => ?_)
            obtain ⟨rfl, rfl⟩ := hw
            rw [if_pos (by omega)]
            have B : Wb D vwCl (TY cs) L (mw f [(y, .inr (7, [.int (iI 0), .ref m1, .ref m2, .ref m3, .int (iI pn), .ref m5, .ref m6, .ref m7, .ref m8, .ref m9, .ref m10, .ref m11, .ref m12, .ref m13, .int (iI rw_), .ref m15, .long (lI fu), .long (lI fb)])), (m5, .inl (cs 0, 72, .inl (ai cv)))]) (AL L s.heap.size) s H _ := B
            refine x_if_eq (tgt := 64) hx hb d_Mo_make_48 (by decide) (by omega) (fun h48 => ?_) (fun h48 => ?_)
            · exfalso; omega
            · refine lv_iload hx hb d_Mo_make_51 (lv_at hl 0 rfl) ?_
              refine x_if_eq (tgt := 66) hx hb d_Mo_make_53 (by decide) (by omega) (fun h53 => ?_) (fun h53 => ?_)
              · exfalso; omega
              · refine lv_aload_n hx hb d_Mo_make_56 rfl (lv_at hl 1 rfl) ?_
                refine lv_iload_n hx hb d_Mo_make_57 rfl (lv_at hl 4 rfl) ?_
                refine x_calli B hA (va_runV (As := [.int (iI b)]) (rest := []) ⟨hx, hb, hml, hown, hts⟩ (c_Mo_is_f l D cs _ _ _ y m1 m2 m3 m5 m6 m7 m8 m9 m10 m11 m12 m13 m15 0 pn rw_ fu fb b (hF.pick [0] rfl rfl) (mw_get (X := [(y, .inr (7, [.int (iI 0), .ref m1, .ref m2, .ref m3, .int (iI pn), .ref m5, .ref m6, .ref m7, .ref m8, .ref m9, .ref m10, .ref m11, .ref m12, .ref m13, .int (iI rw_), .ref m15, .long (lI fu), .long (lI fb)])), (m5, .inl (cs 0, 72, .inl (ai cv)))]) hF.1 (k := 0) rfl) hpn (by omega) (by omega)) (cwV 1 hts (gw_V w_745 w_747 s_29 w_8 w_748) rfl rfl rfl (by decide +kernel) ⟨by rw [hRf]; exact Nat.le_of_ble_eq_true rfl, by rw [hRl]; exact Nat.le_of_ble_eq_true rfl⟩) ⟨K0.blind, B.recv (hF.2 _ (mw_key (k := 0) (X := [(y, .inr (7, [.int (iI 0), .ref m1, .ref m2, .ref m3, .int (iI pn), .ref m5, .ref m6, .ref m7, .ref m8, .ref m9, .ref m10, .ref m11, .ref m12, .ref m13, .int (iI rw_), .ref m15, .long (lI fu), .long (lI fb)])), (m5, .inl (cs 0, 72, .inl (ai cv)))]) rfl)) (mw_get (X := [(y, .inr (7, [.int (iI 0), .ref m1, .ref m2, .ref m3, .int (iI pn), .ref m5, .ref m6, .ref m7, .ref m8, .ref m9, .ref m10, .ref m11, .ref m12, .ref m13, .int (iI rw_), .ref m15, .long (lI fu), .long (lI fb)])), (m5, .inl (cs 0, 72, .inl (ai cv)))]) hF.1 (k := 0) rfl) rfl, B.pre _⟩ rfl rfl hl.1 rfl (lv_room (Nat.le_of_ble_eq_true rfl)) d_Mo_make_58 ⟨by rw [hRc]; omega, by rw [hRs]; omega⟩) (fun r58 g58 H locs hw B => ?_)
                obtain ⟨rfl, rfl⟩ := hw
                have B : Wb D vwCl (TY cs) L (mw f [(y, .inr (7, [.int (iI 0), .ref m1, .ref m2, .ref m3, .int (iI pn), .ref m5, .ref m6, .ref m7, .ref m8, .ref m9, .ref m10, .ref m11, .ref m12, .ref m13, .int (iI rw_), .ref m15, .long (lI fu), .long (lI fb)])), (m5, .inl (cs 0, 72, .inl (ai cv)))]) (AL L s.heap.size) s H _ := B
                refine x_if_ne (tgt := 66) hx hb d_Mo_make_61 (by decide) (by omega) (fun h61 => ?_) (fun h61 => ?_)
                · exfalso; omega
                · refine x_iconst hx hb d_Mo_make_64 ?_
                  subst hQ hav
                  exact x_iret hx hb hr hlocks B d_Mo_make_65 (⟨rfl, mw_tail (X := [(y, .inr (7, [.int (iI 0), .ref m1, .ref m2, .ref m3, .int (iI pn), .ref m5, .ref m6, .ref m7, .ref m8, .ref m9, .ref m10, .ref m11, .ref m12, .ref m13, .int (iI rw_), .ref m15, .long (lI fu), .long (lI fb)]))]) (Y := [(m5, .inl (cs 0, 72, .inl (ai cv)))]) (fun p hp => hfx p (List.mem_cons_of_mem _ hp))⟩)
set_option maxHeartbeats 8000000 in
set_option maxRecDepth 100000 in
theorem c_Mo_make_b6 (l : Launch) (D : va_G) (cs : Nat → ClassId) (L : List Nat) (f : Nat → va_E) (sz : Nat) (y m1 m2 m3 m5 m6 m7 m8 m9 m10 m11 m12 m13 m15 : Nat) (th pn rw_ fu fb : Int) (cv : Nat → Int) (p0 : Nat) (b : Int) (hF : Fc L [y, m5]) (ha : f y = .inr (7, [.int (iI th), .ref m1, .ref m2, .ref m3, .int (iI pn), .ref m5, .ref m6, .ref m7, .ref m8, .ref m9, .ref m10, .ref m11, .ref m12, .ref m13, .int (iI rw_), .ref m15, .long (lI fu), .long (lI fb)])) (hm5 : f m5 = .inl (cs 0, 72, .inl (ai cv))) (hp0 : p0 < 12) (hcv : ∀ j, j < 72 → -1000 ≤ cv j ∧ cv j ≤ 1000) (hpn : 0 ≤ pn ∧ pn ≤ 12) (hpp : (p0 : Int) < pn) (hbd : b < -1000 ∨ 1000 < b) (hb : -2147483648 ≤ b ∧ b < 2147483648) : Met l (⟨"RealRootsModel", "make", "(III)I"⟩ : MethodName) (.code (⟨"RealRootsModel", "make", "(III)I"⟩ : MethodName) prog_9_method_36_code 9 (Option.some Jvm.ClassFile.FieldType.int) :: gw) ({ frames := 2, cells := 0, slots := 0, locals := 60 }) (va_Pc [.ref y, .int (iI 6), .int (iI ((p0 : Int))), .int (iI b)] (K0 D vwCl (TY cs) L f sz)) (va_Qi (fun (r : Int32) (g : Nat → va_E) => r = iI (-2) ∧ g = mw f [(y, .inr (7, [.int (iI 0), .ref m1, .ref m2, .ref m3, .int (iI pn), .ref m5, .ref m6, .ref m7, .ref m8, .ref m9, .ref m10, .ref m11, .ref m12, .ref m13, .int (iI rw_), .ref m15, .long (lI fu), .long (lI fb)]))]) (K1 D vwCl (TY cs) (AL L sz) L) (AL L sz)) 0 0 (AL L sz) := by
  refine Met.ofW (cc := prog_9_method_36_code) (maxL := 9) (ret := (Option.some Jvm.ClassFile.FieldType.int)) (by decide) rfl ?_
  intro p e s m args below meth c s₁ Bd hml hv
  obtain ⟨rfl, hk0⟩ := hv
  obtain ⟨hsz, B⟩ := hk0.start
  subst hsz
  have hx := Bd.exec
  have hb := Bd.bytes
  have hr := Bd.returns
  have hlocks := Bd.notSynchronized
  have hts0 := atoms_spec Bd.pre
  have hown : s.vm.findClass RX7 = some m.cls := findClass_of_methodNamed Bd.named
  have hA : ∀ q, s.heap.size ≤ q → AL L s.heap.size q := fun _ h => Or.inr h
  have hl := lv_entry ([.ref y, .int (iI 6), .int (iI ((p0 : Int))), .int (iI b)]) (n := 9) (Nat.le_of_ble_eq_true rfl)
  rw [lg_entry_eq]
  generalize (lg_sl ([.ref y, .int (iI 6), .int (iI ((p0 : Int))), .int (iI b)]) ++ List.replicate (9 - (lg_sl ([.ref y, .int (iI 6), .int (iI ((p0 : Int))), .int (iI b)])).length) Slot.unset).toArray = ls at hl ⊢
  refine absQ (fun Q R av hQ hR hav => ?_)
  have hts : ∀ w ∈ gw, w.before av s = true := by rw [hav]; exact fun w h => hts0 w (List.mem_cons_of_mem _ h)
  have hRf : R.frames = 2 := by rw [hR]; rfl
  have hRl : R.locals = 60 := by rw [hR]; rfl
  have hRc : R.cells = 0 := by rw [hR]; rfl
  have hRs : R.slots = 0 := by rw [hR]; rfl
  clear hR hts0 Bd
  have hl : lv_has ls 9 [(0, .ref y), (1, .int (iI 6)), (2, .int (iI ((p0 : Int)))), (3, .int (iI b))] := hl
  have hfx : ∀ q ∈ ([(y, .inr (7, [.int (iI th), .ref m1, .ref m2, .ref m3, .int (iI pn), .ref m5, .ref m6, .ref m7, .ref m8, .ref m9, .ref m10, .ref m11, .ref m12, .ref m13, .int (iI rw_), .ref m15, .long (lI fu), .long (lI fb)])), (m5, .inl (cs 0, 72, .inl (ai cv)))] : List (Nat × va_E)), f q.1 = q.2 := fun q hq => by
    simp only [List.mem_cons, List.not_mem_nil, or_false] at hq
    rcases hq with rfl | rfl
    · exact ha
    · exact hm5
  have hmw : mw f [(y, .inr (7, [.int (iI th), .ref m1, .ref m2, .ref m3, .int (iI pn), .ref m5, .ref m6, .ref m7, .ref m8, .ref m9, .ref m10, .ref m11, .ref m12, .ref m13, .int (iI rw_), .ref m15, .long (lI fu), .long (lI fb)])), (m5, .inl (cs 0, 72, .inl (ai cv)))] = f := mw_self (fun k a e hk => hfx (a, e) (List.mem_of_getElem? hk))
  have B := B.focus [(y, .inr (7, [.int (iI th), .ref m1, .ref m2, .ref m3, .int (iI pn), .ref m5, .ref m6, .ref m7, .ref m8, .ref m9, .ref m10, .ref m11, .ref m12, .ref m13, .int (iI rw_), .ref m15, .long (lI fu), .long (lI fb)])), (m5, .inl (cs 0, 72, .inl (ai cv)))] hfx
  refine lv_aload_n hx hb d_Mo_make_0 rfl (lv_at hl 0 rfl) ?_
  refine x_iconst hx hb d_Mo_make_1 ?_
  refine x_put (C := RX7) (T := TX7) (N := 18) hx hb hts inX7 tyX7 tyX7_ok nmX7 hown B hF 0 rfl rfl 0 (by decide) (hts _ w_677) (fun _ h9 => h9) rfl (tyX7_ok 0 (by decide)) rfl rfl (Nat.le_of_ble_eq_true rfl) d_Mo_make_2 (fun H locs B => ?_)
  have B : Wb D vwCl (TY cs) L (mw f [(y, .inr (7, [.int (iI 0), .ref m1, .ref m2, .ref m3, .int (iI pn), .ref m5, .ref m6, .ref m7, .ref m8, .ref m9, .ref m10, .ref m11, .ref m12, .ref m13, .int (iI rw_), .ref m15, .long (lI fu), .long (lI fb)])), (m5, .inl (cs 0, 72, .inl (ai cv)))]) (AL L s.heap.size) s H _ := B
  refine lv_iload_n hx hb d_Mo_make_5 rfl (lv_at hl 1 rfl) ?_
  refine x_if_eq (tgt := 24) hx hb d_Mo_make_6 (by decide) (by omega) (fun h6 => ?_) (fun h6 => ?_)
  · exfalso; omega
  · refine lv_iload_n hx hb d_Mo_make_9 rfl (lv_at hl 1 rfl) ?_
    refine x_iconst hx hb d_Mo_make_10 ?_
    refine x_icmp_eq (tgt := 24) hx hb d_Mo_make_11 (by decide) (by omega) (by omega) (fun h11 => ?_) (fun h11 => ?_)
    · exfalso; omega
    · refine lv_iload_n hx hb d_Mo_make_14 rfl (lv_at hl 1 rfl) ?_
      refine x_iconst hx hb d_Mo_make_15 ?_
      refine x_icmp_eq (tgt := 24) hx hb d_Mo_make_16 (by decide) (by omega) (by omega) (fun h16 => ?_) (fun h16 => ?_)
      · exfalso; omega
      · refine lv_iload_n hx hb d_Mo_make_19 rfl (lv_at hl 1 rfl) ?_
        refine x_iconst hx hb d_Mo_make_20 ?_
        refine x_icmp_ne (tgt := 28) hx hb d_Mo_make_21 (by decide) (by omega) (by omega) (fun h21 => ?_) (fun h21 => ?_)
        · refine x_iconst hx hb d_Mo_make_28 ?_
          refine lv_istore (lv' := [(4, .int (iI 0)), (0, .ref y), (1, .int (iI 6)), (2, .int (iI ((p0 : Int)))), (3, .int (iI b))]) hx hb d_Mo_make_29 hl (by decide) rfl (fun ls hl => ?_)
          refine lv_iload_n hx hb d_Mo_make_31 rfl (lv_at hl 2 rfl) ?_
          refine x_i2l hx hb d_Mo_make_32 (by omega) ?_
          refine x_lconst (z := 0) hx hb d_Mo_make_33 (by decide) ?_
          refine x_ldc2 (z := 9) hx hb hown (hts _ w_775) (by decide) d_Mo_make_34 ?_
          refine x_calli B hA (va_runS (As := [.long (lI 6), .long (lI 0), .long (lI 9)]) (rest := []) ⟨hx, hb, hml, hown, hts⟩ (c_Mo_in l D cs _ _ _ 6 0 9 (by omega) (by omega) (by omega)) (va_cwS 3 hts (gw_S w_749 w_750 w_8 w_751) rfl rfl rfl (by decide +kernel) ⟨by rw [hRf]; exact Nat.le_of_ble_eq_true rfl, by rw [hRl]; exact Nat.le_of_ble_eq_true rfl⟩) ⟨K0.blind, B.pre _⟩ rfl rfl hl.1 rfl (lv_room (Nat.le_of_ble_eq_true rfl)) d_Mo_make_37 ⟨by rw [hRc]; omega, by rw [hRs]; omega⟩) (fun r37 g37 H locs hw B => ?_)
          obtain ⟨rfl, rfl⟩ := hw
          rw [if_pos (by omega)]
          have B : Wb D vwCl (TY cs) L (mw f [(y, .inr (7, [.int (iI 0), .ref m1, .ref m2, .ref m3, .int (iI pn), .ref m5, .ref m6, .ref m7, .ref m8, .ref m9, .ref m10, .ref m11, .ref m12, .ref m13, .int (iI rw_), .ref m15, .long (lI fu), .long (lI fb)])), (m5, .inl (cs 0, 72, .inl (ai cv)))]) (AL L s.heap.size) s H _ := B
          refine x_if_eq (tgt := 64) hx hb d_Mo_make_40 (by decide) (by omega) (fun h40 => ?_) (fun h40 => ?_)
          · exfalso; omega
          · refine lv_aload_n hx hb d_Mo_make_43 rfl (lv_at hl 1 rfl) ?_
            refine lv_iload_n hx hb d_Mo_make_44 rfl (lv_at hl 3 rfl) ?_
            refine x_calli B hA (va_runV (As := [.int (iI ((p0 : Int)))]) (rest := []) ⟨hx, hb, hml, hown, hts⟩ (c_Mo_is l D cs _ _ _ y m1 m2 m3 m5 m6 m7 m8 m9 m10 m11 m12 m13 m15 0 pn rw_ fu fb ((p0 : Int)) (hF.pick [0] rfl rfl) (mw_get (X := [(y, .inr (7, [.int (iI 0), .ref m1, .ref m2, .ref m3, .int (iI pn), .ref m5, .ref m6, .ref m7, .ref m8, .ref m9, .ref m10, .ref m11, .ref m12, .ref m13, .int (iI rw_), .ref m15, .long (lI fu), .long (lI fb)])), (m5, .inl (cs 0, 72, .inl (ai cv)))]) hF.1 (k := 0) rfl) hpn (by omega)) (cwV 1 hts (gw_V w_745 w_747 s_29 w_8 w_748) rfl rfl rfl (by decide +kernel) ⟨by rw [hRf]; exact Nat.le_of_ble_eq_true rfl, by rw [hRl]; exact Nat.le_of_ble_eq_true rfl⟩) ⟨K0.blind, B.recv (hF.2 _ (mw_key (k := 0) (X := [(y, .inr (7, [.int (iI 0), .ref m1, .ref m2, .ref m3, .int (iI pn), .ref m5, .ref m6, .ref m7, .ref m8, .ref m9, .ref m10, .ref m11, .ref m12, .ref m13, .int (iI rw_), .ref m15, .long (lI fu), .long (lI fb)])), (m5, .inl (cs 0, 72, .inl (ai cv)))]) rfl)) (mw_get (X := [(y, .inr (7, [.int (iI 0), .ref m1, .ref m2, .ref m3, .int (iI pn), .ref m5, .ref m6, .ref m7, .ref m8, .ref m9, .ref m10, .ref m11, .ref m12, .ref m13, .int (iI rw_), .ref m15, .long (lI fu), .long (lI fb)])), (m5, .inl (cs 0, 72, .inl (ai cv)))]) hF.1 (k := 0) rfl) rfl, B.pre _⟩ rfl rfl hl.1 rfl (lv_room (Nat.le_of_ble_eq_true rfl)) d_Mo_make_45 ⟨by rw [hRc]; omega, by rw [hRs]; omega⟩) (fun r45 g45 H locs hw B => ?_)
            obtain ⟨rfl, rfl⟩ := hw
            rw [if_pos (by omega)]
            have B : Wb D vwCl (TY cs) L (mw f [(y, .inr (7, [.int (iI 0), .ref m1, .ref m2, .ref m3, .int (iI pn), .ref m5, .ref m6, .ref m7, .ref m8, .ref m9, .ref m10, .ref m11, .ref m12, .ref m13, .int (iI rw_), .ref m15, .long (lI fu), .long (lI fb)])), (m5, .inl (cs 0, 72, .inl (ai cv)))]) (AL L s.heap.size) s H _ := B
            refine x_if_eq (tgt := 64) hx hb d_Mo_make_48 (by decide) (by omega) (fun h48 => ?_) (fun h48 => ?_)
            · exfalso; omega
            · refine lv_iload hx hb d_Mo_make_51 (lv_at hl 0 rfl) ?_
              refine x_if_eq (tgt := 66) hx hb d_Mo_make_53 (by decide) (by omega) (fun h53 => ?_) (fun h53 => ?_)
              · refine lv_iload_n hx hb d_Mo_make_66 rfl (lv_at hl 2 rfl) ?_
                refine x_bipush hx hb d_Mo_make_67 (by decide) ?_
                refine x_icmp_eq (tgt := 78) hx hb d_Mo_make_69 (by decide) (by omega) (by omega) (fun h69 => ?_) (fun h69 => ?_)
                · refine x_iconst hx hb d_Mo_make_78 ?_
                  refine lv_goto (tgt := 83) hx hb d_Mo_make_79 (by decide) ?_
                  refine lv_istore (lv' := [(5, .int (iI 1)), (4, .int (iI 0)), (0, .ref y), (1, .int (iI 6)), (2, .int (iI ((p0 : Int)))), (3, .int (iI b))]) hx hb d_Mo_make_83 hl (by decide) rfl (fun ls hl => ?_)
                  refine lv_iload hx hb d_Mo_make_85 (lv_at hl 0 rfl) ?_
                  refine x_if_eq (tgt := 107) hx hb d_Mo_make_87 (by decide) (by omega) (fun h87 => ?_) (fun h87 => ?_)
                  · exfalso; omega
                  · refine lv_iload_n hx hb d_Mo_make_90 rfl (lv_at hl 5 rfl) ?_
                    refine x_i2l hx hb d_Mo_make_91 (by omega) ?_
                    refine x_ldc2 (z := -1000) hx hb hown (hts _ w_753) (by decide) d_Mo_make_92 ?_
                    refine x_ldc2 (z := 1000) hx hb hown (hts _ w_754) (by decide) d_Mo_make_95 ?_
                    refine x_calli B hA (va_runS (As := [.long (lI b), .long (lI (-1000)), .long (lI 1000)]) (rest := []) ⟨hx, hb, hml, hown, hts⟩ (c_Mo_in l D cs _ _ _ b (-1000) 1000 (by omega) (by omega) (by omega)) (va_cwS 3 hts (gw_S w_749 w_750 w_8 w_751) rfl rfl rfl (by decide +kernel) ⟨by rw [hRf]; exact Nat.le_of_ble_eq_true rfl, by rw [hRl]; exact Nat.le_of_ble_eq_true rfl⟩) ⟨K0.blind, B.pre _⟩ rfl rfl hl.1 rfl (lv_room (Nat.le_of_ble_eq_true rfl)) d_Mo_make_98 ⟨by rw [hRc]; omega, by rw [hRs]; omega⟩) (fun r98 g98 H locs hw B => ?_)
                    obtain ⟨rfl, rfl⟩ := hw
                    rw [if_neg (by omega)]
                    have B : Wb D vwCl (TY cs) L (mw f [(y, .inr (7, [.int (iI 0), .ref m1, .ref m2, .ref m3, .int (iI pn), .ref m5, .ref m6, .ref m7, .ref m8, .ref m9, .ref m10, .ref m11, .ref m12, .ref m13, .int (iI rw_), .ref m15, .long (lI fu), .long (lI fb)])), (m5, .inl (cs 0, 72, .inl (ai cv)))]) (AL L s.heap.size) s H _ := B
                    refine x_if_ne (tgt := 107) hx hb d_Mo_make_101 (by decide) (by omega) (fun h101 => ?_) (fun h101 => ?_)
                    · exfalso; omega
                    · refine x_bipush hx hb d_Mo_make_104 (by decide) ?_
                      subst hQ hav
                      exact x_iret hx hb hr hlocks B d_Mo_make_106 (⟨rfl, mw_tail (X := [(y, .inr (7, [.int (iI 0), .ref m1, .ref m2, .ref m3, .int (iI pn), .ref m5, .ref m6, .ref m7, .ref m8, .ref m9, .ref m10, .ref m11, .ref m12, .ref m13, .int (iI rw_), .ref m15, .long (lI fu), .long (lI fb)]))]) (Y := [(m5, .inl (cs 0, 72, .inl (ai cv)))]) (fun p hp => hfx p (List.mem_cons_of_mem _ hp))⟩)
                · exfalso; omega
              · exfalso; omega
        · exfalso; omega
set_option maxHeartbeats 8000000 in
set_option maxRecDepth 100000 in
theorem c_Mo_make_b9 (l : Launch) (D : va_G) (cs : Nat → ClassId) (L : List Nat) (f : Nat → va_E) (sz : Nat) (y m1 m2 m3 m5 m6 m7 m8 m9 m10 m11 m12 m13 m15 : Nat) (th pn rw_ fu fb : Int) (cv : Nat → Int) (p0 : Nat) (b : Int) (hF : Fc L [y, m5]) (ha : f y = .inr (7, [.int (iI th), .ref m1, .ref m2, .ref m3, .int (iI pn), .ref m5, .ref m6, .ref m7, .ref m8, .ref m9, .ref m10, .ref m11, .ref m12, .ref m13, .int (iI rw_), .ref m15, .long (lI fu), .long (lI fb)])) (hm5 : f m5 = .inl (cs 0, 72, .inl (ai cv))) (hp0 : p0 < 12) (hcv : ∀ j, j < 72 → -1000 ≤ cv j ∧ cv j ≤ 1000) (hpn : 0 ≤ pn ∧ pn ≤ 12) (hpp : (p0 : Int) < pn) (hbd : b < -1000 ∨ 1000 < b) (hb : -2147483648 ≤ b ∧ b < 2147483648) : Met l (⟨"RealRootsModel", "make", "(III)I"⟩ : MethodName) (.code (⟨"RealRootsModel", "make", "(III)I"⟩ : MethodName) prog_9_method_36_code 9 (Option.some Jvm.ClassFile.FieldType.int) :: gw) ({ frames := 2, cells := 0, slots := 0, locals := 60 }) (va_Pc [.ref y, .int (iI 9), .int (iI ((p0 : Int))), .int (iI b)] (K0 D vwCl (TY cs) L f sz)) (va_Qi (fun (r : Int32) (g : Nat → va_E) => r = iI (-2) ∧ g = mw f [(y, .inr (7, [.int (iI 0), .ref m1, .ref m2, .ref m3, .int (iI pn), .ref m5, .ref m6, .ref m7, .ref m8, .ref m9, .ref m10, .ref m11, .ref m12, .ref m13, .int (iI rw_), .ref m15, .long (lI fu), .long (lI fb)]))]) (K1 D vwCl (TY cs) (AL L sz) L) (AL L sz)) 0 0 (AL L sz) := by
  refine Met.ofW (cc := prog_9_method_36_code) (maxL := 9) (ret := (Option.some Jvm.ClassFile.FieldType.int)) (by decide) rfl ?_
  intro p e s m args below meth c s₁ Bd hml hv
  obtain ⟨rfl, hk0⟩ := hv
  obtain ⟨hsz, B⟩ := hk0.start
  subst hsz
  have hx := Bd.exec
  have hb := Bd.bytes
  have hr := Bd.returns
  have hlocks := Bd.notSynchronized
  have hts0 := atoms_spec Bd.pre
  have hown : s.vm.findClass RX7 = some m.cls := findClass_of_methodNamed Bd.named
  have hA : ∀ q, s.heap.size ≤ q → AL L s.heap.size q := fun _ h => Or.inr h
  have hl := lv_entry ([.ref y, .int (iI 9), .int (iI ((p0 : Int))), .int (iI b)]) (n := 9) (Nat.le_of_ble_eq_true rfl)
  rw [lg_entry_eq]
  generalize (lg_sl ([.ref y, .int (iI 9), .int (iI ((p0 : Int))), .int (iI b)]) ++ List.replicate (9 - (lg_sl ([.ref y, .int (iI 9), .int (iI ((p0 : Int))), .int (iI b)])).length) Slot.unset).toArray = ls at hl ⊢
  refine absQ (fun Q R av hQ hR hav => ?_)
  have hts : ∀ w ∈ gw, w.before av s = true := by rw [hav]; exact fun w h => hts0 w (List.mem_cons_of_mem _ h)
  have hRf : R.frames = 2 := by rw [hR]; rfl
  have hRl : R.locals = 60 := by rw [hR]; rfl
  have hRc : R.cells = 0 := by rw [hR]; rfl
  have hRs : R.slots = 0 := by rw [hR]; rfl
  clear hR hts0 Bd
  have hl : lv_has ls 9 [(0, .ref y), (1, .int (iI 9)), (2, .int (iI ((p0 : Int)))), (3, .int (iI b))] := hl
  have hfx : ∀ q ∈ ([(y, .inr (7, [.int (iI th), .ref m1, .ref m2, .ref m3, .int (iI pn), .ref m5, .ref m6, .ref m7, .ref m8, .ref m9, .ref m10, .ref m11, .ref m12, .ref m13, .int (iI rw_), .ref m15, .long (lI fu), .long (lI fb)])), (m5, .inl (cs 0, 72, .inl (ai cv)))] : List (Nat × va_E)), f q.1 = q.2 := fun q hq => by
    simp only [List.mem_cons, List.not_mem_nil, or_false] at hq
    rcases hq with rfl | rfl
    · exact ha
    · exact hm5
  have hmw : mw f [(y, .inr (7, [.int (iI th), .ref m1, .ref m2, .ref m3, .int (iI pn), .ref m5, .ref m6, .ref m7, .ref m8, .ref m9, .ref m10, .ref m11, .ref m12, .ref m13, .int (iI rw_), .ref m15, .long (lI fu), .long (lI fb)])), (m5, .inl (cs 0, 72, .inl (ai cv)))] = f := mw_self (fun k a e hk => hfx (a, e) (List.mem_of_getElem? hk))
  have B := B.focus [(y, .inr (7, [.int (iI th), .ref m1, .ref m2, .ref m3, .int (iI pn), .ref m5, .ref m6, .ref m7, .ref m8, .ref m9, .ref m10, .ref m11, .ref m12, .ref m13, .int (iI rw_), .ref m15, .long (lI fu), .long (lI fb)])), (m5, .inl (cs 0, 72, .inl (ai cv)))] hfx
  refine lv_aload_n hx hb d_Mo_make_0 rfl (lv_at hl 0 rfl) ?_
  refine x_iconst hx hb d_Mo_make_1 ?_
  refine x_put (C := RX7) (T := TX7) (N := 18) hx hb hts inX7 tyX7 tyX7_ok nmX7 hown B hF 0 rfl rfl 0 (by decide) (hts _ w_677) (fun _ h9 => h9) rfl (tyX7_ok 0 (by decide)) rfl rfl (Nat.le_of_ble_eq_true rfl) d_Mo_make_2 (fun H locs B => ?_)
  have B : Wb D vwCl (TY cs) L (mw f [(y, .inr (7, [.int (iI 0), .ref m1, .ref m2, .ref m3, .int (iI pn), .ref m5, .ref m6, .ref m7, .ref m8, .ref m9, .ref m10, .ref m11, .ref m12, .ref m13, .int (iI rw_), .ref m15, .long (lI fu), .long (lI fb)])), (m5, .inl (cs 0, 72, .inl (ai cv)))]) (AL L s.heap.size) s H _ := B
  refine lv_iload_n hx hb d_Mo_make_5 rfl (lv_at hl 1 rfl) ?_
  refine x_if_eq (tgt := 24) hx hb d_Mo_make_6 (by decide) (by omega) (fun h6 => ?_) (fun h6 => ?_)
  · exfalso; omega
  · refine lv_iload_n hx hb d_Mo_make_9 rfl (lv_at hl 1 rfl) ?_
    refine x_iconst hx hb d_Mo_make_10 ?_
    refine x_icmp_eq (tgt := 24) hx hb d_Mo_make_11 (by decide) (by omega) (by omega) (fun h11 => ?_) (fun h11 => ?_)
    · exfalso; omega
    · refine lv_iload_n hx hb d_Mo_make_14 rfl (lv_at hl 1 rfl) ?_
      refine x_iconst hx hb d_Mo_make_15 ?_
      refine x_icmp_eq (tgt := 24) hx hb d_Mo_make_16 (by decide) (by omega) (by omega) (fun h16 => ?_) (fun h16 => ?_)
      · exfalso; omega
      · refine lv_iload_n hx hb d_Mo_make_19 rfl (lv_at hl 1 rfl) ?_
        refine x_iconst hx hb d_Mo_make_20 ?_
        refine x_icmp_ne (tgt := 28) hx hb d_Mo_make_21 (by decide) (by omega) (by omega) (fun h21 => ?_) (fun h21 => ?_)
        · refine x_iconst hx hb d_Mo_make_28 ?_
          refine lv_istore (lv' := [(4, .int (iI 0)), (0, .ref y), (1, .int (iI 9)), (2, .int (iI ((p0 : Int)))), (3, .int (iI b))]) hx hb d_Mo_make_29 hl (by decide) rfl (fun ls hl => ?_)
          refine lv_iload_n hx hb d_Mo_make_31 rfl (lv_at hl 2 rfl) ?_
          refine x_i2l hx hb d_Mo_make_32 (by omega) ?_
          refine x_lconst (z := 0) hx hb d_Mo_make_33 (by decide) ?_
          refine x_ldc2 (z := 9) hx hb hown (hts _ w_775) (by decide) d_Mo_make_34 ?_
          refine x_calli B hA (va_runS (As := [.long (lI 9), .long (lI 0), .long (lI 9)]) (rest := []) ⟨hx, hb, hml, hown, hts⟩ (c_Mo_in l D cs _ _ _ 9 0 9 (by omega) (by omega) (by omega)) (va_cwS 3 hts (gw_S w_749 w_750 w_8 w_751) rfl rfl rfl (by decide +kernel) ⟨by rw [hRf]; exact Nat.le_of_ble_eq_true rfl, by rw [hRl]; exact Nat.le_of_ble_eq_true rfl⟩) ⟨K0.blind, B.pre _⟩ rfl rfl hl.1 rfl (lv_room (Nat.le_of_ble_eq_true rfl)) d_Mo_make_37 ⟨by rw [hRc]; omega, by rw [hRs]; omega⟩) (fun r37 g37 H locs hw B => ?_)
          obtain ⟨rfl, rfl⟩ := hw
          rw [if_pos (by omega)]
          have B : Wb D vwCl (TY cs) L (mw f [(y, .inr (7, [.int (iI 0), .ref m1, .ref m2, .ref m3, .int (iI pn), .ref m5, .ref m6, .ref m7, .ref m8, .ref m9, .ref m10, .ref m11, .ref m12, .ref m13, .int (iI rw_), .ref m15, .long (lI fu), .long (lI fb)])), (m5, .inl (cs 0, 72, .inl (ai cv)))]) (AL L s.heap.size) s H _ := B
          refine x_if_eq (tgt := 64) hx hb d_Mo_make_40 (by decide) (by omega) (fun h40 => ?_) (fun h40 => ?_)
          · exfalso; omega
          · refine lv_aload_n hx hb d_Mo_make_43 rfl (lv_at hl 1 rfl) ?_
            refine lv_iload_n hx hb d_Mo_make_44 rfl (lv_at hl 3 rfl) ?_
            refine x_calli B hA (va_runV (As := [.int (iI ((p0 : Int)))]) (rest := []) ⟨hx, hb, hml, hown, hts⟩ (c_Mo_is l D cs _ _ _ y m1 m2 m3 m5 m6 m7 m8 m9 m10 m11 m12 m13 m15 0 pn rw_ fu fb ((p0 : Int)) (hF.pick [0] rfl rfl) (mw_get (X := [(y, .inr (7, [.int (iI 0), .ref m1, .ref m2, .ref m3, .int (iI pn), .ref m5, .ref m6, .ref m7, .ref m8, .ref m9, .ref m10, .ref m11, .ref m12, .ref m13, .int (iI rw_), .ref m15, .long (lI fu), .long (lI fb)])), (m5, .inl (cs 0, 72, .inl (ai cv)))]) hF.1 (k := 0) rfl) hpn (by omega)) (cwV 1 hts (gw_V w_745 w_747 s_29 w_8 w_748) rfl rfl rfl (by decide +kernel) ⟨by rw [hRf]; exact Nat.le_of_ble_eq_true rfl, by rw [hRl]; exact Nat.le_of_ble_eq_true rfl⟩) ⟨K0.blind, B.recv (hF.2 _ (mw_key (k := 0) (X := [(y, .inr (7, [.int (iI 0), .ref m1, .ref m2, .ref m3, .int (iI pn), .ref m5, .ref m6, .ref m7, .ref m8, .ref m9, .ref m10, .ref m11, .ref m12, .ref m13, .int (iI rw_), .ref m15, .long (lI fu), .long (lI fb)])), (m5, .inl (cs 0, 72, .inl (ai cv)))]) rfl)) (mw_get (X := [(y, .inr (7, [.int (iI 0), .ref m1, .ref m2, .ref m3, .int (iI pn), .ref m5, .ref m6, .ref m7, .ref m8, .ref m9, .ref m10, .ref m11, .ref m12, .ref m13, .int (iI rw_), .ref m15, .long (lI fu), .long (lI fb)])), (m5, .inl (cs 0, 72, .inl (ai cv)))]) hF.1 (k := 0) rfl) rfl, B.pre _⟩ rfl rfl hl.1 rfl (lv_room (Nat.le_of_ble_eq_true rfl)) d_Mo_make_45 ⟨by rw [hRc]; omega, by rw [hRs]; omega⟩) (fun r45 g45 H locs hw B => ?_)
            obtain ⟨rfl, rfl⟩ := hw
            rw [if_pos (by omega)]
            have B : Wb D vwCl (TY cs) L (mw f [(y, .inr (7, [.int (iI 0), .ref m1, .ref m2, .ref m3, .int (iI pn), .ref m5, .ref m6, .ref m7, .ref m8, .ref m9, .ref m10, .ref m11, .ref m12, .ref m13, .int (iI rw_), .ref m15, .long (lI fu), .long (lI fb)])), (m5, .inl (cs 0, 72, .inl (ai cv)))]) (AL L s.heap.size) s H _ := B
            refine x_if_eq (tgt := 64) hx hb d_Mo_make_48 (by decide) (by omega) (fun h48 => ?_) (fun h48 => ?_)
            · exfalso; omega
            · refine lv_iload hx hb d_Mo_make_51 (lv_at hl 0 rfl) ?_
              refine x_if_eq (tgt := 66) hx hb d_Mo_make_53 (by decide) (by omega) (fun h53 => ?_) (fun h53 => ?_)
              · refine lv_iload_n hx hb d_Mo_make_66 rfl (lv_at hl 2 rfl) ?_
                refine x_bipush hx hb d_Mo_make_67 (by decide) ?_
                refine x_icmp_eq (tgt := 78) hx hb d_Mo_make_69 (by decide) (by omega) (by omega) (fun h69 => ?_) (fun h69 => ?_)
                · exfalso; omega
                · refine lv_iload_n hx hb d_Mo_make_72 rfl (lv_at hl 2 rfl) ?_
                  refine x_bipush hx hb d_Mo_make_73 (by decide) ?_
                  refine x_icmp_ne (tgt := 82) hx hb d_Mo_make_75 (by decide) (by omega) (by omega) (fun h75 => ?_) (fun h75 => ?_)
                  · exfalso; omega
                  · refine x_iconst hx hb d_Mo_make_78 ?_
                    refine lv_goto (tgt := 83) hx hb d_Mo_make_79 (by decide) ?_
                    refine lv_istore (lv' := [(5, .int (iI 1)), (4, .int (iI 0)), (0, .ref y), (1, .int (iI 9)), (2, .int (iI ((p0 : Int)))), (3, .int (iI b))]) hx hb d_Mo_make_83 hl (by decide) rfl (fun ls hl => ?_)
                    refine lv_iload hx hb d_Mo_make_85 (lv_at hl 0 rfl) ?_
                    refine x_if_eq (tgt := 107) hx hb d_Mo_make_87 (by decide) (by omega) (fun h87 => ?_) (fun h87 => ?_)
                    · exfalso; omega
                    · refine lv_iload_n hx hb d_Mo_make_90 rfl (lv_at hl 5 rfl) ?_
                      refine x_i2l hx hb d_Mo_make_91 (by omega) ?_
                      refine x_ldc2 (z := -1000) hx hb hown (hts _ w_753) (by decide) d_Mo_make_92 ?_
                      refine x_ldc2 (z := 1000) hx hb hown (hts _ w_754) (by decide) d_Mo_make_95 ?_
                      refine x_calli B hA (va_runS (As := [.long (lI b), .long (lI (-1000)), .long (lI 1000)]) (rest := []) ⟨hx, hb, hml, hown, hts⟩ (c_Mo_in l D cs _ _ _ b (-1000) 1000 (by omega) (by omega) (by omega)) (va_cwS 3 hts (gw_S w_749 w_750 w_8 w_751) rfl rfl rfl (by decide +kernel) ⟨by rw [hRf]; exact Nat.le_of_ble_eq_true rfl, by rw [hRl]; exact Nat.le_of_ble_eq_true rfl⟩) ⟨K0.blind, B.pre _⟩ rfl rfl hl.1 rfl (lv_room (Nat.le_of_ble_eq_true rfl)) d_Mo_make_98 ⟨by rw [hRc]; omega, by rw [hRs]; omega⟩) (fun r98 g98 H locs hw B => ?_)
                      obtain ⟨rfl, rfl⟩ := hw
                      rw [if_neg (by omega)]
                      have B : Wb D vwCl (TY cs) L (mw f [(y, .inr (7, [.int (iI 0), .ref m1, .ref m2, .ref m3, .int (iI pn), .ref m5, .ref m6, .ref m7, .ref m8, .ref m9, .ref m10, .ref m11, .ref m12, .ref m13, .int (iI rw_), .ref m15, .long (lI fu), .long (lI fb)])), (m5, .inl (cs 0, 72, .inl (ai cv)))]) (AL L s.heap.size) s H _ := B
                      refine x_if_ne (tgt := 107) hx hb d_Mo_make_101 (by decide) (by omega) (fun h101 => ?_) (fun h101 => ?_)
                      · exfalso; omega
                      · refine x_bipush hx hb d_Mo_make_104 (by decide) ?_
                        subst hQ hav
                        exact x_iret hx hb hr hlocks B d_Mo_make_106 (⟨rfl, mw_tail (X := [(y, .inr (7, [.int (iI 0), .ref m1, .ref m2, .ref m3, .int (iI pn), .ref m5, .ref m6, .ref m7, .ref m8, .ref m9, .ref m10, .ref m11, .ref m12, .ref m13, .int (iI rw_), .ref m15, .long (lI fu), .long (lI fb)]))]) (Y := [(m5, .inl (cs 0, 72, .inl (ai cv)))]) (fun p hp => hfx p (List.mem_cons_of_mem _ hp))⟩)
              · exfalso; omega
        · exfalso; omega
set_option maxHeartbeats 8000000 in
set_option maxRecDepth 100000 in
theorem c_Mo_make_z5 (l : Launch) (D : va_G) (cs : Nat → ClassId) (L : List Nat) (f : Nat → va_E) (sz : Nat) (y m1 m2 m3 m5 m6 m7 m8 m9 m10 m11 m12 m13 m15 : Nat) (th pn rw_ fu fb : Int) (cv : Nat → Int) (p0 : Nat) (b : Int) (hF : Fc L [y, m5]) (ha : f y = .inr (7, [.int (iI th), .ref m1, .ref m2, .ref m3, .int (iI pn), .ref m5, .ref m6, .ref m7, .ref m8, .ref m9, .ref m10, .ref m11, .ref m12, .ref m13, .int (iI rw_), .ref m15, .long (lI fu), .long (lI fb)])) (hm5 : f m5 = .inl (cs 0, 72, .inl (ai cv))) (hp0 : p0 < 12) (hcv : ∀ j, j < 72 → -1000 ≤ cv j ∧ cv j ≤ 1000) (hpn : 0 ≤ pn ∧ pn ≤ 12) (hpp : (p0 : Int) < pn) (hzr : ∀ j, j < 6 → cv (6 * p0 + j) = 0) (hb : -2147483648 ≤ b ∧ b < 2147483648) : Met l (⟨"RealRootsModel", "make", "(III)I"⟩ : MethodName) (.code (⟨"RealRootsModel", "make", "(III)I"⟩ : MethodName) prog_9_method_36_code 9 (Option.some Jvm.ClassFile.FieldType.int) :: gw) ({ frames := 2, cells := 0, slots := 0, locals := 60 }) (va_Pc [.ref y, .int (iI 5), .int (iI ((p0 : Int))), .int (iI b)] (K0 D vwCl (TY cs) L f sz)) (va_Qi (fun (r : Int32) (g : Nat → va_E) => r = iI (-3) ∧ g = mw f [(y, .inr (7, [.int (iI 0), .ref m1, .ref m2, .ref m3, .int (iI pn), .ref m5, .ref m6, .ref m7, .ref m8, .ref m9, .ref m10, .ref m11, .ref m12, .ref m13, .int (iI rw_), .ref m15, .long (lI fu), .long (lI fb)]))]) (K1 D vwCl (TY cs) (AL L sz) L) (AL L sz)) 0 0 (AL L sz) := by
  refine Met.ofW (cc := prog_9_method_36_code) (maxL := 9) (ret := (Option.some Jvm.ClassFile.FieldType.int)) (by decide) rfl ?_
  intro p e s m args below meth c s₁ Bd hml hv
  obtain ⟨rfl, hk0⟩ := hv
  obtain ⟨hsz, B⟩ := hk0.start
  subst hsz
  have hx := Bd.exec
  have hb := Bd.bytes
  have hr := Bd.returns
  have hlocks := Bd.notSynchronized
  have hts0 := atoms_spec Bd.pre
  have hown : s.vm.findClass RX7 = some m.cls := findClass_of_methodNamed Bd.named
  have hA : ∀ q, s.heap.size ≤ q → AL L s.heap.size q := fun _ h => Or.inr h
  have hl := lv_entry ([.ref y, .int (iI 5), .int (iI ((p0 : Int))), .int (iI b)]) (n := 9) (Nat.le_of_ble_eq_true rfl)
  rw [lg_entry_eq]
  generalize (lg_sl ([.ref y, .int (iI 5), .int (iI ((p0 : Int))), .int (iI b)]) ++ List.replicate (9 - (lg_sl ([.ref y, .int (iI 5), .int (iI ((p0 : Int))), .int (iI b)])).length) Slot.unset).toArray = ls at hl ⊢
  refine absQ (fun Q R av hQ hR hav => ?_)
  have hts : ∀ w ∈ gw, w.before av s = true := by rw [hav]; exact fun w h => hts0 w (List.mem_cons_of_mem _ h)
  have hRf : R.frames = 2 := by rw [hR]; rfl
  have hRl : R.locals = 60 := by rw [hR]; rfl
  have hRc : R.cells = 0 := by rw [hR]; rfl
  have hRs : R.slots = 0 := by rw [hR]; rfl
  clear hR hts0 Bd
  have hl : lv_has ls 9 [(0, .ref y), (1, .int (iI 5)), (2, .int (iI ((p0 : Int)))), (3, .int (iI b))] := hl
  have hfx : ∀ q ∈ ([(y, .inr (7, [.int (iI th), .ref m1, .ref m2, .ref m3, .int (iI pn), .ref m5, .ref m6, .ref m7, .ref m8, .ref m9, .ref m10, .ref m11, .ref m12, .ref m13, .int (iI rw_), .ref m15, .long (lI fu), .long (lI fb)])), (m5, .inl (cs 0, 72, .inl (ai cv)))] : List (Nat × va_E)), f q.1 = q.2 := fun q hq => by
    simp only [List.mem_cons, List.not_mem_nil, or_false] at hq
    rcases hq with rfl | rfl
    · exact ha
    · exact hm5
  have hmw : mw f [(y, .inr (7, [.int (iI th), .ref m1, .ref m2, .ref m3, .int (iI pn), .ref m5, .ref m6, .ref m7, .ref m8, .ref m9, .ref m10, .ref m11, .ref m12, .ref m13, .int (iI rw_), .ref m15, .long (lI fu), .long (lI fb)])), (m5, .inl (cs 0, 72, .inl (ai cv)))] = f := mw_self (fun k a e hk => hfx (a, e) (List.mem_of_getElem? hk))
  have B := B.focus [(y, .inr (7, [.int (iI th), .ref m1, .ref m2, .ref m3, .int (iI pn), .ref m5, .ref m6, .ref m7, .ref m8, .ref m9, .ref m10, .ref m11, .ref m12, .ref m13, .int (iI rw_), .ref m15, .long (lI fu), .long (lI fb)])), (m5, .inl (cs 0, 72, .inl (ai cv)))] hfx
  refine lv_aload_n hx hb d_Mo_make_0 rfl (lv_at hl 0 rfl) ?_
  refine x_iconst hx hb d_Mo_make_1 ?_
  refine x_put (C := RX7) (T := TX7) (N := 18) hx hb hts inX7 tyX7 tyX7_ok nmX7 hown B hF 0 rfl rfl 0 (by decide) (hts _ w_677) (fun _ h9 => h9) rfl (tyX7_ok 0 (by decide)) rfl rfl (Nat.le_of_ble_eq_true rfl) d_Mo_make_2 (fun H locs B => ?_)
  have B : Wb D vwCl (TY cs) L (mw f [(y, .inr (7, [.int (iI 0), .ref m1, .ref m2, .ref m3, .int (iI pn), .ref m5, .ref m6, .ref m7, .ref m8, .ref m9, .ref m10, .ref m11, .ref m12, .ref m13, .int (iI rw_), .ref m15, .long (lI fu), .long (lI fb)])), (m5, .inl (cs 0, 72, .inl (ai cv)))]) (AL L s.heap.size) s H _ := B
  refine lv_iload_n hx hb d_Mo_make_5 rfl (lv_at hl 1 rfl) ?_
  refine x_if_eq (tgt := 24) hx hb d_Mo_make_6 (by decide) (by omega) (fun h6 => ?_) (fun h6 => ?_)
  · exfalso; omega
  · refine lv_iload_n hx hb d_Mo_make_9 rfl (lv_at hl 1 rfl) ?_
    refine x_iconst hx hb d_Mo_make_10 ?_
    refine x_icmp_eq (tgt := 24) hx hb d_Mo_make_11 (by decide) (by omega) (by omega) (fun h11 => ?_) (fun h11 => ?_)
    · exfalso; omega
    · refine lv_iload_n hx hb d_Mo_make_14 rfl (lv_at hl 1 rfl) ?_
      refine x_iconst hx hb d_Mo_make_15 ?_
      refine x_icmp_eq (tgt := 24) hx hb d_Mo_make_16 (by decide) (by omega) (by omega) (fun h16 => ?_) (fun h16 => ?_)
      · exfalso; omega
      · refine lv_iload_n hx hb d_Mo_make_19 rfl (lv_at hl 1 rfl) ?_
        refine x_iconst hx hb d_Mo_make_20 ?_
        refine x_icmp_ne (tgt := 28) hx hb d_Mo_make_21 (by decide) (by omega) (by omega) (fun h21 => ?_) (fun h21 => ?_)
        · refine x_iconst hx hb d_Mo_make_28 ?_
          refine lv_istore (lv' := [(4, .int (iI 0)), (0, .ref y), (1, .int (iI 5)), (2, .int (iI ((p0 : Int)))), (3, .int (iI b))]) hx hb d_Mo_make_29 hl (by decide) rfl (fun ls hl => ?_)
          refine lv_iload_n hx hb d_Mo_make_31 rfl (lv_at hl 2 rfl) ?_
          refine x_i2l hx hb d_Mo_make_32 (by omega) ?_
          refine x_lconst (z := 0) hx hb d_Mo_make_33 (by decide) ?_
          refine x_ldc2 (z := 9) hx hb hown (hts _ w_775) (by decide) d_Mo_make_34 ?_
          refine x_calli B hA (va_runS (As := [.long (lI 5), .long (lI 0), .long (lI 9)]) (rest := []) ⟨hx, hb, hml, hown, hts⟩ (c_Mo_in l D cs _ _ _ 5 0 9 (by omega) (by omega) (by omega)) (va_cwS 3 hts (gw_S w_749 w_750 w_8 w_751) rfl rfl rfl (by decide +kernel) ⟨by rw [hRf]; exact Nat.le_of_ble_eq_true rfl, by rw [hRl]; exact Nat.le_of_ble_eq_true rfl⟩) ⟨K0.blind, B.pre _⟩ rfl rfl hl.1 rfl (lv_room (Nat.le_of_ble_eq_true rfl)) d_Mo_make_37 ⟨by rw [hRc]; omega, by rw [hRs]; omega⟩) (fun r37 g37 H locs hw B => ?_)
          obtain ⟨rfl, rfl⟩ := hw
          rw [if_pos (by omega)]
          have B : Wb D vwCl (TY cs) L (mw f [(y, .inr (7, [.int (iI 0), .ref m1, .ref m2, .ref m3, .int (iI pn), .ref m5, .ref m6, .ref m7, .ref m8, .ref m9, .ref m10, .ref m11, .ref m12, .ref m13, .int (iI rw_), .ref m15, .long (lI fu), .long (lI fb)])), (m5, .inl (cs 0, 72, .inl (ai cv)))]) (AL L s.heap.size) s H _ := B
          refine x_if_eq (tgt := 64) hx hb d_Mo_make_40 (by decide) (by omega) (fun h40 => ?_) (fun h40 => ?_)
          · exfalso; omega
          · refine lv_aload_n hx hb d_Mo_make_43 rfl (lv_at hl 1 rfl) ?_
            refine lv_iload_n hx hb d_Mo_make_44 rfl (lv_at hl 3 rfl) ?_
            refine x_calli B hA (va_runV (As := [.int (iI ((p0 : Int)))]) (rest := []) ⟨hx, hb, hml, hown, hts⟩ (c_Mo_is l D cs _ _ _ y m1 m2 m3 m5 m6 m7 m8 m9 m10 m11 m12 m13 m15 0 pn rw_ fu fb ((p0 : Int)) (hF.pick [0] rfl rfl) (mw_get (X := [(y, .inr (7, [.int (iI 0), .ref m1, .ref m2, .ref m3, .int (iI pn), .ref m5, .ref m6, .ref m7, .ref m8, .ref m9, .ref m10, .ref m11, .ref m12, .ref m13, .int (iI rw_), .ref m15, .long (lI fu), .long (lI fb)])), (m5, .inl (cs 0, 72, .inl (ai cv)))]) hF.1 (k := 0) rfl) hpn (by omega)) (cwV 1 hts (gw_V w_745 w_747 s_29 w_8 w_748) rfl rfl rfl (by decide +kernel) ⟨by rw [hRf]; exact Nat.le_of_ble_eq_true rfl, by rw [hRl]; exact Nat.le_of_ble_eq_true rfl⟩) ⟨K0.blind, B.recv (hF.2 _ (mw_key (k := 0) (X := [(y, .inr (7, [.int (iI 0), .ref m1, .ref m2, .ref m3, .int (iI pn), .ref m5, .ref m6, .ref m7, .ref m8, .ref m9, .ref m10, .ref m11, .ref m12, .ref m13, .int (iI rw_), .ref m15, .long (lI fu), .long (lI fb)])), (m5, .inl (cs 0, 72, .inl (ai cv)))]) rfl)) (mw_get (X := [(y, .inr (7, [.int (iI 0), .ref m1, .ref m2, .ref m3, .int (iI pn), .ref m5, .ref m6, .ref m7, .ref m8, .ref m9, .ref m10, .ref m11, .ref m12, .ref m13, .int (iI rw_), .ref m15, .long (lI fu), .long (lI fb)])), (m5, .inl (cs 0, 72, .inl (ai cv)))]) hF.1 (k := 0) rfl) rfl, B.pre _⟩ rfl rfl hl.1 rfl (lv_room (Nat.le_of_ble_eq_true rfl)) d_Mo_make_45 ⟨by rw [hRc]; omega, by rw [hRs]; omega⟩) (fun r45 g45 H locs hw B => ?_)
            obtain ⟨rfl, rfl⟩ := hw
            rw [if_pos (by omega)]
            have B : Wb D vwCl (TY cs) L (mw f [(y, .inr (7, [.int (iI 0), .ref m1, .ref m2, .ref m3, .int (iI pn), .ref m5, .ref m6, .ref m7, .ref m8, .ref m9, .ref m10, .ref m11, .ref m12, .ref m13, .int (iI rw_), .ref m15, .long (lI fu), .long (lI fb)])), (m5, .inl (cs 0, 72, .inl (ai cv)))]) (AL L s.heap.size) s H _ := B
            refine x_if_eq (tgt := 64) hx hb d_Mo_make_48 (by decide) (by omega) (fun h48 => ?_) (fun h48 => ?_)
            · exfalso; omega
            · refine lv_iload hx hb d_Mo_make_51 (lv_at hl 0 rfl) ?_
              refine x_if_eq (tgt := 66) hx hb d_Mo_make_53 (by decide) (by omega) (fun h53 => ?_) (fun h53 => ?_)
              · refine lv_iload_n hx hb d_Mo_make_66 rfl (lv_at hl 2 rfl) ?_
                refine x_bipush hx hb d_Mo_make_67 (by decide) ?_
                refine x_icmp_eq (tgt := 78) hx hb d_Mo_make_69 (by decide) (by omega) (by omega) (fun h69 => ?_) (fun h69 => ?_)
                · exfalso; omega
                · refine lv_iload_n hx hb d_Mo_make_72 rfl (lv_at hl 2 rfl) ?_
                  refine x_bipush hx hb d_Mo_make_73 (by decide) ?_
                  refine x_icmp_ne (tgt := 82) hx hb d_Mo_make_75 (by decide) (by omega) (by omega) (fun h75 => ?_) (fun h75 => ?_)
                  · refine x_iconst hx hb d_Mo_make_82 ?_
                    refine lv_istore (lv' := [(5, .int (iI 0)), (4, .int (iI 0)), (0, .ref y), (1, .int (iI 5)), (2, .int (iI ((p0 : Int)))), (3, .int (iI b))]) hx hb d_Mo_make_83 hl (by decide) rfl (fun ls hl => ?_)
                    refine lv_iload hx hb d_Mo_make_85 (lv_at hl 0 rfl) ?_
                    refine x_if_eq (tgt := 107) hx hb d_Mo_make_87 (by decide) (by omega) (fun h87 => ?_) (fun h87 => ?_)
                    · refine lv_aload_n hx hb d_Mo_make_107 rfl (lv_at hl 2 rfl) ?_
                      refine lv_iload_n hx hb d_Mo_make_108 rfl (lv_at hl 4 rfl) ?_
                      refine x_calli B hA (va_runV (As := [.int (iI ((p0 : Int)))]) (rest := []) ⟨hx, hb, hml, hown, hts⟩ (c_Mo_degreeOf l D cs _ _ _ y m1 m2 m3 m5 m6 m7 m8 m9 m10 m11 m12 m13 m15 0 pn rw_ fu fb p0 cv (hF.pick [0, 1] rfl rfl) (mw_get (X := [(y, .inr (7, [.int (iI 0), .ref m1, .ref m2, .ref m3, .int (iI pn), .ref m5, .ref m6, .ref m7, .ref m8, .ref m9, .ref m10, .ref m11, .ref m12, .ref m13, .int (iI rw_), .ref m15, .long (lI fu), .long (lI fb)])), (m5, .inl (cs 0, 72, .inl (ai cv)))]) hF.1 (k := 0) rfl) (by omega) (mw_get (X := [(y, .inr (7, [.int (iI 0), .ref m1, .ref m2, .ref m3, .int (iI pn), .ref m5, .ref m6, .ref m7, .ref m8, .ref m9, .ref m10, .ref m11, .ref m12, .ref m13, .int (iI rw_), .ref m15, .long (lI fu), .long (lI fb)])), (m5, .inl (cs 0, 72, .inl (ai cv)))]) hF.1 (k := 1) rfl) hcv) (cwV 1 hts (gw_V w_763 w_765 s_30 w_8 w_766) rfl rfl rfl (by decide +kernel) ⟨by rw [hRf]; exact Nat.le_of_ble_eq_true rfl, by rw [hRl]; exact Nat.le_of_ble_eq_true rfl⟩) ⟨K0.blind, B.recv (hF.2 _ (mw_key (k := 0) (X := [(y, .inr (7, [.int (iI 0), .ref m1, .ref m2, .ref m3, .int (iI pn), .ref m5, .ref m6, .ref m7, .ref m8, .ref m9, .ref m10, .ref m11, .ref m12, .ref m13, .int (iI rw_), .ref m15, .long (lI fu), .long (lI fb)])), (m5, .inl (cs 0, 72, .inl (ai cv)))]) rfl)) (mw_get (X := [(y, .inr (7, [.int (iI 0), .ref m1, .ref m2, .ref m3, .int (iI pn), .ref m5, .ref m6, .ref m7, .ref m8, .ref m9, .ref m10, .ref m11, .ref m12, .ref m13, .int (iI rw_), .ref m15, .long (lI fu), .long (lI fb)])), (m5, .inl (cs 0, 72, .inl (ai cv)))]) hF.1 (k := 0) rfl) rfl, B.pre _⟩ rfl rfl hl.1 rfl (lv_room (Nat.le_of_ble_eq_true rfl)) d_Mo_make_109 ⟨by rw [hRc]; omega, by rw [hRs]; omega⟩) (fun r109 g109 H locs hw B => ?_)
                      obtain ⟨k0, rfl, hk06, hk0z, hk0l, rfl⟩ := hw
                      have B : Wb D vwCl (TY cs) L (mw f [(y, .inr (7, [.int (iI 0), .ref m1, .ref m2, .ref m3, .int (iI pn), .ref m5, .ref m6, .ref m7, .ref m8, .ref m9, .ref m10, .ref m11, .ref m12, .ref m13, .int (iI rw_), .ref m15, .long (lI fu), .long (lI fb)])), (m5, .inl (cs 0, 72, .inl (ai cv)))]) (AL L s.heap.size) s H _ := B
                      have hk00 : k0 = 0 := by rcases Nat.eq_zero_or_pos k0 with h | h; exact h; exact absurd (hzr (k0 - 1) (by omega)) (hk0l h)
                      refine lv_istore (lv' := [(6, .int (iI ((k0 : Int) - 1))), (5, .int (iI 0)), (4, .int (iI 0)), (0, .ref y), (1, .int (iI 5)), (2, .int (iI ((p0 : Int)))), (3, .int (iI b))]) hx hb d_Mo_make_112 hl (by decide) rfl (fun ls hl => ?_)
                      refine lv_iload_n hx hb d_Mo_make_114 rfl (lv_at hl 4 rfl) ?_
                      refine x_iconst hx hb d_Mo_make_115 ?_
                      refine x_icmp_eq (tgt := 125) hx hb d_Mo_make_116 (by decide) (by omega) (by omega) (fun h116 => ?_) (fun h116 => ?_)
                      · refine lv_iload hx hb d_Mo_make_125 (lv_at hl 0 rfl) ?_
                        refine x_if_ge (tgt := 133) hx hb d_Mo_make_127 (by decide) (by omega) (fun h127 => ?_) (fun h127 => ?_)
                        · exfalso; omega
                        · refine x_bipush hx hb d_Mo_make_130 (by decide) ?_
                          subst hQ hav
                          exact x_iret hx hb hr hlocks B d_Mo_make_132 (⟨rfl, mw_tail (X := [(y, .inr (7, [.int (iI 0), .ref m1, .ref m2, .ref m3, .int (iI pn), .ref m5, .ref m6, .ref m7, .ref m8, .ref m9, .ref m10, .ref m11, .ref m12, .ref m13, .int (iI rw_), .ref m15, .long (lI fu), .long (lI fb)]))]) (Y := [(m5, .inl (cs 0, 72, .inl (ai cv)))]) (fun p hp => hfx p (List.mem_cons_of_mem _ hp))⟩)
                      · exfalso; omega
                    · exfalso; omega
                  · exfalso; omega
              · exfalso; omega
        · exfalso; omega
set_option maxHeartbeats 8000000 in
set_option maxRecDepth 100000 in
theorem c_Mo_make_z8 (l : Launch) (D : va_G) (cs : Nat → ClassId) (L : List Nat) (f : Nat → va_E) (sz : Nat) (y m1 m2 m3 m5 m6 m7 m8 m9 m10 m11 m12 m13 m15 : Nat) (th pn rw_ fu fb : Int) (cv : Nat → Int) (p0 : Nat) (b : Int) (hF : Fc L [y, m5]) (ha : f y = .inr (7, [.int (iI th), .ref m1, .ref m2, .ref m3, .int (iI pn), .ref m5, .ref m6, .ref m7, .ref m8, .ref m9, .ref m10, .ref m11, .ref m12, .ref m13, .int (iI rw_), .ref m15, .long (lI fu), .long (lI fb)])) (hm5 : f m5 = .inl (cs 0, 72, .inl (ai cv))) (hp0 : p0 < 12) (hcv : ∀ j, j < 72 → -1000 ≤ cv j ∧ cv j ≤ 1000) (hpn : 0 ≤ pn ∧ pn ≤ 12) (hpp : (p0 : Int) < pn) (hzr : ∀ j, j < 6 → cv (6 * p0 + j) = 0) (hb : -2147483648 ≤ b ∧ b < 2147483648) : Met l (⟨"RealRootsModel", "make", "(III)I"⟩ : MethodName) (.code (⟨"RealRootsModel", "make", "(III)I"⟩ : MethodName) prog_9_method_36_code 9 (Option.some Jvm.ClassFile.FieldType.int) :: gw) ({ frames := 2, cells := 0, slots := 0, locals := 60 }) (va_Pc [.ref y, .int (iI 8), .int (iI ((p0 : Int))), .int (iI b)] (K0 D vwCl (TY cs) L f sz)) (va_Qi (fun (r : Int32) (g : Nat → va_E) => r = iI (-3) ∧ g = mw f [(y, .inr (7, [.int (iI 0), .ref m1, .ref m2, .ref m3, .int (iI pn), .ref m5, .ref m6, .ref m7, .ref m8, .ref m9, .ref m10, .ref m11, .ref m12, .ref m13, .int (iI rw_), .ref m15, .long (lI fu), .long (lI fb)]))]) (K1 D vwCl (TY cs) (AL L sz) L) (AL L sz)) 0 0 (AL L sz) := by
  refine Met.ofW (cc := prog_9_method_36_code) (maxL := 9) (ret := (Option.some Jvm.ClassFile.FieldType.int)) (by decide) rfl ?_
  intro p e s m args below meth c s₁ Bd hml hv
  obtain ⟨rfl, hk0⟩ := hv
  obtain ⟨hsz, B⟩ := hk0.start
  subst hsz
  have hx := Bd.exec
  have hb := Bd.bytes
  have hr := Bd.returns
  have hlocks := Bd.notSynchronized
  have hts0 := atoms_spec Bd.pre
  have hown : s.vm.findClass RX7 = some m.cls := findClass_of_methodNamed Bd.named
  have hA : ∀ q, s.heap.size ≤ q → AL L s.heap.size q := fun _ h => Or.inr h
  have hl := lv_entry ([.ref y, .int (iI 8), .int (iI ((p0 : Int))), .int (iI b)]) (n := 9) (Nat.le_of_ble_eq_true rfl)
  rw [lg_entry_eq]
  generalize (lg_sl ([.ref y, .int (iI 8), .int (iI ((p0 : Int))), .int (iI b)]) ++ List.replicate (9 - (lg_sl ([.ref y, .int (iI 8), .int (iI ((p0 : Int))), .int (iI b)])).length) Slot.unset).toArray = ls at hl ⊢
  refine absQ (fun Q R av hQ hR hav => ?_)
  have hts : ∀ w ∈ gw, w.before av s = true := by rw [hav]; exact fun w h => hts0 w (List.mem_cons_of_mem _ h)
  have hRf : R.frames = 2 := by rw [hR]; rfl
  have hRl : R.locals = 60 := by rw [hR]; rfl
  have hRc : R.cells = 0 := by rw [hR]; rfl
  have hRs : R.slots = 0 := by rw [hR]; rfl
  clear hR hts0 Bd
  have hl : lv_has ls 9 [(0, .ref y), (1, .int (iI 8)), (2, .int (iI ((p0 : Int)))), (3, .int (iI b))] := hl
  have hfx : ∀ q ∈ ([(y, .inr (7, [.int (iI th), .ref m1, .ref m2, .ref m3, .int (iI pn), .ref m5, .ref m6, .ref m7, .ref m8, .ref m9, .ref m10, .ref m11, .ref m12, .ref m13, .int (iI rw_), .ref m15, .long (lI fu), .long (lI fb)])), (m5, .inl (cs 0, 72, .inl (ai cv)))] : List (Nat × va_E)), f q.1 = q.2 := fun q hq => by
    simp only [List.mem_cons, List.not_mem_nil, or_false] at hq
    rcases hq with rfl | rfl
    · exact ha
    · exact hm5
  have hmw : mw f [(y, .inr (7, [.int (iI th), .ref m1, .ref m2, .ref m3, .int (iI pn), .ref m5, .ref m6, .ref m7, .ref m8, .ref m9, .ref m10, .ref m11, .ref m12, .ref m13, .int (iI rw_), .ref m15, .long (lI fu), .long (lI fb)])), (m5, .inl (cs 0, 72, .inl (ai cv)))] = f := mw_self (fun k a e hk => hfx (a, e) (List.mem_of_getElem? hk))
  have B := B.focus [(y, .inr (7, [.int (iI th), .ref m1, .ref m2, .ref m3, .int (iI pn), .ref m5, .ref m6, .ref m7, .ref m8, .ref m9, .ref m10, .ref m11, .ref m12, .ref m13, .int (iI rw_), .ref m15, .long (lI fu), .long (lI fb)])), (m5, .inl (cs 0, 72, .inl (ai cv)))] hfx
  refine lv_aload_n hx hb d_Mo_make_0 rfl (lv_at hl 0 rfl) ?_
  refine x_iconst hx hb d_Mo_make_1 ?_
  refine x_put (C := RX7) (T := TX7) (N := 18) hx hb hts inX7 tyX7 tyX7_ok nmX7 hown B hF 0 rfl rfl 0 (by decide) (hts _ w_677) (fun _ h9 => h9) rfl (tyX7_ok 0 (by decide)) rfl rfl (Nat.le_of_ble_eq_true rfl) d_Mo_make_2 (fun H locs B => ?_)
  have B : Wb D vwCl (TY cs) L (mw f [(y, .inr (7, [.int (iI 0), .ref m1, .ref m2, .ref m3, .int (iI pn), .ref m5, .ref m6, .ref m7, .ref m8, .ref m9, .ref m10, .ref m11, .ref m12, .ref m13, .int (iI rw_), .ref m15, .long (lI fu), .long (lI fb)])), (m5, .inl (cs 0, 72, .inl (ai cv)))]) (AL L s.heap.size) s H _ := B
  refine lv_iload_n hx hb d_Mo_make_5 rfl (lv_at hl 1 rfl) ?_
  refine x_if_eq (tgt := 24) hx hb d_Mo_make_6 (by decide) (by omega) (fun h6 => ?_) (fun h6 => ?_)
  · exfalso; omega
  · refine lv_iload_n hx hb d_Mo_make_9 rfl (lv_at hl 1 rfl) ?_
    refine x_iconst hx hb d_Mo_make_10 ?_
    refine x_icmp_eq (tgt := 24) hx hb d_Mo_make_11 (by decide) (by omega) (by omega) (fun h11 => ?_) (fun h11 => ?_)
    · exfalso; omega
    · refine lv_iload_n hx hb d_Mo_make_14 rfl (lv_at hl 1 rfl) ?_
      refine x_iconst hx hb d_Mo_make_15 ?_
      refine x_icmp_eq (tgt := 24) hx hb d_Mo_make_16 (by decide) (by omega) (by omega) (fun h16 => ?_) (fun h16 => ?_)
      · exfalso; omega
      · refine lv_iload_n hx hb d_Mo_make_19 rfl (lv_at hl 1 rfl) ?_
        refine x_iconst hx hb d_Mo_make_20 ?_
        refine x_icmp_ne (tgt := 28) hx hb d_Mo_make_21 (by decide) (by omega) (by omega) (fun h21 => ?_) (fun h21 => ?_)
        · refine x_iconst hx hb d_Mo_make_28 ?_
          refine lv_istore (lv' := [(4, .int (iI 0)), (0, .ref y), (1, .int (iI 8)), (2, .int (iI ((p0 : Int)))), (3, .int (iI b))]) hx hb d_Mo_make_29 hl (by decide) rfl (fun ls hl => ?_)
          refine lv_iload_n hx hb d_Mo_make_31 rfl (lv_at hl 2 rfl) ?_
          refine x_i2l hx hb d_Mo_make_32 (by omega) ?_
          refine x_lconst (z := 0) hx hb d_Mo_make_33 (by decide) ?_
          refine x_ldc2 (z := 9) hx hb hown (hts _ w_775) (by decide) d_Mo_make_34 ?_
          refine x_calli B hA (va_runS (As := [.long (lI 8), .long (lI 0), .long (lI 9)]) (rest := []) ⟨hx, hb, hml, hown, hts⟩ (c_Mo_in l D cs _ _ _ 8 0 9 (by omega) (by omega) (by omega)) (va_cwS 3 hts (gw_S w_749 w_750 w_8 w_751) rfl rfl rfl (by decide +kernel) ⟨by rw [hRf]; exact Nat.le_of_ble_eq_true rfl, by rw [hRl]; exact Nat.le_of_ble_eq_true rfl⟩) ⟨K0.blind, B.pre _⟩ rfl rfl hl.1 rfl (lv_room (Nat.le_of_ble_eq_true rfl)) d_Mo_make_37 ⟨by rw [hRc]; omega, by rw [hRs]; omega⟩) (fun r37 g37 H locs hw B => ?_)
          obtain ⟨rfl, rfl⟩ := hw
          rw [if_pos (by omega)]
          have B : Wb D vwCl (TY cs) L (mw f [(y, .inr (7, [.int (iI 0), .ref m1, .ref m2, .ref m3, .int (iI pn), .ref m5, .ref m6, .ref m7, .ref m8, .ref m9, .ref m10, .ref m11, .ref m12, .ref m13, .int (iI rw_), .ref m15, .long (lI fu), .long (lI fb)])), (m5, .inl (cs 0, 72, .inl (ai cv)))]) (AL L s.heap.size) s H _ := B
          refine x_if_eq (tgt := 64) hx hb d_Mo_make_40 (by decide) (by omega) (fun h40 => ?_) (fun h40 => ?_)
          · exfalso; omega
          · refine lv_aload_n hx hb d_Mo_make_43 rfl (lv_at hl 1 rfl) ?_
            refine lv_iload_n hx hb d_Mo_make_44 rfl (lv_at hl 3 rfl) ?_
            refine x_calli B hA (va_runV (As := [.int (iI ((p0 : Int)))]) (rest := []) ⟨hx, hb, hml, hown, hts⟩ (c_Mo_is l D cs _ _ _ y m1 m2 m3 m5 m6 m7 m8 m9 m10 m11 m12 m13 m15 0 pn rw_ fu fb ((p0 : Int)) (hF.pick [0] rfl rfl) (mw_get (X := [(y, .inr (7, [.int (iI 0), .ref m1, .ref m2, .ref m3, .int (iI pn), .ref m5, .ref m6, .ref m7, .ref m8, .ref m9, .ref m10, .ref m11, .ref m12, .ref m13, .int (iI rw_), .ref m15, .long (lI fu), .long (lI fb)])), (m5, .inl (cs 0, 72, .inl (ai cv)))]) hF.1 (k := 0) rfl) hpn (by omega)) (cwV 1 hts (gw_V w_745 w_747 s_29 w_8 w_748) rfl rfl rfl (by decide +kernel) ⟨by rw [hRf]; exact Nat.le_of_ble_eq_true rfl, by rw [hRl]; exact Nat.le_of_ble_eq_true rfl⟩) ⟨K0.blind, B.recv (hF.2 _ (mw_key (k := 0) (X := [(y, .inr (7, [.int (iI 0), .ref m1, .ref m2, .ref m3, .int (iI pn), .ref m5, .ref m6, .ref m7, .ref m8, .ref m9, .ref m10, .ref m11, .ref m12, .ref m13, .int (iI rw_), .ref m15, .long (lI fu), .long (lI fb)])), (m5, .inl (cs 0, 72, .inl (ai cv)))]) rfl)) (mw_get (X := [(y, .inr (7, [.int (iI 0), .ref m1, .ref m2, .ref m3, .int (iI pn), .ref m5, .ref m6, .ref m7, .ref m8, .ref m9, .ref m10, .ref m11, .ref m12, .ref m13, .int (iI rw_), .ref m15, .long (lI fu), .long (lI fb)])), (m5, .inl (cs 0, 72, .inl (ai cv)))]) hF.1 (k := 0) rfl) rfl, B.pre _⟩ rfl rfl hl.1 rfl (lv_room (Nat.le_of_ble_eq_true rfl)) d_Mo_make_45 ⟨by rw [hRc]; omega, by rw [hRs]; omega⟩) (fun r45 g45 H locs hw B => ?_)
            obtain ⟨rfl, rfl⟩ := hw
            rw [if_pos (by omega)]
            have B : Wb D vwCl (TY cs) L (mw f [(y, .inr (7, [.int (iI 0), .ref m1, .ref m2, .ref m3, .int (iI pn), .ref m5, .ref m6, .ref m7, .ref m8, .ref m9, .ref m10, .ref m11, .ref m12, .ref m13, .int (iI rw_), .ref m15, .long (lI fu), .long (lI fb)])), (m5, .inl (cs 0, 72, .inl (ai cv)))]) (AL L s.heap.size) s H _ := B
            refine x_if_eq (tgt := 64) hx hb d_Mo_make_48 (by decide) (by omega) (fun h48 => ?_) (fun h48 => ?_)
            · exfalso; omega
            · refine lv_iload hx hb d_Mo_make_51 (lv_at hl 0 rfl) ?_
              refine x_if_eq (tgt := 66) hx hb d_Mo_make_53 (by decide) (by omega) (fun h53 => ?_) (fun h53 => ?_)
              · refine lv_iload_n hx hb d_Mo_make_66 rfl (lv_at hl 2 rfl) ?_
                refine x_bipush hx hb d_Mo_make_67 (by decide) ?_
                refine x_icmp_eq (tgt := 78) hx hb d_Mo_make_69 (by decide) (by omega) (by omega) (fun h69 => ?_) (fun h69 => ?_)
                · exfalso; omega
                · refine lv_iload_n hx hb d_Mo_make_72 rfl (lv_at hl 2 rfl) ?_
                  refine x_bipush hx hb d_Mo_make_73 (by decide) ?_
                  refine x_icmp_ne (tgt := 82) hx hb d_Mo_make_75 (by decide) (by omega) (by omega) (fun h75 => ?_) (fun h75 => ?_)
                  · refine x_iconst hx hb d_Mo_make_82 ?_
                    refine lv_istore (lv' := [(5, .int (iI 0)), (4, .int (iI 0)), (0, .ref y), (1, .int (iI 8)), (2, .int (iI ((p0 : Int)))), (3, .int (iI b))]) hx hb d_Mo_make_83 hl (by decide) rfl (fun ls hl => ?_)
                    refine lv_iload hx hb d_Mo_make_85 (lv_at hl 0 rfl) ?_
                    refine x_if_eq (tgt := 107) hx hb d_Mo_make_87 (by decide) (by omega) (fun h87 => ?_) (fun h87 => ?_)
                    · refine lv_aload_n hx hb d_Mo_make_107 rfl (lv_at hl 2 rfl) ?_
                      refine lv_iload_n hx hb d_Mo_make_108 rfl (lv_at hl 4 rfl) ?_
                      refine x_calli B hA (va_runV (As := [.int (iI ((p0 : Int)))]) (rest := []) ⟨hx, hb, hml, hown, hts⟩ (c_Mo_degreeOf l D cs _ _ _ y m1 m2 m3 m5 m6 m7 m8 m9 m10 m11 m12 m13 m15 0 pn rw_ fu fb p0 cv (hF.pick [0, 1] rfl rfl) (mw_get (X := [(y, .inr (7, [.int (iI 0), .ref m1, .ref m2, .ref m3, .int (iI pn), .ref m5, .ref m6, .ref m7, .ref m8, .ref m9, .ref m10, .ref m11, .ref m12, .ref m13, .int (iI rw_), .ref m15, .long (lI fu), .long (lI fb)])), (m5, .inl (cs 0, 72, .inl (ai cv)))]) hF.1 (k := 0) rfl) (by omega) (mw_get (X := [(y, .inr (7, [.int (iI 0), .ref m1, .ref m2, .ref m3, .int (iI pn), .ref m5, .ref m6, .ref m7, .ref m8, .ref m9, .ref m10, .ref m11, .ref m12, .ref m13, .int (iI rw_), .ref m15, .long (lI fu), .long (lI fb)])), (m5, .inl (cs 0, 72, .inl (ai cv)))]) hF.1 (k := 1) rfl) hcv) (cwV 1 hts (gw_V w_763 w_765 s_30 w_8 w_766) rfl rfl rfl (by decide +kernel) ⟨by rw [hRf]; exact Nat.le_of_ble_eq_true rfl, by rw [hRl]; exact Nat.le_of_ble_eq_true rfl⟩) ⟨K0.blind, B.recv (hF.2 _ (mw_key (k := 0) (X := [(y, .inr (7, [.int (iI 0), .ref m1, .ref m2, .ref m3, .int (iI pn), .ref m5, .ref m6, .ref m7, .ref m8, .ref m9, .ref m10, .ref m11, .ref m12, .ref m13, .int (iI rw_), .ref m15, .long (lI fu), .long (lI fb)])), (m5, .inl (cs 0, 72, .inl (ai cv)))]) rfl)) (mw_get (X := [(y, .inr (7, [.int (iI 0), .ref m1, .ref m2, .ref m3, .int (iI pn), .ref m5, .ref m6, .ref m7, .ref m8, .ref m9, .ref m10, .ref m11, .ref m12, .ref m13, .int (iI rw_), .ref m15, .long (lI fu), .long (lI fb)])), (m5, .inl (cs 0, 72, .inl (ai cv)))]) hF.1 (k := 0) rfl) rfl, B.pre _⟩ rfl rfl hl.1 rfl (lv_room (Nat.le_of_ble_eq_true rfl)) d_Mo_make_109 ⟨by rw [hRc]; omega, by rw [hRs]; omega⟩) (fun r109 g109 H locs hw B => ?_)
                      obtain ⟨k0, rfl, hk06, hk0z, hk0l, rfl⟩ := hw
                      have B : Wb D vwCl (TY cs) L (mw f [(y, .inr (7, [.int (iI 0), .ref m1, .ref m2, .ref m3, .int (iI pn), .ref m5, .ref m6, .ref m7, .ref m8, .ref m9, .ref m10, .ref m11, .ref m12, .ref m13, .int (iI rw_), .ref m15, .long (lI fu), .long (lI fb)])), (m5, .inl (cs 0, 72, .inl (ai cv)))]) (AL L s.heap.size) s H _ := B
                      have hk00 : k0 = 0 := by rcases Nat.eq_zero_or_pos k0 with h | h; exact h; exact absurd (hzr (k0 - 1) (by omega)) (hk0l h)
                      refine lv_istore (lv' := [(6, .int (iI ((k0 : Int) - 1))), (5, .int (iI 0)), (4, .int (iI 0)), (0, .ref y), (1, .int (iI 8)), (2, .int (iI ((p0 : Int)))), (3, .int (iI b))]) hx hb d_Mo_make_112 hl (by decide) rfl (fun ls hl => ?_)
                      refine lv_iload_n hx hb d_Mo_make_114 rfl (lv_at hl 4 rfl) ?_
                      refine x_iconst hx hb d_Mo_make_115 ?_
                      refine x_icmp_eq (tgt := 125) hx hb d_Mo_make_116 (by decide) (by omega) (by omega) (fun h116 => ?_) (fun h116 => ?_)
                      · exfalso; omega
                      · refine lv_iload_n hx hb d_Mo_make_119 rfl (lv_at hl 4 rfl) ?_
                        refine x_bipush hx hb d_Mo_make_120 (by decide) ?_
                        refine x_icmp_ne (tgt := 133) hx hb d_Mo_make_122 (by decide) (by omega) (by omega) (fun h122 => ?_) (fun h122 => ?_)
                        · exfalso; omega
                        · refine lv_iload hx hb d_Mo_make_125 (lv_at hl 0 rfl) ?_
                          refine x_if_ge (tgt := 133) hx hb d_Mo_make_127 (by decide) (by omega) (fun h127 => ?_) (fun h127 => ?_)
                          · exfalso; omega
                          · refine x_bipush hx hb d_Mo_make_130 (by decide) ?_
                            subst hQ hav
                            exact x_iret hx hb hr hlocks B d_Mo_make_132 (⟨rfl, mw_tail (X := [(y, .inr (7, [.int (iI 0), .ref m1, .ref m2, .ref m3, .int (iI pn), .ref m5, .ref m6, .ref m7, .ref m8, .ref m9, .ref m10, .ref m11, .ref m12, .ref m13, .int (iI rw_), .ref m15, .long (lI fu), .long (lI fb)]))]) (Y := [(m5, .inl (cs 0, 72, .inl (ai cv)))]) (fun p hp => hfx p (List.mem_cons_of_mem _ hp))⟩)
                    · exfalso; omega
                  · exfalso; omega
              · exfalso; omega
        · exfalso; omega
