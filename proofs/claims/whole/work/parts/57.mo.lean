theorem val_two {g : Nat → Int} {n : Nat} (hg : Mb g n) (hn : n ≤ 2) : (if 1 < n then g 1 else 0) * 2 ^ 32 + (if 0 < n then g 0 else 0) = Ms g n := by
  rcases (show n = 0 ∨ n = 1 ∨ n = 2 by omega) with rfl | rfl | rfl
  · rfl
  · rw [if_neg (by omega), if_pos (by omega), Ms_succ, Ms_zero, Mp_zero]; omega
  · rw [if_pos (by omega), if_pos (by omega), Ms_succ, Ms_succ, Ms_zero, Mp_zero, show Mp 1 = 4294967296 from rfl]
    have : (2 : Int) ^ 32 = 4294967296 := rfl
    rw [this]
    omega
theorem d_Mo_degreeIn_0 : decode prog_9_method_27_code 0 = .ok (.iload_n 1, 1) := by decide +kernel
theorem d_Mo_degreeIn_1 : decode prog_9_method_27_code 1 = .ok (.istore_n 2, 1) := by decide +kernel
theorem d_Mo_degreeIn_2 : decode prog_9_method_27_code 2 = .ok (.iload_n 2, 1) := by decide +kernel
theorem d_Mo_degreeIn_3 : decode prog_9_method_27_code 3 = .ok (.ifCond .lt 17, 3) := by decide +kernel
theorem d_Mo_degreeIn_6 : decode prog_9_method_27_code 6 = .ok (.aload_n 0, 1) := by decide +kernel
theorem d_Mo_degreeIn_7 : decode prog_9_method_27_code 7 = .ok (.iload_n 2, 1) := by decide +kernel
theorem d_Mo_degreeIn_8 : decode prog_9_method_27_code 8 = .ok (.laload, 1) := by decide +kernel
theorem d_Mo_degreeIn_9 : decode prog_9_method_27_code 9 = .ok (.lconst 0, 1) := by decide +kernel
theorem d_Mo_degreeIn_10 : decode prog_9_method_27_code 10 = .ok (.lcmp, 1) := by decide +kernel
theorem d_Mo_degreeIn_11 : decode prog_9_method_27_code 11 = .ok (.ifCond .ne 9, 3) := by decide +kernel
theorem d_Mo_degreeIn_14 : decode prog_9_method_27_code 14 = .ok (.iinc 2 (-1), 3) := by decide +kernel
theorem d_Mo_degreeIn_17 : decode prog_9_method_27_code 17 = .ok (.goto (-15), 3) := by decide +kernel
theorem d_Mo_degreeIn_20 : decode prog_9_method_27_code 20 = .ok (.iload_n 2, 1) := by decide +kernel
theorem d_Mo_degreeIn_21 : decode prog_9_method_27_code 21 = .ok (.ireturn, 1) := by decide +kernel
set_option maxHeartbeats 8000000 in
set_option maxRecDepth 100000 in
theorem c_Mo_degreeIn (l : Launch) (D : va_G) (cs : Nat → ClassId) (L : List Nat) (f : Nat → va_E) (sz : Nat) (ta : Nat) (aw : Nat → Int) (hF : Fc L [ta]) (hta : f ta = .inl (cs 1, 6, .inr (.inl (al aw)))) (hvr : ∀ j, j < 6 → -9223372036854775808 ≤ aw j ∧ aw j < 9223372036854775808) : Met l (⟨"RealRootsModel", "degreeIn", "([JI)I"⟩ : MethodName) (.code (⟨"RealRootsModel", "degreeIn", "([JI)I"⟩ : MethodName) prog_9_method_27_code 3 (Option.some Jvm.ClassFile.FieldType.int) :: gw) ({ frames := 0, cells := 0, slots := 0, locals := 0 }) (va_Pc [.ref ta, .int (iI 5)] (K0 D vwCl (TY cs) L f sz)) (va_Qi (fun (r : Int32) (g : Nat → va_E) => ∃ k : Nat, r = iI ((k : Int) - 1) ∧ k ≤ 6 ∧ (∀ j, k ≤ j → j < 6 → aw j = 0) ∧ (0 < k → aw (k - 1) ≠ 0) ∧ g = f) (K1 D vwCl (TY cs) (AL L sz) L) (AL L sz)) 0 0 (AL L sz) := by
  refine Met.ofW (cc := prog_9_method_27_code) (maxL := 3) (ret := (Option.some Jvm.ClassFile.FieldType.int)) (by decide) rfl ?_
  intro p e s m args below meth c s₁ Bd hml hv
  obtain ⟨rfl, hk0⟩ := hv
  obtain ⟨hsz, B⟩ := hk0.start
  subst hsz
  have hx := Bd.exec
  have hb := Bd.bytes
  have hr := Bd.returns
  have hlocks := Bd.notSynchronized
  have hts0 := atoms_spec Bd.pre
  have hown : s.vm.findClass RX7 = some m.cls := findClass_of_methodNamed Bd.named
  have hA : ∀ q, s.heap.size ≤ q → AL L s.heap.size q := fun _ h => Or.inr h
  have hl := lv_entry ([.ref ta, .int (iI 5)]) (n := 3) (Nat.le_of_ble_eq_true rfl)
  rw [lg_entry_eq]
  generalize (lg_sl ([.ref ta, .int (iI 5)]) ++ List.replicate (3 - (lg_sl ([.ref ta, .int (iI 5)])).length) Slot.unset).toArray = ls at hl ⊢
  refine absQ (fun Q R av hQ hR hav => ?_)
  have hts : ∀ w ∈ gw, w.before av s = true := by rw [hav]; exact fun w h => hts0 w (List.mem_cons_of_mem _ h)
  have hRf : R.frames = 0 := by rw [hR]; rfl
  have hRl : R.locals = 0 := by rw [hR]; rfl
  have hRc : R.cells = 0 := by rw [hR]; rfl
  have hRs : R.slots = 0 := by rw [hR]; rfl
  clear hR hts0 Bd
  have hl : lv_has ls 3 [(0, .ref ta), (1, .int (iI 5))] := hl
  have hfx : ∀ q ∈ ([(ta, .inl (cs 1, 6, .inr (.inl (al aw))))] : List (Nat × va_E)), f q.1 = q.2 := fun q hq => by
    simp only [List.mem_cons, List.not_mem_nil, or_false] at hq
    rcases hq with rfl
    · exact hta
  have hmw : mw f [(ta, .inl (cs 1, 6, .inr (.inl (al aw))))] = f := mw_self (fun k a e hk => hfx (a, e) (List.mem_of_getElem? hk))
  have B := B.focus [(ta, .inl (cs 1, 6, .inr (.inl (al aw))))] hfx
  refine lv_iload_n hx hb d_Mo_degreeIn_0 rfl (lv_at hl 1 rfl) ?_
  refine lv_istore_n (lv' := [(2, .int (iI 5)), (0, .ref ta), (1, .int (iI 5))]) hx hb d_Mo_degreeIn_1 rfl hl (by decide) rfl (fun ls hl => ?_)
  have LP : ∀ (fuel : Nat) (k : Nat), k < fuel → (k ≤ 6) → (∀ j, k ≤ j → j < 6 → aw j = 0) → ∀ (H : Heap) (locs : List Loc) (ls : Array Slot), Wb D vwCl (TY cs) L (mw f [(ta, .inl (cs 1, 6, .inr (.inl (al aw))))]) (AL L s.heap.size) s H locs → lv_has ls 3 [(2, .int (iI ((k : Int) - 1))), (0, .ref ta)] → W p l e R s m av below meth c H locs (0) (0) Q (F0 m 2 ls []) := by
    intro fuel
    induction fuel with
    | zero => intro k hfu; exact absurd hfu (Nat.not_lt_zero _)
    | succ fuel ih_LP =>
      intro k hfu_LP hk hz H locs ls B hl
      refine lv_iload_n hx hb d_Mo_degreeIn_2 rfl (lv_at hl 0 rfl) ?_
      refine x_if_lt (tgt := 20) hx hb d_Mo_degreeIn_3 (by decide) (by omega) (fun h3 => ?_) (fun h3 => ?_)
      · refine lv_iload_n hx hb d_Mo_degreeIn_20 rfl (lv_at hl 0 rfl) ?_
        have B := B.of_eq hmw
        subst hQ hav
        exact x_iret hx hb hr hlocks B d_Mo_degreeIn_21 (⟨k, rfl, hk, hz, fun h0 => by first | omega | (exfalso; omega), rfl⟩)
      · have hv9 := hvr (k - 1) (by omega)
        refine lv_aload_n hx hb d_Mo_degreeIn_6 rfl (lv_at hl 1 rfl) ?_
        refine lv_iload_n hx hb d_Mo_degreeIn_7 rfl (lv_at hl 0 rfl) ?_
        refine x_lald hx hb B hF 0 1 rfl rfl (k - 1) (by omega) (by omega) (by decide) d_Mo_degreeIn_8 ?_
        refine x_lconst (z := 0) hx hb d_Mo_degreeIn_9 (by decide) ?_
        refine x_lc_ne (tgt := 20) hx hb d_Mo_degreeIn_10 rfl d_Mo_degreeIn_11 (by decide) (by omega) (by omega) (fun h11 => ?_) (fun h11 => ?_)
        · refine lv_iload_n hx hb d_Mo_degreeIn_20 rfl (lv_at hl 0 rfl) ?_
          have B := B.of_eq hmw
          subst hQ hav
          exact x_iret hx hb hr hlocks B d_Mo_degreeIn_21 (⟨k, rfl, hk, hz, fun h0 => by first | omega | (exfalso; omega), rfl⟩)
        · refine x_iinc (lv' := [(2, .int (iI (((k : Int) - 1) + (-1)))), (0, .ref ta)]) hx hb d_Mo_degreeIn_14 hl (q := 0) rfl rfl (by decide) rfl (fun ls hl => ?_)
          refine lv_goto (tgt := 2) hx hb d_Mo_degreeIn_17 (by decide) ?_
          rw [show (k : Int) - 1 + (-1) = ((k - 1 : Nat) : Int) - 1 by omega] at hl
          exact ih_LP (k - 1) (by omega) (by omega) (fun j h1 h2 => by
          by_cases hj : k ≤ j
          · exact hz j hj h2
          · rw [show j = k - 1 by omega]; omega) _ _ _ B (lv_sub hl [0, 1] rfl)
  exact LP _ 6 (Nat.lt_succ_self _) (by omega) (fun j h1 h2 => by omega) _ _ _ B (lv_sub hl [0, 1] rfl)
theorem d_Mo_derive_0 : decode prog_9_method_29_code 0 = .ok (.iconst 0, 1) := by decide +kernel
theorem d_Mo_derive_1 : decode prog_9_method_29_code 1 = .ok (.istore_n 1, 1) := by decide +kernel
theorem d_Mo_derive_2 : decode prog_9_method_29_code 2 = .ok (.iload_n 1, 1) := by decide +kernel
theorem d_Mo_derive_3 : decode prog_9_method_29_code 3 = .ok (.iconst 5, 1) := by decide +kernel
theorem d_Mo_derive_4 : decode prog_9_method_29_code 4 = .ok (.if_icmp .ge 22, 3) := by decide +kernel
theorem d_Mo_derive_7 : decode prog_9_method_29_code 7 = .ok (.aload_n 0, 1) := by decide +kernel
theorem d_Mo_derive_8 : decode prog_9_method_29_code 8 = .ok (.iload_n 1, 1) := by decide +kernel
theorem d_Mo_derive_9 : decode prog_9_method_29_code 9 = .ok (.iload_n 1, 1) := by decide +kernel
theorem d_Mo_derive_10 : decode prog_9_method_29_code 10 = .ok (.iconst 1, 1) := by decide +kernel
theorem d_Mo_derive_11 : decode prog_9_method_29_code 11 = .ok (.iadd, 1) := by decide +kernel
theorem d_Mo_derive_12 : decode prog_9_method_29_code 12 = .ok (.i2l, 1) := by decide +kernel
theorem d_Mo_derive_13 : decode prog_9_method_29_code 13 = .ok (.aload_n 0, 1) := by decide +kernel
theorem d_Mo_derive_14 : decode prog_9_method_29_code 14 = .ok (.iload_n 1, 1) := by decide +kernel
theorem d_Mo_derive_15 : decode prog_9_method_29_code 15 = .ok (.iconst 1, 1) := by decide +kernel
theorem d_Mo_derive_16 : decode prog_9_method_29_code 16 = .ok (.iadd, 1) := by decide +kernel
theorem d_Mo_derive_17 : decode prog_9_method_29_code 17 = .ok (.laload, 1) := by decide +kernel
theorem d_Mo_derive_18 : decode prog_9_method_29_code 18 = .ok (.lmul, 1) := by decide +kernel
theorem d_Mo_derive_19 : decode prog_9_method_29_code 19 = .ok (.lastore, 1) := by decide +kernel
theorem d_Mo_derive_20 : decode prog_9_method_29_code 20 = .ok (.iinc 1 1, 3) := by decide +kernel
theorem d_Mo_derive_23 : decode prog_9_method_29_code 23 = .ok (.goto (-21), 3) := by decide +kernel
theorem d_Mo_derive_26 : decode prog_9_method_29_code 26 = .ok (.aload_n 0, 1) := by decide +kernel
theorem d_Mo_derive_27 : decode prog_9_method_29_code 27 = .ok (.iconst 5, 1) := by decide +kernel
theorem d_Mo_derive_28 : decode prog_9_method_29_code 28 = .ok (.lconst 0, 1) := by decide +kernel
theorem d_Mo_derive_29 : decode prog_9_method_29_code 29 = .ok (.lastore, 1) := by decide +kernel
theorem d_Mo_derive_30 : decode prog_9_method_29_code 30 = .ok (.return_, 1) := by decide +kernel
set_option maxHeartbeats 8000000 in
set_option maxRecDepth 100000 in
theorem c_Mo_derive (l : Launch) (D : va_G) (cs : Nat → ClassId) (L : List Nat) (f : Nat → va_E) (sz : Nat) (ta : Nat) (aw : Nat → Int) (hF : Fc L [ta]) (hta : f ta = .inl (cs 1, 6, .inr (.inl (al aw)))) : Met l (⟨"RealRootsModel", "derive", "([J)V"⟩ : MethodName) (.code (⟨"RealRootsModel", "derive", "([J)V"⟩ : MethodName) prog_9_method_29_code 2 (Option.none : Option Jvm.ClassFile.FieldType) :: gw) ({ frames := 0, cells := 0, slots := 0, locals := 0 }) (va_Pc [.ref ta] (K0 D vwCl (TY cs) L f sz)) (va_Qv (fun (g : Nat → va_E) => ∃ aw' : Nat → Int, (∀ j, j < 5 → aw' j = ((j : Int) + 1) * aw (j + 1)) ∧ aw' 5 = 0 ∧ g = mw f [(ta, .inl (cs 1, 6, .inr (.inl (al (aw')))))]) (K1 D vwCl (TY cs) (AL L sz) L) (AL L sz)) 0 0 (AL L sz) := by
  refine Met.ofW (cc := prog_9_method_29_code) (maxL := 2) (ret := (Option.none : Option Jvm.ClassFile.FieldType)) (by decide) rfl ?_
  intro p e s m args below meth c s₁ Bd hml hv
  obtain ⟨rfl, hk0⟩ := hv
  obtain ⟨hsz, B⟩ := hk0.start
  subst hsz
  have hx := Bd.exec
  have hb := Bd.bytes
  have hr := Bd.returns
  have hlocks := Bd.notSynchronized
  have hts0 := atoms_spec Bd.pre
  have hown : s.vm.findClass RX7 = some m.cls := findClass_of_methodNamed Bd.named
  have hA : ∀ q, s.heap.size ≤ q → AL L s.heap.size q := fun _ h => Or.inr h
  have hl := lv_entry ([.ref ta]) (n := 2) (Nat.le_of_ble_eq_true rfl)
  rw [lg_entry_eq]
  generalize (lg_sl ([.ref ta]) ++ List.replicate (2 - (lg_sl ([.ref ta])).length) Slot.unset).toArray = ls at hl ⊢
  refine absQ (fun Q R av hQ hR hav => ?_)
  have hts : ∀ w ∈ gw, w.before av s = true := by rw [hav]; exact fun w h => hts0 w (List.mem_cons_of_mem _ h)
  have hRf : R.frames = 0 := by rw [hR]; rfl
  have hRl : R.locals = 0 := by rw [hR]; rfl
  have hRc : R.cells = 0 := by rw [hR]; rfl
  have hRs : R.slots = 0 := by rw [hR]; rfl
  clear hR hts0 Bd
  have hl : lv_has ls 2 [(0, .ref ta)] := hl
  have hfx : ∀ q ∈ ([(ta, .inl (cs 1, 6, .inr (.inl (al aw))))] : List (Nat × va_E)), f q.1 = q.2 := fun q hq => by
    simp only [List.mem_cons, List.not_mem_nil, or_false] at hq
    rcases hq with rfl
    · exact hta
  have hmw : mw f [(ta, .inl (cs 1, 6, .inr (.inl (al aw))))] = f := mw_self (fun k a e hk => hfx (a, e) (List.mem_of_getElem? hk))
  have B := B.focus [(ta, .inl (cs 1, 6, .inr (.inl (al aw))))] hfx
  refine x_iconst hx hb d_Mo_derive_0 ?_
  refine lv_istore_n (lv' := [(1, .int (iI 0)), (0, .ref ta)]) hx hb d_Mo_derive_1 rfl hl (by decide) rfl (fun ls hl => ?_)
  have LP : ∀ (fuel : Nat) (k : Nat) (x : Nat → Int), 5 - k < fuel → (k ≤ 5) → (∀ j, j < k → x j = ((j : Int) + 1) * aw (j + 1)) → (∀ j, k ≤ j → x j = aw j) → ∀ (H : Heap) (locs : List Loc) (ls : Array Slot), Wb D vwCl (TY cs) L (mw f [(ta, .inl (cs 1, 6, .inr (.inl (al x))))]) (AL L s.heap.size) s H locs → lv_has ls 2 [(1, .int (iI ((k : Int)))), (0, .ref ta)] → W p l e R s m av below meth c H locs (0) (0) Q (F0 m 2 ls []) := by
    intro fuel
    induction fuel with
    | zero => intro k x hfu; exact absurd hfu (Nat.not_lt_zero _)
    | succ fuel ih_LP =>
      intro k x hfu_LP hk hI hJ H locs ls B hl
      refine lv_iload_n hx hb d_Mo_derive_2 rfl (lv_at hl 0 rfl) ?_
      refine x_iconst hx hb d_Mo_derive_3 ?_
      refine x_icmp_ge (tgt := 26) hx hb d_Mo_derive_4 (by decide) (by omega) (by omega) (fun h4 => ?_) (fun h4 => ?_)
      · refine lv_aload_n hx hb d_Mo_derive_26 rfl (lv_at hl 1 rfl) ?_
        refine x_iconst hx hb d_Mo_derive_27 ?_
        refine x_lconst (z := 0) hx hb d_Mo_derive_28 (by decide) ?_
        refine x_last hx hb B hF 0 1 rfl rfl 5 (by omega) (by omega) (by decide) d_Mo_derive_29 (fun H locs B => ?_)
        have B : Wb D vwCl (TY cs) L (mw f [(ta, .inl (cs 1, 6, .inr (.inl (al (up x 5 0)))))]) (AL L s.heap.size) s H _ := B
        subst hQ hav
        exact x_vret hx hb hr hlocks B d_Mo_derive_30 (⟨_, fun j hj => by rw [up_ne _ _ (by omega)]; exact hI j (by omega), by rw [up_self], rfl⟩)
      · refine lv_aload_n hx hb d_Mo_derive_7 rfl (lv_at hl 1 rfl) ?_
        refine lv_iload_n hx hb d_Mo_derive_8 rfl (lv_at hl 0 rfl) ?_
        refine lv_iload_n hx hb d_Mo_derive_9 rfl (lv_at hl 0 rfl) ?_
        refine x_iconst hx hb d_Mo_derive_10 ?_
        refine x_iadd hx hb d_Mo_derive_11 ?_
        refine x_i2l hx hb d_Mo_derive_12 (by omega) ?_
        refine lv_aload_n hx hb d_Mo_derive_13 rfl (lv_at hl 1 rfl) ?_
        refine lv_iload_n hx hb d_Mo_derive_14 rfl (lv_at hl 0 rfl) ?_
        refine x_iconst hx hb d_Mo_derive_15 ?_
        refine x_iadd hx hb d_Mo_derive_16 ?_
        refine x_lald hx hb B hF 0 1 rfl rfl (k + 1) (by omega) (by omega) (by decide) d_Mo_derive_17 ?_
        refine x_lmul hx hb d_Mo_derive_18 ?_
        refine x_last hx hb B hF 0 1 rfl rfl k (by omega) (by omega) (by decide) d_Mo_derive_19 (fun H locs B => ?_)
        have B : Wb D vwCl (TY cs) L (mw f [(ta, .inl (cs 1, 6, .inr (.inl (al (up x k ((((k : Int)) + 1) * (x (k + 1))))))))]) (AL L s.heap.size) s H _ := B
        refine x_iinc (lv' := [(1, .int (iI (((k : Int)) + 1))), (0, .ref ta)]) hx hb d_Mo_derive_20 hl (q := 0) rfl rfl (by decide) rfl (fun ls hl => ?_)
        refine lv_goto (tgt := 2) hx hb d_Mo_derive_23 (by decide) ?_
        exact ih_LP (k + 1) (up x k ((((k : Int)) + 1) * (x (k + 1)))) (by omega) (by omega) (fun j hj => by
          by_cases hjk : j = k
          · rw [hjk, up_self, hJ (k + 1) (by omega)]
          · rw [up_ne _ _ hjk]; exact hI j (by omega)) (fun j hj => by rw [up_ne _ _ (by omega)]; exact hJ j (by omega)) _ _ _ B (lv_sub hl [0, 1] rfl)
  exact LP _ 0 aw (Nat.lt_succ_self _) (by omega) (fun j hj => by omega) (fun j _ => rfl) _ _ _ B (lv_sub hl [0, 1] rfl)
theorem d_Mo_load_0 : decode prog_9_method_28_code 0 = .ok (.iconst 0, 1) := by decide +kernel
theorem d_Mo_load_1 : decode prog_9_method_28_code 1 = .ok (.istore_n 3, 1) := by decide +kernel
theorem d_Mo_load_2 : decode prog_9_method_28_code 2 = .ok (.iload_n 3, 1) := by decide +kernel
theorem d_Mo_load_3 : decode prog_9_method_28_code 3 = .ok (.bipush 6, 2) := by decide +kernel
theorem d_Mo_load_5 : decode prog_9_method_28_code 5 = .ok (.if_icmp .ge 24, 3) := by decide +kernel
theorem d_Mo_load_8 : decode prog_9_method_28_code 8 = .ok (.aload_n 1, 1) := by decide +kernel
theorem d_Mo_load_9 : decode prog_9_method_28_code 9 = .ok (.iload_n 3, 1) := by decide +kernel
theorem d_Mo_load_10 : decode prog_9_method_28_code 10 = .ok (.aload_n 0, 1) := by decide +kernel
theorem d_Mo_load_11 : decode prog_9_method_28_code 11 = .ok (.getfield 19, 3) := by decide +kernel
theorem d_Mo_load_14 : decode prog_9_method_28_code 14 = .ok (.bipush 6, 2) := by decide +kernel
theorem d_Mo_load_16 : decode prog_9_method_28_code 16 = .ok (.iload_n 2, 1) := by decide +kernel
theorem d_Mo_load_17 : decode prog_9_method_28_code 17 = .ok (.imul, 1) := by decide +kernel
theorem d_Mo_load_18 : decode prog_9_method_28_code 18 = .ok (.iload_n 3, 1) := by decide +kernel
theorem d_Mo_load_19 : decode prog_9_method_28_code 19 = .ok (.iadd, 1) := by decide +kernel
theorem d_Mo_load_20 : decode prog_9_method_28_code 20 = .ok (.iaload, 1) := by decide +kernel
theorem d_Mo_load_21 : decode prog_9_method_28_code 21 = .ok (.i2l, 1) := by decide +kernel
theorem d_Mo_load_22 : decode prog_9_method_28_code 22 = .ok (.lastore, 1) := by decide +kernel
theorem d_Mo_load_23 : decode prog_9_method_28_code 23 = .ok (.iinc 3 1, 3) := by decide +kernel
theorem d_Mo_load_26 : decode prog_9_method_28_code 26 = .ok (.goto (-24), 3) := by decide +kernel
theorem d_Mo_load_29 : decode prog_9_method_28_code 29 = .ok (.return_, 1) := by decide +kernel
set_option maxHeartbeats 8000000 in
set_option maxRecDepth 100000 in
theorem c_Mo_load (l : Launch) (D : va_G) (cs : Nat → ClassId) (L : List Nat) (f : Nat → va_E) (sz : Nat) (y m1 m2 m3 m5 m6 m7 m8 m9 m10 m11 m12 m13 m15 : Nat) (th pn rw_ fu fb : Int) (ta p0 : Nat) (aw cv : Nat → Int) (hF : Fc L [y, ta, m5]) (ha : f y = .inr (7, [.int (iI th), .ref m1, .ref m2, .ref m3, .int (iI pn), .ref m5, .ref m6, .ref m7, .ref m8, .ref m9, .ref m10, .ref m11, .ref m12, .ref m13, .int (iI rw_), .ref m15, .long (lI fu), .long (lI fb)])) (hta : f ta = .inl (cs 1, 6, .inr (.inl (al aw)))) (hm5 : f m5 = .inl (cs 0, 72, .inl (ai cv))) (hp : p0 < 12) (hcv : ∀ j, j < 72 → -1000 ≤ cv j ∧ cv j ≤ 1000) : Met l (⟨"RealRootsModel", "load", "([JI)V"⟩ : MethodName) (.code (⟨"RealRootsModel", "load", "([JI)V"⟩ : MethodName) prog_9_method_28_code 4 (Option.none : Option Jvm.ClassFile.FieldType) :: gw) ({ frames := 0, cells := 0, slots := 0, locals := 0 }) (va_Pc [.ref y, .ref ta, .int (iI ((p0 : Int)))] (K0 D vwCl (TY cs) L f sz)) (va_Qv (fun (g : Nat → va_E) => ∃ aw' : Nat → Int, (∀ j, j < 6 → aw' j = cv (6 * p0 + j)) ∧ g = mw f [(ta, .inl (cs 1, 6, .inr (.inl (al (aw')))))]) (K1 D vwCl (TY cs) (AL L sz) L) (AL L sz)) 0 0 (AL L sz) := by
  refine Met.ofW (cc := prog_9_method_28_code) (maxL := 4) (ret := (Option.none : Option Jvm.ClassFile.FieldType)) (by decide) rfl ?_
  intro p e s m args below meth c s₁ Bd hml hv
  obtain ⟨rfl, hk0⟩ := hv
  obtain ⟨hsz, B⟩ := hk0.start
  subst hsz
  have hx := Bd.exec
  have hb := Bd.bytes
  have hr := Bd.returns
  have hlocks := Bd.notSynchronized
  have hts0 := atoms_spec Bd.pre
  have hown : s.vm.findClass RX7 = some m.cls := findClass_of_methodNamed Bd.named
  have hA : ∀ q, s.heap.size ≤ q → AL L s.heap.size q := fun _ h => Or.inr h
  have hl := lv_entry ([.ref y, .ref ta, .int (iI ((p0 : Int)))]) (n := 4) (Nat.le_of_ble_eq_true rfl)
  rw [lg_entry_eq]
  generalize (lg_sl ([.ref y, .ref ta, .int (iI ((p0 : Int)))]) ++ List.replicate (4 - (lg_sl ([.ref y, .ref ta, .int (iI ((p0 : Int)))])).length) Slot.unset).toArray = ls at hl ⊢
  refine absQ (fun Q R av hQ hR hav => ?_)
  have hts : ∀ w ∈ gw, w.before av s = true := by rw [hav]; exact fun w h => hts0 w (List.mem_cons_of_mem _ h)
  have hRf : R.frames = 0 := by rw [hR]; rfl
  have hRl : R.locals = 0 := by rw [hR]; rfl
  have hRc : R.cells = 0 := by rw [hR]; rfl
  have hRs : R.slots = 0 := by rw [hR]; rfl
  clear hR hts0 Bd
  have hl : lv_has ls 4 [(0, .ref y), (1, .ref ta), (2, .int (iI ((p0 : Int))))] := hl
  have hfx : ∀ q ∈ ([(y, .inr (7, [.int (iI th), .ref m1, .ref m2, .ref m3, .int (iI pn), .ref m5, .ref m6, .ref m7, .ref m8, .ref m9, .ref m10, .ref m11, .ref m12, .ref m13, .int (iI rw_), .ref m15, .long (lI fu), .long (lI fb)])), (ta, .inl (cs 1, 6, .inr (.inl (al aw)))), (m5, .inl (cs 0, 72, .inl (ai cv)))] : List (Nat × va_E)), f q.1 = q.2 := fun q hq => by
    simp only [List.mem_cons, List.not_mem_nil, or_false] at hq
    rcases hq with rfl | rfl | rfl
    · exact ha
    · exact hta
    · exact hm5
  have hmw : mw f [(y, .inr (7, [.int (iI th), .ref m1, .ref m2, .ref m3, .int (iI pn), .ref m5, .ref m6, .ref m7, .ref m8, .ref m9, .ref m10, .ref m11, .ref m12, .ref m13, .int (iI rw_), .ref m15, .long (lI fu), .long (lI fb)])), (ta, .inl (cs 1, 6, .inr (.inl (al aw)))), (m5, .inl (cs 0, 72, .inl (ai cv)))] = f := mw_self (fun k a e hk => hfx (a, e) (List.mem_of_getElem? hk))
  have B := B.focus [(y, .inr (7, [.int (iI th), .ref m1, .ref m2, .ref m3, .int (iI pn), .ref m5, .ref m6, .ref m7, .ref m8, .ref m9, .ref m10, .ref m11, .ref m12, .ref m13, .int (iI rw_), .ref m15, .long (lI fu), .long (lI fb)])), (ta, .inl (cs 1, 6, .inr (.inl (al aw)))), (m5, .inl (cs 0, 72, .inl (ai cv)))] hfx
  refine x_iconst hx hb d_Mo_load_0 ?_
  refine lv_istore_n (lv' := [(3, .int (iI 0)), (0, .ref y), (1, .ref ta), (2, .int (iI ((p0 : Int))))]) hx hb d_Mo_load_1 rfl hl (by decide) rfl (fun ls hl => ?_)
  have LP : ∀ (fuel : Nat) (k : Nat) (x : Nat → Int), 6 - k < fuel → (k ≤ 6) → (∀ j, j < k → x j = cv (6 * p0 + j)) → ∀ (H : Heap) (locs : List Loc) (ls : Array Slot), Wb D vwCl (TY cs) L (mw f [(y, .inr (7, [.int (iI th), .ref m1, .ref m2, .ref m3, .int (iI pn), .ref m5, .ref m6, .ref m7, .ref m8, .ref m9, .ref m10, .ref m11, .ref m12, .ref m13, .int (iI rw_), .ref m15, .long (lI fu), .long (lI fb)])), (ta, .inl (cs 1, 6, .inr (.inl (al x)))), (m5, .inl (cs 0, 72, .inl (ai cv)))]) (AL L s.heap.size) s H locs → lv_has ls 4 [(3, .int (iI ((k : Int)))), (0, .ref y), (1, .ref ta), (2, .int (iI ((p0 : Int))))] → W p l e R s m av below meth c H locs (0) (0) Q (F0 m 2 ls []) := by
    intro fuel
    induction fuel with
    | zero => intro k x hfu; exact absurd hfu (Nat.not_lt_zero _)
    | succ fuel ih_LP =>
      intro k x hfu_LP hk hI H locs ls B hl
      refine lv_iload_n hx hb d_Mo_load_2 rfl (lv_at hl 0 rfl) ?_
      refine x_bipush hx hb d_Mo_load_3 (by decide) ?_
      refine x_icmp_ge (tgt := 29) hx hb d_Mo_load_5 (by decide) (by omega) (by omega) (fun h5 => ?_) (fun h5 => ?_)
      · subst hQ hav
        exact x_vret hx hb hr hlocks B d_Mo_load_29 (⟨_, fun j hj => hI j (by omega), Eq.trans (mw_drop (f := f) (X := [(ta, .inl (cs 1, 6, .inr (.inl (al x)))), (m5, .inl (cs 0, 72, .inl (ai cv)))]) ha (List.nodup_cons.mp hF.1).1) (mw_tail (X := [(ta, .inl (cs 1, 6, .inr (.inl (al x))))]) (Y := [(m5, .inl (cs 0, 72, .inl (ai cv)))]) (fun p hp => hfx p (List.mem_cons_of_mem _ (List.mem_cons_of_mem _ hp))))⟩)
      · have hcj := hcv (6 * p0 + k) (by omega)
        refine lv_aload_n hx hb d_Mo_load_8 rfl (lv_at hl 2 rfl) ?_
        refine lv_iload_n hx hb d_Mo_load_9 rfl (lv_at hl 0 rfl) ?_
        refine lv_aload_n hx hb d_Mo_load_10 rfl (lv_at hl 1 rfl) ?_
        refine x_get (C := RX7) (T := TX7) (N := 18) hx hb hts inX7 hown B hF 0 rfl rfl 5 (by decide) (hts _ w_682) (fun _ h9 => h9) rfl d_Mo_load_11 ?_
        refine x_bipush hx hb d_Mo_load_14 (by decide) ?_
        refine lv_iload_n hx hb d_Mo_load_16 rfl (lv_at hl 3 rfl) ?_
        refine x_imul hx hb d_Mo_load_17 ?_
        refine lv_iload_n hx hb d_Mo_load_18 rfl (lv_at hl 0 rfl) ?_
        refine x_iadd hx hb d_Mo_load_19 ?_
        refine x_iald hx hb B hF 2 0 rfl rfl (6 * p0 + k) (by omega) (by omega) (by decide) d_Mo_load_20 ?_
        refine x_i2l hx hb d_Mo_load_21 (by omega) ?_
        refine x_last hx hb B hF 1 1 rfl rfl k (by omega) (by omega) (by decide) d_Mo_load_22 (fun H locs B => ?_)
        have B : Wb D vwCl (TY cs) L (mw f [(y, .inr (7, [.int (iI th), .ref m1, .ref m2, .ref m3, .int (iI pn), .ref m5, .ref m6, .ref m7, .ref m8, .ref m9, .ref m10, .ref m11, .ref m12, .ref m13, .int (iI rw_), .ref m15, .long (lI fu), .long (lI fb)])), (ta, .inl (cs 1, 6, .inr (.inl (al (up x k (cv (6 * p0 + k))))))), (m5, .inl (cs 0, 72, .inl (ai cv)))]) (AL L s.heap.size) s H _ := B
        refine x_iinc (lv' := [(3, .int (iI (((k : Int)) + 1))), (0, .ref y), (1, .ref ta), (2, .int (iI ((p0 : Int))))]) hx hb d_Mo_load_23 hl (q := 0) rfl rfl (by decide) rfl (fun ls hl => ?_)
        refine lv_goto (tgt := 2) hx hb d_Mo_load_26 (by decide) ?_
        exact ih_LP (k + 1) (up x k (cv (6 * p0 + k))) (by omega) (by omega) (fun j hj => by
          by_cases hjk : j = k
          · rw [hjk, up_self]
          · rw [up_ne _ _ hjk]; exact hI j (by omega)) _ _ _ B (lv_sub hl [0, 1, 2, 3] rfl)
  exact LP _ 0 aw (Nat.lt_succ_self _) (by omega) (fun j hj => by omega) _ _ _ B (lv_sub hl [0, 1, 2, 3] rfl)
theorem d_Mo_put_0 : decode prog_9_method_31_code 0 = .ok (.iconst 0, 1) := by decide +kernel
theorem d_Mo_put_1 : decode prog_9_method_31_code 1 = .ok (.istore_n 3, 1) := by decide +kernel
theorem d_Mo_put_2 : decode prog_9_method_31_code 2 = .ok (.iload_n 3, 1) := by decide +kernel
theorem d_Mo_put_3 : decode prog_9_method_31_code 3 = .ok (.bipush 6, 2) := by decide +kernel
theorem d_Mo_put_5 : decode prog_9_method_31_code 5 = .ok (.if_icmp .ge 19, 3) := by decide +kernel
theorem d_Mo_put_8 : decode prog_9_method_31_code 8 = .ok (.aload_n 0, 1) := by decide +kernel
theorem d_Mo_put_9 : decode prog_9_method_31_code 9 = .ok (.iload_n 1, 1) := by decide +kernel
theorem d_Mo_put_10 : decode prog_9_method_31_code 10 = .ok (.iload_n 3, 1) := by decide +kernel
theorem d_Mo_put_11 : decode prog_9_method_31_code 11 = .ok (.iadd, 1) := by decide +kernel
theorem d_Mo_put_12 : decode prog_9_method_31_code 12 = .ok (.aload_n 2, 1) := by decide +kernel
theorem d_Mo_put_13 : decode prog_9_method_31_code 13 = .ok (.iload_n 3, 1) := by decide +kernel
theorem d_Mo_put_14 : decode prog_9_method_31_code 14 = .ok (.laload, 1) := by decide +kernel
theorem d_Mo_put_15 : decode prog_9_method_31_code 15 = .ok (.invokevirtual 77, 3) := by decide +kernel
theorem d_Mo_put_18 : decode prog_9_method_31_code 18 = .ok (.iinc 3 1, 3) := by decide +kernel
theorem d_Mo_put_21 : decode prog_9_method_31_code 21 = .ok (.goto (-19), 3) := by decide +kernel
theorem d_Mo_put_24 : decode prog_9_method_31_code 24 = .ok (.return_, 1) := by decide +kernel
set_option maxHeartbeats 8000000 in
set_option maxRecDepth 100000 in
theorem c_Mo_put (l : Launch) (D : va_G) (cs : Nat → ClassId) (L : List Nat) (f : Nat → va_E) (sz : Nat) (y m1 m2 m3 m5 m6 m7 m8 m9 m10 m11 m12 m13 m15 : Nat) (th pn rw_ fu fb : Int) (lm mn sn Z : Nat → Int) (t0 ta : Nat) (aw : Nat → Int) (hF : Fc L [y, m1, m2, m3, ta]) (ha : f y = .inr (7, [.int (iI th), .ref m1, .ref m2, .ref m3, .int (iI pn), .ref m5, .ref m6, .ref m7, .ref m8, .ref m9, .ref m10, .ref m11, .ref m12, .ref m13, .int (iI rw_), .ref m15, .long (lI fu), .long (lI fb)])) (hm1 : f m1 = .inl (cs 0, 11520, .inl (ai lm))) (hm2 : f m2 = .inl (cs 0, 180, .inl (ai mn))) (hm3 : f m3 = .inl (cs 0, 180, .inl (ai sn))) (hRS : RS lm mn sn Z) (ht8 : t0 + 5 < 180) (hta : f ta = .inl (cs 1, 6, .inr (.inl (al aw)))) (hvr : ∀ j, j < 6 → -9223372036854775808 < aw j ∧ aw j < 9223372036854775808) : Met l (⟨"RealRootsModel", "put", "(I[J)V"⟩ : MethodName) (.code (⟨"RealRootsModel", "put", "(I[J)V"⟩ : MethodName) prog_9_method_31_code 4 (Option.none : Option Jvm.ClassFile.FieldType) :: gw) ({ frames := 1, cells := 0, slots := 0, locals := 40 }) (va_Pc [.ref y, .int (iI ((t0 : Int))), .ref ta] (K0 D vwCl (TY cs) L f sz)) (va_Qv (fun (g : Nat → va_E) => ∃ lm' mn' sn' Z' : Nat → Int, RS lm' mn' sn' Z' ∧ (∀ j, j < 6 → Z' (t0 + j) = aw j) ∧ (∀ v, (v < t0 ∨ t0 + 5 < v) → Z' v = Z v) ∧ g = mw f [(m1, .inl (cs 0, 11520, .inl (ai (lm')))), (m2, .inl (cs 0, 180, .inl (ai (mn')))), (m3, .inl (cs 0, 180, .inl (ai (sn'))))]) (K1 D vwCl (TY cs) (AL L sz) L) (AL L sz)) 0 0 (AL L sz) := by
  refine Met.ofW (cc := prog_9_method_31_code) (maxL := 4) (ret := (Option.none : Option Jvm.ClassFile.FieldType)) (by decide) rfl ?_
  intro p e s m args below meth c s₁ Bd hml hv
  obtain ⟨rfl, hk0⟩ := hv
  obtain ⟨hsz, B⟩ := hk0.start
  subst hsz
  have hx := Bd.exec
  have hb := Bd.bytes
  have hr := Bd.returns
  have hlocks := Bd.notSynchronized
  have hts0 := atoms_spec Bd.pre
  have hown : s.vm.findClass RX7 = some m.cls := findClass_of_methodNamed Bd.named
  have hA : ∀ q, s.heap.size ≤ q → AL L s.heap.size q := fun _ h => Or.inr h
  have hl := lv_entry ([.ref y, .int (iI ((t0 : Int))), .ref ta]) (n := 4) (Nat.le_of_ble_eq_true rfl)
  rw [lg_entry_eq]
  generalize (lg_sl ([.ref y, .int (iI ((t0 : Int))), .ref ta]) ++ List.replicate (4 - (lg_sl ([.ref y, .int (iI ((t0 : Int))), .ref ta])).length) Slot.unset).toArray = ls at hl ⊢
  refine absQ (fun Q R av hQ hR hav => ?_)
  have hts : ∀ w ∈ gw, w.before av s = true := by rw [hav]; exact fun w h => hts0 w (List.mem_cons_of_mem _ h)
  have hRf : R.frames = 1 := by rw [hR]; rfl
  have hRl : R.locals = 40 := by rw [hR]; rfl
  have hRc : R.cells = 0 := by rw [hR]; rfl
  have hRs : R.slots = 0 := by rw [hR]; rfl
  clear hR hts0 Bd
  have hl : lv_has ls 4 [(0, .ref y), (1, .int (iI ((t0 : Int)))), (2, .ref ta)] := hl
  have hfx : ∀ q ∈ ([(y, .inr (7, [.int (iI th), .ref m1, .ref m2, .ref m3, .int (iI pn), .ref m5, .ref m6, .ref m7, .ref m8, .ref m9, .ref m10, .ref m11, .ref m12, .ref m13, .int (iI rw_), .ref m15, .long (lI fu), .long (lI fb)])), (m1, .inl (cs 0, 11520, .inl (ai lm))), (m2, .inl (cs 0, 180, .inl (ai mn))), (m3, .inl (cs 0, 180, .inl (ai sn))), (ta, .inl (cs 1, 6, .inr (.inl (al aw))))] : List (Nat × va_E)), f q.1 = q.2 := fun q hq => by
    simp only [List.mem_cons, List.not_mem_nil, or_false] at hq
    rcases hq with rfl | rfl | rfl | rfl | rfl
    · exact ha
    · exact hm1
    · exact hm2
    · exact hm3
    · exact hta
  have hmw : mw f [(y, .inr (7, [.int (iI th), .ref m1, .ref m2, .ref m3, .int (iI pn), .ref m5, .ref m6, .ref m7, .ref m8, .ref m9, .ref m10, .ref m11, .ref m12, .ref m13, .int (iI rw_), .ref m15, .long (lI fu), .long (lI fb)])), (m1, .inl (cs 0, 11520, .inl (ai lm))), (m2, .inl (cs 0, 180, .inl (ai mn))), (m3, .inl (cs 0, 180, .inl (ai sn))), (ta, .inl (cs 1, 6, .inr (.inl (al aw))))] = f := mw_self (fun k a e hk => hfx (a, e) (List.mem_of_getElem? hk))
  have B := B.focus [(y, .inr (7, [.int (iI th), .ref m1, .ref m2, .ref m3, .int (iI pn), .ref m5, .ref m6, .ref m7, .ref m8, .ref m9, .ref m10, .ref m11, .ref m12, .ref m13, .int (iI rw_), .ref m15, .long (lI fu), .long (lI fb)])), (m1, .inl (cs 0, 11520, .inl (ai lm))), (m2, .inl (cs 0, 180, .inl (ai mn))), (m3, .inl (cs 0, 180, .inl (ai sn))), (ta, .inl (cs 1, 6, .inr (.inl (al aw))))] hfx
  refine x_iconst hx hb d_Mo_put_0 ?_
  refine lv_istore_n (lv' := [(3, .int (iI 0)), (0, .ref y), (1, .int (iI ((t0 : Int)))), (2, .ref ta)]) hx hb d_Mo_put_1 rfl hl (by decide) rfl (fun ls hl => ?_)
  have LP : ∀ (fuel : Nat) (k : Nat) (lm2 : Nat → Int) (mn2 : Nat → Int) (sn2 : Nat → Int) (Z2 : Nat → Int), 6 - k < fuel → (k ≤ 6) → (RS lm2 mn2 sn2 Z2) → (∀ j, j < k → Z2 (t0 + j) = aw j) → (∀ v, (v < t0 ∨ t0 + 5 < v) → Z2 v = Z v) → ∀ (H : Heap) (locs : List Loc) (ls : Array Slot), Wb D vwCl (TY cs) L (mw f [(y, .inr (7, [.int (iI th), .ref m1, .ref m2, .ref m3, .int (iI pn), .ref m5, .ref m6, .ref m7, .ref m8, .ref m9, .ref m10, .ref m11, .ref m12, .ref m13, .int (iI rw_), .ref m15, .long (lI fu), .long (lI fb)])), (m1, .inl (cs 0, 11520, .inl (ai lm2))), (m2, .inl (cs 0, 180, .inl (ai mn2))), (m3, .inl (cs 0, 180, .inl (ai sn2))), (ta, .inl (cs 1, 6, .inr (.inl (al aw))))]) (AL L s.heap.size) s H locs → lv_has ls 4 [(3, .int (iI ((k : Int)))), (0, .ref y), (1, .int (iI ((t0 : Int)))), (2, .ref ta)] → W p l e R s m av below meth c H locs (0) (0) Q (F0 m 2 ls []) := by
    intro fuel
    induction fuel with
    | zero => intro k lm2 mn2 sn2 Z2 hfu; exact absurd hfu (Nat.not_lt_zero _)
    | succ fuel ih_LP =>
      intro k lm2 mn2 sn2 Z2 hfu_LP hk hR hI ho H locs ls B hl
      refine lv_iload_n hx hb d_Mo_put_2 rfl (lv_at hl 0 rfl) ?_
      refine x_bipush hx hb d_Mo_put_3 (by decide) ?_
      refine x_icmp_ge (tgt := 24) hx hb d_Mo_put_5 (by decide) (by omega) (by omega) (fun h5 => ?_) (fun h5 => ?_)
      · subst hQ hav
        exact x_vret hx hb hr hlocks B d_Mo_put_24 (⟨_, _, _, Z2, hR, fun j hj => hI j (by omega), ho, Eq.trans (mw_drop (f := f) (X := [(m1, .inl (cs 0, 11520, .inl (ai lm2))), (m2, .inl (cs 0, 180, .inl (ai mn2))), (m3, .inl (cs 0, 180, .inl (ai sn2))), (ta, .inl (cs 1, 6, .inr (.inl (al aw))))]) ha (List.nodup_cons.mp hF.1).1) (mw_tail (X := [(m1, .inl (cs 0, 11520, .inl (ai lm2))), (m2, .inl (cs 0, 180, .inl (ai mn2))), (m3, .inl (cs 0, 180, .inl (ai sn2)))]) (Y := [(ta, .inl (cs 1, 6, .inr (.inl (al aw))))]) (fun p hp => hfx p (List.mem_cons_of_mem _ (List.mem_cons_of_mem _ (List.mem_cons_of_mem _ (List.mem_cons_of_mem _ (hp)))))))⟩)
      · have hv9 := hvr k (by omega)
        refine lv_aload_n hx hb d_Mo_put_8 rfl (lv_at hl 1 rfl) ?_
        refine lv_iload_n hx hb d_Mo_put_9 rfl (lv_at hl 2 rfl) ?_
        refine lv_iload_n hx hb d_Mo_put_10 rfl (lv_at hl 0 rfl) ?_
        refine x_iadd hx hb d_Mo_put_11 ?_
        refine lv_aload_n hx hb d_Mo_put_12 rfl (lv_at hl 3 rfl) ?_
        refine lv_iload_n hx hb d_Mo_put_13 rfl (lv_at hl 0 rfl) ?_
        refine x_lald hx hb B hF 4 1 rfl rfl k (by omega) (by omega) (by decide) d_Mo_put_14 ?_
        refine x_callv B hA (va_runV (As := [.int (iI (((t0 : Int)) + ((k : Int)))), .long (lI (aw k))]) (rest := []) ⟨hx, hb, hml, hown, hts⟩ (c_Mo_lay0 l D cs _ _ _ y m1 m2 m3 m5 m6 m7 m8 m9 m10 m11 m12 m13 m15 th pn rw_ fu fb lm2 mn2 sn2 Z2 (t0 + k) (aw k) (hF.pick [0, 1, 2, 3] rfl rfl) (mw_get (X := [(y, .inr (7, [.int (iI th), .ref m1, .ref m2, .ref m3, .int (iI pn), .ref m5, .ref m6, .ref m7, .ref m8, .ref m9, .ref m10, .ref m11, .ref m12, .ref m13, .int (iI rw_), .ref m15, .long (lI fu), .long (lI fb)])), (m1, .inl (cs 0, 11520, .inl (ai lm2))), (m2, .inl (cs 0, 180, .inl (ai mn2))), (m3, .inl (cs 0, 180, .inl (ai sn2))), (ta, .inl (cs 1, 6, .inr (.inl (al aw))))]) hF.1 (k := 0) rfl) (mw_get (X := [(y, .inr (7, [.int (iI th), .ref m1, .ref m2, .ref m3, .int (iI pn), .ref m5, .ref m6, .ref m7, .ref m8, .ref m9, .ref m10, .ref m11, .ref m12, .ref m13, .int (iI rw_), .ref m15, .long (lI fu), .long (lI fb)])), (m1, .inl (cs 0, 11520, .inl (ai lm2))), (m2, .inl (cs 0, 180, .inl (ai mn2))), (m3, .inl (cs 0, 180, .inl (ai sn2))), (ta, .inl (cs 1, 6, .inr (.inl (al aw))))]) hF.1 (k := 1) rfl) (mw_get (X := [(y, .inr (7, [.int (iI th), .ref m1, .ref m2, .ref m3, .int (iI pn), .ref m5, .ref m6, .ref m7, .ref m8, .ref m9, .ref m10, .ref m11, .ref m12, .ref m13, .int (iI rw_), .ref m15, .long (lI fu), .long (lI fb)])), (m1, .inl (cs 0, 11520, .inl (ai lm2))), (m2, .inl (cs 0, 180, .inl (ai mn2))), (m3, .inl (cs 0, 180, .inl (ai sn2))), (ta, .inl (cs 1, 6, .inr (.inl (al aw))))]) hF.1 (k := 2) rfl) (mw_get (X := [(y, .inr (7, [.int (iI th), .ref m1, .ref m2, .ref m3, .int (iI pn), .ref m5, .ref m6, .ref m7, .ref m8, .ref m9, .ref m10, .ref m11, .ref m12, .ref m13, .int (iI rw_), .ref m15, .long (lI fu), .long (lI fb)])), (m1, .inl (cs 0, 11520, .inl (ai lm2))), (m2, .inl (cs 0, 180, .inl (ai mn2))), (m3, .inl (cs 0, 180, .inl (ai sn2))), (ta, .inl (cs 1, 6, .inr (.inl (al aw))))]) hF.1 (k := 3) rfl) hR (by omega) (by omega)) (cwV 2 hts (gw_V w_792 w_794 s_35 w_8 w_795) rfl rfl rfl (by decide +kernel) ⟨by rw [hRf]; exact Nat.le_of_ble_eq_true rfl, by rw [hRl]; exact Nat.le_of_ble_eq_true rfl⟩) ⟨K0.blind, B.recv (hF.2 _ (mw_key (k := 0) (X := [(y, .inr (7, [.int (iI th), .ref m1, .ref m2, .ref m3, .int (iI pn), .ref m5, .ref m6, .ref m7, .ref m8, .ref m9, .ref m10, .ref m11, .ref m12, .ref m13, .int (iI rw_), .ref m15, .long (lI fu), .long (lI fb)])), (m1, .inl (cs 0, 11520, .inl (ai lm2))), (m2, .inl (cs 0, 180, .inl (ai mn2))), (m3, .inl (cs 0, 180, .inl (ai sn2))), (ta, .inl (cs 1, 6, .inr (.inl (al aw))))]) rfl)) (mw_get (X := [(y, .inr (7, [.int (iI th), .ref m1, .ref m2, .ref m3, .int (iI pn), .ref m5, .ref m6, .ref m7, .ref m8, .ref m9, .ref m10, .ref m11, .ref m12, .ref m13, .int (iI rw_), .ref m15, .long (lI fu), .long (lI fb)])), (m1, .inl (cs 0, 11520, .inl (ai lm2))), (m2, .inl (cs 0, 180, .inl (ai mn2))), (m3, .inl (cs 0, 180, .inl (ai sn2))), (ta, .inl (cs 1, 6, .inr (.inl (al aw))))]) hF.1 (k := 0) rfl) rfl, B.pre _⟩ rfl rfl hl.1 rfl (lv_room (Nat.le_of_ble_eq_true rfl)) d_Mo_put_15 ⟨by rw [hRc]; omega, by rw [hRs]; omega⟩) (fun g15 H locs hw B => ?_)
        obtain ⟨lm15, mn15, sn15, hR3, rfl⟩ := hw
        have B := B.of_eq (mw_put3 (X := [(y, .inr (7, [.int (iI th), .ref m1, .ref m2, .ref m3, .int (iI pn), .ref m5, .ref m6, .ref m7, .ref m8, .ref m9, .ref m10, .ref m11, .ref m12, .ref m13, .int (iI rw_), .ref m15, .long (lI fu), .long (lI fb)])), (m1, .inl (cs 0, 11520, .inl (ai lm2))), (m2, .inl (cs 0, 180, .inl (ai mn2))), (m3, .inl (cs 0, 180, .inl (ai sn2))), (ta, .inl (cs 1, 6, .inr (.inl (al aw))))]) hF.1 (k1 := 1) (k2 := 2) (k3 := 3) rfl rfl rfl)
        have B : Wb D vwCl (TY cs) L (mw f [(y, .inr (7, [.int (iI th), .ref m1, .ref m2, .ref m3, .int (iI pn), .ref m5, .ref m6, .ref m7, .ref m8, .ref m9, .ref m10, .ref m11, .ref m12, .ref m13, .int (iI rw_), .ref m15, .long (lI fu), .long (lI fb)])), (m1, .inl (cs 0, 11520, .inl (ai lm15))), (m2, .inl (cs 0, 180, .inl (ai mn15))), (m3, .inl (cs 0, 180, .inl (ai sn15))), (ta, .inl (cs 1, 6, .inr (.inl (al aw))))]) (AL L s.heap.size) s H _ := B
        refine x_iinc (lv' := [(3, .int (iI (((k : Int)) + 1))), (0, .ref y), (1, .int (iI ((t0 : Int)))), (2, .ref ta)]) hx hb d_Mo_put_18 hl (q := 0) rfl rfl (by decide) rfl (fun ls hl => ?_)
        refine lv_goto (tgt := 2) hx hb d_Mo_put_21 (by decide) ?_
        exact ih_LP (k + 1) lm15 mn15 sn15 (up Z2 (t0 + k) (aw k)) (by omega) (by omega) hR3 (fun j hj => by
          by_cases hjk : j = k
          · rw [hjk, up_self]
          · rw [up_ne _ _ (by omega)]; exact hI j (by omega)) (fun v hv => by rw [up_ne _ _ (by omega)]; exact ho v hv) _ _ _ B (lv_sub hl [0, 1, 2, 3] rfl)
  exact LP _ 0 lm mn sn Z (Nat.lt_succ_self _) (by omega) hRS (fun j hj => by omega) (fun v _ => rfl) _ _ _ B (lv_sub hl [0, 1, 2, 3] rfl)
theorem d_Mo_valueOf_0 : decode prog_9_method_32_code 0 = .ok (.aload_n 0, 1) := by decide +kernel
theorem d_Mo_valueOf_1 : decode prog_9_method_32_code 1 = .ok (.getfield 13, 3) := by decide +kernel
theorem d_Mo_valueOf_4 : decode prog_9_method_32_code 4 = .ok (.iload_n 1, 1) := by decide +kernel
theorem d_Mo_valueOf_5 : decode prog_9_method_32_code 5 = .ok (.iaload, 1) := by decide +kernel
theorem d_Mo_valueOf_6 : decode prog_9_method_32_code 6 = .ok (.iconst 1, 1) := by decide +kernel
theorem d_Mo_valueOf_7 : decode prog_9_method_32_code 7 = .ok (.if_icmp .le 23, 3) := by decide +kernel
theorem d_Mo_valueOf_10 : decode prog_9_method_32_code 10 = .ok (.aload_n 0, 1) := by decide +kernel
theorem d_Mo_valueOf_11 : decode prog_9_method_32_code 11 = .ok (.getfield 7, 3) := by decide +kernel
theorem d_Mo_valueOf_14 : decode prog_9_method_32_code 14 = .ok (.bipush 64, 2) := by decide +kernel
theorem d_Mo_valueOf_16 : decode prog_9_method_32_code 16 = .ok (.iload_n 1, 1) := by decide +kernel
theorem d_Mo_valueOf_17 : decode prog_9_method_32_code 17 = .ok (.imul, 1) := by decide +kernel
theorem d_Mo_valueOf_18 : decode prog_9_method_32_code 18 = .ok (.iconst 1, 1) := by decide +kernel
theorem d_Mo_valueOf_19 : decode prog_9_method_32_code 19 = .ok (.iadd, 1) := by decide +kernel
theorem d_Mo_valueOf_20 : decode prog_9_method_32_code 20 = .ok (.iaload, 1) := by decide +kernel
theorem d_Mo_valueOf_21 : decode prog_9_method_32_code 21 = .ok (.invokestatic 57, 3) := by decide +kernel
theorem d_Mo_valueOf_24 : decode prog_9_method_32_code 24 = .ok (.bipush 32, 2) := by decide +kernel
theorem d_Mo_valueOf_26 : decode prog_9_method_32_code 26 = .ok (.lshl, 1) := by decide +kernel
theorem d_Mo_valueOf_27 : decode prog_9_method_32_code 27 = .ok (.goto 4, 3) := by decide +kernel
theorem d_Mo_valueOf_30 : decode prog_9_method_32_code 30 = .ok (.lconst 0, 1) := by decide +kernel
theorem d_Mo_valueOf_31 : decode prog_9_method_32_code 31 = .ok (.lstore_n 2, 1) := by decide +kernel
theorem d_Mo_valueOf_32 : decode prog_9_method_32_code 32 = .ok (.lload_n 2, 1) := by decide +kernel
theorem d_Mo_valueOf_33 : decode prog_9_method_32_code 33 = .ok (.aload_n 0, 1) := by decide +kernel
theorem d_Mo_valueOf_34 : decode prog_9_method_32_code 34 = .ok (.getfield 13, 3) := by decide +kernel
theorem d_Mo_valueOf_37 : decode prog_9_method_32_code 37 = .ok (.iload_n 1, 1) := by decide +kernel
theorem d_Mo_valueOf_38 : decode prog_9_method_32_code 38 = .ok (.iaload, 1) := by decide +kernel
theorem d_Mo_valueOf_39 : decode prog_9_method_32_code 39 = .ok (.ifCond .le 18, 3) := by decide +kernel
theorem d_Mo_valueOf_42 : decode prog_9_method_32_code 42 = .ok (.aload_n 0, 1) := by decide +kernel
theorem d_Mo_valueOf_43 : decode prog_9_method_32_code 43 = .ok (.getfield 7, 3) := by decide +kernel
theorem d_Mo_valueOf_46 : decode prog_9_method_32_code 46 = .ok (.bipush 64, 2) := by decide +kernel
theorem d_Mo_valueOf_48 : decode prog_9_method_32_code 48 = .ok (.iload_n 1, 1) := by decide +kernel
theorem d_Mo_valueOf_49 : decode prog_9_method_32_code 49 = .ok (.imul, 1) := by decide +kernel
theorem d_Mo_valueOf_50 : decode prog_9_method_32_code 50 = .ok (.iaload, 1) := by decide +kernel
theorem d_Mo_valueOf_51 : decode prog_9_method_32_code 51 = .ok (.invokestatic 57, 3) := by decide +kernel
theorem d_Mo_valueOf_54 : decode prog_9_method_32_code 54 = .ok (.goto 4, 3) := by decide +kernel
theorem d_Mo_valueOf_57 : decode prog_9_method_32_code 57 = .ok (.lconst 0, 1) := by decide +kernel
theorem d_Mo_valueOf_58 : decode prog_9_method_32_code 58 = .ok (.lor, 1) := by decide +kernel
theorem d_Mo_valueOf_59 : decode prog_9_method_32_code 59 = .ok (.lstore_n 2, 1) := by decide +kernel
theorem d_Mo_valueOf_60 : decode prog_9_method_32_code 60 = .ok (.aload_n 0, 1) := by decide +kernel
theorem d_Mo_valueOf_61 : decode prog_9_method_32_code 61 = .ok (.getfield 16, 3) := by decide +kernel
theorem d_Mo_valueOf_64 : decode prog_9_method_32_code 64 = .ok (.iload_n 1, 1) := by decide +kernel
theorem d_Mo_valueOf_65 : decode prog_9_method_32_code 65 = .ok (.iaload, 1) := by decide +kernel
theorem d_Mo_valueOf_66 : decode prog_9_method_32_code 66 = .ok (.ifCond .ge 8, 3) := by decide +kernel
theorem d_Mo_valueOf_69 : decode prog_9_method_32_code 69 = .ok (.lload_n 2, 1) := by decide +kernel
theorem d_Mo_valueOf_70 : decode prog_9_method_32_code 70 = .ok (.lneg, 1) := by decide +kernel
theorem d_Mo_valueOf_71 : decode prog_9_method_32_code 71 = .ok (.goto 4, 3) := by decide +kernel
theorem d_Mo_valueOf_74 : decode prog_9_method_32_code 74 = .ok (.lload_n 2, 1) := by decide +kernel
theorem d_Mo_valueOf_75 : decode prog_9_method_32_code 75 = .ok (.lreturn, 1) := by decide +kernel
set_option maxHeartbeats 8000000 in
set_option maxRecDepth 100000 in
theorem c_Mo_valueOf (l : Launch) (D : va_G) (cs : Nat → ClassId) (L : List Nat) (f : Nat → va_E) (sz : Nat) (y m1 m2 m3 m5 m6 m7 m8 m9 m10 m11 m12 m13 m15 : Nat) (th pn rw_ fu fb : Int) (lm mn sn Z : Nat → Int) (x : Nat) (hF : Fc L [y, m1, m2, m3]) (ha : f y = .inr (7, [.int (iI th), .ref m1, .ref m2, .ref m3, .int (iI pn), .ref m5, .ref m6, .ref m7, .ref m8, .ref m9, .ref m10, .ref m11, .ref m12, .ref m13, .int (iI rw_), .ref m15, .long (lI fu), .long (lI fb)])) (hm1 : f m1 = .inl (cs 0, 11520, .inl (ai lm))) (hm2 : f m2 = .inl (cs 0, 180, .inl (ai mn))) (hm3 : f m3 = .inl (cs 0, 180, .inl (ai sn))) (hRS : RS lm mn sn Z) (hx8 : x < 180) (hr0 : ((Z x).natAbs : Int) < 4611686018427387904) : Met l (⟨"RealRootsModel", "valueOf", "(I)J"⟩ : MethodName) (.code (⟨"RealRootsModel", "valueOf", "(I)J"⟩ : MethodName) prog_9_method_32_code 4 (Option.some Jvm.ClassFile.FieldType.long) :: gw) ({ frames := 1, cells := 0, slots := 0, locals := 20 }) (va_Pc [.ref y, .int (iI ((x : Int)))] (K0 D vwCl (TY cs) L f sz)) (va_Ql (fun (r : Int64) (g : Nat → va_E) => r = lI (Z x) ∧ g = f) (K1 D vwCl (TY cs) (AL L sz) L) (AL L sz)) 0 0 (AL L sz) := by
  refine Met.ofW (cc := prog_9_method_32_code) (maxL := 4) (ret := (Option.some Jvm.ClassFile.FieldType.long)) (by decide) rfl ?_
  intro p e s m args below meth c s₁ Bd hml hv
  obtain ⟨rfl, hk0⟩ := hv
  obtain ⟨hsz, B⟩ := hk0.start
  subst hsz
  have hx := Bd.exec
  have hb := Bd.bytes
  have hr := Bd.returns
  have hlocks := Bd.notSynchronized
  have hts0 := atoms_spec Bd.pre
  have hown : s.vm.findClass RX7 = some m.cls := findClass_of_methodNamed Bd.named
  have hA : ∀ q, s.heap.size ≤ q → AL L s.heap.size q := fun _ h => Or.inr h
  have hl := lv_entry ([.ref y, .int (iI ((x : Int)))]) (n := 4) (Nat.le_of_ble_eq_true rfl)
  rw [lg_entry_eq]
  generalize (lg_sl ([.ref y, .int (iI ((x : Int)))]) ++ List.replicate (4 - (lg_sl ([.ref y, .int (iI ((x : Int)))])).length) Slot.unset).toArray = ls at hl ⊢
  refine absQ (fun Q R av hQ hR hav => ?_)
  have hts : ∀ w ∈ gw, w.before av s = true := by rw [hav]; exact fun w h => hts0 w (List.mem_cons_of_mem _ h)
  have hRf : R.frames = 1 := by rw [hR]; rfl
  have hRl : R.locals = 20 := by rw [hR]; rfl
  have hRc : R.cells = 0 := by rw [hR]; rfl
  have hRs : R.slots = 0 := by rw [hR]; rfl
  clear hR hts0 Bd
  have hl : lv_has ls 4 [(0, .ref y), (1, .int (iI ((x : Int))))] := hl
  obtain ⟨nx, hnx, hn8, hMx, htx, hvx⟩ := (hRS x hx8).nat
  have hn2 : nx ≤ 2 := by have h9 := (hRS x hx8).size 2 (Int.lt_trans hr0 (by decide)); omega
  have hsx := (hRS x hx8).side
  have hfx : ∀ q ∈ ([(y, .inr (7, [.int (iI th), .ref m1, .ref m2, .ref m3, .int (iI pn), .ref m5, .ref m6, .ref m7, .ref m8, .ref m9, .ref m10, .ref m11, .ref m12, .ref m13, .int (iI rw_), .ref m15, .long (lI fu), .long (lI fb)])), (m1, .inl (cs 0, 11520, .inl (ai lm))), (m2, .inl (cs 0, 180, .inl (ai mn))), (m3, .inl (cs 0, 180, .inl (ai sn)))] : List (Nat × va_E)), f q.1 = q.2 := fun q hq => by
    simp only [List.mem_cons, List.not_mem_nil, or_false] at hq
    rcases hq with rfl | rfl | rfl | rfl
    · exact ha
    · exact hm1
    · exact hm2
    · exact hm3
  have hmw : mw f [(y, .inr (7, [.int (iI th), .ref m1, .ref m2, .ref m3, .int (iI pn), .ref m5, .ref m6, .ref m7, .ref m8, .ref m9, .ref m10, .ref m11, .ref m12, .ref m13, .int (iI rw_), .ref m15, .long (lI fu), .long (lI fb)])), (m1, .inl (cs 0, 11520, .inl (ai lm))), (m2, .inl (cs 0, 180, .inl (ai mn))), (m3, .inl (cs 0, 180, .inl (ai sn)))] = f := mw_self (fun k a e hk => hfx (a, e) (List.mem_of_getElem? hk))
  have B := B.focus [(y, .inr (7, [.int (iI th), .ref m1, .ref m2, .ref m3, .int (iI pn), .ref m5, .ref m6, .ref m7, .ref m8, .ref m9, .ref m10, .ref m11, .ref m12, .ref m13, .int (iI rw_), .ref m15, .long (lI fu), .long (lI fb)])), (m1, .inl (cs 0, 11520, .inl (ai lm))), (m2, .inl (cs 0, 180, .inl (ai mn))), (m3, .inl (cs 0, 180, .inl (ai sn)))] hfx
  have J31 : ∀ (v1 : Int), (v1 = if 1 < nx then fl lm x 1 else 0) → (0 ≤ v1 ∧ v1 < 4294967296) → ∀ (H : Heap) (locs : List Loc) (ls : Array Slot), Wb D vwCl (TY cs) L (mw f [(y, .inr (7, [.int (iI th), .ref m1, .ref m2, .ref m3, .int (iI pn), .ref m5, .ref m6, .ref m7, .ref m8, .ref m9, .ref m10, .ref m11, .ref m12, .ref m13, .int (iI rw_), .ref m15, .long (lI fu), .long (lI fb)])), (m1, .inl (cs 0, 11520, .inl (ai lm))), (m2, .inl (cs 0, 180, .inl (ai mn))), (m3, .inl (cs 0, 180, .inl (ai sn)))]) (AL L s.heap.size) s H locs → lv_has ls 4 [(0, .ref y), (1, .int (iI ((x : Int))))] → W p l e R s m av below meth c H locs (0) (0) Q (F0 m 31 ls [.long (lI (v1 * 2 ^ 32))]) := by
    intro v1 hv1 hv1r H locs ls B hl
    refine lv_lstore_n (lv' := [(2, .long (lI (v1 * 2 ^ 32))), (0, .ref y), (1, .int (iI ((x : Int))))]) hx hb d_Mo_valueOf_31 rfl hl (by decide) rfl (fun ls hl => ?_)
    have J58 : ∀ (v0 : Int), (v0 = if 0 < nx then fl lm x 0 else 0) → (0 ≤ v0 ∧ v0 < 2 ^ 32) → ∀ (H : Heap) (locs : List Loc) (ls : Array Slot), Wb D vwCl (TY cs) L (mw f [(y, .inr (7, [.int (iI th), .ref m1, .ref m2, .ref m3, .int (iI pn), .ref m5, .ref m6, .ref m7, .ref m8, .ref m9, .ref m10, .ref m11, .ref m12, .ref m13, .int (iI rw_), .ref m15, .long (lI fu), .long (lI fb)])), (m1, .inl (cs 0, 11520, .inl (ai lm))), (m2, .inl (cs 0, 180, .inl (ai mn))), (m3, .inl (cs 0, 180, .inl (ai sn)))]) (AL L s.heap.size) s H locs → lv_has ls 4 [(2, .long (lI (v1 * 2 ^ 32))), (0, .ref y), (1, .int (iI ((x : Int))))] → W p l e R s m av below meth c H locs (0) (0) Q (F0 m 58 ls [.long (lI v0), .long (lI (v1 * 2 ^ 32))]) := by
      intro v0 hv0 hv0r H locs ls B hl
      have hvv : v1 * 2 ^ 32 + v0 = ((Z x).natAbs : Int) := by rw [← hvx, hv1, hv0]; exact val_two hMx hn2
      refine x_lorv hx hb 32 d_Mo_valueOf_58 (hv0r) (by omega) (by omega) ?_
      refine lv_lstore_n (lv' := [(2, .long (lI (v1 * 2 ^ 32 + v0))), (0, .ref y), (1, .int (iI ((x : Int))))]) hx hb d_Mo_valueOf_59 rfl hl (by decide) rfl (fun ls hl => ?_)
      refine lv_aload_n hx hb d_Mo_valueOf_60 rfl (lv_at hl 1 rfl) ?_
      refine x_get (C := RX7) (T := TX7) (N := 18) hx hb hts inX7 hown B hF 0 rfl rfl 3 (by decide) (hts _ w_680) (fun _ h9 => h9) rfl d_Mo_valueOf_61 ?_
      refine lv_iload_n hx hb d_Mo_valueOf_64 rfl (lv_at hl 2 rfl) ?_
      refine x_iald hx hb B hF 3 0 rfl rfl x (by omega) (by omega) (by decide) d_Mo_valueOf_65 ?_
      refine x_if_ge (tgt := 74) hx hb d_Mo_valueOf_66 (by decide) (by omega) (fun h66 => ?_) (fun h66 => ?_)
      · refine lv_lload_n hx hb d_Mo_valueOf_74 rfl (lv_at hl 0 rfl) ?_
        have B := B.of_eq hmw
        subst hQ hav
        exact x_lret hx hb hr hlocks B d_Mo_valueOf_75 (⟨by rw [hvv]; congr 1; omega, rfl⟩)
      · refine lv_lload_n hx hb d_Mo_valueOf_69 rfl (lv_at hl 0 rfl) ?_
        refine x_lneg hx hb d_Mo_valueOf_70 ?_
        refine lv_goto (tgt := 75) hx hb d_Mo_valueOf_71 (by decide) ?_
        have B := B.of_eq hmw
        subst hQ hav
        exact x_lret hx hb hr hlocks B d_Mo_valueOf_75 (⟨by rw [hvv]; congr 1; omega, rfl⟩)
    refine lv_lload_n hx hb d_Mo_valueOf_32 rfl (lv_at hl 0 rfl) ?_
    refine lv_aload_n hx hb d_Mo_valueOf_33 rfl (lv_at hl 1 rfl) ?_
    refine x_get (C := RX7) (T := TX7) (N := 18) hx hb hts inX7 hown B hF 0 rfl rfl 2 (by decide) (hts _ w_679) (fun _ h9 => h9) rfl d_Mo_valueOf_34 ?_
    refine lv_iload_n hx hb d_Mo_valueOf_37 rfl (lv_at hl 2 rfl) ?_
    refine x_iald hx hb B hF 2 0 rfl rfl x (by omega) (by omega) (by decide) d_Mo_valueOf_38 ?_
    refine x_if_le (tgt := 57) hx hb d_Mo_valueOf_39 (by decide) (by omega) (fun h39 => ?_) (fun h39 => ?_)
    · refine x_lconst (z := 0) hx hb d_Mo_valueOf_57 (by decide) ?_
      exact J58 0 (by rw [if_neg (by omega)]) (by omega) _ _ _ B (lv_sub hl [0, 1, 2] rfl)
    · refine lv_aload_n hx hb d_Mo_valueOf_42 rfl (lv_at hl 1 rfl) ?_
      refine x_get (C := RX7) (T := TX7) (N := 18) hx hb hts inX7 hown B hF 0 rfl rfl 1 (by decide) (hts _ w_678) (fun _ h9 => h9) rfl d_Mo_valueOf_43 ?_
      refine x_bipush hx hb d_Mo_valueOf_46 (by decide) ?_
      refine lv_iload_n hx hb d_Mo_valueOf_48 rfl (lv_at hl 2 rfl) ?_
      refine x_imul hx hb d_Mo_valueOf_49 ?_
      refine x_iald hx hb B hF 1 0 rfl rfl (64 * x + 0) (by omega) (by omega) (by decide) d_Mo_valueOf_50 ?_
      refine x_calll B hA (va_runS (As := [.int (iI (lm (64 * x + 0)))]) (rest := [.long (lI (v1 * 2 ^ 32))]) ⟨hx, hb, hml, hown, hts⟩ (c_Mo_low l D cs _ _ _ (lm (64 * x + 0))) (va_cwS 1 hts (gw_S w_812 w_813 w_8 w_814) rfl rfl rfl (by decide +kernel) ⟨by rw [hRf]; exact Nat.le_of_ble_eq_true rfl, by rw [hRl]; exact Nat.le_of_ble_eq_true rfl⟩) ⟨K0.blind, B.pre _⟩ rfl rfl hl.1 rfl (lv_room (Nat.le_of_ble_eq_true rfl)) d_Mo_valueOf_51 ⟨by rw [hRc]; omega, by rw [hRs]; omega⟩) (fun r51 g51 H locs hw B => ?_)
      obtain ⟨rfl, rfl⟩ := hw
      rw [show (lm (64 * x + 0)) % 4294967296 = fl lm x 0 from low_of rfl (hMx 0 (by omega))]
      have B : Wb D vwCl (TY cs) L (mw f [(y, .inr (7, [.int (iI th), .ref m1, .ref m2, .ref m3, .int (iI pn), .ref m5, .ref m6, .ref m7, .ref m8, .ref m9, .ref m10, .ref m11, .ref m12, .ref m13, .int (iI rw_), .ref m15, .long (lI fu), .long (lI fb)])), (m1, .inl (cs 0, 11520, .inl (ai lm))), (m2, .inl (cs 0, 180, .inl (ai mn))), (m3, .inl (cs 0, 180, .inl (ai sn)))]) (AL L s.heap.size) s H _ := B
      refine lv_goto (tgt := 58) hx hb d_Mo_valueOf_54 (by decide) ?_
      exact J58 (fl lm x 0) (by rw [if_pos (by omega)]) (hMx 0 (by omega)) _ _ _ B (lv_sub hl [0, 1, 2] rfl)
  refine lv_aload_n hx hb d_Mo_valueOf_0 rfl (lv_at hl 0 rfl) ?_
  refine x_get (C := RX7) (T := TX7) (N := 18) hx hb hts inX7 hown B hF 0 rfl rfl 2 (by decide) (hts _ w_679) (fun _ h9 => h9) rfl d_Mo_valueOf_1 ?_
  refine lv_iload_n hx hb d_Mo_valueOf_4 rfl (lv_at hl 1 rfl) ?_
  refine x_iald hx hb B hF 2 0 rfl rfl x (by omega) (by omega) (by decide) d_Mo_valueOf_5 ?_
  refine x_iconst hx hb d_Mo_valueOf_6 ?_
  refine x_icmp_le (tgt := 30) hx hb d_Mo_valueOf_7 (by decide) (by omega) (by omega) (fun h7 => ?_) (fun h7 => ?_)
  · refine x_lconst (z := 0) hx hb d_Mo_valueOf_30 (by decide) ?_
    rw [show (0 : Int) = 0 * 2 ^ 32 from rfl]
    exact J31 0 (by rw [if_neg (by omega)]) (by omega) _ _ _ B (lv_sub hl [0, 1] rfl)
  · refine lv_aload_n hx hb d_Mo_valueOf_10 rfl (lv_at hl 0 rfl) ?_
    refine x_get (C := RX7) (T := TX7) (N := 18) hx hb hts inX7 hown B hF 0 rfl rfl 1 (by decide) (hts _ w_678) (fun _ h9 => h9) rfl d_Mo_valueOf_11 ?_
    refine x_bipush hx hb d_Mo_valueOf_14 (by decide) ?_
    refine lv_iload_n hx hb d_Mo_valueOf_16 rfl (lv_at hl 1 rfl) ?_
    refine x_imul hx hb d_Mo_valueOf_17 ?_
    refine x_iconst hx hb d_Mo_valueOf_18 ?_
    refine x_iadd hx hb d_Mo_valueOf_19 ?_
    refine x_iald hx hb B hF 1 0 rfl rfl (64 * x + 1) (by omega) (by omega) (by decide) d_Mo_valueOf_20 ?_
    refine x_calll B hA (va_runS (As := [.int (iI (lm (64 * x + 1)))]) (rest := []) ⟨hx, hb, hml, hown, hts⟩ (c_Mo_low l D cs _ _ _ (lm (64 * x + 1))) (va_cwS 1 hts (gw_S w_812 w_813 w_8 w_814) rfl rfl rfl (by decide +kernel) ⟨by rw [hRf]; exact Nat.le_of_ble_eq_true rfl, by rw [hRl]; exact Nat.le_of_ble_eq_true rfl⟩) ⟨K0.blind, B.pre _⟩ rfl rfl hl.1 rfl (lv_room (Nat.le_of_ble_eq_true rfl)) d_Mo_valueOf_21 ⟨by rw [hRc]; omega, by rw [hRs]; omega⟩) (fun r21 g21 H locs hw B => ?_)
    obtain ⟨rfl, rfl⟩ := hw
    rw [show (lm (64 * x + 1)) % 4294967296 = fl lm x 1 from low_of rfl (hMx 1 (by omega))]
    have B : Wb D vwCl (TY cs) L (mw f [(y, .inr (7, [.int (iI th), .ref m1, .ref m2, .ref m3, .int (iI pn), .ref m5, .ref m6, .ref m7, .ref m8, .ref m9, .ref m10, .ref m11, .ref m12, .ref m13, .int (iI rw_), .ref m15, .long (lI fu), .long (lI fb)])), (m1, .inl (cs 0, 11520, .inl (ai lm))), (m2, .inl (cs 0, 180, .inl (ai mn))), (m3, .inl (cs 0, 180, .inl (ai sn)))]) (AL L s.heap.size) s H _ := B
    refine x_bipush hx hb d_Mo_valueOf_24 (by decide) ?_
    refine x_lshlv hx hb 32 (rfl) (by decide) d_Mo_valueOf_26 ?_
    refine lv_goto (tgt := 31) hx hb d_Mo_valueOf_27 (by decide) ?_
    exact J31 (fl lm x 1) (by rw [if_pos (by omega)]) (hMx 1 (by omega)) _ _ _ B (lv_sub hl [0, 1] rfl)
