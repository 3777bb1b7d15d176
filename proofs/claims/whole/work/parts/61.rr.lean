/-! Euclid's steps are few -/
theorem few_steps {x y i : Nat} (h : i = 0 ∨ (y < x ∧ x * y * 2 ^ i ≤ 2 ^ 126)) (hx : x < 4611686018427387904) (hy : y < 4611686018427387904) (h0 : y ≠ 0) : i < 127 ∧ (x % y < y ∧ y * (x % y) * 2 ^ (i + 1) ≤ 2 ^ 126) := by
  have hm := Nat.mod_lt x (show 0 < y by omega)
  rcases h with h | ⟨h1, h2⟩
  · subst h
    refine ⟨by omega, hm, ?_⟩
    have h3 := Nat.mul_le_mul (show y ≤ 4611686018427387904 by omega) (show x % y ≤ 4611686018427387904 by omega)
    have h4 := Nat.mul_le_mul_right (2 ^ (0 + 1)) h3
    exact Nat.le_trans h4 (by decide)
  · refine ⟨?_, hm, ?_⟩
    · have h3 : 1 ≤ x * y := Nat.mul_pos (by omega) (by omega)
      have h4 : 2 ^ i ≤ 2 ^ 126 := Nat.le_trans (by have := Nat.mul_le_mul_right (2 ^ i) h3; omega) h2
      rcases Nat.lt_or_ge i 127 with h5 | h5
      · exact h5
      · have h6 : (2 : Nat) ^ 127 ≤ 2 ^ i := Nat.pow_le_pow_right (by decide) h5
        have h7 : (2 : Nat) ^ 126 < 2 ^ 127 := by decide
        omega
    · have h3 : 2 * (x % y) ≤ x := by
        have h4 := Nat.div_add_mod x y
        have h5 : 1 ≤ x / y := Nat.div_pos (by omega) (by omega)
        have h6 := Nat.mul_le_mul_left y h5
        omega
      have h4 : y * (x % y) * 2 ^ (i + 1) = y * (2 * (x % y)) * 2 ^ i := by
        rw [Nat.pow_succ]
        simp only [Nat.mul_comm, Nat.mul_left_comm, Nat.mul_assoc]
      rw [h4]
      refine Nat.le_trans (Nat.mul_le_mul_right _ (Nat.mul_le_mul_left y h3)) ?_
      rw [Nat.mul_comm y x]
      exact h2
theorem d_RR_outside_0 : decode prog_1_method_23_code 0 = .ok (.iload_n 0, 1) := by decide +kernel
theorem d_RR_outside_1 : decode prog_1_method_23_code 1 = .ok (.ldc 242, 2) := by decide +kernel
theorem d_RR_outside_3 : decode prog_1_method_23_code 3 = .ok (.if_icmp .lt 20, 3) := by decide +kernel
theorem d_RR_outside_6 : decode prog_1_method_23_code 6 = .ok (.iload_n 0, 1) := by decide +kernel
theorem d_RR_outside_7 : decode prog_1_method_23_code 7 = .ok (.ldc 243, 2) := by decide +kernel
theorem d_RR_outside_9 : decode prog_1_method_23_code 9 = .ok (.if_icmp .gt 14, 3) := by decide +kernel
theorem d_RR_outside_12 : decode prog_1_method_23_code 12 = .ok (.iload_n 1, 1) := by decide +kernel
theorem d_RR_outside_13 : decode prog_1_method_23_code 13 = .ok (.iconst 1, 1) := by decide +kernel
theorem d_RR_outside_14 : decode prog_1_method_23_code 14 = .ok (.if_icmp .lt 9, 3) := by decide +kernel
theorem d_RR_outside_17 : decode prog_1_method_23_code 17 = .ok (.iload_n 1, 1) := by decide +kernel
theorem d_RR_outside_18 : decode prog_1_method_23_code 18 = .ok (.ldc 243, 2) := by decide +kernel
theorem d_RR_outside_20 : decode prog_1_method_23_code 20 = .ok (.if_icmp .le 7, 3) := by decide +kernel
theorem d_RR_outside_23 : decode prog_1_method_23_code 23 = .ok (.iconst 1, 1) := by decide +kernel
theorem d_RR_outside_24 : decode prog_1_method_23_code 24 = .ok (.goto 4, 3) := by decide +kernel
theorem d_RR_outside_27 : decode prog_1_method_23_code 27 = .ok (.iconst 0, 1) := by decide +kernel
theorem d_RR_outside_28 : decode prog_1_method_23_code 28 = .ok (.ireturn, 1) := by decide +kernel
set_option maxHeartbeats 8000000 in
set_option maxRecDepth 100000 in
theorem c_RR_outside (l : Launch) (D : va_G) (cs : Nat → ClassId) (L : List Nat) (f : Nat → va_E) (sz : Nat) (n1 d1 : Int) (hn : -2147483648 ≤ n1 ∧ n1 < 2147483648) (hd1 : -2147483648 ≤ d1 ∧ d1 < 2147483648) : Met l (⟨"RealRoots", "outside", "(II)Z"⟩ : MethodName) (.code (⟨"RealRoots", "outside", "(II)Z"⟩ : MethodName) prog_1_method_23_code 2 (Option.some Jvm.ClassFile.FieldType.boolean) :: gw) ({ frames := 0, cells := 0, slots := 0, locals := 0 }) (va_Pc [.int (iI n1), .int (iI d1)] (K0 D vwCl (TY cs) L f sz)) (va_Qi (fun (r : Int32) (g : Nat → va_E) => r = iI (if n1 < -1000000 ∨ 1000000 < n1 ∨ d1 < 1 ∨ 1000000 < d1 then 1 else 0) ∧ g = f) (K1 D vwCl (TY cs) (AL L sz) L) (AL L sz)) 0 0 (AL L sz) := by
  refine Met.ofW (cc := prog_1_method_23_code) (maxL := 2) (ret := (Option.some Jvm.ClassFile.FieldType.boolean)) (by decide) rfl ?_
  intro p e s m args below meth c s₁ Bd hml hv
  obtain ⟨rfl, hk0⟩ := hv
  obtain ⟨hsz, B⟩ := hk0.start
  subst hsz
  have hx := Bd.exec
  have hb := Bd.bytes
  have hr := Bd.returns
  have hlocks := Bd.notSynchronized
  have hts0 := atoms_spec Bd.pre
  have hown : s.vm.findClass RX6 = some m.cls := findClass_of_methodNamed Bd.named
  have hA : ∀ q, s.heap.size ≤ q → AL L s.heap.size q := fun _ h => Or.inr h
  have hl := lv_entry ([.int (iI n1), .int (iI d1)]) (n := 2) (Nat.le_of_ble_eq_true rfl)
  rw [lg_entry_eq]
  generalize (lg_sl ([.int (iI n1), .int (iI d1)]) ++ List.replicate (2 - (lg_sl ([.int (iI n1), .int (iI d1)])).length) Slot.unset).toArray = ls at hl ⊢
  refine absQ (fun Q R av hQ hR hav => ?_)
  have hts : ∀ w ∈ gw, w.before av s = true := by rw [hav]; exact fun w h => hts0 w (List.mem_cons_of_mem _ h)
  have hRf : R.frames = 0 := by rw [hR]; rfl
  have hRl : R.locals = 0 := by rw [hR]; rfl
  have hRc : R.cells = 0 := by rw [hR]; rfl
  have hRs : R.slots = 0 := by rw [hR]; rfl
  clear hR hts0 Bd
  have hl : lv_has ls 2 [(0, .int (iI n1)), (1, .int (iI d1))] := hl
  refine lv_iload_n hx hb d_RR_outside_0 rfl (lv_at hl 0 rfl) ?_
  refine x_ldc (z := -1000000) hx hb hown (hts _ w_547) (by decide) d_RR_outside_1 ?_
  refine x_icmp_lt (tgt := 23) hx hb d_RR_outside_3 (by decide) (by omega) (by omega) (fun h3 => ?_) (fun h3 => ?_)
  · refine x_iconst hx hb d_RR_outside_23 ?_
    refine lv_goto (tgt := 28) hx hb d_RR_outside_24 (by decide) ?_
    subst hQ hav
    exact x_zret hx hb hr (by decide) hlocks B d_RR_outside_28 (⟨by rw [if_pos (by omega)], rfl⟩)
  · refine lv_iload_n hx hb d_RR_outside_6 rfl (lv_at hl 0 rfl) ?_
    refine x_ldc (z := 1000000) hx hb hown (hts _ w_548) (by decide) d_RR_outside_7 ?_
    refine x_icmp_gt (tgt := 23) hx hb d_RR_outside_9 (by decide) (by omega) (by omega) (fun h9 => ?_) (fun h9 => ?_)
    · refine x_iconst hx hb d_RR_outside_23 ?_
      refine lv_goto (tgt := 28) hx hb d_RR_outside_24 (by decide) ?_
      subst hQ hav
      exact x_zret hx hb hr (by decide) hlocks B d_RR_outside_28 (⟨by rw [if_pos (by omega)], rfl⟩)
    · refine lv_iload_n hx hb d_RR_outside_12 rfl (lv_at hl 1 rfl) ?_
      refine x_iconst hx hb d_RR_outside_13 ?_
      refine x_icmp_lt (tgt := 23) hx hb d_RR_outside_14 (by decide) (by omega) (by omega) (fun h14 => ?_) (fun h14 => ?_)
      · refine x_iconst hx hb d_RR_outside_23 ?_
        refine lv_goto (tgt := 28) hx hb d_RR_outside_24 (by decide) ?_
        subst hQ hav
        exact x_zret hx hb hr (by decide) hlocks B d_RR_outside_28 (⟨by rw [if_pos (by omega)], rfl⟩)
      · refine lv_iload_n hx hb d_RR_outside_17 rfl (lv_at hl 1 rfl) ?_
        refine x_ldc (z := 1000000) hx hb hown (hts _ w_548) (by decide) d_RR_outside_18 ?_
        refine x_icmp_le (tgt := 27) hx hb d_RR_outside_20 (by decide) (by omega) (by omega) (fun h20 => ?_) (fun h20 => ?_)
        · refine x_iconst hx hb d_RR_outside_27 ?_
          subst hQ hav
          exact x_zret hx hb hr (by decide) hlocks B d_RR_outside_28 (⟨by rw [if_neg (by omega)], rfl⟩)
        · refine x_iconst hx hb d_RR_outside_23 ?_
          refine lv_goto (tgt := 28) hx hb d_RR_outside_24 (by decide) ?_
          subst hQ hav
          exact x_zret hx hb hr (by decide) hlocks B d_RR_outside_28 (⟨by rw [if_pos (by omega)], rfl⟩)
theorem d_RR_topOf_0 : decode prog_1_method_32_code 0 = .ok (.iconst 5, 1) := by decide +kernel
theorem d_RR_topOf_1 : decode prog_1_method_32_code 1 = .ok (.istore_n 1, 1) := by decide +kernel
theorem d_RR_topOf_2 : decode prog_1_method_32_code 2 = .ok (.iload_n 1, 1) := by decide +kernel
theorem d_RR_topOf_3 : decode prog_1_method_32_code 3 = .ok (.ifCond .lt 15, 3) := by decide +kernel
theorem d_RR_topOf_6 : decode prog_1_method_32_code 6 = .ok (.aload_n 0, 1) := by decide +kernel
theorem d_RR_topOf_7 : decode prog_1_method_32_code 7 = .ok (.iload_n 1, 1) := by decide +kernel
theorem d_RR_topOf_8 : decode prog_1_method_32_code 8 = .ok (.iaload, 1) := by decide +kernel
theorem d_RR_topOf_9 : decode prog_1_method_32_code 9 = .ok (.ifCond .ne 9, 3) := by decide +kernel
theorem d_RR_topOf_12 : decode prog_1_method_32_code 12 = .ok (.iinc 1 (-1), 3) := by decide +kernel
theorem d_RR_topOf_15 : decode prog_1_method_32_code 15 = .ok (.goto (-13), 3) := by decide +kernel
theorem d_RR_topOf_18 : decode prog_1_method_32_code 18 = .ok (.iload_n 1, 1) := by decide +kernel
theorem d_RR_topOf_19 : decode prog_1_method_32_code 19 = .ok (.ireturn, 1) := by decide +kernel
set_option maxHeartbeats 8000000 in
set_option maxRecDepth 100000 in
theorem c_RR_topOf (l : Launch) (D : va_G) (cs : Nat → ClassId) (L : List Nat) (f : Nat → va_E) (sz : Nat) (ta : Nat) (aw : Nat → Int) (hF : Fc L [ta]) (hta : f ta = .inl (cs 0, 6, .inl (ai aw))) (hvr : ∀ j, j < 6 → -2147483648 ≤ aw j ∧ aw j < 2147483648) : Met l (⟨"RealRoots", "topOf", "([I)I"⟩ : MethodName) (.code (⟨"RealRoots", "topOf", "([I)I"⟩ : MethodName) prog_1_method_32_code 2 (Option.some Jvm.ClassFile.FieldType.int) :: gw) ({ frames := 0, cells := 0, slots := 0, locals := 0 }) (va_Pc [.ref ta] (K0 D vwCl (TY cs) L f sz)) (va_Qi (fun (r : Int32) (g : Nat → va_E) => ∃ k : Nat, r = iI ((k : Int) - 1) ∧ k ≤ 6 ∧ (∀ j, k ≤ j → j < 6 → aw j = 0) ∧ (0 < k → aw (k - 1) ≠ 0) ∧ g = f) (K1 D vwCl (TY cs) (AL L sz) L) (AL L sz)) 0 0 (AL L sz) := by
  refine Met.ofW (cc := prog_1_method_32_code) (maxL := 2) (ret := (Option.some Jvm.ClassFile.FieldType.int)) (by decide) rfl ?_
  intro p e s m args below meth c s₁ Bd hml hv
  obtain ⟨rfl, hk0⟩ := hv
  obtain ⟨hsz, B⟩ := hk0.start
  subst hsz
  have hx := Bd.exec
  have hb := Bd.bytes
  have hr := Bd.returns
  have hlocks := Bd.notSynchronized
  have hts0 := atoms_spec Bd.pre
  have hown : s.vm.findClass RX6 = some m.cls := findClass_of_methodNamed Bd.named
  have hA : ∀ q, s.heap.size ≤ q → AL L s.heap.size q := fun _ h => Or.inr h
  have hl := lv_entry ([.ref ta]) (n := 2) (Nat.le_of_ble_eq_true rfl)
  rw [lg_entry_eq]
  generalize (lg_sl ([.ref ta]) ++ List.replicate (2 - (lg_sl ([.ref ta])).length) Slot.unset).toArray = ls at hl ⊢
  refine absQ (fun Q R av hQ hR hav => ?_)
  have hts : ∀ w ∈ gw, w.before av s = true := by rw [hav]; exact fun w h => hts0 w (List.mem_cons_of_mem _ h)
  have hRf : R.frames = 0 := by rw [hR]; rfl
  have hRl : R.locals = 0 := by rw [hR]; rfl
  have hRc : R.cells = 0 := by rw [hR]; rfl
  have hRs : R.slots = 0 := by rw [hR]; rfl
  clear hR hts0 Bd
  have hl : lv_has ls 2 [(0, .ref ta)] := hl
  have hfx : ∀ q ∈ ([(ta, .inl (cs 0, 6, .inl (ai aw)))] : List (Nat × va_E)), f q.1 = q.2 := fun q hq => by
    simp only [List.mem_cons, List.not_mem_nil, or_false] at hq
    rcases hq with rfl
    · exact hta
  have hmw : mw f [(ta, .inl (cs 0, 6, .inl (ai aw)))] = f := mw_self (fun k a e hk => hfx (a, e) (List.mem_of_getElem? hk))
  have B := B.focus [(ta, .inl (cs 0, 6, .inl (ai aw)))] hfx
  refine x_iconst hx hb d_RR_topOf_0 ?_
  refine lv_istore_n (lv' := [(1, .int (iI 5)), (0, .ref ta)]) hx hb d_RR_topOf_1 rfl hl (by decide) rfl (fun ls hl => ?_)
  have LP : ∀ (fuel : Nat) (k : Nat), k < fuel → (k ≤ 6) → (∀ j, k ≤ j → j < 6 → aw j = 0) → ∀ (H : Heap) (locs : List Loc) (ls : Array Slot), Wb D vwCl (TY cs) L (mw f [(ta, .inl (cs 0, 6, .inl (ai aw)))]) (AL L s.heap.size) s H locs → lv_has ls 2 [(1, .int (iI ((k : Int) - 1))), (0, .ref ta)] → W p l e R s m av below meth c H locs (0) (0) Q (F0 m 2 ls []) := by
    intro fuel
    induction fuel with
    | zero => intro k hfu; exact absurd hfu (Nat.not_lt_zero _)
    | succ fuel ih_LP =>
      intro k hfu_LP hk hz H locs ls B hl
      refine lv_iload_n hx hb d_RR_topOf_2 rfl (lv_at hl 0 rfl) ?_
      refine x_if_lt (tgt := 18) hx hb d_RR_topOf_3 (by decide) (by omega) (fun h3 => ?_) (fun h3 => ?_)
      · refine lv_iload_n hx hb d_RR_topOf_18 rfl (lv_at hl 0 rfl) ?_
        have B := B.of_eq hmw
        subst hQ hav
        exact x_iret hx hb hr hlocks B d_RR_topOf_19 (⟨k, rfl, hk, hz, fun h0 => by first | omega | (exfalso; omega), rfl⟩)
      · have hv9 := hvr (k - 1) (by omega)
        refine lv_aload_n hx hb d_RR_topOf_6 rfl (lv_at hl 1 rfl) ?_
        refine lv_iload_n hx hb d_RR_topOf_7 rfl (lv_at hl 0 rfl) ?_
        refine x_iald hx hb B hF 0 0 rfl rfl (k - 1) (by omega) (by omega) (by decide) d_RR_topOf_8 ?_
        refine x_if_ne (tgt := 18) hx hb d_RR_topOf_9 (by decide) (by omega) (fun h9 => ?_) (fun h9 => ?_)
        · refine lv_iload_n hx hb d_RR_topOf_18 rfl (lv_at hl 0 rfl) ?_
          have B := B.of_eq hmw
          subst hQ hav
          exact x_iret hx hb hr hlocks B d_RR_topOf_19 (⟨k, rfl, hk, hz, fun h0 => by first | omega | (exfalso; omega), rfl⟩)
        · refine x_iinc (lv' := [(1, .int (iI (((k : Int) - 1) + (-1)))), (0, .ref ta)]) hx hb d_RR_topOf_12 hl (q := 0) rfl rfl (by decide) rfl (fun ls hl => ?_)
          refine lv_goto (tgt := 2) hx hb d_RR_topOf_15 (by decide) ?_
          rw [show (k : Int) - 1 + (-1) = ((k - 1 : Nat) : Int) - 1 by omega] at hl
          exact ih_LP (k - 1) (by omega) (by omega) (fun j h1 h2 => by
          by_cases hj : k ≤ j
          · exact hz j hj h2
          · rw [show j = k - 1 by omega]; omega) _ _ _ B (lv_sub hl [0, 1] rfl)
  exact LP _ 6 (Nat.lt_succ_self _) (by omega) (fun j h1 h2 => by omega) _ _ _ B (lv_sub hl [0, 1] rfl)
theorem d_RR_copy_0 : decode prog_1_method_33_code 0 = .ok (.iconst 0, 1) := by decide +kernel
theorem d_RR_copy_1 : decode prog_1_method_33_code 1 = .ok (.istore_n 2, 1) := by decide +kernel
theorem d_RR_copy_2 : decode prog_1_method_33_code 2 = .ok (.iload_n 2, 1) := by decide +kernel
theorem d_RR_copy_3 : decode prog_1_method_33_code 3 = .ok (.bipush 6, 2) := by decide +kernel
theorem d_RR_copy_5 : decode prog_1_method_33_code 5 = .ok (.if_icmp .ge 15, 3) := by decide +kernel
theorem d_RR_copy_8 : decode prog_1_method_33_code 8 = .ok (.aload_n 1, 1) := by decide +kernel
theorem d_RR_copy_9 : decode prog_1_method_33_code 9 = .ok (.iload_n 2, 1) := by decide +kernel
theorem d_RR_copy_10 : decode prog_1_method_33_code 10 = .ok (.aload_n 0, 1) := by decide +kernel
theorem d_RR_copy_11 : decode prog_1_method_33_code 11 = .ok (.iload_n 2, 1) := by decide +kernel
theorem d_RR_copy_12 : decode prog_1_method_33_code 12 = .ok (.iaload, 1) := by decide +kernel
theorem d_RR_copy_13 : decode prog_1_method_33_code 13 = .ok (.iastore, 1) := by decide +kernel
theorem d_RR_copy_14 : decode prog_1_method_33_code 14 = .ok (.iinc 2 1, 3) := by decide +kernel
theorem d_RR_copy_17 : decode prog_1_method_33_code 17 = .ok (.goto (-15), 3) := by decide +kernel
theorem d_RR_copy_20 : decode prog_1_method_33_code 20 = .ok (.return_, 1) := by decide +kernel
set_option maxHeartbeats 8000000 in
set_option maxRecDepth 100000 in
theorem c_RR_copy (l : Launch) (D : va_G) (cs : Nat → ClassId) (L : List Nat) (f : Nat → va_E) (sz : Nat) (tb ta : Nat) (bw aw : Nat → Int) (hF : Fc L [tb, ta]) (htb : f tb = .inl (cs 0, 6, .inl (ai bw))) (hta : f ta = .inl (cs 0, 6, .inl (ai aw))) : Met l (⟨"RealRoots", "copy", "([I[I)V"⟩ : MethodName) (.code (⟨"RealRoots", "copy", "([I[I)V"⟩ : MethodName) prog_1_method_33_code 3 (Option.none : Option Jvm.ClassFile.FieldType) :: gw) ({ frames := 0, cells := 0, slots := 0, locals := 0 }) (va_Pc [.ref ta, .ref tb] (K0 D vwCl (TY cs) L f sz)) (va_Qv (fun (g : Nat → va_E) => ∃ x' : Nat → Int, (∀ j, j < 6 → x' j = aw j) ∧ g = mw f [(tb, .inl (cs 0, 6, .inl (ai (x'))))]) (K1 D vwCl (TY cs) (AL L sz) L) (AL L sz)) 0 0 (AL L sz) := by
  refine Met.ofW (cc := prog_1_method_33_code) (maxL := 3) (ret := (Option.none : Option Jvm.ClassFile.FieldType)) (by decide) rfl ?_
  intro p e s m args below meth c s₁ Bd hml hv
  obtain ⟨rfl, hk0⟩ := hv
  obtain ⟨hsz, B⟩ := hk0.start
  subst hsz
  have hx := Bd.exec
  have hb := Bd.bytes
  have hr := Bd.returns
  have hlocks := Bd.notSynchronized
  have hts0 := atoms_spec Bd.pre
  have hown : s.vm.findClass RX6 = some m.cls := findClass_of_methodNamed Bd.named
  have hA : ∀ q, s.heap.size ≤ q → AL L s.heap.size q := fun _ h => Or.inr h
  have hl := lv_entry ([.ref ta, .ref tb]) (n := 3) (Nat.le_of_ble_eq_true rfl)
  rw [lg_entry_eq]
  generalize (lg_sl ([.ref ta, .ref tb]) ++ List.replicate (3 - (lg_sl ([.ref ta, .ref tb])).length) Slot.unset).toArray = ls at hl ⊢
  refine absQ (fun Q R av hQ hR hav => ?_)
  have hts : ∀ w ∈ gw, w.before av s = true := by rw [hav]; exact fun w h => hts0 w (List.mem_cons_of_mem _ h)
  have hRf : R.frames = 0 := by rw [hR]; rfl
  have hRl : R.locals = 0 := by rw [hR]; rfl
  have hRc : R.cells = 0 := by rw [hR]; rfl
  have hRs : R.slots = 0 := by rw [hR]; rfl
  clear hR hts0 Bd
  have hl : lv_has ls 3 [(0, .ref ta), (1, .ref tb)] := hl
  have hfx : ∀ q ∈ ([(tb, .inl (cs 0, 6, .inl (ai bw))), (ta, .inl (cs 0, 6, .inl (ai aw)))] : List (Nat × va_E)), f q.1 = q.2 := fun q hq => by
    simp only [List.mem_cons, List.not_mem_nil, or_false] at hq
    rcases hq with rfl | rfl
    · exact htb
    · exact hta
  have hmw : mw f [(tb, .inl (cs 0, 6, .inl (ai bw))), (ta, .inl (cs 0, 6, .inl (ai aw)))] = f := mw_self (fun k a e hk => hfx (a, e) (List.mem_of_getElem? hk))
  have B := B.focus [(tb, .inl (cs 0, 6, .inl (ai bw))), (ta, .inl (cs 0, 6, .inl (ai aw)))] hfx
  refine x_iconst hx hb d_RR_copy_0 ?_
  refine lv_istore_n (lv' := [(2, .int (iI 0)), (0, .ref ta), (1, .ref tb)]) hx hb d_RR_copy_1 rfl hl (by decide) rfl (fun ls hl => ?_)
  have LP : ∀ (fuel : Nat) (k : Nat) (x : Nat → Int), 6 - k < fuel → (k ≤ 6) → (∀ j, j < k → x j = aw j) → ∀ (H : Heap) (locs : List Loc) (ls : Array Slot), Wb D vwCl (TY cs) L (mw f [(tb, .inl (cs 0, 6, .inl (ai x))), (ta, .inl (cs 0, 6, .inl (ai aw)))]) (AL L s.heap.size) s H locs → lv_has ls 3 [(2, .int (iI ((k : Int)))), (0, .ref ta), (1, .ref tb)] → W p l e R s m av below meth c H locs (0) (0) Q (F0 m 2 ls []) := by
    intro fuel
    induction fuel with
    | zero => intro k x hfu; exact absurd hfu (Nat.not_lt_zero _)
    | succ fuel ih_LP =>
      intro k x hfu_LP hk hI H locs ls B hl
      refine lv_iload_n hx hb d_RR_copy_2 rfl (lv_at hl 0 rfl) ?_
      refine x_bipush hx hb d_RR_copy_3 (by decide) ?_
      refine x_icmp_ge (tgt := 20) hx hb d_RR_copy_5 (by decide) (by omega) (by omega) (fun h5 => ?_) (fun h5 => ?_)
      · subst hQ hav
        exact x_vret hx hb hr hlocks B d_RR_copy_20 (⟨_, fun j hj => hI j (by omega), mw_tail (X := [(tb, .inl (cs 0, 6, .inl (ai x)))]) (Y := [(ta, .inl (cs 0, 6, .inl (ai aw)))]) (fun p hp => hfx p (List.mem_cons_of_mem _ (hp)))⟩)
      · refine lv_aload_n hx hb d_RR_copy_8 rfl (lv_at hl 2 rfl) ?_
        refine lv_iload_n hx hb d_RR_copy_9 rfl (lv_at hl 0 rfl) ?_
        refine lv_aload_n hx hb d_RR_copy_10 rfl (lv_at hl 1 rfl) ?_
        refine lv_iload_n hx hb d_RR_copy_11 rfl (lv_at hl 0 rfl) ?_
        refine x_iald hx hb B hF 1 0 rfl rfl k (by omega) (by omega) (by decide) d_RR_copy_12 ?_
        refine x_iast hx hb B hF 0 0 rfl rfl k (by omega) (by omega) (by decide) d_RR_copy_13 (fun H locs B => ?_)
        have B : Wb D vwCl (TY cs) L (mw f [(tb, .inl (cs 0, 6, .inl (ai (up x k (aw k))))), (ta, .inl (cs 0, 6, .inl (ai aw)))]) (AL L s.heap.size) s H _ := B
        refine x_iinc (lv' := [(2, .int (iI (((k : Int)) + 1))), (0, .ref ta), (1, .ref tb)]) hx hb d_RR_copy_14 hl (q := 0) rfl rfl (by decide) rfl (fun ls hl => ?_)
        refine lv_goto (tgt := 2) hx hb d_RR_copy_17 (by decide) ?_
        exact ih_LP (k + 1) (up x k (aw k)) (by omega) (by omega) (fun j hj => by
          by_cases hjk : j = k
          · rw [hjk, up_self]
          · rw [up_ne _ _ hjk]; exact hI j (by omega)) _ _ _ B (lv_sub hl [0, 1, 2] rfl)
  exact LP _ 0 bw (Nat.lt_succ_self _) (by omega) (fun j hj => by omega) _ _ _ B (lv_sub hl [0, 1, 2] rfl)
theorem d_RR_derive_0 : decode prog_1_method_34_code 0 = .ok (.iconst 1, 1) := by decide +kernel
theorem d_RR_derive_1 : decode prog_1_method_34_code 1 = .ok (.istore_n 2, 1) := by decide +kernel
theorem d_RR_derive_2 : decode prog_1_method_34_code 2 = .ok (.iload_n 2, 1) := by decide +kernel
theorem d_RR_derive_3 : decode prog_1_method_34_code 3 = .ok (.bipush 6, 2) := by decide +kernel
theorem d_RR_derive_5 : decode prog_1_method_34_code 5 = .ok (.if_icmp .ge 19, 3) := by decide +kernel
theorem d_RR_derive_8 : decode prog_1_method_34_code 8 = .ok (.aload_n 1, 1) := by decide +kernel
theorem d_RR_derive_9 : decode prog_1_method_34_code 9 = .ok (.iload_n 2, 1) := by decide +kernel
theorem d_RR_derive_10 : decode prog_1_method_34_code 10 = .ok (.iconst 1, 1) := by decide +kernel
theorem d_RR_derive_11 : decode prog_1_method_34_code 11 = .ok (.isub, 1) := by decide +kernel
theorem d_RR_derive_12 : decode prog_1_method_34_code 12 = .ok (.aload_n 0, 1) := by decide +kernel
theorem d_RR_derive_13 : decode prog_1_method_34_code 13 = .ok (.iload_n 2, 1) := by decide +kernel
theorem d_RR_derive_14 : decode prog_1_method_34_code 14 = .ok (.iaload, 1) := by decide +kernel
theorem d_RR_derive_15 : decode prog_1_method_34_code 15 = .ok (.iload_n 2, 1) := by decide +kernel
theorem d_RR_derive_16 : decode prog_1_method_34_code 16 = .ok (.imul, 1) := by decide +kernel
theorem d_RR_derive_17 : decode prog_1_method_34_code 17 = .ok (.iastore, 1) := by decide +kernel
theorem d_RR_derive_18 : decode prog_1_method_34_code 18 = .ok (.iinc 2 1, 3) := by decide +kernel
theorem d_RR_derive_21 : decode prog_1_method_34_code 21 = .ok (.goto (-19), 3) := by decide +kernel
theorem d_RR_derive_24 : decode prog_1_method_34_code 24 = .ok (.aload_n 1, 1) := by decide +kernel
theorem d_RR_derive_25 : decode prog_1_method_34_code 25 = .ok (.iconst 5, 1) := by decide +kernel
theorem d_RR_derive_26 : decode prog_1_method_34_code 26 = .ok (.iconst 0, 1) := by decide +kernel
theorem d_RR_derive_27 : decode prog_1_method_34_code 27 = .ok (.iastore, 1) := by decide +kernel
theorem d_RR_derive_28 : decode prog_1_method_34_code 28 = .ok (.return_, 1) := by decide +kernel
set_option maxHeartbeats 8000000 in
set_option maxRecDepth 100000 in
theorem c_RR_derive (l : Launch) (D : va_G) (cs : Nat → ClassId) (L : List Nat) (f : Nat → va_E) (sz : Nat) (tb ta : Nat) (bw aw : Nat → Int) (hF : Fc L [tb, ta]) (htb : f tb = .inl (cs 0, 6, .inl (ai bw))) (hta : f ta = .inl (cs 0, 6, .inl (ai aw))) : Met l (⟨"RealRoots", "derive", "([I[I)V"⟩ : MethodName) (.code (⟨"RealRoots", "derive", "([I[I)V"⟩ : MethodName) prog_1_method_34_code 3 (Option.none : Option Jvm.ClassFile.FieldType) :: gw) ({ frames := 0, cells := 0, slots := 0, locals := 0 }) (va_Pc [.ref ta, .ref tb] (K0 D vwCl (TY cs) L f sz)) (va_Qv (fun (g : Nat → va_E) => ∃ x' : Nat → Int, (∀ j, j < 5 → x' j = aw (j + 1) * ((j : Int) + 1)) ∧ x' 5 = 0 ∧ g = mw f [(tb, .inl (cs 0, 6, .inl (ai (x'))))]) (K1 D vwCl (TY cs) (AL L sz) L) (AL L sz)) 0 0 (AL L sz) := by
  refine Met.ofW (cc := prog_1_method_34_code) (maxL := 3) (ret := (Option.none : Option Jvm.ClassFile.FieldType)) (by decide) rfl ?_
  intro p e s m args below meth c s₁ Bd hml hv
  obtain ⟨rfl, hk0⟩ := hv
  obtain ⟨hsz, B⟩ := hk0.start
  subst hsz
  have hx := Bd.exec
  have hb := Bd.bytes
  have hr := Bd.returns
  have hlocks := Bd.notSynchronized
  have hts0 := atoms_spec Bd.pre
  have hown : s.vm.findClass RX6 = some m.cls := findClass_of_methodNamed Bd.named
  have hA : ∀ q, s.heap.size ≤ q → AL L s.heap.size q := fun _ h => Or.inr h
  have hl := lv_entry ([.ref ta, .ref tb]) (n := 3) (Nat.le_of_ble_eq_true rfl)
  rw [lg_entry_eq]
  generalize (lg_sl ([.ref ta, .ref tb]) ++ List.replicate (3 - (lg_sl ([.ref ta, .ref tb])).length) Slot.unset).toArray = ls at hl ⊢
  refine absQ (fun Q R av hQ hR hav => ?_)
  have hts : ∀ w ∈ gw, w.before av s = true := by rw [hav]; exact fun w h => hts0 w (List.mem_cons_of_mem _ h)
  have hRf : R.frames = 0 := by rw [hR]; rfl
  have hRl : R.locals = 0 := by rw [hR]; rfl
  have hRc : R.cells = 0 := by rw [hR]; rfl
  have hRs : R.slots = 0 := by rw [hR]; rfl
  clear hR hts0 Bd
  have hl : lv_has ls 3 [(0, .ref ta), (1, .ref tb)] := hl
  have hfx : ∀ q ∈ ([(tb, .inl (cs 0, 6, .inl (ai bw))), (ta, .inl (cs 0, 6, .inl (ai aw)))] : List (Nat × va_E)), f q.1 = q.2 := fun q hq => by
    simp only [List.mem_cons, List.not_mem_nil, or_false] at hq
    rcases hq with rfl | rfl
    · exact htb
    · exact hta
  have hmw : mw f [(tb, .inl (cs 0, 6, .inl (ai bw))), (ta, .inl (cs 0, 6, .inl (ai aw)))] = f := mw_self (fun k a e hk => hfx (a, e) (List.mem_of_getElem? hk))
  have B := B.focus [(tb, .inl (cs 0, 6, .inl (ai bw))), (ta, .inl (cs 0, 6, .inl (ai aw)))] hfx
  refine x_iconst hx hb d_RR_derive_0 ?_
  refine lv_istore_n (lv' := [(2, .int (iI 1)), (0, .ref ta), (1, .ref tb)]) hx hb d_RR_derive_1 rfl hl (by decide) rfl (fun ls hl => ?_)
  have LP : ∀ (fuel : Nat) (k : Nat) (x : Nat → Int), 6 - k < fuel → (1 ≤ k ∧ k ≤ 6) → (∀ j, j + 1 < k → x j = aw (j + 1) * ((j : Int) + 1)) → ∀ (H : Heap) (locs : List Loc) (ls : Array Slot), Wb D vwCl (TY cs) L (mw f [(tb, .inl (cs 0, 6, .inl (ai x))), (ta, .inl (cs 0, 6, .inl (ai aw)))]) (AL L s.heap.size) s H locs → lv_has ls 3 [(2, .int (iI ((k : Int)))), (0, .ref ta), (1, .ref tb)] → W p l e R s m av below meth c H locs (0) (0) Q (F0 m 2 ls []) := by
    intro fuel
    induction fuel with
    | zero => intro k x hfu; exact absurd hfu (Nat.not_lt_zero _)
    | succ fuel ih_LP =>
      intro k x hfu_LP hk hI H locs ls B hl
      refine lv_iload_n hx hb d_RR_derive_2 rfl (lv_at hl 0 rfl) ?_
      refine x_bipush hx hb d_RR_derive_3 (by decide) ?_
      refine x_icmp_ge (tgt := 24) hx hb d_RR_derive_5 (by decide) (by omega) (by omega) (fun h5 => ?_) (fun h5 => ?_)
      · refine lv_aload_n hx hb d_RR_derive_24 rfl (lv_at hl 2 rfl) ?_
        refine x_iconst hx hb d_RR_derive_25 ?_
        refine x_iconst hx hb d_RR_derive_26 ?_
        refine x_iast hx hb B hF 0 0 rfl rfl 5 (by omega) (by omega) (by decide) d_RR_derive_27 (fun H locs B => ?_)
        have B : Wb D vwCl (TY cs) L (mw f [(tb, .inl (cs 0, 6, .inl (ai (up x 5 0)))), (ta, .inl (cs 0, 6, .inl (ai aw)))]) (AL L s.heap.size) s H _ := B
        subst hQ hav
        exact x_vret hx hb hr hlocks B d_RR_derive_28 (⟨_, fun j hj => by rw [up_ne _ _ (by omega)]; exact hI j (by omega), by rw [up_self], mw_tail (X := [(tb, .inl (cs 0, 6, .inl (ai (up x 5 0))))]) (Y := [(ta, .inl (cs 0, 6, .inl (ai aw)))]) (fun p hp => hfx p (List.mem_cons_of_mem _ (hp)))⟩)
      · refine lv_aload_n hx hb d_RR_derive_8 rfl (lv_at hl 2 rfl) ?_
        refine lv_iload_n hx hb d_RR_derive_9 rfl (lv_at hl 0 rfl) ?_
        refine x_iconst hx hb d_RR_derive_10 ?_
        refine x_isub hx hb d_RR_derive_11 ?_
        refine lv_aload_n hx hb d_RR_derive_12 rfl (lv_at hl 1 rfl) ?_
        refine lv_iload_n hx hb d_RR_derive_13 rfl (lv_at hl 0 rfl) ?_
        refine x_iald hx hb B hF 1 0 rfl rfl k (by omega) (by omega) (by decide) d_RR_derive_14 ?_
        refine lv_iload_n hx hb d_RR_derive_15 rfl (lv_at hl 0 rfl) ?_
        refine x_imul hx hb d_RR_derive_16 ?_
        refine x_iast hx hb B hF 0 0 rfl rfl (k - 1) (by omega) (by omega) (by decide) d_RR_derive_17 (fun H locs B => ?_)
        have B : Wb D vwCl (TY cs) L (mw f [(tb, .inl (cs 0, 6, .inl (ai (up x (k - 1) ((aw k) * ((k : Int))))))), (ta, .inl (cs 0, 6, .inl (ai aw)))]) (AL L s.heap.size) s H _ := B
        refine x_iinc (lv' := [(2, .int (iI (((k : Int)) + 1))), (0, .ref ta), (1, .ref tb)]) hx hb d_RR_derive_18 hl (q := 0) rfl rfl (by decide) rfl (fun ls hl => ?_)
        refine lv_goto (tgt := 2) hx hb d_RR_derive_21 (by decide) ?_
        exact ih_LP (k + 1) (up x (k - 1) ((aw k) * ((k : Int)))) (by omega) (by omega) (fun j hj => by
          by_cases hjk : j = k - 1
          · rw [hjk, up_self, show k - 1 + 1 = k by omega, show ((k - 1 : Nat) : Int) + 1 = (k : Int) by omega]
          · rw [up_ne _ _ hjk]; exact hI j (by omega)) _ _ _ B (lv_sub hl [0, 1, 2] rfl)
  exact LP _ 1 bw (Nat.lt_succ_self _) (by omega) (fun j hj => by omega) _ _ _ B (lv_sub hl [0, 1, 2] rfl)
set_option maxHeartbeats 8000000 in
set_option maxRecDepth 100000 in
theorem c_RR_derive_s (l : Launch) (D : va_G) (cs : Nat → ClassId) (L : List Nat) (f : Nat → va_E) (sz : Nat) (ta : Nat) (aw : Nat → Int) (hF : Fc L [ta]) (hta : f ta = .inl (cs 0, 6, .inl (ai aw))) : Met l (⟨"RealRoots", "derive", "([I[I)V"⟩ : MethodName) (.code (⟨"RealRoots", "derive", "([I[I)V"⟩ : MethodName) prog_1_method_34_code 3 (Option.none : Option Jvm.ClassFile.FieldType) :: gw) ({ frames := 0, cells := 0, slots := 0, locals := 0 }) (va_Pc [.ref ta, .ref ta] (K0 D vwCl (TY cs) L f sz)) (va_Qv (fun (g : Nat → va_E) => ∃ x' : Nat → Int, (∀ j, j < 5 → x' j = aw (j + 1) * ((j : Int) + 1)) ∧ x' 5 = 0 ∧ g = mw f [(ta, .inl (cs 0, 6, .inl (ai (x'))))]) (K1 D vwCl (TY cs) (AL L sz) L) (AL L sz)) 0 0 (AL L sz) := by
  refine Met.ofW (cc := prog_1_method_34_code) (maxL := 3) (ret := (Option.none : Option Jvm.ClassFile.FieldType)) (by decide) rfl ?_
  intro p e s m args below meth c s₁ Bd hml hv
  obtain ⟨rfl, hk0⟩ := hv
  obtain ⟨hsz, B⟩ := hk0.start
  subst hsz
  have hx := Bd.exec
  have hb := Bd.bytes
  have hr := Bd.returns
  have hlocks := Bd.notSynchronized
  have hts0 := atoms_spec Bd.pre
  have hown : s.vm.findClass RX6 = some m.cls := findClass_of_methodNamed Bd.named
  have hA : ∀ q, s.heap.size ≤ q → AL L s.heap.size q := fun _ h => Or.inr h
  have hl := lv_entry ([.ref ta, .ref ta]) (n := 3) (Nat.le_of_ble_eq_true rfl)
  rw [lg_entry_eq]
  generalize (lg_sl ([.ref ta, .ref ta]) ++ List.replicate (3 - (lg_sl ([.ref ta, .ref ta])).length) Slot.unset).toArray = ls at hl ⊢
  refine absQ (fun Q R av hQ hR hav => ?_)
  have hts : ∀ w ∈ gw, w.before av s = true := by rw [hav]; exact fun w h => hts0 w (List.mem_cons_of_mem _ h)
  have hRf : R.frames = 0 := by rw [hR]; rfl
  have hRl : R.locals = 0 := by rw [hR]; rfl
  have hRc : R.cells = 0 := by rw [hR]; rfl
  have hRs : R.slots = 0 := by rw [hR]; rfl
  clear hR hts0 Bd
  have hl : lv_has ls 3 [(0, .ref ta), (1, .ref ta)] := hl
  have hfx : ∀ q ∈ ([(ta, .inl (cs 0, 6, .inl (ai aw)))] : List (Nat × va_E)), f q.1 = q.2 := fun q hq => by
    simp only [List.mem_cons, List.not_mem_nil, or_false] at hq
    rcases hq with rfl
    · exact hta
  have hmw : mw f [(ta, .inl (cs 0, 6, .inl (ai aw)))] = f := mw_self (fun k a e hk => hfx (a, e) (List.mem_of_getElem? hk))
  have B := B.focus [(ta, .inl (cs 0, 6, .inl (ai aw)))] hfx
  refine x_iconst hx hb d_RR_derive_0 ?_
  refine lv_istore_n (lv' := [(2, .int (iI 1)), (0, .ref ta), (1, .ref ta)]) hx hb d_RR_derive_1 rfl hl (by decide) rfl (fun ls hl => ?_)
  have LP : ∀ (fuel : Nat) (k : Nat) (x : Nat → Int), 6 - k < fuel → (1 ≤ k ∧ k ≤ 6) → (∀ j, j + 1 < k → x j = aw (j + 1) * ((j : Int) + 1)) → (∀ j, k ≤ j + 1 → x j = aw j) → ∀ (H : Heap) (locs : List Loc) (ls : Array Slot), Wb D vwCl (TY cs) L (mw f [(ta, .inl (cs 0, 6, .inl (ai x)))]) (AL L s.heap.size) s H locs → lv_has ls 3 [(2, .int (iI ((k : Int)))), (0, .ref ta), (1, .ref ta)] → W p l e R s m av below meth c H locs (0) (0) Q (F0 m 2 ls []) := by
    intro fuel
    induction fuel with
    | zero => intro k x hfu; exact absurd hfu (Nat.not_lt_zero _)
    | succ fuel ih_LP =>
      intro k x hfu_LP hk hI hJ H locs ls B hl
      refine lv_iload_n hx hb d_RR_derive_2 rfl (lv_at hl 0 rfl) ?_
      refine x_bipush hx hb d_RR_derive_3 (by decide) ?_
      refine x_icmp_ge (tgt := 24) hx hb d_RR_derive_5 (by decide) (by omega) (by omega) (fun h5 => ?_) (fun h5 => ?_)
      · refine lv_aload_n hx hb d_RR_derive_24 rfl (lv_at hl 2 rfl) ?_
        refine x_iconst hx hb d_RR_derive_25 ?_
        refine x_iconst hx hb d_RR_derive_26 ?_
        refine x_iast hx hb B hF 0 0 rfl rfl 5 (by omega) (by omega) (by decide) d_RR_derive_27 (fun H locs B => ?_)
        have B : Wb D vwCl (TY cs) L (mw f [(ta, .inl (cs 0, 6, .inl (ai (up x 5 0))))]) (AL L s.heap.size) s H _ := B
        subst hQ hav
        exact x_vret hx hb hr hlocks B d_RR_derive_28 (⟨_, fun j hj => by rw [up_ne _ _ (by omega)]; exact hI j (by omega), by rw [up_self], rfl⟩)
      · refine lv_aload_n hx hb d_RR_derive_8 rfl (lv_at hl 2 rfl) ?_
        refine lv_iload_n hx hb d_RR_derive_9 rfl (lv_at hl 0 rfl) ?_
        refine x_iconst hx hb d_RR_derive_10 ?_
        refine x_isub hx hb d_RR_derive_11 ?_
        refine lv_aload_n hx hb d_RR_derive_12 rfl (lv_at hl 1 rfl) ?_
        refine lv_iload_n hx hb d_RR_derive_13 rfl (lv_at hl 0 rfl) ?_
        refine x_iald hx hb B hF 0 0 rfl rfl k (by omega) (by omega) (by decide) d_RR_derive_14 ?_
        refine lv_iload_n hx hb d_RR_derive_15 rfl (lv_at hl 0 rfl) ?_
        refine x_imul hx hb d_RR_derive_16 ?_
        refine x_iast hx hb B hF 0 0 rfl rfl (k - 1) (by omega) (by omega) (by decide) d_RR_derive_17 (fun H locs B => ?_)
        have B : Wb D vwCl (TY cs) L (mw f [(ta, .inl (cs 0, 6, .inl (ai (up x (k - 1) ((x k) * ((k : Int)))))))]) (AL L s.heap.size) s H _ := B
        refine x_iinc (lv' := [(2, .int (iI (((k : Int)) + 1))), (0, .ref ta), (1, .ref ta)]) hx hb d_RR_derive_18 hl (q := 0) rfl rfl (by decide) rfl (fun ls hl => ?_)
        refine lv_goto (tgt := 2) hx hb d_RR_derive_21 (by decide) ?_
        exact ih_LP (k + 1) (up x (k - 1) ((x k) * ((k : Int)))) (by omega) (by omega) (fun j hj => by
          by_cases hjk : j = k - 1
          · rw [hjk, up_self, hJ k (by omega), show k - 1 + 1 = k by omega, show ((k - 1 : Nat) : Int) + 1 = (k : Int) by omega]
          · rw [up_ne _ _ hjk]; exact hI j (by omega)) (fun j hj => by rw [up_ne _ _ (by omega)]; exact hJ j (by omega)) _ _ _ B (lv_sub hl [0, 1, 2] rfl)
  exact LP _ 1 aw (Nat.lt_succ_self _) (by omega) (fun j hj => by omega) (fun j _ => rfl) _ _ _ B (lv_sub hl [0, 1, 2] rfl)
theorem d_RR_greatestDivisor_0 : decode prog_1_method_35_code 0 = .ok (.lload_n 0, 1) := by decide +kernel
theorem d_RR_greatestDivisor_1 : decode prog_1_method_35_code 1 = .ok (.lconst 0, 1) := by decide +kernel
theorem d_RR_greatestDivisor_2 : decode prog_1_method_35_code 2 = .ok (.lcmp, 1) := by decide +kernel
theorem d_RR_greatestDivisor_3 : decode prog_1_method_35_code 3 = .ok (.ifCond .ge 8, 3) := by decide +kernel
theorem d_RR_greatestDivisor_6 : decode prog_1_method_35_code 6 = .ok (.lload_n 0, 1) := by decide +kernel
theorem d_RR_greatestDivisor_7 : decode prog_1_method_35_code 7 = .ok (.lneg, 1) := by decide +kernel
theorem d_RR_greatestDivisor_8 : decode prog_1_method_35_code 8 = .ok (.goto 4, 3) := by decide +kernel
theorem d_RR_greatestDivisor_11 : decode prog_1_method_35_code 11 = .ok (.lload_n 0, 1) := by decide +kernel
theorem d_RR_greatestDivisor_12 : decode prog_1_method_35_code 12 = .ok (.lstore 4, 2) := by decide +kernel
theorem d_RR_greatestDivisor_14 : decode prog_1_method_35_code 14 = .ok (.lload_n 2, 1) := by decide +kernel
theorem d_RR_greatestDivisor_15 : decode prog_1_method_35_code 15 = .ok (.lconst 0, 1) := by decide +kernel
theorem d_RR_greatestDivisor_16 : decode prog_1_method_35_code 16 = .ok (.lcmp, 1) := by decide +kernel
theorem d_RR_greatestDivisor_17 : decode prog_1_method_35_code 17 = .ok (.ifCond .ge 8, 3) := by decide +kernel
theorem d_RR_greatestDivisor_20 : decode prog_1_method_35_code 20 = .ok (.lload_n 2, 1) := by decide +kernel
theorem d_RR_greatestDivisor_21 : decode prog_1_method_35_code 21 = .ok (.lneg, 1) := by decide +kernel
theorem d_RR_greatestDivisor_22 : decode prog_1_method_35_code 22 = .ok (.goto 4, 3) := by decide +kernel
theorem d_RR_greatestDivisor_25 : decode prog_1_method_35_code 25 = .ok (.lload_n 2, 1) := by decide +kernel
theorem d_RR_greatestDivisor_26 : decode prog_1_method_35_code 26 = .ok (.lstore 6, 2) := by decide +kernel
theorem d_RR_greatestDivisor_28 : decode prog_1_method_35_code 28 = .ok (.iconst 0, 1) := by decide +kernel
theorem d_RR_greatestDivisor_29 : decode prog_1_method_35_code 29 = .ok (.istore 8, 2) := by decide +kernel
theorem d_RR_greatestDivisor_31 : decode prog_1_method_35_code 31 = .ok (.iload 8, 2) := by decide +kernel
theorem d_RR_greatestDivisor_33 : decode prog_1_method_35_code 33 = .ok (.sipush 200, 3) := by decide +kernel
theorem d_RR_greatestDivisor_36 : decode prog_1_method_35_code 36 = .ok (.if_icmp .ge 31, 3) := by decide +kernel
theorem d_RR_greatestDivisor_39 : decode prog_1_method_35_code 39 = .ok (.lload 6, 2) := by decide +kernel
theorem d_RR_greatestDivisor_41 : decode prog_1_method_35_code 41 = .ok (.lconst 0, 1) := by decide +kernel
theorem d_RR_greatestDivisor_42 : decode prog_1_method_35_code 42 = .ok (.lcmp, 1) := by decide +kernel
theorem d_RR_greatestDivisor_43 : decode prog_1_method_35_code 43 = .ok (.ifCond .eq 24, 3) := by decide +kernel
theorem d_RR_greatestDivisor_46 : decode prog_1_method_35_code 46 = .ok (.lload 4, 2) := by decide +kernel
theorem d_RR_greatestDivisor_48 : decode prog_1_method_35_code 48 = .ok (.lload 6, 2) := by decide +kernel
theorem d_RR_greatestDivisor_50 : decode prog_1_method_35_code 50 = .ok (.lrem, 1) := by decide +kernel
theorem d_RR_greatestDivisor_51 : decode prog_1_method_35_code 51 = .ok (.lstore 9, 2) := by decide +kernel
theorem d_RR_greatestDivisor_53 : decode prog_1_method_35_code 53 = .ok (.lload 6, 2) := by decide +kernel
theorem d_RR_greatestDivisor_55 : decode prog_1_method_35_code 55 = .ok (.lstore 4, 2) := by decide +kernel
theorem d_RR_greatestDivisor_57 : decode prog_1_method_35_code 57 = .ok (.lload 9, 2) := by decide +kernel
theorem d_RR_greatestDivisor_59 : decode prog_1_method_35_code 59 = .ok (.lstore 6, 2) := by decide +kernel
theorem d_RR_greatestDivisor_61 : decode prog_1_method_35_code 61 = .ok (.iinc 8 1, 3) := by decide +kernel
theorem d_RR_greatestDivisor_64 : decode prog_1_method_35_code 64 = .ok (.goto (-33), 3) := by decide +kernel
theorem d_RR_greatestDivisor_67 : decode prog_1_method_35_code 67 = .ok (.lload 4, 2) := by decide +kernel
theorem d_RR_greatestDivisor_69 : decode prog_1_method_35_code 69 = .ok (.lreturn, 1) := by decide +kernel
set_option maxHeartbeats 8000000 in
set_option maxRecDepth 100000 in
theorem c_RR_greatestDivisor (l : Launch) (D : va_G) (cs : Nat → ClassId) (L : List Nat) (f : Nat → va_E) (sz : Nat) (a1 b1 : Int) (ha1 : -4611686018427387904 < a1 ∧ a1 < 4611686018427387904) (hb1 : -4611686018427387904 < b1 ∧ b1 < 4611686018427387904) : Met l (⟨"RealRoots", "greatestDivisor", "(JJ)J"⟩ : MethodName) (.code (⟨"RealRoots", "greatestDivisor", "(JJ)J"⟩ : MethodName) prog_1_method_35_code 11 (Option.some Jvm.ClassFile.FieldType.long) :: gw) ({ frames := 0, cells := 0, slots := 0, locals := 0 }) (va_Pc [.long (lI a1), .long (lI b1)] (K0 D vwCl (TY cs) L f sz)) (va_Ql (fun (r : Int64) (g : Nat → va_E) => r = lI ((Nat.gcd a1.natAbs b1.natAbs : Nat) : Int) ∧ g = f) (K1 D vwCl (TY cs) (AL L sz) L) (AL L sz)) 0 0 (AL L sz) := by
  refine Met.ofW (cc := prog_1_method_35_code) (maxL := 11) (ret := (Option.some Jvm.ClassFile.FieldType.long)) (by decide) rfl ?_
  intro p e s m args below meth c s₁ Bd hml hv
  obtain ⟨rfl, hk0⟩ := hv
  obtain ⟨hsz, B⟩ := hk0.start
  subst hsz
  have hx := Bd.exec
  have hb := Bd.bytes
  have hr := Bd.returns
  have hlocks := Bd.notSynchronized
  have hts0 := atoms_spec Bd.pre
  have hown : s.vm.findClass RX6 = some m.cls := findClass_of_methodNamed Bd.named
  have hA : ∀ q, s.heap.size ≤ q → AL L s.heap.size q := fun _ h => Or.inr h
  have hl := lv_entry ([.long (lI a1), .long (lI b1)]) (n := 11) (Nat.le_of_ble_eq_true rfl)
  rw [lg_entry_eq]
  generalize (lg_sl ([.long (lI a1), .long (lI b1)]) ++ List.replicate (11 - (lg_sl ([.long (lI a1), .long (lI b1)])).length) Slot.unset).toArray = ls at hl ⊢
  refine absQ (fun Q R av hQ hR hav => ?_)
  have hts : ∀ w ∈ gw, w.before av s = true := by rw [hav]; exact fun w h => hts0 w (List.mem_cons_of_mem _ h)
  have hRf : R.frames = 0 := by rw [hR]; rfl
  have hRl : R.locals = 0 := by rw [hR]; rfl
  have hRc : R.cells = 0 := by rw [hR]; rfl
  have hRs : R.slots = 0 := by rw [hR]; rfl
  clear hR hts0 Bd
  have hl : lv_has ls 11 [(0, .long (lI a1)), (2, .long (lI b1))] := hl
  have J1 : ∀ (ax : Nat), (ax = a1.natAbs) → ∀ (H : Heap) (locs : List Loc) (ls : Array Slot), Wb D vwCl (TY cs) L (mw f []) (AL L s.heap.size) s H locs → lv_has ls 11 [(0, .long (lI a1)), (2, .long (lI b1))] → W p l e R s m av below meth c H locs (0) (0) Q (F0 m 12 ls [.long (lI ((ax : Int)))]) := by
    intro ax hax H locs ls B hl
    refine lv_lstore (lv' := [(4, .long (lI ((ax : Int)))), (0, .long (lI a1)), (2, .long (lI b1))]) hx hb d_RR_greatestDivisor_12 hl (by decide) rfl (fun ls hl => ?_)
    have J2 : ∀ (ay : Nat), (ay = b1.natAbs) → ∀ (H : Heap) (locs : List Loc) (ls : Array Slot), Wb D vwCl (TY cs) L (mw f []) (AL L s.heap.size) s H locs → lv_has ls 11 [(4, .long (lI ((ax : Int)))), (0, .long (lI a1)), (2, .long (lI b1))] → W p l e R s m av below meth c H locs (0) (0) Q (F0 m 26 ls [.long (lI ((ay : Int)))]) := by
      intro ay hay H locs ls B hl
      refine lv_lstore (lv' := [(6, .long (lI ((ay : Int)))), (4, .long (lI ((ax : Int)))), (0, .long (lI a1)), (2, .long (lI b1))]) hx hb d_RR_greatestDivisor_26 hl (by decide) rfl (fun ls hl => ?_)
      refine x_iconst hx hb d_RR_greatestDivisor_28 ?_
      refine lv_istore (lv' := [(8, .int (iI 0)), (6, .long (lI ((ay : Int)))), (4, .long (lI ((ax : Int)))), (0, .long (lI a1)), (2, .long (lI b1))]) hx hb d_RR_greatestDivisor_29 hl (by decide) rfl (fun ls hl => ?_)
      have L2 : ∀ (fuel : Nat) (i : Nat) (xx : Nat) (yy : Nat), 200 - i < fuel → (Nat.gcd xx yy = Nat.gcd a1.natAbs b1.natAbs) → (xx < 4611686018427387904) → (yy < 4611686018427387904) → (i = 0 ∨ (yy < xx ∧ xx * yy * 2 ^ i ≤ 2 ^ 126)) → (i ≤ 200) → ∀ (H : Heap) (locs : List Loc) (ls : Array Slot), Wb D vwCl (TY cs) L (mw f []) (AL L s.heap.size) s H locs → lv_has ls 11 [(8, .int (iI ((i : Int)))), (6, .long (lI ((yy : Int)))), (4, .long (lI ((xx : Int))))] → W p l e R s m av below meth c H locs (0) (0) Q (F0 m 31 ls []) := by
        intro fuel
        induction fuel with
        | zero => intro i xx yy hfu; exact absurd hfu (Nat.not_lt_zero _)
        | succ fuel ih_L2 =>
          intro i xx yy hfu_L2 hxy hxr hyr hst hi H locs ls B hl
          refine lv_iload hx hb d_RR_greatestDivisor_31 (lv_at hl 0 rfl) ?_
          refine x_sipush hx hb d_RR_greatestDivisor_33 (by decide) ?_
          refine x_icmp_ge (tgt := 67) hx hb d_RR_greatestDivisor_36 (by decide) (by omega) (by omega) (fun h36 => ?_) (fun h36 => ?_)
          · refine lv_lload hx hb d_RR_greatestDivisor_67 (lv_at hl 2 rfl) ?_
            subst hQ hav
            exact x_lret hx hb hr hlocks B d_RR_greatestDivisor_69 (⟨by
        by_cases h0 : yy = 0
        · rw [← hxy, h0, Nat.gcd_zero_right]
        · exfalso
          have h9 := few_steps hst hxr hyr h0
          omega, rfl⟩)
          · refine lv_lload hx hb d_RR_greatestDivisor_39 (lv_at hl 1 rfl) ?_
            refine x_lconst (z := 0) hx hb d_RR_greatestDivisor_41 (by decide) ?_
            refine x_lc_eq (tgt := 67) hx hb d_RR_greatestDivisor_42 rfl d_RR_greatestDivisor_43 (by decide) (by omega) (by omega) (fun h43 => ?_) (fun h43 => ?_)
            · refine lv_lload hx hb d_RR_greatestDivisor_67 (lv_at hl 2 rfl) ?_
              subst hQ hav
              exact x_lret hx hb hr hlocks B d_RR_greatestDivisor_69 (⟨by
        by_cases h0 : yy = 0
        · rw [← hxy, h0, Nat.gcd_zero_right]
        · exfalso
          have h9 := few_steps hst hxr hyr h0
          omega, rfl⟩)
            · have hfs := few_steps hst hxr hyr (by omega)
              have hfs1 := hfs.1
              have hfs2 := hfs.2.1
              refine lv_lload hx hb d_RR_greatestDivisor_46 (lv_at hl 2 rfl) ?_
              refine lv_lload hx hb d_RR_greatestDivisor_48 (lv_at hl 1 rfl) ?_
              refine x_lrem hx hb d_RR_greatestDivisor_50 (by omega) (by omega) (by omega) ?_
              refine lv_lstore (lv' := [(9, .long (lI (((xx : Int)).tmod ((yy : Int))))), (8, .int (iI ((i : Int)))), (6, .long (lI ((yy : Int)))), (4, .long (lI ((xx : Int))))]) hx hb d_RR_greatestDivisor_51 hl (by decide) rfl (fun ls hl => ?_)
              refine lv_lload hx hb d_RR_greatestDivisor_53 (lv_at hl 2 rfl) ?_
              refine lv_lstore (lv' := [(4, .long (lI ((yy : Int)))), (9, .long (lI (((xx : Int)).tmod ((yy : Int))))), (8, .int (iI ((i : Int)))), (6, .long (lI ((yy : Int))))]) hx hb d_RR_greatestDivisor_55 hl (by decide) rfl (fun ls hl => ?_)
              refine lv_lload hx hb d_RR_greatestDivisor_57 (lv_at hl 1 rfl) ?_
              refine lv_lstore (lv' := [(6, .long (lI (((xx : Int)).tmod ((yy : Int))))), (4, .long (lI ((yy : Int)))), (9, .long (lI (((xx : Int)).tmod ((yy : Int))))), (8, .int (iI ((i : Int))))]) hx hb d_RR_greatestDivisor_59 hl (by decide) rfl (fun ls hl => ?_)
              refine x_iinc (lv' := [(8, .int (iI (((i : Int)) + 1))), (6, .long (lI (((xx : Int)).tmod ((yy : Int))))), (4, .long (lI ((yy : Int)))), (9, .long (lI (((xx : Int)).tmod ((yy : Int)))))]) hx hb d_RR_greatestDivisor_61 hl (q := 3) rfl rfl (by decide) rfl (fun ls hl => ?_)
              refine lv_goto (tgt := 31) hx hb d_RR_greatestDivisor_64 (by decide) ?_
              exact ih_L2 (i + 1) yy (xx % yy) (by omega) (by rw [← hxy, Nat.gcd_comm xx yy, Nat.gcd_rec yy xx, Nat.gcd_comm]) hyr (by omega) (Or.inr hfs.2) (by omega) _ _ _ B (lv_sub hl [0, 1, 2] rfl)
      exact L2 _ 0 ax ay (Nat.lt_succ_self _) (by rw [hax, hay]) (by omega) (by omega) (Or.inl rfl) (by omega) _ _ _ B (lv_sub hl [0, 1, 2] rfl)
    refine lv_lload_n hx hb d_RR_greatestDivisor_14 rfl (lv_at hl 2 rfl) ?_
    refine x_lconst (z := 0) hx hb d_RR_greatestDivisor_15 (by decide) ?_
    refine x_lc_ge (tgt := 25) hx hb d_RR_greatestDivisor_16 rfl d_RR_greatestDivisor_17 (by decide) (by omega) (by omega) (fun h17 => ?_) (fun h17 => ?_)
    · refine lv_lload_n hx hb d_RR_greatestDivisor_25 rfl (lv_at hl 2 rfl) ?_
      rw [show b1 = ((b1.natAbs : Nat) : Int) by omega]
      exact J2 b1.natAbs rfl _ _ _ B (lv_sub hl [0, 1, 2] rfl)
    · refine lv_lload_n hx hb d_RR_greatestDivisor_20 rfl (lv_at hl 2 rfl) ?_
      refine x_lneg hx hb d_RR_greatestDivisor_21 ?_
      refine lv_goto (tgt := 26) hx hb d_RR_greatestDivisor_22 (by decide) ?_
      rw [show -b1 = ((b1.natAbs : Nat) : Int) by omega]
      exact J2 b1.natAbs rfl _ _ _ B (lv_sub hl [0, 1, 2] rfl)
  refine lv_lload_n hx hb d_RR_greatestDivisor_0 rfl (lv_at hl 0 rfl) ?_
  refine x_lconst (z := 0) hx hb d_RR_greatestDivisor_1 (by decide) ?_
  refine x_lc_ge (tgt := 11) hx hb d_RR_greatestDivisor_2 rfl d_RR_greatestDivisor_3 (by decide) (by omega) (by omega) (fun h3 => ?_) (fun h3 => ?_)
  · refine lv_lload_n hx hb d_RR_greatestDivisor_11 rfl (lv_at hl 0 rfl) ?_
    rw [show a1 = ((a1.natAbs : Nat) : Int) by omega]
    exact J1 a1.natAbs rfl _ _ _ B (lv_sub hl [0, 1] rfl)
  · refine lv_lload_n hx hb d_RR_greatestDivisor_6 rfl (lv_at hl 0 rfl) ?_
    refine x_lneg hx hb d_RR_greatestDivisor_7 ?_
    refine lv_goto (tgt := 12) hx hb d_RR_greatestDivisor_8 (by decide) ?_
    rw [show -a1 = ((a1.natAbs : Nat) : Int) by omega]
    exact J1 a1.natAbs rfl _ _ _ B (lv_sub hl [0, 1] rfl)
