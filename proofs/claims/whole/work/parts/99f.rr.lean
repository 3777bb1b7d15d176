theorem d_RR_reach_0 : decode prog_1_method_41_code 0 = .ok (.aload_n 0, 1) := by decide +kernel
theorem d_RR_reach_1 : decode prog_1_method_41_code 1 = .ok (.invokestatic 88, 3) := by decide +kernel
theorem d_RR_reach_4 : decode prog_1_method_41_code 4 = .ok (.istore_n 1, 1) := by decide +kernel
theorem d_RR_reach_5 : decode prog_1_method_41_code 5 = .ok (.iconst 0, 1) := by decide +kernel
theorem d_RR_reach_6 : decode prog_1_method_41_code 6 = .ok (.istore_n 2, 1) := by decide +kernel
theorem d_RR_reach_7 : decode prog_1_method_41_code 7 = .ok (.iconst 0, 1) := by decide +kernel
theorem d_RR_reach_8 : decode prog_1_method_41_code 8 = .ok (.istore_n 3, 1) := by decide +kernel
theorem d_RR_reach_9 : decode prog_1_method_41_code 9 = .ok (.iload_n 3, 1) := by decide +kernel
theorem d_RR_reach_10 : decode prog_1_method_41_code 10 = .ok (.iload_n 1, 1) := by decide +kernel
theorem d_RR_reach_11 : decode prog_1_method_41_code 11 = .ok (.if_icmp .ge 20, 3) := by decide +kernel
theorem d_RR_reach_14 : decode prog_1_method_41_code 14 = .ok (.iload_n 2, 1) := by decide +kernel
theorem d_RR_reach_15 : decode prog_1_method_41_code 15 = .ok (.aload_n 0, 1) := by decide +kernel
theorem d_RR_reach_16 : decode prog_1_method_41_code 16 = .ok (.iload_n 3, 1) := by decide +kernel
theorem d_RR_reach_17 : decode prog_1_method_41_code 17 = .ok (.iaload, 1) := by decide +kernel
theorem d_RR_reach_18 : decode prog_1_method_41_code 18 = .ok (.invokestatic 292, 3) := by decide +kernel
theorem d_RR_reach_21 : decode prog_1_method_41_code 21 = .ok (.invokestatic 237, 3) := by decide +kernel
theorem d_RR_reach_24 : decode prog_1_method_41_code 24 = .ok (.istore_n 2, 1) := by decide +kernel
theorem d_RR_reach_25 : decode prog_1_method_41_code 25 = .ok (.iinc 3 1, 3) := by decide +kernel
theorem d_RR_reach_28 : decode prog_1_method_41_code 28 = .ok (.goto (-19), 3) := by decide +kernel
theorem d_RR_reach_31 : decode prog_1_method_41_code 31 = .ok (.iload_n 1, 1) := by decide +kernel
theorem d_RR_reach_32 : decode prog_1_method_41_code 32 = .ok (.ifCond .ge 7, 3) := by decide +kernel
theorem d_RR_reach_35 : decode prog_1_method_41_code 35 = .ok (.iconst 0, 1) := by decide +kernel
theorem d_RR_reach_36 : decode prog_1_method_41_code 36 = .ok (.goto 9, 3) := by decide +kernel
theorem d_RR_reach_39 : decode prog_1_method_41_code 39 = .ok (.aload_n 0, 1) := by decide +kernel
theorem d_RR_reach_40 : decode prog_1_method_41_code 40 = .ok (.iload_n 1, 1) := by decide +kernel
theorem d_RR_reach_41 : decode prog_1_method_41_code 41 = .ok (.iaload, 1) := by decide +kernel
theorem d_RR_reach_42 : decode prog_1_method_41_code 42 = .ok (.invokestatic 292, 3) := by decide +kernel
theorem d_RR_reach_45 : decode prog_1_method_41_code 45 = .ok (.istore_n 3, 1) := by decide +kernel
theorem d_RR_reach_46 : decode prog_1_method_41_code 46 = .ok (.iload_n 3, 1) := by decide +kernel
theorem d_RR_reach_47 : decode prog_1_method_41_code 47 = .ok (.ifCond .ne 7, 3) := by decide +kernel
theorem d_RR_reach_50 : decode prog_1_method_41_code 50 = .ok (.iconst 1, 1) := by decide +kernel
theorem d_RR_reach_51 : decode prog_1_method_41_code 51 = .ok (.goto 8, 3) := by decide +kernel
theorem d_RR_reach_54 : decode prog_1_method_41_code 54 = .ok (.iload_n 2, 1) := by decide +kernel
theorem d_RR_reach_55 : decode prog_1_method_41_code 55 = .ok (.iload_n 3, 1) := by decide +kernel
theorem d_RR_reach_56 : decode prog_1_method_41_code 56 = .ok (.idiv, 1) := by decide +kernel
theorem d_RR_reach_57 : decode prog_1_method_41_code 57 = .ok (.iconst 2, 1) := by decide +kernel
theorem d_RR_reach_58 : decode prog_1_method_41_code 58 = .ok (.iadd, 1) := by decide +kernel
theorem d_RR_reach_59 : decode prog_1_method_41_code 59 = .ok (.ireturn, 1) := by decide +kernel
set_option maxHeartbeats 8000000 in
set_option maxRecDepth 100000 in
theorem c_RR_reach (l : Launch) (D : va_G) (cs : Nat → ClassId) (L : List Nat) (f : Nat → va_E) (sz : Nat) (va : Nat) (aw : Nat → Int) (hF : Fc L [va]) (ha : f va = .inl (cs 0, 6, .inl (ai aw))) (haw : ∀ j, j < 6 → -1000 ≤ aw j ∧ aw j ≤ 1000) (hAN : Nz aw) : Met l (⟨"RealRoots", "reach", "([I)I"⟩ : MethodName) (.code (⟨"RealRoots", "reach", "([I)I"⟩ : MethodName) prog_1_method_41_code 4 (Option.some Jvm.ClassFile.FieldType.int) :: gw) ({ frames := 1, cells := 0, slots := 0, locals := 40 }) (va_Pc [.ref va] (K0 D vwCl (TY cs) L f sz)) (va_Qi (fun (r : Int32) (g : Nat → va_E) => ∃ (nn : Nat) (mm : Int), nn < 6 ∧ aw nn ≠ 0 ∧ (∀ j, nn < j → j < 6 → aw j = 0) ∧ (0 ≤ mm ∧ mm ≤ 1000) ∧ (∀ j, j < nn → -mm ≤ aw j ∧ aw j ≤ mm) ∧ r = iI (mm / ((aw nn).natAbs : Int) + 2) ∧ g = f) (K1 D vwCl (TY cs) (AL L sz) L) (AL L sz)) 0 0 (AL L sz) := by
  refine Met.ofW (cc := prog_1_method_41_code) (maxL := 4) (ret := (Option.some Jvm.ClassFile.FieldType.int)) (by decide) rfl ?_
  intro p e s m args below meth c s₁ Bd hml hv
  obtain ⟨rfl, hk0⟩ := hv
  obtain ⟨hsz, B⟩ := hk0.start
  subst hsz
  have hx := Bd.exec
  have hb := Bd.bytes
  have hr := Bd.returns
  have hlocks := Bd.notSynchronized
  have hts0 := atoms_spec Bd.pre
  have hown : s.vm.findClass RX6 = some m.cls := findClass_of_methodNamed Bd.named
  have hA : ∀ q, s.heap.size ≤ q → AL L s.heap.size q := fun _ h => Or.inr h
  have hl := lv_entry ([.ref va]) (n := 4) (Nat.le_of_ble_eq_true rfl)
  rw [lg_entry_eq]
  generalize (lg_sl ([.ref va]) ++ List.replicate (4 - (lg_sl ([.ref va])).length) Slot.unset).toArray = ls at hl ⊢
  refine absQ (fun Q R av hQ hR hav => ?_)
  have hts : ∀ w ∈ gw, w.before av s = true := by rw [hav]; exact fun w h => hts0 w (List.mem_cons_of_mem _ h)
  have hRf : R.frames = 1 := by rw [hR]; rfl
  have hRl : R.locals = 40 := by rw [hR]; rfl
  have hRc : R.cells = 0 := by rw [hR]; rfl
  have hRs : R.slots = 0 := by rw [hR]; rfl
  clear hR hts0 Bd
  have hl : lv_has ls 4 [(0, .ref va)] := hl
  have hfx : ∀ q ∈ ([(va, .inl (cs 0, 6, .inl (ai aw)))] : List (Nat × va_E)), f q.1 = q.2 := fun q hq => by
    simp only [List.mem_cons, List.not_mem_nil, or_false] at hq
    rcases hq with rfl
    · exact ha
  have hmw : mw f [(va, .inl (cs 0, 6, .inl (ai aw)))] = f := mw_self (fun k a e hk => hfx (a, e) (List.mem_of_getElem? hk))
  have B := B.focus [(va, .inl (cs 0, 6, .inl (ai aw)))] hfx
  refine lv_aload_n hx hb d_RR_reach_0 rfl (lv_at hl 0 rfl) ?_
  refine x_calli B hA (va_runS (As := [.ref va]) (rest := []) ⟨hx, hb, hml, hown, hts⟩ (c_RR_topOf l D cs _ _ _ va aw (hF.pick [0] rfl rfl) (mw_get (X := [(va, .inl (cs 0, 6, .inl (ai aw)))]) hF.1 (k := 0) rfl) (fun j hj => by have := haw j hj; omega)) (va_cwS 1 hts (gw_S w_273 w_274 w_1 w_275) rfl rfl rfl (by decide +kernel) ⟨by rw [hRf]; exact Nat.le_of_ble_eq_true rfl, by rw [hRl]; exact Nat.le_of_ble_eq_true rfl⟩) ⟨K0.blind, B.pre _⟩ rfl rfl hl.1 rfl (lv_room (Nat.le_of_ble_eq_true rfl)) d_RR_reach_1 ⟨by rw [hRc]; omega, by rw [hRs]; omega⟩) (fun r1 g1 H locs hw B => ?_)
  obtain ⟨k0, rfl, hk06, hk0z, hk0l, rfl⟩ := hw
  have B : Wb D vwCl (TY cs) L (mw f [(va, .inl (cs 0, 6, .inl (ai aw)))]) (AL L s.heap.size) s H _ := B
  have hk0p : 0 < k0 := by rcases Nat.eq_zero_or_pos k0 with h | h; obtain ⟨j, hj, hjn⟩ := hAN; exact absurd (hk0z j (by omega) hj) hjn; exact h
  obtain ⟨nn, hnn⟩ : ∃ nn, k0 = nn + 1 := ⟨k0 - 1, by omega⟩
  rw [show (k0 : Int) - 1 = (nn : Int) by omega]
  have hnl : aw nn ≠ 0 := by have h9 := hk0l hk0p; rw [show k0 - 1 = nn by omega] at h9; exact h9
  clear hAN
  have hln := haw nn (by omega)
  refine lv_istore_n (lv' := [(1, .int (iI ((nn : Int)))), (0, .ref va)]) hx hb d_RR_reach_4 rfl hl (by decide) rfl (fun ls hl => ?_)
  refine x_iconst hx hb d_RR_reach_5 ?_
  refine lv_istore_n (lv' := [(2, .int (iI 0)), (1, .int (iI ((nn : Int)))), (0, .ref va)]) hx hb d_RR_reach_6 rfl hl (by decide) rfl (fun ls hl => ?_)
  refine x_iconst hx hb d_RR_reach_7 ?_
  refine lv_istore_n (lv' := [(3, .int (iI 0)), (2, .int (iI 0)), (1, .int (iI ((nn : Int)))), (0, .ref va)]) hx hb d_RR_reach_8 rfl hl (by decide) rfl (fun ls hl => ?_)
  have LP : ∀ (fuel : Nat) (k : Nat) (mm : Int), nn - k < fuel → (k ≤ nn) → (0 ≤ mm ∧ mm ≤ 1000) → (∀ j, j < k → -mm ≤ aw j ∧ aw j ≤ mm) → ∀ (H : Heap) (locs : List Loc) (ls : Array Slot), Wb D vwCl (TY cs) L (mw f [(va, .inl (cs 0, 6, .inl (ai aw)))]) (AL L s.heap.size) s H locs → lv_has ls 4 [(3, .int (iI ((k : Int)))), (2, .int (iI mm)), (1, .int (iI ((nn : Int)))), (0, .ref va)] → W p l e R s m av below meth c H locs (0) (0) Q (F0 m 9 ls []) := by
    intro fuel
    induction fuel with
    | zero => intro k mm hfu; exact absurd hfu (Nat.not_lt_zero _)
    | succ fuel ih_LP =>
      intro k mm hfu_LP hk hmm hM H locs ls B hl
      refine lv_iload_n hx hb d_RR_reach_9 rfl (lv_at hl 0 rfl) ?_
      refine lv_iload_n hx hb d_RR_reach_10 rfl (lv_at hl 2 rfl) ?_
      refine x_icmp_ge (tgt := 31) hx hb d_RR_reach_11 (by decide) (by omega) (by omega) (fun h11 => ?_) (fun h11 => ?_)
      · refine lv_iload_n hx hb d_RR_reach_31 rfl (lv_at hl 2 rfl) ?_
        refine x_if_ge (tgt := 39) hx hb d_RR_reach_32 (by decide) (by omega) (fun h32 => ?_) (fun h32 => ?_)
        · refine lv_aload_n hx hb d_RR_reach_39 rfl (lv_at hl 3 rfl) ?_
          refine lv_iload_n hx hb d_RR_reach_40 rfl (lv_at hl 2 rfl) ?_
          refine x_iald hx hb B hF 0 0 rfl rfl nn (by omega) (by omega) (by decide) d_RR_reach_41 ?_
          refine x_calli B hA (va_runS (As := [.int (iI (aw nn))]) (rest := []) ⟨hx, hb, hml, hown, hts⟩ (c_Math_abs l D cs _ _ _ (aw nn) (by omega)) (va_cwS 1 hts (gw_S w_395 w_396 w_9 w_397) rfl rfl rfl (by decide +kernel) ⟨by rw [hRf]; exact Nat.le_of_ble_eq_true rfl, by rw [hRl]; exact Nat.le_of_ble_eq_true rfl⟩) ⟨K0.blind, B.pre _⟩ rfl rfl hl.1 rfl (lv_room (Nat.le_of_ble_eq_true rfl)) d_RR_reach_42 ⟨by rw [hRc]; omega, by rw [hRs]; omega⟩) (fun r42 g42 H locs hw B => ?_)
          obtain ⟨rfl, rfl⟩ := hw
          have B : Wb D vwCl (TY cs) L (mw f [(va, .inl (cs 0, 6, .inl (ai aw)))]) (AL L s.heap.size) s H _ := B
          refine lv_istore_n (lv' := [(3, .int (iI (((aw nn).natAbs : Int)))), (2, .int (iI mm)), (1, .int (iI ((nn : Int)))), (0, .ref va)]) hx hb d_RR_reach_45 rfl hl (by decide) rfl (fun ls hl => ?_)
          refine lv_iload_n hx hb d_RR_reach_46 rfl (lv_at hl 0 rfl) ?_
          refine x_if_ne (tgt := 54) hx hb d_RR_reach_47 (by decide) (by omega) (fun h47 => ?_) (fun h47 => ?_)
          · refine lv_iload_n hx hb d_RR_reach_54 rfl (lv_at hl 1 rfl) ?_
            refine lv_iload_n hx hb d_RR_reach_55 rfl (lv_at hl 0 rfl) ?_
            refine x_idiv hx hb d_RR_reach_56 (by omega) (by omega) (by omega) ?_
            refine x_iconst hx hb d_RR_reach_57 ?_
            refine x_iadd hx hb d_RR_reach_58 ?_
            have B := B.of_eq hmw
            subst hQ hav
            exact x_iret hx hb hr hlocks B d_RR_reach_59 (⟨nn, mm, by omega, hnl, fun j h1 h2 => hk0z j (by omega) h2, hmm, fun j hj => hM j (by omega), by rw [Int.tdiv_eq_ediv_of_nonneg hmm.1], rfl⟩)
          · exfalso; omega
        · exfalso; omega
      · have h9k := haw k (by omega)
        refine lv_iload_n hx hb d_RR_reach_14 rfl (lv_at hl 1 rfl) ?_
        refine lv_aload_n hx hb d_RR_reach_15 rfl (lv_at hl 3 rfl) ?_
        refine lv_iload_n hx hb d_RR_reach_16 rfl (lv_at hl 0 rfl) ?_
        refine x_iald hx hb B hF 0 0 rfl rfl k (by omega) (by omega) (by decide) d_RR_reach_17 ?_
        refine x_calli B hA (va_runS (As := [.int (iI (aw k))]) (rest := [.int (iI mm)]) ⟨hx, hb, hml, hown, hts⟩ (c_Math_abs l D cs _ _ _ (aw k) (by omega)) (va_cwS 1 hts (gw_S w_395 w_396 w_9 w_397) rfl rfl rfl (by decide +kernel) ⟨by rw [hRf]; exact Nat.le_of_ble_eq_true rfl, by rw [hRl]; exact Nat.le_of_ble_eq_true rfl⟩) ⟨K0.blind, B.pre _⟩ rfl rfl hl.1 rfl (lv_room (Nat.le_of_ble_eq_true rfl)) d_RR_reach_18 ⟨by rw [hRc]; omega, by rw [hRs]; omega⟩) (fun r18 g18 H locs hw B => ?_)
        obtain ⟨rfl, rfl⟩ := hw
        have B : Wb D vwCl (TY cs) L (mw f [(va, .inl (cs 0, 6, .inl (ai aw)))]) (AL L s.heap.size) s H _ := B
        refine x_calli B hA (va_runS (As := [.int (iI mm), .int (iI (((aw k).natAbs : Int)))]) (rest := []) ⟨hx, hb, hml, hown, hts⟩ (c_Math_max l D cs _ _ _ mm (((aw k).natAbs : Int)) (by omega) (by omega)) (va_cwS 2 hts (gw_S w_382 w_383 w_9 w_384) rfl rfl rfl (by decide +kernel) ⟨by rw [hRf]; exact Nat.le_of_ble_eq_true rfl, by rw [hRl]; exact Nat.le_of_ble_eq_true rfl⟩) ⟨K0.blind, B.pre _⟩ rfl rfl hl.1 rfl (lv_room (Nat.le_of_ble_eq_true rfl)) d_RR_reach_21 ⟨by rw [hRc]; omega, by rw [hRs]; omega⟩) (fun r21 g21 H locs hw B => ?_)
        obtain ⟨rfl, rfl⟩ := hw
        have B : Wb D vwCl (TY cs) L (mw f [(va, .inl (cs 0, 6, .inl (ai aw)))]) (AL L s.heap.size) s H _ := B
        refine lv_istore_n (lv' := [(2, .int (iI (max mm (((aw k).natAbs : Int))))), (3, .int (iI ((k : Int)))), (1, .int (iI ((nn : Int)))), (0, .ref va)]) hx hb d_RR_reach_24 rfl hl (by decide) rfl (fun ls hl => ?_)
        refine x_iinc (lv' := [(3, .int (iI (((k : Int)) + 1))), (2, .int (iI (max mm (((aw k).natAbs : Int))))), (1, .int (iI ((nn : Int)))), (0, .ref va)]) hx hb d_RR_reach_25 hl (q := 1) rfl rfl (by decide) rfl (fun ls hl => ?_)
        refine lv_goto (tgt := 9) hx hb d_RR_reach_28 (by decide) ?_
        exact ih_LP (k + 1) (max mm ((aw k).natAbs : Int)) (by omega) (by omega) (by omega) (fun j hj => by
                    by_cases hjk : j = k
                    · rw [hjk]; omega
                    · have h9 := hM j (by omega); omega) _ _ _ B (lv_sub hl [0, 1, 2, 3] rfl)
  exact LP _ 0 0 (Nat.lt_succ_self _) (by omega) (by omega) (fun j hj => by omega) _ _ _ B (lv_sub hl [0, 1, 2, 3] rfl)
