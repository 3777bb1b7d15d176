theorem d_Big_twos_0 : decode prog_2_method_8_code 0 = .ok (.iconst 0, 1) := by decide +kernel
theorem d_Big_twos_1 : decode prog_2_method_8_code 1 = .ok (.istore_n 1, 1) := by decide +kernel
theorem d_Big_twos_2 : decode prog_2_method_8_code 2 = .ok (.iload_n 1, 1) := by decide +kernel
theorem d_Big_twos_3 : decode prog_2_method_8_code 3 = .ok (.aload_n 0, 1) := by decide +kernel
theorem d_Big_twos_4 : decode prog_2_method_8_code 4 = .ok (.getfield 13, 3) := by decide +kernel
theorem d_Big_twos_7 : decode prog_2_method_8_code 7 = .ok (.iconst 1, 1) := by decide +kernel
theorem d_Big_twos_8 : decode prog_2_method_8_code 8 = .ok (.isub, 1) := by decide +kernel
theorem d_Big_twos_9 : decode prog_2_method_8_code 9 = .ok (.if_icmp .ge 18, 3) := by decide +kernel
theorem d_Big_twos_12 : decode prog_2_method_8_code 12 = .ok (.aload_n 0, 1) := by decide +kernel
theorem d_Big_twos_13 : decode prog_2_method_8_code 13 = .ok (.getfield 16, 3) := by decide +kernel
theorem d_Big_twos_16 : decode prog_2_method_8_code 16 = .ok (.iload_n 1, 1) := by decide +kernel
theorem d_Big_twos_17 : decode prog_2_method_8_code 17 = .ok (.iaload, 1) := by decide +kernel
theorem d_Big_twos_18 : decode prog_2_method_8_code 18 = .ok (.ifCond .ne 9, 3) := by decide +kernel
theorem d_Big_twos_21 : decode prog_2_method_8_code 21 = .ok (.iinc 1 1, 3) := by decide +kernel
theorem d_Big_twos_24 : decode prog_2_method_8_code 24 = .ok (.goto (-22), 3) := by decide +kernel
theorem d_Big_twos_27 : decode prog_2_method_8_code 27 = .ok (.iconst 0, 1) := by decide +kernel
theorem d_Big_twos_28 : decode prog_2_method_8_code 28 = .ok (.istore_n 2, 1) := by decide +kernel
theorem d_Big_twos_29 : decode prog_2_method_8_code 29 = .ok (.aload_n 0, 1) := by decide +kernel
theorem d_Big_twos_30 : decode prog_2_method_8_code 30 = .ok (.getfield 13, 3) := by decide +kernel
theorem d_Big_twos_33 : decode prog_2_method_8_code 33 = .ok (.ifCond .le 28, 3) := by decide +kernel
theorem d_Big_twos_36 : decode prog_2_method_8_code 36 = .ok (.iload_n 2, 1) := by decide +kernel
theorem d_Big_twos_37 : decode prog_2_method_8_code 37 = .ok (.bipush 30, 2) := by decide +kernel
theorem d_Big_twos_39 : decode prog_2_method_8_code 39 = .ok (.if_icmp .ge 22, 3) := by decide +kernel
theorem d_Big_twos_42 : decode prog_2_method_8_code 42 = .ok (.aload_n 0, 1) := by decide +kernel
theorem d_Big_twos_43 : decode prog_2_method_8_code 43 = .ok (.getfield 16, 3) := by decide +kernel
theorem d_Big_twos_46 : decode prog_2_method_8_code 46 = .ok (.iload_n 1, 1) := by decide +kernel
theorem d_Big_twos_47 : decode prog_2_method_8_code 47 = .ok (.iaload, 1) := by decide +kernel
theorem d_Big_twos_48 : decode prog_2_method_8_code 48 = .ok (.iload_n 2, 1) := by decide +kernel
theorem d_Big_twos_49 : decode prog_2_method_8_code 49 = .ok (.ishr, 1) := by decide +kernel
theorem d_Big_twos_50 : decode prog_2_method_8_code 50 = .ok (.iconst 1, 1) := by decide +kernel
theorem d_Big_twos_51 : decode prog_2_method_8_code 51 = .ok (.iand, 1) := by decide +kernel
theorem d_Big_twos_52 : decode prog_2_method_8_code 52 = .ok (.ifCond .ne 9, 3) := by decide +kernel
theorem d_Big_twos_55 : decode prog_2_method_8_code 55 = .ok (.iinc 2 1, 3) := by decide +kernel
theorem d_Big_twos_58 : decode prog_2_method_8_code 58 = .ok (.goto (-29), 3) := by decide +kernel
theorem d_Big_twos_61 : decode prog_2_method_8_code 61 = .ok (.iload_n 1, 1) := by decide +kernel
theorem d_Big_twos_62 : decode prog_2_method_8_code 62 = .ok (.bipush 31, 2) := by decide +kernel
theorem d_Big_twos_64 : decode prog_2_method_8_code 64 = .ok (.imul, 1) := by decide +kernel
theorem d_Big_twos_65 : decode prog_2_method_8_code 65 = .ok (.iload_n 2, 1) := by decide +kernel
theorem d_Big_twos_66 : decode prog_2_method_8_code 66 = .ok (.iadd, 1) := by decide +kernel
theorem d_Big_twos_67 : decode prog_2_method_8_code 67 = .ok (.ireturn, 1) := by decide +kernel
set_option maxHeartbeats 8000000 in
set_option maxRecDepth 100000 in
theorem c_Big_twos (l : Launch) (D : va_G) (cs : Nat → ClassId) (L : List Nat) (f : Nat → va_E) (sz : Nat) (a qa : Nat) (sa : Int) (na : Nat) (la : Nat → Int) (za : Int) (hF : Fc L [a, qa]) (ha : f a = .inr (0, [.int (iI sa), .int (iI ((na : Int))), .ref qa])) (hq : f qa = .inl (cs 0, 48, .inl (ai la))) (hBa : BV sa (na : Int) la za) : Met l (⟨"RealRoots$Big", "twos", "()I"⟩ : MethodName) (.code (⟨"RealRoots$Big", "twos", "()I"⟩ : MethodName) prog_2_method_8_code 3 (Option.some Jvm.ClassFile.FieldType.int) :: gw) ({ frames := 0, cells := 0, slots := 0, locals := 0 }) (va_Pc [.ref a] (K0 D vwCl (TY cs) L f sz)) (va_Qi (fun (r : Int32) (g : Nat → va_E) => ∃ t : Nat, r = iI (t : Int) ∧ t ≤ 1517 ∧ (za = 0 → t = 0) ∧ (za ≠ 0 → ∃ o : Int, za = 2 ^ t * o ∧ o % 2 = 1) ∧ g = f) (K1 D vwCl (TY cs) (AL L sz) L) (AL L sz)) 0 0 (AL L sz) := by
  refine Met.ofW (cc := prog_2_method_8_code) (maxL := 3) (ret := (Option.some Jvm.ClassFile.FieldType.int)) (by decide) rfl ?_
  intro p e s m args below meth c s₁ Bd hml hv
  obtain ⟨rfl, hk0⟩ := hv
  obtain ⟨hsz, B⟩ := hk0.start
  subst hsz
  have hx := Bd.exec
  have hb := Bd.bytes
  have hr := Bd.returns
  have hlocks := Bd.notSynchronized
  have hts0 := atoms_spec Bd.pre
  have hown : s.vm.findClass RX0 = some m.cls := findClass_of_methodNamed Bd.named
  have hA : ∀ q, s.heap.size ≤ q → AL L s.heap.size q := fun _ h => Or.inr h
  have hl := lv_entry ([.ref a]) (n := 3) (Nat.le_of_ble_eq_true rfl)
  rw [lg_entry_eq]
  generalize (lg_sl ([.ref a]) ++ List.replicate (3 - (lg_sl ([.ref a])).length) Slot.unset).toArray = ls at hl ⊢
  refine absQ (fun Q R av hQ hR hav => ?_)
  have hts : ∀ w ∈ gw, w.before av s = true := by rw [hav]; exact fun w h => hts0 w (List.mem_cons_of_mem _ h)
  have hRf : R.frames = 0 := by rw [hR]; rfl
  have hRl : R.locals = 0 := by rw [hR]; rfl
  have hRc : R.cells = 0 := by rw [hR]; rfl
  have hRs : R.slots = 0 := by rw [hR]; rfl
  clear hR hts0 Bd
  have hl : lv_has ls 3 [(0, .ref a)] := hl
  have hLa : Lb la na := by have := hBa.2.2.1; rwa [Int.toNat_natCast] at this
  have hna48 := hBa.2.1
  have hva : Bs la na = (za.natAbs : Int) := by have := hBa.2.2.2.2.2; rwa [Int.toNat_natCast] at this
  have hsa := hBa.2.2.2.2.1
  have htop : 0 < na → la (na - 1) ≠ 0 := fun h => by have := hBa.2.2.2.1 (by omega); rwa [Int.toNat_natCast] at this
  have hsd1 := hBa.side
  have hfx : ∀ q ∈ ([(a, .inr (0, [.int (iI sa), .int (iI ((na : Int))), .ref qa])), (qa, .inl (cs 0, 48, .inl (ai la)))] : List (Nat × va_E)), f q.1 = q.2 := fun q hq => by
    simp only [List.mem_cons, List.not_mem_nil, or_false] at hq
    rcases hq with rfl | rfl
    · exact ha
    · exact hq
  have hmw : mw f [(a, .inr (0, [.int (iI sa), .int (iI ((na : Int))), .ref qa])), (qa, .inl (cs 0, 48, .inl (ai la)))] = f := mw_self (fun k a e hk => hfx (a, e) (List.mem_of_getElem? hk))
  have B := B.focus [(a, .inr (0, [.int (iI sa), .int (iI ((na : Int))), .ref qa])), (qa, .inl (cs 0, 48, .inl (ai la)))] hfx
  refine x_iconst hx hb d_Big_twos_0 ?_
  refine lv_istore_n (lv' := [(1, .int (iI 0)), (0, .ref a)]) hx hb d_Big_twos_1 rfl hl (by decide) rfl (fun ls hl => ?_)
  have L1 : ∀ (fuel : Nat) (k : Nat), na - k < fuel → (k ≤ na - 1) → (∀ j : Nat, j < k → la j = 0) → ∀ (H : Heap) (locs : List Loc) (ls : Array Slot), Wb D vwCl (TY cs) L (mw f [(a, .inr (0, [.int (iI sa), .int (iI ((na : Int))), .ref qa])), (qa, .inl (cs 0, 48, .inl (ai la)))]) (AL L s.heap.size) s H locs → lv_has ls 3 [(1, .int (iI ((k : Int)))), (0, .ref a)] → W p l e R s m av below meth c H locs (0) (0) Q (F0 m 2 ls []) := by
    intro fuel
    induction fuel with
    | zero => intro k hfu; exact absurd hfu (Nat.not_lt_zero _)
    | succ fuel ih_L1 =>
      intro k hfu_L1 hk hz H locs ls B hl
      have L2 : ∀ (fuel : Nat) (b : Nat), 30 - b < fuel → (0 < na → la k ≠ 0) → (b ≤ 30) → (na = 0 → b = 0) → ((2 : Int) ^ b ∣ la k) → ∀ (H : Heap) (locs : List Loc) (ls : Array Slot), Wb D vwCl (TY cs) L (mw f [(a, .inr (0, [.int (iI sa), .int (iI ((na : Int))), .ref qa])), (qa, .inl (cs 0, 48, .inl (ai la)))]) (AL L s.heap.size) s H locs → lv_has ls 3 [(2, .int (iI ((b : Int)))), (1, .int (iI ((k : Int)))), (0, .ref a)] → W p l e R s m av below meth c H locs (0) (0) Q (F0 m 29 ls []) := by
        intro fuel
        induction fuel with
        | zero => intro b hfu; exact absurd hfu (Nat.not_lt_zero _)
        | succ fuel ih_L2 =>
          intro b hfu_L2 hnz hb30 hb0 hdv H locs ls B hl
          refine lv_aload_n hx hb d_Big_twos_29 rfl (lv_at hl 2 rfl) ?_
          refine x_get (C := RX0) (T := TX0) (N := 3) hx hb hts inX0 hown B hF 0 rfl rfl 1 (by decide) (hts _ w_42) (fun _ h9 => h9) rfl d_Big_twos_30 ?_
          refine x_if_le (tgt := 61) hx hb d_Big_twos_33 (by decide) (by omega) (fun h33 => ?_) (fun h33 => ?_)
          · refine lv_iload_n hx hb d_Big_twos_61 rfl (lv_at hl 1 rfl) ?_
            refine x_bipush hx hb d_Big_twos_62 (by decide) ?_
            refine x_imul hx hb d_Big_twos_64 ?_
            refine lv_iload_n hx hb d_Big_twos_65 rfl (lv_at hl 0 rfl) ?_
            refine x_iadd hx hb d_Big_twos_66 ?_
            have B := B.of_eq hmw
            subst hQ hav
            exact x_iret hx hb hr hlocks B d_Big_twos_67 (⟨31 * k + b, by congr 1; omega, by omega, fun h0 => by have := hBa.zero.mp h0; omega, fun h0 => by
          have hna : 0 < na := by have := mt hBa.zero.mpr h0; omega
          refine twos_fin hva (by omega) hz (by omega) hdv ?_
          first | (exfalso; omega) | omega | (have h30 : b = 30 := by omega
                                              subst h30
                                              exact bit_last (hLa k (by omega)) (hnz hna) hdv), rfl⟩)
          · refine lv_iload_n hx hb d_Big_twos_36 rfl (lv_at hl 0 rfl) ?_
            refine x_bipush hx hb d_Big_twos_37 (by decide) ?_
            refine x_icmp_ge (tgt := 61) hx hb d_Big_twos_39 (by decide) (by omega) (by omega) (fun h39 => ?_) (fun h39 => ?_)
            · refine lv_iload_n hx hb d_Big_twos_61 rfl (lv_at hl 1 rfl) ?_
              refine x_bipush hx hb d_Big_twos_62 (by decide) ?_
              refine x_imul hx hb d_Big_twos_64 ?_
              refine lv_iload_n hx hb d_Big_twos_65 rfl (lv_at hl 0 rfl) ?_
              refine x_iadd hx hb d_Big_twos_66 ?_
              have B := B.of_eq hmw
              subst hQ hav
              exact x_iret hx hb hr hlocks B d_Big_twos_67 (⟨31 * k + b, by congr 1; omega, by omega, fun h0 => by have := hBa.zero.mp h0; omega, fun h0 => by
          have hna : 0 < na := by have := mt hBa.zero.mpr h0; omega
          refine twos_fin hva (by omega) hz (by omega) hdv ?_
          first | (exfalso; omega) | omega | (have h30 : b = 30 := by omega
                                              subst h30
                                              exact bit_last (hLa k (by omega)) (hnz hna) hdv), rfl⟩)
            · have hlk2 := hLa k (by omega)
              refine lv_aload_n hx hb d_Big_twos_42 rfl (lv_at hl 2 rfl) ?_
              refine x_get (C := RX0) (T := TX0) (N := 3) hx hb hts inX0 hown B hF 0 rfl rfl 2 (by decide) (hts _ w_43) (fun _ h9 => h9) rfl d_Big_twos_43 ?_
              refine lv_iload_n hx hb d_Big_twos_46 rfl (lv_at hl 1 rfl) ?_
              refine x_iald hx hb B hF 1 0 rfl rfl k (by omega) (by omega) (by decide) d_Big_twos_47 ?_
              refine lv_iload_n hx hb d_Big_twos_48 rfl (lv_at hl 0 rfl) ?_
              refine x_ishrv hx hb b (rfl) (by omega) d_Big_twos_49 (by omega) ?_
              refine x_iconst hx hb d_Big_twos_50 ?_
              refine x_iand1 hx hb d_Big_twos_51 ?_
              refine x_if_ne (tgt := 61) hx hb d_Big_twos_52 (by decide) (by omega) (fun h52 => ?_) (fun h52 => ?_)
              · refine lv_iload_n hx hb d_Big_twos_61 rfl (lv_at hl 1 rfl) ?_
                refine x_bipush hx hb d_Big_twos_62 (by decide) ?_
                refine x_imul hx hb d_Big_twos_64 ?_
                refine lv_iload_n hx hb d_Big_twos_65 rfl (lv_at hl 0 rfl) ?_
                refine x_iadd hx hb d_Big_twos_66 ?_
                have B := B.of_eq hmw
                subst hQ hav
                exact x_iret hx hb hr hlocks B d_Big_twos_67 (⟨31 * k + b, by congr 1; omega, by omega, fun h0 => by have := hBa.zero.mp h0; omega, fun h0 => by
          have hna : 0 < na := by have := mt hBa.zero.mpr h0; omega
          refine twos_fin hva (by omega) hz (by omega) hdv ?_
          first | (exfalso; omega) | omega | (have h30 : b = 30 := by omega
                                              subst h30
                                              exact bit_last (hLa k (by omega)) (hnz hna) hdv), rfl⟩)
              · refine x_iinc (lv' := [(2, .int (iI (((b : Int)) + 1))), (1, .int (iI ((k : Int)))), (0, .ref a)]) hx hb d_Big_twos_55 hl (q := 0) rfl rfl (by decide) rfl (fun ls hl => ?_)
                refine lv_goto (tgt := 29) hx hb d_Big_twos_58 (by decide) ?_
                exact ih_L2 (b + 1) (by omega) hnz (by omega) (fun h => by omega) (bit_step hdv h52) _ _ _ B (lv_sub hl [0, 1, 2] rfl)
      refine lv_iload_n hx hb d_Big_twos_2 rfl (lv_at hl 0 rfl) ?_
      refine lv_aload_n hx hb d_Big_twos_3 rfl (lv_at hl 1 rfl) ?_
      refine x_get (C := RX0) (T := TX0) (N := 3) hx hb hts inX0 hown B hF 0 rfl rfl 1 (by decide) (hts _ w_42) (fun _ h9 => h9) rfl d_Big_twos_4 ?_
      refine x_iconst hx hb d_Big_twos_7 ?_
      refine x_isub hx hb d_Big_twos_8 ?_
      refine x_icmp_ge (tgt := 27) hx hb d_Big_twos_9 (by decide) (by omega) (by omega) (fun h9 => ?_) (fun h9 => ?_)
      · refine x_iconst hx hb d_Big_twos_27 ?_
        refine lv_istore_n (lv' := [(2, .int (iI 0)), (1, .int (iI ((k : Int)))), (0, .ref a)]) hx hb d_Big_twos_28 rfl hl (by decide) rfl (fun ls hl => ?_)
        exact L2 _ 0 (Nat.lt_succ_self _) (by first | exact fun _ => h18 | exact fun h0 => by rw [show k = na - 1 by omega]; exact htop h0) (by omega) (fun _ => rfl) (by rw [Int.pow_zero]; exact Int.one_dvd _) _ _ _ B (lv_sub hl [0, 1, 2] rfl)
      · have hlk := hLa k (by omega)
        refine lv_aload_n hx hb d_Big_twos_12 rfl (lv_at hl 1 rfl) ?_
        refine x_get (C := RX0) (T := TX0) (N := 3) hx hb hts inX0 hown B hF 0 rfl rfl 2 (by decide) (hts _ w_43) (fun _ h9 => h9) rfl d_Big_twos_13 ?_
        refine lv_iload_n hx hb d_Big_twos_16 rfl (lv_at hl 0 rfl) ?_
        refine x_iald hx hb B hF 1 0 rfl rfl k (by omega) (by omega) (by decide) d_Big_twos_17 ?_
        refine x_if_ne (tgt := 27) hx hb d_Big_twos_18 (by decide) (by omega) (fun h18 => ?_) (fun h18 => ?_)
        · refine x_iconst hx hb d_Big_twos_27 ?_
          refine lv_istore_n (lv' := [(2, .int (iI 0)), (1, .int (iI ((k : Int)))), (0, .ref a)]) hx hb d_Big_twos_28 rfl hl (by decide) rfl (fun ls hl => ?_)
          exact L2 _ 0 (Nat.lt_succ_self _) (by first | exact fun _ => h18 | exact fun h0 => by rw [show k = na - 1 by omega]; exact htop h0) (by omega) (fun _ => rfl) (by rw [Int.pow_zero]; exact Int.one_dvd _) _ _ _ B (lv_sub hl [0, 1, 2] rfl)
        · refine x_iinc (lv' := [(1, .int (iI (((k : Int)) + 1))), (0, .ref a)]) hx hb d_Big_twos_21 hl (q := 0) rfl rfl (by decide) rfl (fun ls hl => ?_)
          refine lv_goto (tgt := 2) hx hb d_Big_twos_24 (by decide) ?_
          exact ih_L1 (k + 1) (by omega) (by omega) (fun j hj => by
          by_cases hjk : j = k
          · rw [hjk]; exact h18
          · exact hz j (by omega)) _ _ _ B (lv_sub hl [0, 1] rfl)
  exact L1 _ 0 (Nat.lt_succ_self _) (by omega) (fun j hj => by omega) _ _ _ B (lv_sub hl [0, 1] rfl)
theorem d_Big_lowPair_0 : decode prog_2_method_10_code 0 = .ok (.aload_n 0, 1) := by decide +kernel
theorem d_Big_lowPair_1 : decode prog_2_method_10_code 1 = .ok (.getfield 13, 3) := by decide +kernel
theorem d_Big_lowPair_4 : decode prog_2_method_10_code 4 = .ok (.ifCond .le 13, 3) := by decide +kernel
theorem d_Big_lowPair_7 : decode prog_2_method_10_code 7 = .ok (.aload_n 0, 1) := by decide +kernel
theorem d_Big_lowPair_8 : decode prog_2_method_10_code 8 = .ok (.getfield 16, 3) := by decide +kernel
theorem d_Big_lowPair_11 : decode prog_2_method_10_code 11 = .ok (.iconst 0, 1) := by decide +kernel
theorem d_Big_lowPair_12 : decode prog_2_method_10_code 12 = .ok (.iaload, 1) := by decide +kernel
theorem d_Big_lowPair_13 : decode prog_2_method_10_code 13 = .ok (.i2l, 1) := by decide +kernel
theorem d_Big_lowPair_14 : decode prog_2_method_10_code 14 = .ok (.goto 4, 3) := by decide +kernel
theorem d_Big_lowPair_17 : decode prog_2_method_10_code 17 = .ok (.lconst 0, 1) := by decide +kernel
theorem d_Big_lowPair_18 : decode prog_2_method_10_code 18 = .ok (.lstore_n 1, 1) := by decide +kernel
theorem d_Big_lowPair_19 : decode prog_2_method_10_code 19 = .ok (.aload_n 0, 1) := by decide +kernel
theorem d_Big_lowPair_20 : decode prog_2_method_10_code 20 = .ok (.getfield 13, 3) := by decide +kernel
theorem d_Big_lowPair_23 : decode prog_2_method_10_code 23 = .ok (.iconst 1, 1) := by decide +kernel
theorem d_Big_lowPair_24 : decode prog_2_method_10_code 24 = .ok (.if_icmp .le 13, 3) := by decide +kernel
theorem d_Big_lowPair_27 : decode prog_2_method_10_code 27 = .ok (.aload_n 0, 1) := by decide +kernel
theorem d_Big_lowPair_28 : decode prog_2_method_10_code 28 = .ok (.getfield 16, 3) := by decide +kernel
theorem d_Big_lowPair_31 : decode prog_2_method_10_code 31 = .ok (.iconst 1, 1) := by decide +kernel
theorem d_Big_lowPair_32 : decode prog_2_method_10_code 32 = .ok (.iaload, 1) := by decide +kernel
theorem d_Big_lowPair_33 : decode prog_2_method_10_code 33 = .ok (.i2l, 1) := by decide +kernel
theorem d_Big_lowPair_34 : decode prog_2_method_10_code 34 = .ok (.goto 4, 3) := by decide +kernel
theorem d_Big_lowPair_37 : decode prog_2_method_10_code 37 = .ok (.lconst 0, 1) := by decide +kernel
theorem d_Big_lowPair_38 : decode prog_2_method_10_code 38 = .ok (.lstore_n 3, 1) := by decide +kernel
theorem d_Big_lowPair_39 : decode prog_2_method_10_code 39 = .ok (.lload_n 3, 1) := by decide +kernel
theorem d_Big_lowPair_40 : decode prog_2_method_10_code 40 = .ok (.bipush 31, 2) := by decide +kernel
theorem d_Big_lowPair_42 : decode prog_2_method_10_code 42 = .ok (.lshl, 1) := by decide +kernel
theorem d_Big_lowPair_43 : decode prog_2_method_10_code 43 = .ok (.lload_n 1, 1) := by decide +kernel
theorem d_Big_lowPair_44 : decode prog_2_method_10_code 44 = .ok (.lor, 1) := by decide +kernel
theorem d_Big_lowPair_45 : decode prog_2_method_10_code 45 = .ok (.lreturn, 1) := by decide +kernel
set_option maxHeartbeats 8000000 in
set_option maxRecDepth 100000 in
theorem c_Big_lowPair (l : Launch) (D : va_G) (cs : Nat → ClassId) (L : List Nat) (f : Nat → va_E) (sz : Nat) (a qa : Nat) (sa : Int) (na : Nat) (la : Nat → Int) (za : Int) (hF : Fc L [a, qa]) (ha : f a = .inr (0, [.int (iI sa), .int (iI ((na : Int))), .ref qa])) (hq : f qa = .inl (cs 0, 48, .inl (ai la))) (hBa : BV sa (na : Int) la za) : Met l (⟨"RealRoots$Big", "lowPair", "()J"⟩ : MethodName) (.code (⟨"RealRoots$Big", "lowPair", "()J"⟩ : MethodName) prog_2_method_10_code 5 (Option.some Jvm.ClassFile.FieldType.long) :: gw) ({ frames := 0, cells := 0, slots := 0, locals := 0 }) (va_Pc [.ref a] (K0 D vwCl (TY cs) L f sz)) (va_Ql (fun (r : Int64) (g : Nat → va_E) => r = lI ((za.natAbs : Int) % 4611686018427387904) ∧ g = f) (K1 D vwCl (TY cs) (AL L sz) L) (AL L sz)) 0 0 (AL L sz) := by
  refine Met.ofW (cc := prog_2_method_10_code) (maxL := 5) (ret := (Option.some Jvm.ClassFile.FieldType.long)) (by decide) rfl ?_
  intro p e s m args below meth c s₁ Bd hml hv
  obtain ⟨rfl, hk0⟩ := hv
  obtain ⟨hsz, B⟩ := hk0.start
  subst hsz
  have hx := Bd.exec
  have hb := Bd.bytes
  have hr := Bd.returns
  have hlocks := Bd.notSynchronized
  have hts0 := atoms_spec Bd.pre
  have hown : s.vm.findClass RX0 = some m.cls := findClass_of_methodNamed Bd.named
  have hA : ∀ q, s.heap.size ≤ q → AL L s.heap.size q := fun _ h => Or.inr h
  have hl := lv_entry ([.ref a]) (n := 5) (Nat.le_of_ble_eq_true rfl)
  rw [lg_entry_eq]
  generalize (lg_sl ([.ref a]) ++ List.replicate (5 - (lg_sl ([.ref a])).length) Slot.unset).toArray = ls at hl ⊢
  refine absQ (fun Q R av hQ hR hav => ?_)
  have hts : ∀ w ∈ gw, w.before av s = true := by rw [hav]; exact fun w h => hts0 w (List.mem_cons_of_mem _ h)
  have hRf : R.frames = 0 := by rw [hR]; rfl
  have hRl : R.locals = 0 := by rw [hR]; rfl
  have hRc : R.cells = 0 := by rw [hR]; rfl
  have hRs : R.slots = 0 := by rw [hR]; rfl
  clear hR hts0 Bd
  have hl : lv_has ls 5 [(0, .ref a)] := hl
  have hLa : Lb la na := by have := hBa.2.2.1; rwa [Int.toNat_natCast] at this
  have hna48 := hBa.2.1
  have hva : Bs la na = (za.natAbs : Int) := by have := hBa.2.2.2.2.2; rwa [Int.toNat_natCast] at this
  have hsa := hBa.2.2.2.2.1
  have htop : 0 < na → la (na - 1) ≠ 0 := fun h => by have := hBa.2.2.2.1 (by omega); rwa [Int.toNat_natCast] at this
  have hsd1 := hBa.side
  have hfx : ∀ q ∈ ([(a, .inr (0, [.int (iI sa), .int (iI ((na : Int))), .ref qa])), (qa, .inl (cs 0, 48, .inl (ai la)))] : List (Nat × va_E)), f q.1 = q.2 := fun q hq => by
    simp only [List.mem_cons, List.not_mem_nil, or_false] at hq
    rcases hq with rfl | rfl
    · exact ha
    · exact hq
  have hmw : mw f [(a, .inr (0, [.int (iI sa), .int (iI ((na : Int))), .ref qa])), (qa, .inl (cs 0, 48, .inl (ai la)))] = f := mw_self (fun k a e hk => hfx (a, e) (List.mem_of_getElem? hk))
  have B := B.focus [(a, .inr (0, [.int (iI sa), .int (iI ((na : Int))), .ref qa])), (qa, .inl (cs 0, 48, .inl (ai la)))] hfx
  refine lv_aload_n hx hb d_Big_lowPair_0 rfl (lv_at hl 0 rfl) ?_
  refine x_get (C := RX0) (T := TX0) (N := 3) hx hb hts inX0 hown B hF 0 rfl rfl 1 (by decide) (hts _ w_42) (fun _ h9 => h9) rfl d_Big_lowPair_1 ?_
  refine x_if_le (tgt := 17) hx hb d_Big_lowPair_4 (by decide) (by omega) (fun h4 => ?_) (fun h4 => ?_)
  · refine x_lconst (z := 0) hx hb d_Big_lowPair_17 (by decide) ?_
    refine lv_lstore_n (lv' := [(1, .long (lI 0)), (0, .ref a)]) hx hb d_Big_lowPair_18 rfl hl (by decide) rfl (fun ls hl => ?_)
    refine lv_aload_n hx hb d_Big_lowPair_19 rfl (lv_at hl 1 rfl) ?_
    refine x_get (C := RX0) (T := TX0) (N := 3) hx hb hts inX0 hown B hF 0 rfl rfl 1 (by decide) (hts _ w_42) (fun _ h9 => h9) rfl d_Big_lowPair_20 ?_
    refine x_iconst hx hb d_Big_lowPair_23 ?_
    refine x_icmp_le (tgt := 37) hx hb d_Big_lowPair_24 (by decide) (by omega) (by omega) (fun h24 => ?_) (fun h24 => ?_)
    · refine x_lconst (z := 0) hx hb d_Big_lowPair_37 (by decide) ?_
      refine lv_lstore_n (lv' := [(3, .long (lI 0)), (1, .long (lI 0)), (0, .ref a)]) hx hb d_Big_lowPair_38 rfl hl (by decide) rfl (fun ls hl => ?_)
      refine lv_lload_n hx hb d_Big_lowPair_39 rfl (lv_at hl 0 rfl) ?_
      refine x_bipush hx hb d_Big_lowPair_40 (by decide) ?_
      refine x_lshl31 hx hb d_Big_lowPair_42 ?_
      refine lv_lload_n hx hb d_Big_lowPair_43 rfl (lv_at hl 1 rfl) ?_
      refine x_lor31 hx hb d_Big_lowPair_44 (by omega) (by omega) ?_
      have B := B.of_eq hmw
      subst hQ hav
      exact x_lret hx hb hr hlocks B d_Big_lowPair_45 (⟨by first | (exfalso; omega) | (rw [low_pair hva hLa]; first | rw [if_pos (by omega), if_pos (by omega)] | rw [if_pos (by omega), if_neg (by omega)] | rw [if_neg (by omega), if_pos (by omega)] | rw [if_neg (by omega), if_neg (by omega)]), rfl⟩)
    · have hl1 := hLa 1 (by omega)
      refine lv_aload_n hx hb d_Big_lowPair_27 rfl (lv_at hl 1 rfl) ?_
      refine x_get (C := RX0) (T := TX0) (N := 3) hx hb hts inX0 hown B hF 0 rfl rfl 2 (by decide) (hts _ w_43) (fun _ h9 => h9) rfl d_Big_lowPair_28 ?_
      refine x_iconst hx hb d_Big_lowPair_31 ?_
      refine x_iald hx hb B hF 1 0 rfl rfl 1 (by omega) (by omega) (by decide) d_Big_lowPair_32 ?_
      refine x_i2l hx hb d_Big_lowPair_33 (by omega) ?_
      refine lv_goto (tgt := 38) hx hb d_Big_lowPair_34 (by decide) ?_
      refine lv_lstore_n (lv' := [(3, .long (lI (la 1))), (1, .long (lI 0)), (0, .ref a)]) hx hb d_Big_lowPair_38 rfl hl (by decide) rfl (fun ls hl => ?_)
      refine lv_lload_n hx hb d_Big_lowPair_39 rfl (lv_at hl 0 rfl) ?_
      refine x_bipush hx hb d_Big_lowPair_40 (by decide) ?_
      refine x_lshl31 hx hb d_Big_lowPair_42 ?_
      refine lv_lload_n hx hb d_Big_lowPair_43 rfl (lv_at hl 1 rfl) ?_
      refine x_lor31 hx hb d_Big_lowPair_44 (by omega) (by omega) ?_
      have B := B.of_eq hmw
      subst hQ hav
      exact x_lret hx hb hr hlocks B d_Big_lowPair_45 (⟨by first | (exfalso; omega) | (rw [low_pair hva hLa]; first | rw [if_pos (by omega), if_pos (by omega)] | rw [if_pos (by omega), if_neg (by omega)] | rw [if_neg (by omega), if_pos (by omega)] | rw [if_neg (by omega), if_neg (by omega)]), rfl⟩)
  · have hl0 := hLa 0 (by omega)
    refine lv_aload_n hx hb d_Big_lowPair_7 rfl (lv_at hl 0 rfl) ?_
    refine x_get (C := RX0) (T := TX0) (N := 3) hx hb hts inX0 hown B hF 0 rfl rfl 2 (by decide) (hts _ w_43) (fun _ h9 => h9) rfl d_Big_lowPair_8 ?_
    refine x_iconst hx hb d_Big_lowPair_11 ?_
    refine x_iald hx hb B hF 1 0 rfl rfl 0 (by omega) (by omega) (by decide) d_Big_lowPair_12 ?_
    refine x_i2l hx hb d_Big_lowPair_13 (by omega) ?_
    refine lv_goto (tgt := 18) hx hb d_Big_lowPair_14 (by decide) ?_
    refine lv_lstore_n (lv' := [(1, .long (lI (la 0))), (0, .ref a)]) hx hb d_Big_lowPair_18 rfl hl (by decide) rfl (fun ls hl => ?_)
    refine lv_aload_n hx hb d_Big_lowPair_19 rfl (lv_at hl 1 rfl) ?_
    refine x_get (C := RX0) (T := TX0) (N := 3) hx hb hts inX0 hown B hF 0 rfl rfl 1 (by decide) (hts _ w_42) (fun _ h9 => h9) rfl d_Big_lowPair_20 ?_
    refine x_iconst hx hb d_Big_lowPair_23 ?_
    refine x_icmp_le (tgt := 37) hx hb d_Big_lowPair_24 (by decide) (by omega) (by omega) (fun h24 => ?_) (fun h24 => ?_)
    · refine x_lconst (z := 0) hx hb d_Big_lowPair_37 (by decide) ?_
      refine lv_lstore_n (lv' := [(3, .long (lI 0)), (1, .long (lI (la 0))), (0, .ref a)]) hx hb d_Big_lowPair_38 rfl hl (by decide) rfl (fun ls hl => ?_)
      refine lv_lload_n hx hb d_Big_lowPair_39 rfl (lv_at hl 0 rfl) ?_
      refine x_bipush hx hb d_Big_lowPair_40 (by decide) ?_
      refine x_lshl31 hx hb d_Big_lowPair_42 ?_
      refine lv_lload_n hx hb d_Big_lowPair_43 rfl (lv_at hl 1 rfl) ?_
      refine x_lor31 hx hb d_Big_lowPair_44 (by omega) (by omega) ?_
      have B := B.of_eq hmw
      subst hQ hav
      exact x_lret hx hb hr hlocks B d_Big_lowPair_45 (⟨by first | (exfalso; omega) | (rw [low_pair hva hLa]; first | rw [if_pos (by omega), if_pos (by omega)] | rw [if_pos (by omega), if_neg (by omega)] | rw [if_neg (by omega), if_pos (by omega)] | rw [if_neg (by omega), if_neg (by omega)]), rfl⟩)
    · have hl1 := hLa 1 (by omega)
      refine lv_aload_n hx hb d_Big_lowPair_27 rfl (lv_at hl 1 rfl) ?_
      refine x_get (C := RX0) (T := TX0) (N := 3) hx hb hts inX0 hown B hF 0 rfl rfl 2 (by decide) (hts _ w_43) (fun _ h9 => h9) rfl d_Big_lowPair_28 ?_
      refine x_iconst hx hb d_Big_lowPair_31 ?_
      refine x_iald hx hb B hF 1 0 rfl rfl 1 (by omega) (by omega) (by decide) d_Big_lowPair_32 ?_
      refine x_i2l hx hb d_Big_lowPair_33 (by omega) ?_
      refine lv_goto (tgt := 38) hx hb d_Big_lowPair_34 (by decide) ?_
      refine lv_lstore_n (lv' := [(3, .long (lI (la 1))), (1, .long (lI (la 0))), (0, .ref a)]) hx hb d_Big_lowPair_38 rfl hl (by decide) rfl (fun ls hl => ?_)
      refine lv_lload_n hx hb d_Big_lowPair_39 rfl (lv_at hl 0 rfl) ?_
      refine x_bipush hx hb d_Big_lowPair_40 (by decide) ?_
      refine x_lshl31 hx hb d_Big_lowPair_42 ?_
      refine lv_lload_n hx hb d_Big_lowPair_43 rfl (lv_at hl 1 rfl) ?_
      refine x_lor31 hx hb d_Big_lowPair_44 (by omega) (by omega) ?_
      have B := B.of_eq hmw
      subst hQ hav
      exact x_lret hx hb hr hlocks B d_Big_lowPair_45 (⟨by first | (exfalso; omega) | (rw [low_pair hva hLa]; first | rw [if_pos (by omega), if_pos (by omega)] | rw [if_pos (by omega), if_neg (by omega)] | rw [if_neg (by omega), if_pos (by omega)] | rw [if_neg (by omega), if_neg (by omega)]), rfl⟩)
