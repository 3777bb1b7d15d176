theorem d_Big_over_0 : decode prog_2_method_11_code 0 = .ok (.aload_n 1, 1) := by decide +kernel
theorem d_Big_over_1 : decode prog_2_method_11_code 1 = .ok (.invokevirtual 22, 3) := by decide +kernel
theorem d_Big_over_4 : decode prog_2_method_11_code 4 = .ok (.istore_n 2, 1) := by decide +kernel
theorem d_Big_over_5 : decode prog_2_method_11_code 5 = .ok (.aload_n 0, 1) := by decide +kernel
theorem d_Big_over_6 : decode prog_2_method_11_code 6 = .ok (.iload_n 2, 1) := by decide +kernel
theorem d_Big_over_7 : decode prog_2_method_11_code 7 = .ok (.invokevirtual 26, 3) := by decide +kernel
theorem d_Big_over_10 : decode prog_2_method_11_code 10 = .ok (.aload_n 1, 1) := by decide +kernel
theorem d_Big_over_11 : decode prog_2_method_11_code 11 = .ok (.iload_n 2, 1) := by decide +kernel
theorem d_Big_over_12 : decode prog_2_method_11_code 12 = .ok (.invokevirtual 26, 3) := by decide +kernel
theorem d_Big_over_15 : decode prog_2_method_11_code 15 = .ok (.aload_n 1, 1) := by decide +kernel
theorem d_Big_over_16 : decode prog_2_method_11_code 16 = .ok (.invokevirtual 30, 3) := by decide +kernel
theorem d_Big_over_19 : decode prog_2_method_11_code 19 = .ok (.lstore_n 3, 1) := by decide +kernel
theorem d_Big_over_20 : decode prog_2_method_11_code 20 = .ok (.lload_n 3, 1) := by decide +kernel
theorem d_Big_over_21 : decode prog_2_method_11_code 21 = .ok (.lstore 5, 2) := by decide +kernel
theorem d_Big_over_23 : decode prog_2_method_11_code 23 = .ok (.iconst 0, 1) := by decide +kernel
theorem d_Big_over_24 : decode prog_2_method_11_code 24 = .ok (.istore 7, 2) := by decide +kernel
theorem d_Big_over_26 : decode prog_2_method_11_code 26 = .ok (.iload 7, 2) := by decide +kernel
theorem d_Big_over_28 : decode prog_2_method_11_code 28 = .ok (.iconst 5, 1) := by decide +kernel
theorem d_Big_over_29 : decode prog_2_method_11_code 29 = .ok (.if_icmp .ge 22, 3) := by decide +kernel
theorem d_Big_over_32 : decode prog_2_method_11_code 32 = .ok (.lload 5, 2) := by decide +kernel
theorem d_Big_over_34 : decode prog_2_method_11_code 34 = .ok (.ldc2_w 34, 3) := by decide +kernel
theorem d_Big_over_37 : decode prog_2_method_11_code 37 = .ok (.lload_n 3, 1) := by decide +kernel
theorem d_Big_over_38 : decode prog_2_method_11_code 38 = .ok (.lload 5, 2) := by decide +kernel
theorem d_Big_over_40 : decode prog_2_method_11_code 40 = .ok (.lmul, 1) := by decide +kernel
theorem d_Big_over_41 : decode prog_2_method_11_code 41 = .ok (.lsub, 1) := by decide +kernel
theorem d_Big_over_42 : decode prog_2_method_11_code 42 = .ok (.lmul, 1) := by decide +kernel
theorem d_Big_over_43 : decode prog_2_method_11_code 43 = .ok (.lstore 5, 2) := by decide +kernel
theorem d_Big_over_45 : decode prog_2_method_11_code 45 = .ok (.iinc 7 1, 3) := by decide +kernel
theorem d_Big_over_48 : decode prog_2_method_11_code 48 = .ok (.goto (-22), 3) := by decide +kernel
theorem d_Big_over_51 : decode prog_2_method_11_code 51 = .ok (.aload_n 0, 1) := by decide +kernel
theorem d_Big_over_52 : decode prog_2_method_11_code 52 = .ok (.getfield 9, 3) := by decide +kernel
theorem d_Big_over_55 : decode prog_2_method_11_code 55 = .ok (.aload_n 1, 1) := by decide +kernel
theorem d_Big_over_56 : decode prog_2_method_11_code 56 = .ok (.getfield 9, 3) := by decide +kernel
theorem d_Big_over_59 : decode prog_2_method_11_code 59 = .ok (.imul, 1) := by decide +kernel
theorem d_Big_over_60 : decode prog_2_method_11_code 60 = .ok (.i2l, 1) := by decide +kernel
theorem d_Big_over_61 : decode prog_2_method_11_code 61 = .ok (.aload_n 0, 1) := by decide +kernel
theorem d_Big_over_62 : decode prog_2_method_11_code 62 = .ok (.invokevirtual 30, 3) := by decide +kernel
theorem d_Big_over_65 : decode prog_2_method_11_code 65 = .ok (.lload 5, 2) := by decide +kernel
theorem d_Big_over_67 : decode prog_2_method_11_code 67 = .ok (.lmul, 1) := by decide +kernel
theorem d_Big_over_68 : decode prog_2_method_11_code 68 = .ok (.ldc2_w 36, 3) := by decide +kernel
theorem d_Big_over_71 : decode prog_2_method_11_code 71 = .ok (.land, 1) := by decide +kernel
theorem d_Big_over_72 : decode prog_2_method_11_code 72 = .ok (.lmul, 1) := by decide +kernel
theorem d_Big_over_73 : decode prog_2_method_11_code 73 = .ok (.lreturn, 1) := by decide +kernel
theorem tdiv_sign2 {z : Int} {t : Nat} (h : (2 : Int) ^ t ∣ z) : (z.tdiv (2 ^ t)).sign = z.sign := by
  obtain ⟨q, hq⟩ := h
  have hp := pow_pos2 t
  rw [hq, Int.mul_tdiv_cancel_left _ (by omega), Int.sign_mul, Int.sign_eq_one_of_pos hp, Int.one_mul]
theorem tdiv_sign {z o : Int} {t : Nat} (h : z = 2 ^ t * o) : (z.tdiv (2 ^ t)).sign = z.sign := tdiv_sign2 ⟨o, h⟩
set_option maxHeartbeats 8000000 in
set_option maxRecDepth 100000 in
theorem c_Big_over (l : Launch) (D : va_G) (cs : Nat → ClassId) (L : List Nat) (f : Nat → va_E) (sz : Nat) (a qa : Nat) (sa : Int) (na : Nat) (la : Nat → Int) (za : Int) (b qb : Nat) (sb : Int) (nb : Nat) (lb : Nat → Int) (zb : Int) (hF : Fc L [a, qa, b, qb]) (ha : f a = .inr (0, [.int (iI sa), .int (iI ((na : Int))), .ref qa])) (hq : f qa = .inl (cs 0, 48, .inl (ai la))) (hBa : BV sa (na : Int) la za) (hfb : f b = .inr (0, [.int (iI sb), .int (iI ((nb : Int))), .ref qb])) (hfqb : f qb = .inl (cs 0, 48, .inl (ai lb))) (hBb : BV sb (nb : Int) lb zb) (hzb : zb ≠ 0) (hdv : zb ∣ za) : Met l (⟨"RealRoots$Big", "over", "(LRealRoots$Big;)J"⟩ : MethodName) (.code (⟨"RealRoots$Big", "over", "(LRealRoots$Big;)J"⟩ : MethodName) prog_2_method_11_code 8 (Option.some Jvm.ClassFile.FieldType.long) :: gw) ({ frames := 1, cells := 0, slots := 0, locals := 40 }) (va_Pc [.ref a, .ref b] (K0 D vwCl (TY cs) L f sz)) (va_Ql (fun (r : Int64) (g : Nat → va_E) => r = lI (za.sign * zb.sign * (((za / zb).natAbs : Int) % 4611686018427387904)) ∧ ∃ t : Nat, (∃ o : Int, zb = 2 ^ t * o ∧ o % 2 = 1) ∧ ∃ (s1 : Int) (n1 : Nat) (l1 : Nat → Int) (s2 : Int) (n2 : Nat) (l2 : Nat → Int), BV s1 (n1 : Int) l1 (za.tdiv (2 ^ t)) ∧ BV s2 (n2 : Int) l2 (zb.tdiv (2 ^ t)) ∧ g = mw f [(a, .inr (0, [.int (iI s1), .int (iI ((n1 : Int))), .ref qa])), (qa, .inl (cs 0, 48, .inl (ai l1))), (b, .inr (0, [.int (iI s2), .int (iI ((n2 : Int))), .ref qb])), (qb, .inl (cs 0, 48, .inl (ai l2)))]) (K1 D vwCl (TY cs) (AL L sz) L) (AL L sz)) 0 0 (AL L sz) := by
  refine Met.ofW (cc := prog_2_method_11_code) (maxL := 8) (ret := (Option.some Jvm.ClassFile.FieldType.long)) (by decide) rfl ?_
  intro p e s m args below meth c s₁ Bd hml hv
  obtain ⟨rfl, hk0⟩ := hv
  obtain ⟨hsz, B⟩ := hk0.start
  subst hsz
  have hx := Bd.exec
  have hb := Bd.bytes
  have hr := Bd.returns
  have hlocks := Bd.notSynchronized
  have hts0 := atoms_spec Bd.pre
  have hown : s.vm.findClass RX0 = some m.cls := findClass_of_methodNamed Bd.named
  have hA : ∀ q, s.heap.size ≤ q → AL L s.heap.size q := fun _ h => Or.inr h
  have hl := lv_entry ([.ref a, .ref b]) (n := 8) (Nat.le_of_ble_eq_true rfl)
  rw [lg_entry_eq]
  generalize (lg_sl ([.ref a, .ref b]) ++ List.replicate (8 - (lg_sl ([.ref a, .ref b])).length) Slot.unset).toArray = ls at hl ⊢
  refine absQ (fun Q R av hQ hR hav => ?_)
  have hts : ∀ w ∈ gw, w.before av s = true := by rw [hav]; exact fun w h => hts0 w (List.mem_cons_of_mem _ h)
  have hRf : R.frames = 1 := by rw [hR]; rfl
  have hRl : R.locals = 40 := by rw [hR]; rfl
  have hRc : R.cells = 0 := by rw [hR]; rfl
  have hRs : R.slots = 0 := by rw [hR]; rfl
  clear hR hts0 Bd
  have hl : lv_has ls 8 [(0, .ref a), (1, .ref b)] := hl
  have hfx : ∀ q ∈ ([(a, .inr (0, [.int (iI sa), .int (iI ((na : Int))), .ref qa])), (qa, .inl (cs 0, 48, .inl (ai la))), (b, .inr (0, [.int (iI sb), .int (iI ((nb : Int))), .ref qb])), (qb, .inl (cs 0, 48, .inl (ai lb)))] : List (Nat × va_E)), f q.1 = q.2 := fun q hq => by
    simp only [List.mem_cons, List.not_mem_nil, or_false] at hq
    rcases hq with rfl | rfl | rfl | rfl
    · exact ha
    · exact hq
    · exact hfb
    · exact hfqb
  have hmw : mw f [(a, .inr (0, [.int (iI sa), .int (iI ((na : Int))), .ref qa])), (qa, .inl (cs 0, 48, .inl (ai la))), (b, .inr (0, [.int (iI sb), .int (iI ((nb : Int))), .ref qb])), (qb, .inl (cs 0, 48, .inl (ai lb)))] = f := mw_self (fun k a e hk => hfx (a, e) (List.mem_of_getElem? hk))
  have B := B.focus [(a, .inr (0, [.int (iI sa), .int (iI ((na : Int))), .ref qa])), (qa, .inl (cs 0, 48, .inl (ai la))), (b, .inr (0, [.int (iI sb), .int (iI ((nb : Int))), .ref qb])), (qb, .inl (cs 0, 48, .inl (ai lb)))] hfx
  refine lv_aload_n hx hb d_Big_over_0 rfl (lv_at hl 1 rfl) ?_
  refine x_calli B hA (va_runV (As := []) (rest := []) ⟨hx, hb, hml, hown, hts⟩ (c_Big_twos l D cs _ _ _ b qb sb nb lb zb  (hF.pick [2, 3] rfl rfl) (mw_get (X := [(a, .inr (0, [.int (iI sa), .int (iI ((na : Int))), .ref qa])), (qa, .inl (cs 0, 48, .inl (ai la))), (b, .inr (0, [.int (iI sb), .int (iI ((nb : Int))), .ref qb])), (qb, .inl (cs 0, 48, .inl (ai lb)))]) hF.1 (k := 2) rfl) (mw_get (X := [(a, .inr (0, [.int (iI sa), .int (iI ((na : Int))), .ref qa])), (qa, .inl (cs 0, 48, .inl (ai la))), (b, .inr (0, [.int (iI sb), .int (iI ((nb : Int))), .ref qb])), (qb, .inl (cs 0, 48, .inl (ai lb)))]) hF.1 (k := 3) rfl) hBb ) (cwV 0 hts (gw_V w_325 w_326 w_327 w_3 w_328) rfl rfl rfl (by decide +kernel) ⟨by rw [hRf]; exact Nat.le_of_ble_eq_true rfl, by rw [hRl]; exact Nat.le_of_ble_eq_true rfl⟩) ⟨K0.blind, B.recv (hF.2 _ (mw_key (k := 2) (X := [(a, .inr (0, [.int (iI sa), .int (iI ((na : Int))), .ref qa])), (qa, .inl (cs 0, 48, .inl (ai la))), (b, .inr (0, [.int (iI sb), .int (iI ((nb : Int))), .ref qb])), (qb, .inl (cs 0, 48, .inl (ai lb)))]) rfl)) (mw_get (X := [(a, .inr (0, [.int (iI sa), .int (iI ((na : Int))), .ref qa])), (qa, .inl (cs 0, 48, .inl (ai la))), (b, .inr (0, [.int (iI sb), .int (iI ((nb : Int))), .ref qb])), (qb, .inl (cs 0, 48, .inl (ai lb)))]) hF.1 (k := 2) rfl) rfl, B.pre _⟩ rfl rfl hl.1 rfl (lv_room (Nat.le_of_ble_eq_true rfl)) d_Big_over_1 ⟨by rw [hRc]; omega, by rw [hRs]; omega⟩) (fun r1 g1 H locs hw B => ?_)
  obtain ⟨t, rfl, ht48, _, hto, rfl⟩ := hw
  obtain ⟨o, hzo, ho⟩ := hto hzb
  have B : Wb D vwCl (TY cs) L (mw f [(a, .inr (0, [.int (iI sa), .int (iI ((na : Int))), .ref qa])), (qa, .inl (cs 0, 48, .inl (ai la))), (b, .inr (0, [.int (iI sb), .int (iI ((nb : Int))), .ref qb])), (qb, .inl (cs 0, 48, .inl (ai lb)))]) (AL L s.heap.size) s H _ := B
  refine lv_istore_n (lv' := [(2, .int (iI ((t : Int)))), (0, .ref a), (1, .ref b)]) hx hb d_Big_over_4 rfl hl (by decide) rfl (fun ls hl => ?_)
  refine lv_aload_n hx hb d_Big_over_5 rfl (lv_at hl 1 rfl) ?_
  refine lv_iload_n hx hb d_Big_over_6 rfl (lv_at hl 0 rfl) ?_
  refine x_callv B hA (va_runV (As := [.int (iI ((t : Int)))]) (rest := []) ⟨hx, hb, hml, hown, hts⟩ (c_Big_shiftDown l D cs _ _ _ a qa sa na la za t (hF.pick [0, 1] rfl rfl) (mw_get (X := [(a, .inr (0, [.int (iI sa), .int (iI ((na : Int))), .ref qa])), (qa, .inl (cs 0, 48, .inl (ai la))), (b, .inr (0, [.int (iI sb), .int (iI ((nb : Int))), .ref qb])), (qb, .inl (cs 0, 48, .inl (ai lb)))]) hF.1 (k := 0) rfl) (mw_get (X := [(a, .inr (0, [.int (iI sa), .int (iI ((na : Int))), .ref qa])), (qa, .inl (cs 0, 48, .inl (ai la))), (b, .inr (0, [.int (iI sb), .int (iI ((nb : Int))), .ref qb])), (qb, .inl (cs 0, 48, .inl (ai lb)))]) hF.1 (k := 1) rfl) hBa ht48) (cwV 1 hts (gw_V w_329 w_330 w_331 w_3 w_332) rfl rfl rfl (by decide +kernel) ⟨by rw [hRf]; exact Nat.le_of_ble_eq_true rfl, by rw [hRl]; exact Nat.le_of_ble_eq_true rfl⟩) ⟨K0.blind, B.recv (hF.2 _ (mw_key (k := 0) (X := [(a, .inr (0, [.int (iI sa), .int (iI ((na : Int))), .ref qa])), (qa, .inl (cs 0, 48, .inl (ai la))), (b, .inr (0, [.int (iI sb), .int (iI ((nb : Int))), .ref qb])), (qb, .inl (cs 0, 48, .inl (ai lb)))]) rfl)) (mw_get (X := [(a, .inr (0, [.int (iI sa), .int (iI ((na : Int))), .ref qa])), (qa, .inl (cs 0, 48, .inl (ai la))), (b, .inr (0, [.int (iI sb), .int (iI ((nb : Int))), .ref qb])), (qb, .inl (cs 0, 48, .inl (ai lb)))]) hF.1 (k := 0) rfl) rfl, B.pre _⟩ rfl rfl hl.1 rfl (lv_room (Nat.le_of_ble_eq_true rfl)) d_Big_over_7 ⟨by rw [hRc]; omega, by rw [hRs]; omega⟩) (fun g7 H locs hw B => ?_)
  obtain ⟨s_a7, n_a7, l_a7, hB1, rfl⟩ := hw
  have B := B.of_eq (mw_put2 (X := [(a, .inr (0, [.int (iI sa), .int (iI ((na : Int))), .ref qa])), (qa, .inl (cs 0, 48, .inl (ai la))), (b, .inr (0, [.int (iI sb), .int (iI ((nb : Int))), .ref qb])), (qb, .inl (cs 0, 48, .inl (ai lb)))]) hF.1 (k1 := 1) (k2 := 0) rfl rfl)
  have B : Wb D vwCl (TY cs) L (mw f [(a, .inr (0, [.int (iI s_a7), .int (iI ((n_a7 : Int))), .ref qa])), (qa, .inl (cs 0, 48, .inl (ai l_a7))), (b, .inr (0, [.int (iI sb), .int (iI ((nb : Int))), .ref qb])), (qb, .inl (cs 0, 48, .inl (ai lb)))]) (AL L s.heap.size) s H _ := B
  refine lv_aload_n hx hb d_Big_over_10 rfl (lv_at hl 2 rfl) ?_
  refine lv_iload_n hx hb d_Big_over_11 rfl (lv_at hl 0 rfl) ?_
  refine x_callv B hA (va_runV (As := [.int (iI ((t : Int)))]) (rest := []) ⟨hx, hb, hml, hown, hts⟩ (c_Big_shiftDown l D cs _ _ _ b qb sb nb lb zb t (hF.pick [2, 3] rfl rfl) (mw_get (X := [(a, .inr (0, [.int (iI s_a7), .int (iI ((n_a7 : Int))), .ref qa])), (qa, .inl (cs 0, 48, .inl (ai l_a7))), (b, .inr (0, [.int (iI sb), .int (iI ((nb : Int))), .ref qb])), (qb, .inl (cs 0, 48, .inl (ai lb)))]) hF.1 (k := 2) rfl) (mw_get (X := [(a, .inr (0, [.int (iI s_a7), .int (iI ((n_a7 : Int))), .ref qa])), (qa, .inl (cs 0, 48, .inl (ai l_a7))), (b, .inr (0, [.int (iI sb), .int (iI ((nb : Int))), .ref qb])), (qb, .inl (cs 0, 48, .inl (ai lb)))]) hF.1 (k := 3) rfl) hBb ht48) (cwV 1 hts (gw_V w_329 w_330 w_331 w_3 w_332) rfl rfl rfl (by decide +kernel) ⟨by rw [hRf]; exact Nat.le_of_ble_eq_true rfl, by rw [hRl]; exact Nat.le_of_ble_eq_true rfl⟩) ⟨K0.blind, B.recv (hF.2 _ (mw_key (k := 2) (X := [(a, .inr (0, [.int (iI s_a7), .int (iI ((n_a7 : Int))), .ref qa])), (qa, .inl (cs 0, 48, .inl (ai l_a7))), (b, .inr (0, [.int (iI sb), .int (iI ((nb : Int))), .ref qb])), (qb, .inl (cs 0, 48, .inl (ai lb)))]) rfl)) (mw_get (X := [(a, .inr (0, [.int (iI s_a7), .int (iI ((n_a7 : Int))), .ref qa])), (qa, .inl (cs 0, 48, .inl (ai l_a7))), (b, .inr (0, [.int (iI sb), .int (iI ((nb : Int))), .ref qb])), (qb, .inl (cs 0, 48, .inl (ai lb)))]) hF.1 (k := 2) rfl) rfl, B.pre _⟩ rfl rfl hl.1 rfl (lv_room (Nat.le_of_ble_eq_true rfl)) d_Big_over_12 ⟨by rw [hRc]; omega, by rw [hRs]; omega⟩) (fun g12 H locs hw B => ?_)
  obtain ⟨s_b12, n_b12, l_b12, hB2, rfl⟩ := hw
  have B := B.of_eq (mw_put2 (X := [(a, .inr (0, [.int (iI s_a7), .int (iI ((n_a7 : Int))), .ref qa])), (qa, .inl (cs 0, 48, .inl (ai l_a7))), (b, .inr (0, [.int (iI sb), .int (iI ((nb : Int))), .ref qb])), (qb, .inl (cs 0, 48, .inl (ai lb)))]) hF.1 (k1 := 3) (k2 := 2) rfl rfl)
  have B : Wb D vwCl (TY cs) L (mw f [(a, .inr (0, [.int (iI s_a7), .int (iI ((n_a7 : Int))), .ref qa])), (qa, .inl (cs 0, 48, .inl (ai l_a7))), (b, .inr (0, [.int (iI s_b12), .int (iI ((n_b12 : Int))), .ref qb])), (qb, .inl (cs 0, 48, .inl (ai l_b12)))]) (AL L s.heap.size) s H _ := B
  refine lv_aload_n hx hb d_Big_over_15 rfl (lv_at hl 2 rfl) ?_
  refine x_calll B hA (va_runV (As := []) (rest := []) ⟨hx, hb, hml, hown, hts⟩ (c_Big_lowPair l D cs _ _ _ b qb s_b12 n_b12 l_b12 (zb.tdiv (2 ^ t))  (hF.pick [2, 3] rfl rfl) (mw_get (X := [(a, .inr (0, [.int (iI s_a7), .int (iI ((n_a7 : Int))), .ref qa])), (qa, .inl (cs 0, 48, .inl (ai l_a7))), (b, .inr (0, [.int (iI s_b12), .int (iI ((n_b12 : Int))), .ref qb])), (qb, .inl (cs 0, 48, .inl (ai l_b12)))]) hF.1 (k := 2) rfl) (mw_get (X := [(a, .inr (0, [.int (iI s_a7), .int (iI ((n_a7 : Int))), .ref qa])), (qa, .inl (cs 0, 48, .inl (ai l_a7))), (b, .inr (0, [.int (iI s_b12), .int (iI ((n_b12 : Int))), .ref qb])), (qb, .inl (cs 0, 48, .inl (ai l_b12)))]) hF.1 (k := 3) rfl) hB2 ) (cwV 0 hts (gw_V w_333 w_335 s_8 w_3 w_336) rfl rfl rfl (by decide +kernel) ⟨by rw [hRf]; exact Nat.le_of_ble_eq_true rfl, by rw [hRl]; exact Nat.le_of_ble_eq_true rfl⟩) ⟨K0.blind, B.recv (hF.2 _ (mw_key (k := 2) (X := [(a, .inr (0, [.int (iI s_a7), .int (iI ((n_a7 : Int))), .ref qa])), (qa, .inl (cs 0, 48, .inl (ai l_a7))), (b, .inr (0, [.int (iI s_b12), .int (iI ((n_b12 : Int))), .ref qb])), (qb, .inl (cs 0, 48, .inl (ai l_b12)))]) rfl)) (mw_get (X := [(a, .inr (0, [.int (iI s_a7), .int (iI ((n_a7 : Int))), .ref qa])), (qa, .inl (cs 0, 48, .inl (ai l_a7))), (b, .inr (0, [.int (iI s_b12), .int (iI ((n_b12 : Int))), .ref qb])), (qb, .inl (cs 0, 48, .inl (ai l_b12)))]) hF.1 (k := 2) rfl) rfl, B.pre _⟩ rfl rfl hl.1 rfl (lv_room (Nat.le_of_ble_eq_true rfl)) d_Big_over_16 ⟨by rw [hRc]; omega, by rw [hRs]; omega⟩) (fun r16 g16 H locs hw B => ?_)
  obtain ⟨rfl, rfl⟩ := hw
  have B : Wb D vwCl (TY cs) L (mw f [(a, .inr (0, [.int (iI s_a7), .int (iI ((n_a7 : Int))), .ref qa])), (qa, .inl (cs 0, 48, .inl (ai l_a7))), (b, .inr (0, [.int (iI s_b12), .int (iI ((n_b12 : Int))), .ref qb])), (qb, .inl (cs 0, 48, .inl (ai l_b12)))]) (AL L s.heap.size) s H _ := B
  generalize hod : ((zb.tdiv (2 ^ t)).natAbs : Int) % 4611686018427387904 = od
  have hod1 : od % 2 = 1 := by rw [← hod, hzo, Int.mul_tdiv_cancel_left _ (by have := pow_pos2 t; omega)]; omega
  refine lv_lstore_n (lv' := [(3, .long (lI od)), (2, .int (iI ((t : Int)))), (0, .ref a), (1, .ref b)]) hx hb d_Big_over_19 rfl hl (by decide) rfl (fun ls hl => ?_)
  refine lv_lload_n hx hb d_Big_over_20 rfl (lv_at hl 0 rfl) ?_
  refine lv_lstore (lv' := [(5, .long (lI od)), (3, .long (lI od)), (2, .int (iI ((t : Int)))), (0, .ref a), (1, .ref b)]) hx hb d_Big_over_21 hl (by decide) rfl (fun ls hl => ?_)
  refine x_iconst hx hb d_Big_over_23 ?_
  refine lv_istore (lv' := [(7, .int (iI 0)), (5, .long (lI od)), (3, .long (lI od)), (2, .int (iI ((t : Int)))), (0, .ref a), (1, .ref b)]) hx hb d_Big_over_24 hl (by decide) rfl (fun ls hl => ?_)
  have LP : ∀ (fuel : Nat) (k : Nat) (iv : Int), 5 - k < fuel → (k ≤ 5) → ((2 : Int) ^ (3 * 2 ^ k) ∣ 1 - od * iv) → ∀ (H : Heap) (locs : List Loc) (ls : Array Slot), Wb D vwCl (TY cs) L (mw f [(a, .inr (0, [.int (iI s_a7), .int (iI ((n_a7 : Int))), .ref qa])), (qa, .inl (cs 0, 48, .inl (ai l_a7))), (b, .inr (0, [.int (iI s_b12), .int (iI ((n_b12 : Int))), .ref qb])), (qb, .inl (cs 0, 48, .inl (ai l_b12)))]) (AL L s.heap.size) s H locs → lv_has ls 8 [(7, .int (iI ((k : Int)))), (5, .long (lI iv)), (3, .long (lI od)), (0, .ref a), (1, .ref b)] → W p l e R s m av below meth c H locs (0) (0) Q (F0 m 26 ls []) := by
    intro fuel
    induction fuel with
    | zero => intro k iv hfu; exact absurd hfu (Nat.not_lt_zero _)
    | succ fuel ih_LP =>
      intro k iv hfu_LP hk hI H locs ls B hl
      refine lv_iload hx hb d_Big_over_26 (lv_at hl 0 rfl) ?_
      refine x_iconst hx hb d_Big_over_28 ?_
      refine x_icmp_ge (tgt := 51) hx hb d_Big_over_29 (by decide) (by omega) (by omega) (fun h29 => ?_) (fun h29 => ?_)
      · have hs3 := sgn_mul hB1.side hB2.side
        have hs2 : s_b12 = zb.sign := hB2.2.2.2.2.1.trans (tdiv_sign hzo)
        have hs1 : s_a7 = za.sign := hB1.2.2.2.2.1.trans (tdiv_sign2 (Int.dvd_trans ⟨o, hzo⟩ hdv))
        refine lv_aload_n hx hb d_Big_over_51 rfl (lv_at hl 3 rfl) ?_
        refine x_get (C := RX0) (T := TX0) (N := 3) hx hb hts inX0 hown B hF 0 rfl rfl 0 (by decide) (hts _ w_38) (fun _ h9 => h9) rfl d_Big_over_52 ?_
        refine lv_aload_n hx hb d_Big_over_55 rfl (lv_at hl 4 rfl) ?_
        refine x_get (C := RX0) (T := TX0) (N := 3) hx hb hts inX0 hown B hF 2 rfl rfl 0 (by decide) (hts _ w_38) (fun _ h9 => h9) rfl d_Big_over_56 ?_
        refine x_imul hx hb d_Big_over_59 ?_
        refine x_i2l hx hb d_Big_over_60 (by omega) ?_
        refine lv_aload_n hx hb d_Big_over_61 rfl (lv_at hl 3 rfl) ?_
        refine x_calll B hA (va_runV (As := []) (rest := [.long (lI (s_a7 * s_b12))]) ⟨hx, hb, hml, hown, hts⟩ (c_Big_lowPair l D cs _ _ _ a qa s_a7 n_a7 l_a7 (za.tdiv (2 ^ t))  (hF.pick [0, 1] rfl rfl) (mw_get (X := [(a, .inr (0, [.int (iI s_a7), .int (iI ((n_a7 : Int))), .ref qa])), (qa, .inl (cs 0, 48, .inl (ai l_a7))), (b, .inr (0, [.int (iI s_b12), .int (iI ((n_b12 : Int))), .ref qb])), (qb, .inl (cs 0, 48, .inl (ai l_b12)))]) hF.1 (k := 0) rfl) (mw_get (X := [(a, .inr (0, [.int (iI s_a7), .int (iI ((n_a7 : Int))), .ref qa])), (qa, .inl (cs 0, 48, .inl (ai l_a7))), (b, .inr (0, [.int (iI s_b12), .int (iI ((n_b12 : Int))), .ref qb])), (qb, .inl (cs 0, 48, .inl (ai l_b12)))]) hF.1 (k := 1) rfl) hB1 ) (cwV 0 hts (gw_V w_333 w_335 s_8 w_3 w_336) rfl rfl rfl (by decide +kernel) ⟨by rw [hRf]; exact Nat.le_of_ble_eq_true rfl, by rw [hRl]; exact Nat.le_of_ble_eq_true rfl⟩) ⟨K0.blind, B.recv (hF.2 _ (mw_key (k := 0) (X := [(a, .inr (0, [.int (iI s_a7), .int (iI ((n_a7 : Int))), .ref qa])), (qa, .inl (cs 0, 48, .inl (ai l_a7))), (b, .inr (0, [.int (iI s_b12), .int (iI ((n_b12 : Int))), .ref qb])), (qb, .inl (cs 0, 48, .inl (ai l_b12)))]) rfl)) (mw_get (X := [(a, .inr (0, [.int (iI s_a7), .int (iI ((n_a7 : Int))), .ref qa])), (qa, .inl (cs 0, 48, .inl (ai l_a7))), (b, .inr (0, [.int (iI s_b12), .int (iI ((n_b12 : Int))), .ref qb])), (qb, .inl (cs 0, 48, .inl (ai l_b12)))]) hF.1 (k := 0) rfl) rfl, B.pre _⟩ rfl rfl hl.1 rfl (lv_room (Nat.le_of_ble_eq_true rfl)) d_Big_over_62 ⟨by rw [hRc]; omega, by rw [hRs]; omega⟩) (fun r62 g62 H locs hw B => ?_)
        obtain ⟨rfl, rfl⟩ := hw
        have B : Wb D vwCl (TY cs) L (mw f [(a, .inr (0, [.int (iI s_a7), .int (iI ((n_a7 : Int))), .ref qa])), (qa, .inl (cs 0, 48, .inl (ai l_a7))), (b, .inr (0, [.int (iI s_b12), .int (iI ((n_b12 : Int))), .ref qb])), (qb, .inl (cs 0, 48, .inl (ai l_b12)))]) (AL L s.heap.size) s H _ := B
        refine lv_lload hx hb d_Big_over_65 (lv_at hl 1 rfl) ?_
        refine x_lmul hx hb d_Big_over_67 ?_
        refine x_ldc2 (z := 4611686018427387903) hx hb hown (hts _ w_338) (by decide) d_Big_over_68 ?_
        refine x_land62 hx hb d_Big_over_71 ?_
        refine x_lmul hx hb d_Big_over_72 ?_
        subst hQ hav
        exact x_lret hx hb hr hlocks B d_Big_over_73 (by
      have hk5 : k = 5 := by omega
      subst hk5
      have hiv : (4611686018427387904 : Int) ∣ 1 - od * iv := inv_more (m := 62) hI (by decide)
      rw [← hod] at hiv
      refine ⟨?_, t, ⟨o, hzo, ho⟩, _, _, _, _, _, _, hB1, hB2, rfl⟩
      rw [over_fin hzo ho hdv hiv, hs1, hs2])
      · refine lv_lload hx hb d_Big_over_32 (lv_at hl 1 rfl) ?_
        refine x_ldc2 (z := 2) hx hb hown (hts _ w_337) (by decide) d_Big_over_34 ?_
        refine lv_lload_n hx hb d_Big_over_37 rfl (lv_at hl 2 rfl) ?_
        refine lv_lload hx hb d_Big_over_38 (lv_at hl 1 rfl) ?_
        refine x_lmul hx hb d_Big_over_40 ?_
        refine x_lsub hx hb d_Big_over_41 ?_
        refine x_lmul hx hb d_Big_over_42 ?_
        refine lv_lstore (lv' := [(5, .long (lI (iv * (2 - (od * iv))))), (7, .int (iI ((k : Int)))), (3, .long (lI od)), (0, .ref a), (1, .ref b)]) hx hb d_Big_over_43 hl (by decide) rfl (fun ls hl => ?_)
        refine x_iinc (lv' := [(7, .int (iI (((k : Int)) + 1))), (5, .long (lI (iv * (2 - (od * iv))))), (3, .long (lI od)), (0, .ref a), (1, .ref b)]) hx hb d_Big_over_45 hl (q := 1) rfl rfl (by decide) rfl (fun ls hl => ?_)
        refine lv_goto (tgt := 26) hx hb d_Big_over_48 (by decide) ?_
        exact ih_LP (k + 1) (iv * (2 - (od * iv))) (by omega) (by omega) (by have h9 := inv_step hI; rw [show 2 * (3 * 2 ^ k) = 3 * 2 ^ (k + 1) by rw [Nat.pow_succ]; omega] at h9; exact h9) _ _ _ B (lv_sub hl [0, 1, 2, 3, 4] rfl)
  exact LP _ 0 od (Nat.lt_succ_self _) (by omega) (inv_first hod1) _ _ _ B (lv_sub hl [0, 1, 2, 4, 5] rfl)
