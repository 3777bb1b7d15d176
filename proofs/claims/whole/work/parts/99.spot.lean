theorem d_Spot_signOf_0 : decode prog_7_method_6_code 0 = .ok (.aload_n 0, 1) := by decide +kernel
theorem d_Spot_signOf_1 : decode prog_7_method_6_code 1 = .ok (.getfield 29, 3) := by decide +kernel
theorem d_Spot_signOf_4 : decode prog_7_method_6_code 4 = .ok (.lconst 0, 1) := by decide +kernel
theorem d_Spot_signOf_5 : decode prog_7_method_6_code 5 = .ok (.invokevirtual 45, 3) := by decide +kernel
theorem d_Spot_signOf_8 : decode prog_7_method_6_code 8 = .ok (.aload_n 0, 1) := by decide +kernel
theorem d_Spot_signOf_9 : decode prog_7_method_6_code 9 = .ok (.getfield 32, 3) := by decide +kernel
theorem d_Spot_signOf_12 : decode prog_7_method_6_code 12 = .ok (.lconst 1, 1) := by decide +kernel
theorem d_Spot_signOf_13 : decode prog_7_method_6_code 13 = .ok (.invokevirtual 45, 3) := by decide +kernel
theorem d_Spot_signOf_16 : decode prog_7_method_6_code 16 = .ok (.iload_n 3, 1) := by decide +kernel
theorem d_Spot_signOf_17 : decode prog_7_method_6_code 17 = .ok (.istore 4, 2) := by decide +kernel
theorem d_Spot_signOf_19 : decode prog_7_method_6_code 19 = .ok (.iload 4, 2) := by decide +kernel
theorem d_Spot_signOf_21 : decode prog_7_method_6_code 21 = .ok (.ifCond .lt 126, 3) := by decide +kernel
theorem d_Spot_signOf_24 : decode prog_7_method_6_code 24 = .ok (.iload_n 2, 1) := by decide +kernel
theorem d_Spot_signOf_25 : decode prog_7_method_6_code 25 = .ok (.ifCond .lt 122, 3) := by decide +kernel
theorem d_Spot_signOf_28 : decode prog_7_method_6_code 28 = .ok (.iload_n 2, 1) := by decide +kernel
theorem d_Spot_signOf_29 : decode prog_7_method_6_code 29 = .ok (.iload 4, 2) := by decide +kernel
theorem d_Spot_signOf_31 : decode prog_7_method_6_code 31 = .ok (.iadd, 1) := by decide +kernel
theorem d_Spot_signOf_32 : decode prog_7_method_6_code 32 = .ok (.aload_n 1, 1) := by decide +kernel
theorem d_Spot_signOf_33 : decode prog_7_method_6_code 33 = .ok (.arraylength, 1) := by decide +kernel
theorem d_Spot_signOf_34 : decode prog_7_method_6_code 34 = .ok (.if_icmp .ge 113, 3) := by decide +kernel
theorem d_Spot_signOf_37 : decode prog_7_method_6_code 37 = .ok (.aload_n 0, 1) := by decide +kernel
theorem d_Spot_signOf_38 : decode prog_7_method_6_code 38 = .ok (.getfield 35, 3) := by decide +kernel
theorem d_Spot_signOf_41 : decode prog_7_method_6_code 41 = .ok (.aload_n 0, 1) := by decide +kernel
theorem d_Spot_signOf_42 : decode prog_7_method_6_code 42 = .ok (.getfield 29, 3) := by decide +kernel
theorem d_Spot_signOf_45 : decode prog_7_method_6_code 45 = .ok (.aload_n 0, 1) := by decide +kernel
theorem d_Spot_signOf_46 : decode prog_7_method_6_code 46 = .ok (.getfield 12, 3) := by decide +kernel
theorem d_Spot_signOf_49 : decode prog_7_method_6_code 49 = .ok (.invokevirtual 61, 3) := by decide +kernel
theorem d_Spot_signOf_52 : decode prog_7_method_6_code 52 = .ok (.aload_n 0, 1) := by decide +kernel
theorem d_Spot_signOf_53 : decode prog_7_method_6_code 53 = .ok (.getfield 38, 3) := by decide +kernel
theorem d_Spot_signOf_56 : decode prog_7_method_6_code 56 = .ok (.aload_n 1, 1) := by decide +kernel
theorem d_Spot_signOf_57 : decode prog_7_method_6_code 57 = .ok (.iload_n 2, 1) := by decide +kernel
theorem d_Spot_signOf_58 : decode prog_7_method_6_code 58 = .ok (.iload 4, 2) := by decide +kernel
theorem d_Spot_signOf_60 : decode prog_7_method_6_code 60 = .ok (.iadd, 1) := by decide +kernel
theorem d_Spot_signOf_61 : decode prog_7_method_6_code 61 = .ok (.aaload, 1) := by decide +kernel
theorem d_Spot_signOf_62 : decode prog_7_method_6_code 62 = .ok (.aload_n 0, 1) := by decide +kernel
theorem d_Spot_signOf_63 : decode prog_7_method_6_code 63 = .ok (.getfield 32, 3) := by decide +kernel
theorem d_Spot_signOf_66 : decode prog_7_method_6_code 66 = .ok (.invokevirtual 61, 3) := by decide +kernel
theorem d_Spot_signOf_69 : decode prog_7_method_6_code 69 = .ok (.aload_n 0, 1) := by decide +kernel
theorem d_Spot_signOf_70 : decode prog_7_method_6_code 70 = .ok (.getfield 35, 3) := by decide +kernel
theorem d_Spot_signOf_73 : decode prog_7_method_6_code 73 = .ok (.aload_n 0, 1) := by decide +kernel
theorem d_Spot_signOf_74 : decode prog_7_method_6_code 74 = .ok (.getfield 38, 3) := by decide +kernel
theorem d_Spot_signOf_77 : decode prog_7_method_6_code 77 = .ok (.iconst 1, 1) := by decide +kernel
theorem d_Spot_signOf_78 : decode prog_7_method_6_code 78 = .ok (.invokevirtual 73, 3) := by decide +kernel
theorem d_Spot_signOf_81 : decode prog_7_method_6_code 81 = .ok (.aload_n 0, 1) := by decide +kernel
theorem d_Spot_signOf_82 : decode prog_7_method_6_code 82 = .ok (.getfield 29, 3) := by decide +kernel
theorem d_Spot_signOf_85 : decode prog_7_method_6_code 85 = .ok (.astore 5, 2) := by decide +kernel
theorem d_Spot_signOf_87 : decode prog_7_method_6_code 87 = .ok (.aload_n 0, 1) := by decide +kernel
theorem d_Spot_signOf_88 : decode prog_7_method_6_code 88 = .ok (.aload_n 0, 1) := by decide +kernel
theorem d_Spot_signOf_89 : decode prog_7_method_6_code 89 = .ok (.getfield 35, 3) := by decide +kernel
theorem d_Spot_signOf_92 : decode prog_7_method_6_code 92 = .ok (.putfield 29, 3) := by decide +kernel
theorem d_Spot_signOf_95 : decode prog_7_method_6_code 95 = .ok (.aload_n 0, 1) := by decide +kernel
theorem d_Spot_signOf_96 : decode prog_7_method_6_code 96 = .ok (.aload 5, 2) := by decide +kernel
theorem d_Spot_signOf_98 : decode prog_7_method_6_code 98 = .ok (.putfield 35, 3) := by decide +kernel
theorem d_Spot_signOf_101 : decode prog_7_method_6_code 101 = .ok (.iload 4, 2) := by decide +kernel
theorem d_Spot_signOf_103 : decode prog_7_method_6_code 103 = .ok (.ifCond .le 38, 3) := by decide +kernel
theorem d_Spot_signOf_106 : decode prog_7_method_6_code 106 = .ok (.aload_n 0, 1) := by decide +kernel
theorem d_Spot_signOf_107 : decode prog_7_method_6_code 107 = .ok (.getfield 38, 3) := by decide +kernel
theorem d_Spot_signOf_110 : decode prog_7_method_6_code 110 = .ok (.aload_n 0, 1) := by decide +kernel
theorem d_Spot_signOf_111 : decode prog_7_method_6_code 111 = .ok (.getfield 32, 3) := by decide +kernel
theorem d_Spot_signOf_114 : decode prog_7_method_6_code 114 = .ok (.aload_n 0, 1) := by decide +kernel
theorem d_Spot_signOf_115 : decode prog_7_method_6_code 115 = .ok (.getfield 18, 3) := by decide +kernel
theorem d_Spot_signOf_118 : decode prog_7_method_6_code 118 = .ok (.invokevirtual 61, 3) := by decide +kernel
theorem d_Spot_signOf_121 : decode prog_7_method_6_code 121 = .ok (.aload_n 0, 1) := by decide +kernel
theorem d_Spot_signOf_122 : decode prog_7_method_6_code 122 = .ok (.getfield 32, 3) := by decide +kernel
theorem d_Spot_signOf_125 : decode prog_7_method_6_code 125 = .ok (.astore 5, 2) := by decide +kernel
theorem d_Spot_signOf_127 : decode prog_7_method_6_code 127 = .ok (.aload_n 0, 1) := by decide +kernel
theorem d_Spot_signOf_128 : decode prog_7_method_6_code 128 = .ok (.aload_n 0, 1) := by decide +kernel
theorem d_Spot_signOf_129 : decode prog_7_method_6_code 129 = .ok (.getfield 38, 3) := by decide +kernel
theorem d_Spot_signOf_132 : decode prog_7_method_6_code 132 = .ok (.putfield 32, 3) := by decide +kernel
theorem d_Spot_signOf_135 : decode prog_7_method_6_code 135 = .ok (.aload_n 0, 1) := by decide +kernel
theorem d_Spot_signOf_136 : decode prog_7_method_6_code 136 = .ok (.aload 5, 2) := by decide +kernel
theorem d_Spot_signOf_138 : decode prog_7_method_6_code 138 = .ok (.putfield 38, 3) := by decide +kernel
theorem d_Spot_signOf_141 : decode prog_7_method_6_code 141 = .ok (.iinc 4 (-1), 3) := by decide +kernel
theorem d_Spot_signOf_144 : decode prog_7_method_6_code 144 = .ok (.goto (-125), 3) := by decide +kernel
theorem d_Spot_signOf_147 : decode prog_7_method_6_code 147 = .ok (.aload_n 0, 1) := by decide +kernel
theorem d_Spot_signOf_148 : decode prog_7_method_6_code 148 = .ok (.getfield 29, 3) := by decide +kernel
theorem d_Spot_signOf_151 : decode prog_7_method_6_code 151 = .ok (.getfield 77, 3) := by decide +kernel
theorem d_Spot_signOf_154 : decode prog_7_method_6_code 154 = .ok (.ireturn, 1) := by decide +kernel
set_option maxHeartbeats 8000000 in
set_option maxRecDepth 100000 in
theorem c_Spot_signOf_s (l : Launch) (D : va_G) (cs : Nat → ClassId) (L : List Nat) (f : Nat → va_E) (sz : Nat) (x ta gu gl gs gt gp ga gb base nn : Nat) (tp : Int) (S Wk : Nat → Prop) (Qm : Nat → Nat) (Zf : Nat → Int) (gg : Nat → Option Nat) (tm : Nat → Nat) (hF : Fc L [x, ta]) (ha : f x = .inr (5, [.ref gu, .ref gl, .ref gs, .int (iI tp), .ref gt, .ref gp, .ref ga, .ref gb])) (hta : f ta = .inl (cs 3, 6, .inr (.inr (.inr (.inr gg))))) (hSp : Sp L S Qm) (hB : BH cs f S Qm Zf) (hOk : ∀ k ∈ ([x, ta] : List Nat), Out S Qm k) (hW : ∀ b, Wk b → S b) (hWd : Wk gt ∧ Wk gp ∧ Wk ga ∧ Wk gb) (hne : (gt ≠ gp ∧ gt ≠ ga ∧ gt ≠ gb) ∧ (gp ≠ ga ∧ gp ≠ gb) ∧ ga ≠ gb) (hSu : S gu) (hSl : S gl) (hnu : ¬ Wk gu) (hnl : ¬ Wk gl) (hnn : nn < 6) (hbase : base + nn < 6) (hG : ∀ j, j ≤ nn → gg (base + j) = some (tm (base + j))) (hT : ∀ j, j ≤ nn → S (tm (base + j)) ∧ ¬ Wk (tm (base + j))) (hroom : ∀ i, i ≤ nn → ((hs0 (fun j => Zf (tm (base + j))) nn (Zf gu) (Zf gl) (i) * Zf gu).natAbs : Int) < Bp 47 ∧ (((fun j => Zf (tm (base + j))) (nn - i) * Zf gl ^ i).natAbs : Int) < Bp 47 ∧ ((hs0 (fun j => Zf (tm (base + j))) nn (Zf gu) (Zf gl) (i) * Zf gu).natAbs : Int) + (((fun j => Zf (tm (base + j))) (nn - i) * Zf gl ^ i).natAbs : Int) < Bp 48 ∧ (i < nn → ((Zf gl ^ i * Zf gl).natAbs : Int) < Bp 47)) : Met l (⟨"RealRoots$Spot", "signOf", "([LRealRoots$Big;II)I"⟩ : MethodName) (.code (⟨"RealRoots$Spot", "signOf", "([LRealRoots$Big;II)I"⟩ : MethodName) prog_7_method_6_code 6 (Option.some Jvm.ClassFile.FieldType.int) :: gw) ({ frames := 1, cells := 0, slots := 0, locals := 60 }) (va_Pc [.ref x, .ref ta, .int (iI ((base : Int))), .int (iI ((nn : Int)))] (K0 D vwCl (TY cs) L f sz)) (va_Qi (fun (r : Int32) (g : Nat → va_E) => ∃ (gt' gp' ga' gb' : Nat) (Z' : Nat → Int), r = iI (hsum (fun j => Zf (tm (base + j))) nn (Zf gu) (Zf gl) nn).sign ∧ Z' gt' = hsum (fun j => Zf (tm (base + j))) nn (Zf gu) (Zf gl) nn ∧ (Wk gt' ∧ Wk gp' ∧ Wk ga' ∧ Wk gb') ∧ ((gt' ≠ gp' ∧ gt' ≠ ga' ∧ gt' ≠ gb') ∧ (gp' ≠ ga' ∧ gp' ≠ gb') ∧ ga' ≠ gb') ∧ (∀ b, ¬ Wk b → Z' b = Zf b) ∧ BH cs g S Qm Z' ∧ (∀ k, Out S Qm k → k ∉ ([x, ta] : List Nat) → g k = f k) ∧ g x = .inr (5, [.ref gu, .ref gl, .ref gs, .int (iI tp), .ref (gt'), .ref (gp'), .ref (ga'), .ref (gb')]) ∧ g ta = .inl (cs 3, 6, .inr (.inr (.inr (.inr gg))))) (K1 D vwCl (TY cs) (AL L sz) L) (AL L sz)) 0 0 (AL L sz) := by
  refine Met.ofW (cc := prog_7_method_6_code) (maxL := 6) (ret := (Option.some Jvm.ClassFile.FieldType.int)) (by decide) rfl ?_
  intro p e s m args below meth c s₁ Bd hml hv
  obtain ⟨rfl, hk0⟩ := hv
  obtain ⟨hsz, B⟩ := hk0.start
  subst hsz
  have hx := Bd.exec
  have hb := Bd.bytes
  have hr := Bd.returns
  have hlocks := Bd.notSynchronized
  have hts0 := atoms_spec Bd.pre
  have hown : s.vm.findClass RX5 = some m.cls := findClass_of_methodNamed Bd.named
  have hA : ∀ q, s.heap.size ≤ q → AL L s.heap.size q := fun _ h => Or.inr h
  have hl := lv_entry ([.ref x, .ref ta, .int (iI ((base : Int))), .int (iI ((nn : Int)))]) (n := 6) (Nat.le_of_ble_eq_true rfl)
  rw [lg_entry_eq]
  generalize (lg_sl ([.ref x, .ref ta, .int (iI ((base : Int))), .int (iI ((nn : Int)))]) ++ List.replicate (6 - (lg_sl ([.ref x, .ref ta, .int (iI ((base : Int))), .int (iI ((nn : Int)))])).length) Slot.unset).toArray = ls at hl ⊢
  refine absQ (fun Q R av hQ hR hav => ?_)
  have hts : ∀ w ∈ gw, w.before av s = true := by rw [hav]; exact fun w h => hts0 w (List.mem_cons_of_mem _ h)
  have hRf : R.frames = 1 := by rw [hR]; rfl
  have hRl : R.locals = 60 := by rw [hR]; rfl
  have hRc : R.cells = 0 := by rw [hR]; rfl
  have hRs : R.slots = 0 := by rw [hR]; rfl
  clear hR hts0 Bd
  have hl : lv_has ls 6 [(0, .ref x), (1, .ref ta), (2, .int (iI ((base : Int)))), (3, .int (iI ((nn : Int))))] := hl
  obtain ⟨hwt, hwp, hwa, hwb⟩ := hWd
  have hfx : ∀ q ∈ ([(x, .inr (5, [.ref gu, .ref gl, .ref gs, .int (iI tp), .ref gt, .ref gp, .ref ga, .ref gb])), (ta, .inl (cs 3, 6, .inr (.inr (.inr (.inr gg)))))] : List (Nat × va_E)), f q.1 = q.2 := fun q hq => by
    simp only [List.mem_cons, List.not_mem_nil, or_false] at hq
    rcases hq with rfl | rfl
    · exact ha
    · exact hta
  have hmw : mw f [(x, .inr (5, [.ref gu, .ref gl, .ref gs, .int (iI tp), .ref gt, .ref gp, .ref ga, .ref gb])), (ta, .inl (cs 3, 6, .inr (.inr (.inr (.inr gg)))))] = f := mw_self (fun k a e hk => hfx (a, e) (List.mem_of_getElem? hk))
  have B := B.focus [(x, .inr (5, [.ref gu, .ref gl, .ref gs, .int (iI tp), .ref gt, .ref gp, .ref ga, .ref gb])), (ta, .inl (cs 3, 6, .inr (.inr (.inr (.inr gg)))))] hfx
  refine lv_aload_n hx hb d_Spot_signOf_0 rfl (lv_at hl 0 rfl) ?_
  refine x_get (C := RX5) (T := TX5) (N := 8) hx hb hts inX5 hown B hF 0 rfl rfl 4 (by decide) (hts _ w_92) (fun _ h9 => h9) rfl d_Spot_signOf_1 ?_
  refine x_lconst (z := 0) hx hb d_Spot_signOf_4 (by decide) ?_
  have hx_5 := hB.keep (X := [(x, .inr (5, [.ref gu, .ref gl, .ref gs, .int (iI tp), .ref gt, .ref gp, .ref ga, .ref gb])), (ta, .inl (cs 3, 6, .inr (.inr (.inr (.inr gg)))))]) hOk
  obtain ⟨sd_50, n_50, lm_50, c1_50, c2_50, c3_50⟩ := hx_5 gt (hW _ hwt)
  refine x_callv B hA (va_runV (As := [.long (lI 0)]) (rest := []) ⟨hx, hb, hml, hown, hts⟩ (c_Big_put l D cs _ _ _ gt (Qm gt) sd_50 n_50 lm_50 0 (hSp.fc1 (hW _ hwt)) c1_50 c2_50 (by decide)) (cwV 1 hts (gw_V w_405 w_294 w_295 w_3 w_296) rfl rfl rfl (by decide +kernel) ⟨by rw [hRf]; exact Nat.le_of_ble_eq_true rfl, by rw [hRl]; exact Nat.le_of_ble_eq_true rfl⟩) ⟨K0.blind, B.recv (hSp.1 _ ((hW _ hwt))).1 c1_50 rfl, B.pre _⟩ rfl rfl hl.1 rfl (lv_room (Nat.le_of_ble_eq_true rfl)) d_Spot_signOf_5 ⟨by rw [hRc]; omega, by rw [hRs]; omega⟩) (fun g5 H locs hw B => ?_)
  obtain ⟨s_5, n_5, l_5, hz_5, rfl⟩ := hw
  obtain ⟨f_5, hf_5⟩ : ∃ f_5, f_5 = mw (mw f [(x, .inr (5, [.ref gu, .ref gl, .ref gs, .int (iI tp), .ref gt, .ref gp, .ref ga, .ref gb])), (ta, .inl (cs 3, 6, .inr (.inr (.inr (.inr gg)))))]) [(gt, .inr (0, [.int (iI s_5), .int (iI (n_5 : Int)), .ref (Qm gt)])), (Qm gt, .inl (cs 0, 48, .inl (ai l_5)))] := ⟨_, rfl⟩
  have hB_5 : BH cs f_5 S Qm (up Zf gt (0)) := by rw [hf_5]; exact BH.set hSp (hB.keep (X := [(x, .inr (5, [.ref gu, .ref gl, .ref gs, .int (iI tp), .ref gt, .ref gp, .ref ga, .ref gb])), (ta, .inl (cs 3, 6, .inr (.inr (.inr (.inr gg)))))]) hOk) (hW _ hwt) hz_5
  have hfr_5 : ∀ k, Out S Qm k → k ∉ ([x, ta] : List Nat) → f_5 k = f k := fun k h1 h2 => by rw [hf_5, mw_out (h1.two (hW _ hwt)), mw_out (X := [(x, .inr (5, [.ref gu, .ref gl, .ref gs, .int (iI tp), .ref gt, .ref gp, .ref ga, .ref gb])), (ta, .inl (cs 3, 6, .inr (.inr (.inr (.inr gg)))))]) h2]
  rw [← hf_5] at B
  have B := B.focus [(x, .inr (5, [.ref gu, .ref gl, .ref gs, .int (iI tp), .ref gt, .ref gp, .ref ga, .ref gb])), (ta, .inl (cs 3, 6, .inr (.inr (.inr (.inr gg)))))] (by rw [hf_5]; exact foc hF.1 (fun k hk => (hOk k hk).two (hW _ hwt)))
  have B : Wb D vwCl (TY cs) L (mw f_5 [(x, .inr (5, [.ref gu, .ref gl, .ref gs, .int (iI tp), .ref gt, .ref gp, .ref ga, .ref gb])), (ta, .inl (cs 3, 6, .inr (.inr (.inr (.inr gg)))))]) (AL L s.heap.size) s H _ := B
  refine lv_aload_n hx hb d_Spot_signOf_8 rfl (lv_at hl 0 rfl) ?_
  refine x_get (C := RX5) (T := TX5) (N := 8) hx hb hts inX5 hown B hF 0 rfl rfl 5 (by decide) (hts _ w_94) (fun _ h9 => h9) rfl d_Spot_signOf_9 ?_
  refine x_lconst (z := 1) hx hb d_Spot_signOf_12 (by decide) ?_
  have hx_13 := hB_5.keep (X := [(x, .inr (5, [.ref gu, .ref gl, .ref gs, .int (iI tp), .ref gt, .ref gp, .ref ga, .ref gb])), (ta, .inl (cs 3, 6, .inr (.inr (.inr (.inr gg)))))]) hOk
  obtain ⟨sd_130, n_130, lm_130, c1_130, c2_130, c3_130⟩ := hx_13 gp (hW _ hwp)
  refine x_callv B hA (va_runV (As := [.long (lI 1)]) (rest := []) ⟨hx, hb, hml, hown, hts⟩ (c_Big_put l D cs _ _ _ gp (Qm gp) sd_130 n_130 lm_130 1 (hSp.fc1 (hW _ hwp)) c1_130 c2_130 (by decide)) (cwV 1 hts (gw_V w_405 w_294 w_295 w_3 w_296) rfl rfl rfl (by decide +kernel) ⟨by rw [hRf]; exact Nat.le_of_ble_eq_true rfl, by rw [hRl]; exact Nat.le_of_ble_eq_true rfl⟩) ⟨K0.blind, B.recv (hSp.1 _ ((hW _ hwp))).1 c1_130 rfl, B.pre _⟩ rfl rfl hl.1 rfl (lv_room (Nat.le_of_ble_eq_true rfl)) d_Spot_signOf_13 ⟨by rw [hRc]; omega, by rw [hRs]; omega⟩) (fun g13 H locs hw B => ?_)
  obtain ⟨s_13, n_13, l_13, hz_13, rfl⟩ := hw
  obtain ⟨f_13, hf_13⟩ : ∃ f_13, f_13 = mw (mw f_5 [(x, .inr (5, [.ref gu, .ref gl, .ref gs, .int (iI tp), .ref gt, .ref gp, .ref ga, .ref gb])), (ta, .inl (cs 3, 6, .inr (.inr (.inr (.inr gg)))))]) [(gp, .inr (0, [.int (iI s_13), .int (iI (n_13 : Int)), .ref (Qm gp)])), (Qm gp, .inl (cs 0, 48, .inl (ai l_13)))] := ⟨_, rfl⟩
  have hB_13 : BH cs f_13 S Qm (up ((up Zf gt (0))) gp (1)) := by rw [hf_13]; exact BH.set hSp (hB_5.keep (X := [(x, .inr (5, [.ref gu, .ref gl, .ref gs, .int (iI tp), .ref gt, .ref gp, .ref ga, .ref gb])), (ta, .inl (cs 3, 6, .inr (.inr (.inr (.inr gg)))))]) hOk) (hW _ hwp) hz_13
  have hfr_13 : ∀ k, Out S Qm k → k ∉ ([x, ta] : List Nat) → f_13 k = f_5 k := fun k h1 h2 => by rw [hf_13, mw_out (h1.two (hW _ hwp)), mw_out (X := [(x, .inr (5, [.ref gu, .ref gl, .ref gs, .int (iI tp), .ref gt, .ref gp, .ref ga, .ref gb])), (ta, .inl (cs 3, 6, .inr (.inr (.inr (.inr gg)))))]) h2]
  rw [← hf_13] at B
  have B := B.focus [(x, .inr (5, [.ref gu, .ref gl, .ref gs, .int (iI tp), .ref gt, .ref gp, .ref ga, .ref gb])), (ta, .inl (cs 3, 6, .inr (.inr (.inr (.inr gg)))))] (by rw [hf_13]; exact foc hF.1 (fun k hk => (hOk k hk).two (hW _ hwp)))
  have B : Wb D vwCl (TY cs) L (mw f_13 [(x, .inr (5, [.ref gu, .ref gl, .ref gs, .int (iI tp), .ref gt, .ref gp, .ref ga, .ref gb])), (ta, .inl (cs 3, 6, .inr (.inr (.inr (.inr gg)))))]) (AL L s.heap.size) s H _ := B
  refine lv_iload_n hx hb d_Spot_signOf_16 rfl (lv_at hl 3 rfl) ?_
  refine lv_istore (lv' := [(4, .int (iI ((nn : Int)))), (0, .ref x), (1, .ref ta), (2, .int (iI ((base : Int)))), (3, .int (iI ((nn : Int))))]) hx hb d_Spot_signOf_17 hl (by decide) rfl (fun ls hl => ?_)
  have LP : ∀ (fuel : Nat) (kk : Nat) (f2 : Nat → va_E) (gt : Nat) (gp : Nat) (ga : Nat) (gb : Nat) (Z2 : Nat → Int), kk < fuel → (kk ≤ nn + 1) → (BH cs f2 S Qm Z2) → (Wk gt ∧ Wk gp ∧ Wk ga ∧ Wk gb) → ((gt ≠ gp ∧ gt ≠ ga ∧ gt ≠ gb) ∧ (gp ≠ ga ∧ gp ≠ gb) ∧ ga ≠ gb) → (Z2 gt = hs0 (fun j => Zf (tm (base + j))) nn (Zf gu) (Zf gl) (nn + 1 - kk)) → (0 < kk → Z2 gp = Zf gl ^ (nn + 1 - kk)) → (∀ b, ¬ Wk b → Z2 b = Zf b) → (∀ k, Out S Qm k → k ∉ ([x, ta] : List Nat) → f2 k = f k) → ∀ (H : Heap) (locs : List Loc) (ls : Array Slot), Wb D vwCl (TY cs) L (mw f2 [(x, .inr (5, [.ref gu, .ref gl, .ref gs, .int (iI tp), .ref gt, .ref gp, .ref ga, .ref gb])), (ta, .inl (cs 3, 6, .inr (.inr (.inr (.inr gg)))))]) (AL L s.heap.size) s H locs → lv_has ls 6 [(4, .int (iI ((kk : Int) - 1))), (0, .ref x), (1, .ref ta), (2, .int (iI ((base : Int)))), (3, .int (iI ((nn : Int))))] → W p l e R s m av below meth c H locs (0) (0) Q (F0 m 19 ls []) := by
    intro fuel
    induction fuel with
    | zero => intro kk f2 gt gp ga gb Z2 hfu; exact absurd hfu (Nat.not_lt_zero _)
    | succ fuel ih_LP =>
      intro kk f2 gt gp ga gb Z2 hfu_LP hkk hB2 hWd hne hZt hZp hZo hfr2 H locs ls B hl
      obtain ⟨hwt, hwp, hwa, hwb⟩ := hWd
      have hWd : Wk gt ∧ Wk gp ∧ Wk ga ∧ Wk gb := ⟨hwt, hwp, hwa, hwb⟩
      refine lv_iload hx hb d_Spot_signOf_19 (lv_at hl 0 rfl) ?_
      refine x_if_lt (tgt := 147) hx hb d_Spot_signOf_21 (by decide) (by omega) (fun h21 => ?_) (fun h21 => ?_)
      · have hSt0 := hW gt hwt
        obtain ⟨sd9, n9, lm9, d1, d2, d3⟩ := (hB2.keep (X := [(x, .inr (5, [.ref gu, .ref gl, .ref gs, .int (iI tp), .ref gt, .ref gp, .ref ga, .ref gb])), (ta, .inl (cs 3, 6, .inr (.inr (.inr (.inr gg)))))]) hOk) gt hSt0
        refine lv_aload_n hx hb d_Spot_signOf_147 rfl (lv_at hl 1 rfl) ?_
        refine x_get (C := RX5) (T := TX5) (N := 8) hx hb hts inX5 hown B hF 0 rfl rfl 4 (by decide) (hts _ w_92) (fun _ h9 => h9) rfl d_Spot_signOf_148 ?_
        have hF9 : Fc L [gt, x, ta] := ⟨List.nodup_cons.mpr ⟨fun hm => (hOk gt hm).1 hSt0, hF.1⟩, fun q hq => by rcases List.mem_cons.mp hq with rfl | hq; exact (hSp.1 _ hSt0).1; exact hF.2 q hq⟩
        have B := (B.focus [(gt, .inr (0, [.int (iI sd9), .int (iI (n9 : Int)), .ref (Qm gt)]))] (fun p hp => by rw [List.mem_singleton.mp hp]; exact d1)).of_eq (mw_app _ _ _)
        have d0 : f2 gt = .inr (0, [.int (iI sd9), .int (iI (n9 : Int)), .ref (Qm gt)]) := (mw_out (f := f2) (X := [(x, .inr (5, [.ref gu, .ref gl, .ref gs, .int (iI tp), .ref gt, .ref gp, .ref ga, .ref gb])), (ta, .inl (cs 3, 6, .inr (.inr (.inr (.inr gg)))))]) (fun hm => (hOk gt hm).1 hSt0)).symm.trans d1
        have hdr : mw f2 [(gt, .inr (0, [.int (iI sd9), .int (iI ((n9 : Int))), .ref ((Qm gt))])), (x, .inr (5, [.ref gu, .ref gl, .ref gs, .int (iI tp), .ref gt, .ref gp, .ref ga, .ref gb])), (ta, .inl (cs 3, 6, .inr (.inr (.inr (.inr gg)))))] = mw f2 [(x, .inr (5, [.ref gu, .ref gl, .ref gs, .int (iI tp), .ref gt, .ref gp, .ref ga, .ref gb])), (ta, .inl (cs 3, 6, .inr (.inr (.inr (.inr gg)))))] := mw_drop (f := f2) (X := [(x, .inr (5, [.ref gu, .ref gl, .ref gs, .int (iI tp), .ref gt, .ref gp, .ref ga, .ref gb])), (ta, .inl (cs 3, 6, .inr (.inr (.inr (.inr gg)))))]) d0 (fun hm => (hOk gt hm).1 hSt0)
        have hF := hF9
        have B : Wb D vwCl (TY cs) L (mw f2 [(gt, .inr (0, [.int (iI sd9), .int (iI ((n9 : Int))), .ref ((Qm gt))])), (x, .inr (5, [.ref gu, .ref gl, .ref gs, .int (iI tp), .ref gt, .ref gp, .ref ga, .ref gb])), (ta, .inl (cs 3, 6, .inr (.inr (.inr (.inr gg)))))]) (AL L s.heap.size) s H _ := B
        refine x_get (C := RX0) (T := TX0) (N := 3) hx hb hts inX0 hown B hF 0 rfl rfl 0 (by decide) (hts _ w_41) (fun _ h9 => h9) rfl d_Spot_signOf_151 ?_
        subst hQ hav
        exact x_iret hx hb hr hlocks B d_Spot_signOf_154 (⟨gt, gp, ga, gb, Z2, by rw [d3.2.2.2.2.1, hZt, show nn + 1 - kk = nn + 1 by omega]; rfl, by rw [hZt, show nn + 1 - kk = nn + 1 by omega]; rfl, hWd, hne, hZo, by rw [hdr]; exact hB2.keep (X := [(x, .inr (5, [.ref gu, .ref gl, .ref gs, .int (iI tp), .ref gt, .ref gp, .ref ga, .ref gb])), (ta, .inl (cs 3, 6, .inr (.inr (.inr (.inr gg)))))]) hOk, fun k h1 h2 => by rw [hdr, mw_out (X := [(x, .inr (5, [.ref gu, .ref gl, .ref gs, .int (iI tp), .ref gt, .ref gp, .ref ga, .ref gb])), (ta, .inl (cs 3, 6, .inr (.inr (.inr (.inr gg)))))]) h2]; exact hfr2 k h1 h2, mw_get (X := [(gt, .inr (0, [.int (iI sd9), .int (iI ((n9 : Int))), .ref ((Qm gt))])), (x, .inr (5, [.ref gu, .ref gl, .ref gs, .int (iI tp), .ref gt, .ref gp, .ref ga, .ref gb])), (ta, .inl (cs 3, 6, .inr (.inr (.inr (.inr gg)))))]) hF.1 (k := 1) rfl, mw_get (X := [(gt, .inr (0, [.int (iI sd9), .int (iI ((n9 : Int))), .ref ((Qm gt))])), (x, .inr (5, [.ref gu, .ref gl, .ref gs, .int (iI tp), .ref gt, .ref gp, .ref ga, .ref gb])), (ta, .inl (cs 3, 6, .inr (.inr (.inr (.inr gg)))))]) hF.1 (k := 2) rfl⟩)
      · refine lv_iload_n hx hb d_Spot_signOf_24 rfl (lv_at hl 3 rfl) ?_
        refine x_if_lt (tgt := 147) hx hb d_Spot_signOf_25 (by decide) (by omega) (fun h25 => ?_) (fun h25 => ?_)
        · have hSt0 := hW gt hwt
          obtain ⟨sd9, n9, lm9, d1, d2, d3⟩ := (hB2.keep (X := [(x, .inr (5, [.ref gu, .ref gl, .ref gs, .int (iI tp), .ref gt, .ref gp, .ref ga, .ref gb])), (ta, .inl (cs 3, 6, .inr (.inr (.inr (.inr gg)))))]) hOk) gt hSt0
          refine lv_aload_n hx hb d_Spot_signOf_147 rfl (lv_at hl 1 rfl) ?_
          refine x_get (C := RX5) (T := TX5) (N := 8) hx hb hts inX5 hown B hF 0 rfl rfl 4 (by decide) (hts _ w_92) (fun _ h9 => h9) rfl d_Spot_signOf_148 ?_
          have hF9 : Fc L [gt, x, ta] := ⟨List.nodup_cons.mpr ⟨fun hm => (hOk gt hm).1 hSt0, hF.1⟩, fun q hq => by rcases List.mem_cons.mp hq with rfl | hq; exact (hSp.1 _ hSt0).1; exact hF.2 q hq⟩
          have B := (B.focus [(gt, .inr (0, [.int (iI sd9), .int (iI (n9 : Int)), .ref (Qm gt)]))] (fun p hp => by rw [List.mem_singleton.mp hp]; exact d1)).of_eq (mw_app _ _ _)
          have d0 : f2 gt = .inr (0, [.int (iI sd9), .int (iI (n9 : Int)), .ref (Qm gt)]) := (mw_out (f := f2) (X := [(x, .inr (5, [.ref gu, .ref gl, .ref gs, .int (iI tp), .ref gt, .ref gp, .ref ga, .ref gb])), (ta, .inl (cs 3, 6, .inr (.inr (.inr (.inr gg)))))]) (fun hm => (hOk gt hm).1 hSt0)).symm.trans d1
          have hdr : mw f2 [(gt, .inr (0, [.int (iI sd9), .int (iI ((n9 : Int))), .ref ((Qm gt))])), (x, .inr (5, [.ref gu, .ref gl, .ref gs, .int (iI tp), .ref gt, .ref gp, .ref ga, .ref gb])), (ta, .inl (cs 3, 6, .inr (.inr (.inr (.inr gg)))))] = mw f2 [(x, .inr (5, [.ref gu, .ref gl, .ref gs, .int (iI tp), .ref gt, .ref gp, .ref ga, .ref gb])), (ta, .inl (cs 3, 6, .inr (.inr (.inr (.inr gg)))))] := mw_drop (f := f2) (X := [(x, .inr (5, [.ref gu, .ref gl, .ref gs, .int (iI tp), .ref gt, .ref gp, .ref ga, .ref gb])), (ta, .inl (cs 3, 6, .inr (.inr (.inr (.inr gg)))))]) d0 (fun hm => (hOk gt hm).1 hSt0)
          have hF := hF9
          have B : Wb D vwCl (TY cs) L (mw f2 [(gt, .inr (0, [.int (iI sd9), .int (iI ((n9 : Int))), .ref ((Qm gt))])), (x, .inr (5, [.ref gu, .ref gl, .ref gs, .int (iI tp), .ref gt, .ref gp, .ref ga, .ref gb])), (ta, .inl (cs 3, 6, .inr (.inr (.inr (.inr gg)))))]) (AL L s.heap.size) s H _ := B
          refine x_get (C := RX0) (T := TX0) (N := 3) hx hb hts inX0 hown B hF 0 rfl rfl 0 (by decide) (hts _ w_41) (fun _ h9 => h9) rfl d_Spot_signOf_151 ?_
          subst hQ hav
          exact x_iret hx hb hr hlocks B d_Spot_signOf_154 (⟨gt, gp, ga, gb, Z2, by rw [d3.2.2.2.2.1, hZt, show nn + 1 - kk = nn + 1 by omega]; rfl, by rw [hZt, show nn + 1 - kk = nn + 1 by omega]; rfl, hWd, hne, hZo, by rw [hdr]; exact hB2.keep (X := [(x, .inr (5, [.ref gu, .ref gl, .ref gs, .int (iI tp), .ref gt, .ref gp, .ref ga, .ref gb])), (ta, .inl (cs 3, 6, .inr (.inr (.inr (.inr gg)))))]) hOk, fun k h1 h2 => by rw [hdr, mw_out (X := [(x, .inr (5, [.ref gu, .ref gl, .ref gs, .int (iI tp), .ref gt, .ref gp, .ref ga, .ref gb])), (ta, .inl (cs 3, 6, .inr (.inr (.inr (.inr gg)))))]) h2]; exact hfr2 k h1 h2, mw_get (X := [(gt, .inr (0, [.int (iI sd9), .int (iI ((n9 : Int))), .ref ((Qm gt))])), (x, .inr (5, [.ref gu, .ref gl, .ref gs, .int (iI tp), .ref gt, .ref gp, .ref ga, .ref gb])), (ta, .inl (cs 3, 6, .inr (.inr (.inr (.inr gg)))))]) hF.1 (k := 1) rfl, mw_get (X := [(gt, .inr (0, [.int (iI sd9), .int (iI ((n9 : Int))), .ref ((Qm gt))])), (x, .inr (5, [.ref gu, .ref gl, .ref gs, .int (iI tp), .ref gt, .ref gp, .ref ga, .ref gb])), (ta, .inl (cs 3, 6, .inr (.inr (.inr (.inr gg)))))]) hF.1 (k := 2) rfl⟩)
        · refine lv_iload_n hx hb d_Spot_signOf_28 rfl (lv_at hl 3 rfl) ?_
          refine lv_iload hx hb d_Spot_signOf_29 (lv_at hl 0 rfl) ?_
          refine x_iadd hx hb d_Spot_signOf_31 ?_
          refine lv_aload_n hx hb d_Spot_signOf_32 rfl (lv_at hl 2 rfl) ?_
          refine x_alen hx hb B hF 1 3 rfl rfl d_Spot_signOf_33 ?_
          refine x_icmp_ge (tgt := 147) hx hb d_Spot_signOf_34 (by decide) (by omega) (by omega) (fun h34 => ?_) (fun h34 => ?_)
          · have hSt0 := hW gt hwt
            obtain ⟨sd9, n9, lm9, d1, d2, d3⟩ := (hB2.keep (X := [(x, .inr (5, [.ref gu, .ref gl, .ref gs, .int (iI tp), .ref gt, .ref gp, .ref ga, .ref gb])), (ta, .inl (cs 3, 6, .inr (.inr (.inr (.inr gg)))))]) hOk) gt hSt0
            refine lv_aload_n hx hb d_Spot_signOf_147 rfl (lv_at hl 1 rfl) ?_
            refine x_get (C := RX5) (T := TX5) (N := 8) hx hb hts inX5 hown B hF 0 rfl rfl 4 (by decide) (hts _ w_92) (fun _ h9 => h9) rfl d_Spot_signOf_148 ?_
            have hF9 : Fc L [gt, x, ta] := ⟨List.nodup_cons.mpr ⟨fun hm => (hOk gt hm).1 hSt0, hF.1⟩, fun q hq => by rcases List.mem_cons.mp hq with rfl | hq; exact (hSp.1 _ hSt0).1; exact hF.2 q hq⟩
            have B := (B.focus [(gt, .inr (0, [.int (iI sd9), .int (iI (n9 : Int)), .ref (Qm gt)]))] (fun p hp => by rw [List.mem_singleton.mp hp]; exact d1)).of_eq (mw_app _ _ _)
            have d0 : f2 gt = .inr (0, [.int (iI sd9), .int (iI (n9 : Int)), .ref (Qm gt)]) := (mw_out (f := f2) (X := [(x, .inr (5, [.ref gu, .ref gl, .ref gs, .int (iI tp), .ref gt, .ref gp, .ref ga, .ref gb])), (ta, .inl (cs 3, 6, .inr (.inr (.inr (.inr gg)))))]) (fun hm => (hOk gt hm).1 hSt0)).symm.trans d1
            have hdr : mw f2 [(gt, .inr (0, [.int (iI sd9), .int (iI ((n9 : Int))), .ref ((Qm gt))])), (x, .inr (5, [.ref gu, .ref gl, .ref gs, .int (iI tp), .ref gt, .ref gp, .ref ga, .ref gb])), (ta, .inl (cs 3, 6, .inr (.inr (.inr (.inr gg)))))] = mw f2 [(x, .inr (5, [.ref gu, .ref gl, .ref gs, .int (iI tp), .ref gt, .ref gp, .ref ga, .ref gb])), (ta, .inl (cs 3, 6, .inr (.inr (.inr (.inr gg)))))] := mw_drop (f := f2) (X := [(x, .inr (5, [.ref gu, .ref gl, .ref gs, .int (iI tp), .ref gt, .ref gp, .ref ga, .ref gb])), (ta, .inl (cs 3, 6, .inr (.inr (.inr (.inr gg)))))]) d0 (fun hm => (hOk gt hm).1 hSt0)
            have hF := hF9
            have B : Wb D vwCl (TY cs) L (mw f2 [(gt, .inr (0, [.int (iI sd9), .int (iI ((n9 : Int))), .ref ((Qm gt))])), (x, .inr (5, [.ref gu, .ref gl, .ref gs, .int (iI tp), .ref gt, .ref gp, .ref ga, .ref gb])), (ta, .inl (cs 3, 6, .inr (.inr (.inr (.inr gg)))))]) (AL L s.heap.size) s H _ := B
            refine x_get (C := RX0) (T := TX0) (N := 3) hx hb hts inX0 hown B hF 0 rfl rfl 0 (by decide) (hts _ w_41) (fun _ h9 => h9) rfl d_Spot_signOf_151 ?_
            subst hQ hav
            exact x_iret hx hb hr hlocks B d_Spot_signOf_154 (⟨gt, gp, ga, gb, Z2, by rw [d3.2.2.2.2.1, hZt, show nn + 1 - kk = nn + 1 by omega]; rfl, by rw [hZt, show nn + 1 - kk = nn + 1 by omega]; rfl, hWd, hne, hZo, by rw [hdr]; exact hB2.keep (X := [(x, .inr (5, [.ref gu, .ref gl, .ref gs, .int (iI tp), .ref gt, .ref gp, .ref ga, .ref gb])), (ta, .inl (cs 3, 6, .inr (.inr (.inr (.inr gg)))))]) hOk, fun k h1 h2 => by rw [hdr, mw_out (X := [(x, .inr (5, [.ref gu, .ref gl, .ref gs, .int (iI tp), .ref gt, .ref gp, .ref ga, .ref gb])), (ta, .inl (cs 3, 6, .inr (.inr (.inr (.inr gg)))))]) h2]; exact hfr2 k h1 h2, mw_get (X := [(gt, .inr (0, [.int (iI sd9), .int (iI ((n9 : Int))), .ref ((Qm gt))])), (x, .inr (5, [.ref gu, .ref gl, .ref gs, .int (iI tp), .ref gt, .ref gp, .ref ga, .ref gb])), (ta, .inl (cs 3, 6, .inr (.inr (.inr (.inr gg)))))]) hF.1 (k := 1) rfl, mw_get (X := [(gt, .inr (0, [.int (iI sd9), .int (iI ((n9 : Int))), .ref ((Qm gt))])), (x, .inr (5, [.ref gu, .ref gl, .ref gs, .int (iI tp), .ref gt, .ref gp, .ref ga, .ref gb])), (ta, .inl (cs 3, 6, .inr (.inr (.inr (.inr gg)))))]) hF.1 (k := 2) rfl⟩)
          · obtain ⟨⟨e1, e2, e3⟩, ⟨e4, e5⟩, e6⟩ := hne
            have hne : (gt ≠ gp ∧ gt ≠ ga ∧ gt ≠ gb) ∧ (gp ≠ ga ∧ gp ≠ gb) ∧ ga ≠ gb := ⟨⟨e1, e2, e3⟩, ⟨e4, e5⟩, e6⟩
            obtain ⟨tt, htt⟩ : ∃ tt, tt = tm (base + (kk - 1)) := ⟨_, rfl⟩
            have hSt : S tt := by rw [htt]; exact (hT _ (by omega)).1
            have hnt : ¬ Wk tt := by rw [htt]; exact (hT _ (by omega)).2
            have hgg : gg (base + (kk - 1)) = some tt := by rw [htt]; exact hG _ (by omega)
            have n_ttgt : tt ≠ gt := ne_of_not hnt hwt
            have n_ttgp : tt ≠ gp := ne_of_not hnt hwp
            have n_ttga : tt ≠ ga := ne_of_not hnt hwa
            have n_ttgb : tt ≠ gb := ne_of_not hnt hwb
            have n_gugt : gu ≠ gt := ne_of_not hnu hwt
            have n_gugp : gu ≠ gp := ne_of_not hnu hwp
            have n_guga : gu ≠ ga := ne_of_not hnu hwa
            have n_gugb : gu ≠ gb := ne_of_not hnu hwb
            have n_glgt : gl ≠ gt := ne_of_not hnl hwt
            have n_glgp : gl ≠ gp := ne_of_not hnl hwp
            have n_glga : gl ≠ ga := ne_of_not hnl hwa
            have n_glgb : gl ≠ gb := ne_of_not hnl hwb
            have hZtt : Z2 tt = (fun j => Zf (tm (base + j))) (nn - (nn + 1 - kk)) := by rw [hZo _ hnt, htt, show nn - (nn + 1 - kk) = kk - 1 by omega]
            have hZu : Z2 gu = Zf gu := hZo _ hnu
            have hZl : Z2 gl = Zf gl := hZo _ hnl
            have hZp := hZp (by omega)
            obtain ⟨r1, r2, r3, r4⟩ := hroom (nn + 1 - kk) (by omega)
            have hnx := hs0_next (fun j => Zf (tm (base + j))) nn (Zf gu) (Zf gl) (nn + 1 - kk) (by omega)
            refine lv_aload_n hx hb d_Spot_signOf_37 rfl (lv_at hl 1 rfl) ?_
            refine x_get (C := RX5) (T := TX5) (N := 8) hx hb hts inX5 hown B hF 0 rfl rfl 6 (by decide) (hts _ w_95) (fun _ h9 => h9) rfl d_Spot_signOf_38 ?_
            refine lv_aload_n hx hb d_Spot_signOf_41 rfl (lv_at hl 1 rfl) ?_
            refine x_get (C := RX5) (T := TX5) (N := 8) hx hb hts inX5 hown B hF 0 rfl rfl 4 (by decide) (hts _ w_92) (fun _ h9 => h9) rfl d_Spot_signOf_42 ?_
            refine lv_aload_n hx hb d_Spot_signOf_45 rfl (lv_at hl 1 rfl) ?_
            refine x_get (C := RX5) (T := TX5) (N := 8) hx hb hts inX5 hown B hF 0 rfl rfl 0 (by decide) (hts _ w_84) (fun _ h9 => h9) rfl d_Spot_signOf_46 ?_
            have hx_49 := hB2.keep (X := [(x, .inr (5, [.ref gu, .ref gl, .ref gs, .int (iI tp), .ref gt, .ref gp, .ref ga, .ref gb])), (ta, .inl (cs 3, 6, .inr (.inr (.inr (.inr gg)))))]) hOk
            obtain ⟨sd_490, n_490, lm_490, c1_490, c2_490, c3_490⟩ := hx_49 ga (hW _ hwa)
            obtain ⟨sd_491, n_491, lm_491, c1_491, c2_491, c3_491⟩ := hx_49 gt (hW _ hwt)
            obtain ⟨sd_492, n_492, lm_492, c1_492, c2_492, c3_492⟩ := hx_49 gu hSu
            refine x_callv B hA (va_runV (As := [.ref gt, .ref gu]) (rest := []) ⟨hx, hb, hml, hown, hts⟩ (c_Big_product l D cs _ _ _ ga (Qm ga) sd_490 n_490 lm_490 gt (Qm gt) sd_491 n_491 lm_491 (Z2 gt) gu (Qm gu) sd_492 n_492 lm_492 (Z2 gu)  (hSp.fc3 (hW _ hwa) (hW _ hwt) hSu (Ne.symm e2) (Ne.symm n_guga) (Ne.symm n_gugt)) c1_490 c2_490 c1_491 c2_491 c3_491 c1_492 c2_492 c3_492 (by rw [hZt, hZu]; exact r1)) (cwV 2 hts (gw_V w_414 w_307 w_308 w_3 w_309) rfl rfl rfl (by decide +kernel) ⟨by rw [hRf]; exact Nat.le_of_ble_eq_true rfl, by rw [hRl]; exact Nat.le_of_ble_eq_true rfl⟩) ⟨K0.blind, B.recv (hSp.1 _ ((hW _ hwa))).1 c1_490 rfl, B.pre _⟩ rfl rfl hl.1 rfl (lv_room (Nat.le_of_ble_eq_true rfl)) d_Spot_signOf_49 ⟨by rw [hRc]; omega, by rw [hRs]; omega⟩) (fun g49 H locs hw B => ?_)
            obtain ⟨s_49, n_49, l_49, hz_49, rfl⟩ := hw
            obtain ⟨f_49, hf_49⟩ : ∃ f_49, f_49 = mw (mw f2 [(x, .inr (5, [.ref gu, .ref gl, .ref gs, .int (iI tp), .ref gt, .ref gp, .ref ga, .ref gb])), (ta, .inl (cs 3, 6, .inr (.inr (.inr (.inr gg)))))]) [(ga, .inr (0, [.int (iI s_49), .int (iI (n_49 : Int)), .ref (Qm ga)])), (Qm ga, .inl (cs 0, 48, .inl (ai l_49)))] := ⟨_, rfl⟩
            have hB_49 : BH cs f_49 S Qm (up Z2 ga (Z2 gt * Z2 gu)) := by rw [hf_49]; exact BH.set hSp (hB2.keep (X := [(x, .inr (5, [.ref gu, .ref gl, .ref gs, .int (iI tp), .ref gt, .ref gp, .ref ga, .ref gb])), (ta, .inl (cs 3, 6, .inr (.inr (.inr (.inr gg)))))]) hOk) (hW _ hwa) hz_49
            have hfr_49 : ∀ k, Out S Qm k → k ∉ ([x, ta] : List Nat) → f_49 k = f2 k := fun k h1 h2 => by rw [hf_49, mw_out (h1.two (hW _ hwa)), mw_out (X := [(x, .inr (5, [.ref gu, .ref gl, .ref gs, .int (iI tp), .ref gt, .ref gp, .ref ga, .ref gb])), (ta, .inl (cs 3, 6, .inr (.inr (.inr (.inr gg)))))]) h2]
            rw [← hf_49] at B
            have B := B.focus [(x, .inr (5, [.ref gu, .ref gl, .ref gs, .int (iI tp), .ref gt, .ref gp, .ref ga, .ref gb])), (ta, .inl (cs 3, 6, .inr (.inr (.inr (.inr gg)))))] (by rw [hf_49]; exact foc hF.1 (fun k hk => (hOk k hk).two (hW _ hwa)))
            have B : Wb D vwCl (TY cs) L (mw f_49 [(x, .inr (5, [.ref gu, .ref gl, .ref gs, .int (iI tp), .ref gt, .ref gp, .ref ga, .ref gb])), (ta, .inl (cs 3, 6, .inr (.inr (.inr (.inr gg)))))]) (AL L s.heap.size) s H _ := B
            refine lv_aload_n hx hb d_Spot_signOf_52 rfl (lv_at hl 1 rfl) ?_
            refine x_get (C := RX5) (T := TX5) (N := 8) hx hb hts inX5 hown B hF 0 rfl rfl 7 (by decide) (hts _ w_96) (fun _ h9 => h9) rfl d_Spot_signOf_53 ?_
            refine lv_aload_n hx hb d_Spot_signOf_56 rfl (lv_at hl 2 rfl) ?_
            refine lv_iload_n hx hb d_Spot_signOf_57 rfl (lv_at hl 3 rfl) ?_
            refine lv_iload hx hb d_Spot_signOf_58 (lv_at hl 0 rfl) ?_
            refine x_iadd hx hb d_Spot_signOf_60 ?_
            refine x_aald hx hb B hF 1 3 rfl rfl (base + (kk - 1)) (by omega) (by omega) (by decide) (hgg) d_Spot_signOf_61 ?_
            refine lv_aload_n hx hb d_Spot_signOf_62 rfl (lv_at hl 1 rfl) ?_
            refine x_get (C := RX5) (T := TX5) (N := 8) hx hb hts inX5 hown B hF 0 rfl rfl 5 (by decide) (hts _ w_94) (fun _ h9 => h9) rfl d_Spot_signOf_63 ?_
            have hx_66 := hB_49.keep (X := [(x, .inr (5, [.ref gu, .ref gl, .ref gs, .int (iI tp), .ref gt, .ref gp, .ref ga, .ref gb])), (ta, .inl (cs 3, 6, .inr (.inr (.inr (.inr gg)))))]) hOk
            obtain ⟨sd_660, n_660, lm_660, c1_660, c2_660, c3_660⟩ := hx_66 gb (hW _ hwb)
            obtain ⟨sd_661, n_661, lm_661, c1_661, c2_661, c3_661⟩ := hx_66 tt hSt
            obtain ⟨sd_662, n_662, lm_662, c1_662, c2_662, c3_662⟩ := hx_66 gp (hW _ hwp)
            refine x_callv B hA (va_runV (As := [.ref tt, .ref gp]) (rest := []) ⟨hx, hb, hml, hown, hts⟩ (c_Big_product l D cs _ _ _ gb (Qm gb) sd_660 n_660 lm_660 tt (Qm tt) sd_661 n_661 lm_661 ((up Z2 ga (Z2 gt * Z2 gu)) tt) gp (Qm gp) sd_662 n_662 lm_662 ((up Z2 ga (Z2 gt * Z2 gu)) gp)  (hSp.fc3 (hW _ hwb) hSt (hW _ hwp) (Ne.symm n_ttgb) (Ne.symm e5) n_ttgp) c1_660 c2_660 c1_661 c2_661 c3_661 c1_662 c2_662 c3_662 (by rw [up_ne _ _ n_ttga, up_ne _ _ e4, hZtt, hZp]; exact r2)) (cwV 2 hts (gw_V w_414 w_307 w_308 w_3 w_309) rfl rfl rfl (by decide +kernel) ⟨by rw [hRf]; exact Nat.le_of_ble_eq_true rfl, by rw [hRl]; exact Nat.le_of_ble_eq_true rfl⟩) ⟨K0.blind, B.recv (hSp.1 _ ((hW _ hwb))).1 c1_660 rfl, B.pre _⟩ rfl rfl hl.1 rfl (lv_room (Nat.le_of_ble_eq_true rfl)) d_Spot_signOf_66 ⟨by rw [hRc]; omega, by rw [hRs]; omega⟩) (fun g66 H locs hw B => ?_)
            obtain ⟨s_66, n_66, l_66, hz_66, rfl⟩ := hw
            obtain ⟨f_66, hf_66⟩ : ∃ f_66, f_66 = mw (mw f_49 [(x, .inr (5, [.ref gu, .ref gl, .ref gs, .int (iI tp), .ref gt, .ref gp, .ref ga, .ref gb])), (ta, .inl (cs 3, 6, .inr (.inr (.inr (.inr gg)))))]) [(gb, .inr (0, [.int (iI s_66), .int (iI (n_66 : Int)), .ref (Qm gb)])), (Qm gb, .inl (cs 0, 48, .inl (ai l_66)))] := ⟨_, rfl⟩
            have hB_66 : BH cs f_66 S Qm (up ((up Z2 ga (Z2 gt * Z2 gu))) gb ((up Z2 ga (Z2 gt * Z2 gu)) tt * (up Z2 ga (Z2 gt * Z2 gu)) gp)) := by rw [hf_66]; exact BH.set hSp (hB_49.keep (X := [(x, .inr (5, [.ref gu, .ref gl, .ref gs, .int (iI tp), .ref gt, .ref gp, .ref ga, .ref gb])), (ta, .inl (cs 3, 6, .inr (.inr (.inr (.inr gg)))))]) hOk) (hW _ hwb) hz_66
            have hfr_66 : ∀ k, Out S Qm k → k ∉ ([x, ta] : List Nat) → f_66 k = f_49 k := fun k h1 h2 => by rw [hf_66, mw_out (h1.two (hW _ hwb)), mw_out (X := [(x, .inr (5, [.ref gu, .ref gl, .ref gs, .int (iI tp), .ref gt, .ref gp, .ref ga, .ref gb])), (ta, .inl (cs 3, 6, .inr (.inr (.inr (.inr gg)))))]) h2]
            rw [← hf_66] at B
            have B := B.focus [(x, .inr (5, [.ref gu, .ref gl, .ref gs, .int (iI tp), .ref gt, .ref gp, .ref ga, .ref gb])), (ta, .inl (cs 3, 6, .inr (.inr (.inr (.inr gg)))))] (by rw [hf_66]; exact foc hF.1 (fun k hk => (hOk k hk).two (hW _ hwb)))
            have B : Wb D vwCl (TY cs) L (mw f_66 [(x, .inr (5, [.ref gu, .ref gl, .ref gs, .int (iI tp), .ref gt, .ref gp, .ref ga, .ref gb])), (ta, .inl (cs 3, 6, .inr (.inr (.inr (.inr gg)))))]) (AL L s.heap.size) s H _ := B
            refine lv_aload_n hx hb d_Spot_signOf_69 rfl (lv_at hl 1 rfl) ?_
            refine x_get (C := RX5) (T := TX5) (N := 8) hx hb hts inX5 hown B hF 0 rfl rfl 6 (by decide) (hts _ w_95) (fun _ h9 => h9) rfl d_Spot_signOf_70 ?_
            refine lv_aload_n hx hb d_Spot_signOf_73 rfl (lv_at hl 1 rfl) ?_
            refine x_get (C := RX5) (T := TX5) (N := 8) hx hb hts inX5 hown B hF 0 rfl rfl 7 (by decide) (hts _ w_96) (fun _ h9 => h9) rfl d_Spot_signOf_74 ?_
            refine x_iconst hx hb d_Spot_signOf_77 ?_
            have z4a : (up (up Z2 ga (Z2 gt * Z2 gu)) gb ((up Z2 ga (Z2 gt * Z2 gu)) tt * (up Z2 ga (Z2 gt * Z2 gu)) gp)) ga = hs0 (fun j => Zf (tm (base + j))) nn (Zf gu) (Zf gl) (nn + 1 - kk) * Zf gu := by rw [up_ne _ _ e6, up_self, hZt, hZu]
            have z4b : (up (up Z2 ga (Z2 gt * Z2 gu)) gb ((up Z2 ga (Z2 gt * Z2 gu)) tt * (up Z2 ga (Z2 gt * Z2 gu)) gp)) gb = (fun j => Zf (tm (base + j))) (nn - (nn + 1 - kk)) * Zf gl ^ (nn + 1 - kk) := by rw [up_self, up_ne _ _ n_ttga, up_ne _ _ e4, hZtt, hZp]
            have hx_78 := hB_66.keep (X := [(x, .inr (5, [.ref gu, .ref gl, .ref gs, .int (iI tp), .ref gt, .ref gp, .ref ga, .ref gb])), (ta, .inl (cs 3, 6, .inr (.inr (.inr (.inr gg)))))]) hOk
            obtain ⟨sd_780, n_780, lm_780, c1_780, c2_780, c3_780⟩ := hx_78 ga (hW _ hwa)
            obtain ⟨sd_781, n_781, lm_781, c1_781, c2_781, c3_781⟩ := hx_78 gb (hW _ hwb)
            refine x_callv B hA (va_runV (As := [.ref gb, .int (iI 1)]) (rest := []) ⟨hx, hb, hml, hown, hts⟩ (c_Big_add l D cs _ _ _ ga (Qm ga) sd_780 n_780 lm_780 ((up ((up Z2 ga (Z2 gt * Z2 gu))) gb ((up Z2 ga (Z2 gt * Z2 gu)) tt * (up Z2 ga (Z2 gt * Z2 gu)) gp)) ga) gb (Qm gb) sd_781 n_781 lm_781 ((up ((up Z2 ga (Z2 gt * Z2 gu))) gb ((up Z2 ga (Z2 gt * Z2 gu)) tt * (up Z2 ga (Z2 gt * Z2 gu)) gp)) gb) 1 (hSp.fc2 (hW _ hwa) (hW _ hwb) e6) c1_780 c2_780 c3_780 c1_781 c2_781 c3_781 (Or.inl rfl) (by rw [z4a, z4b]; exact r3)) (cwV 2 hts (gw_V w_415 w_311 w_312 w_3 w_313) rfl rfl rfl (by decide +kernel) ⟨by rw [hRf]; exact Nat.le_of_ble_eq_true rfl, by rw [hRl]; exact Nat.le_of_ble_eq_true rfl⟩) ⟨K0.blind, B.recv (hSp.1 _ ((hW _ hwa))).1 c1_780 rfl, B.pre _⟩ rfl rfl hl.1 rfl (lv_room (Nat.le_of_ble_eq_true rfl)) d_Spot_signOf_78 ⟨by rw [hRc]; omega, by rw [hRs]; omega⟩) (fun g78 H locs hw B => ?_)
            obtain ⟨s_78, n_78, l_78, hz_78, rfl⟩ := hw
            obtain ⟨f_78, hf_78⟩ : ∃ f_78, f_78 = mw (mw f_66 [(x, .inr (5, [.ref gu, .ref gl, .ref gs, .int (iI tp), .ref gt, .ref gp, .ref ga, .ref gb])), (ta, .inl (cs 3, 6, .inr (.inr (.inr (.inr gg)))))]) [(ga, .inr (0, [.int (iI s_78), .int (iI (n_78 : Int)), .ref (Qm ga)])), (Qm ga, .inl (cs 0, 48, .inl (ai l_78)))] := ⟨_, rfl⟩
            have hB_78 : BH cs f_78 S Qm (up ((up ((up Z2 ga (Z2 gt * Z2 gu))) gb ((up Z2 ga (Z2 gt * Z2 gu)) tt * (up Z2 ga (Z2 gt * Z2 gu)) gp))) ga ((up (up Z2 ga (Z2 gt * Z2 gu)) gb ((up Z2 ga (Z2 gt * Z2 gu)) tt * (up Z2 ga (Z2 gt * Z2 gu)) gp)) ga + 1 * (up (up Z2 ga (Z2 gt * Z2 gu)) gb ((up Z2 ga (Z2 gt * Z2 gu)) tt * (up Z2 ga (Z2 gt * Z2 gu)) gp)) gb)) := by rw [hf_78]; exact BH.set hSp (hB_66.keep (X := [(x, .inr (5, [.ref gu, .ref gl, .ref gs, .int (iI tp), .ref gt, .ref gp, .ref ga, .ref gb])), (ta, .inl (cs 3, 6, .inr (.inr (.inr (.inr gg)))))]) hOk) (hW _ hwa) hz_78
            have hfr_78 : ∀ k, Out S Qm k → k ∉ ([x, ta] : List Nat) → f_78 k = f_66 k := fun k h1 h2 => by rw [hf_78, mw_out (h1.two (hW _ hwa)), mw_out (X := [(x, .inr (5, [.ref gu, .ref gl, .ref gs, .int (iI tp), .ref gt, .ref gp, .ref ga, .ref gb])), (ta, .inl (cs 3, 6, .inr (.inr (.inr (.inr gg)))))]) h2]
            rw [← hf_78] at B
            have B := B.focus [(x, .inr (5, [.ref gu, .ref gl, .ref gs, .int (iI tp), .ref gt, .ref gp, .ref ga, .ref gb])), (ta, .inl (cs 3, 6, .inr (.inr (.inr (.inr gg)))))] (by rw [hf_78]; exact foc hF.1 (fun k hk => (hOk k hk).two (hW _ hwa)))
            have B : Wb D vwCl (TY cs) L (mw f_78 [(x, .inr (5, [.ref gu, .ref gl, .ref gs, .int (iI tp), .ref gt, .ref gp, .ref ga, .ref gb])), (ta, .inl (cs 3, 6, .inr (.inr (.inr (.inr gg)))))]) (AL L s.heap.size) s H _ := B
            refine lv_aload_n hx hb d_Spot_signOf_81 rfl (lv_at hl 1 rfl) ?_
            refine x_get (C := RX5) (T := TX5) (N := 8) hx hb hts inX5 hown B hF 0 rfl rfl 4 (by decide) (hts _ w_92) (fun _ h9 => h9) rfl d_Spot_signOf_82 ?_
            refine lv_astore (lv' := [(5, .ref gt), (4, .int (iI ((kk : Int) - 1))), (0, .ref x), (1, .ref ta), (2, .int (iI ((base : Int)))), (3, .int (iI ((nn : Int))))]) hx hb d_Spot_signOf_85 hl (by decide) rfl (fun ls hl => ?_)
            refine lv_aload_n hx hb d_Spot_signOf_87 rfl (lv_at hl 2 rfl) ?_
            refine lv_aload_n hx hb d_Spot_signOf_88 rfl (lv_at hl 2 rfl) ?_
            refine x_get (C := RX5) (T := TX5) (N := 8) hx hb hts inX5 hown B hF 0 rfl rfl 6 (by decide) (hts _ w_95) (fun _ h9 => h9) rfl d_Spot_signOf_89 ?_
            refine x_put (C := RX5) (T := TX5) (N := 8) hx hb hts inX5 tyX5 tyX5_ok nmX5 hown B hF 0 rfl rfl 4 (by decide) (hts _ w_92) (fun _ h9 => h9) rfl (tyX5_ok 4 (by decide)) rfl rfl (Nat.le_of_ble_eq_true rfl) d_Spot_signOf_92 (fun H locs B => ?_)
            have B : Wb D vwCl (TY cs) L (mw f_78 [(x, .inr (5, [.ref gu, .ref gl, .ref gs, .int (iI tp), .ref ga, .ref gp, .ref ga, .ref gb])), (ta, .inl (cs 3, 6, .inr (.inr (.inr (.inr gg)))))]) (AL L s.heap.size) s H _ := B
            refine lv_aload_n hx hb d_Spot_signOf_95 rfl (lv_at hl 2 rfl) ?_
            refine lv_aload hx hb d_Spot_signOf_96 (lv_at hl 0 rfl) ?_
            refine x_put (C := RX5) (T := TX5) (N := 8) hx hb hts inX5 tyX5 tyX5_ok nmX5 hown B hF 0 rfl rfl 6 (by decide) (hts _ w_95) (fun _ h9 => h9) rfl (tyX5_ok 6 (by decide)) rfl rfl (Nat.le_of_ble_eq_true rfl) d_Spot_signOf_98 (fun H locs B => ?_)
            have B : Wb D vwCl (TY cs) L (mw f_78 [(x, .inr (5, [.ref gu, .ref gl, .ref gs, .int (iI tp), .ref ga, .ref gp, .ref gt, .ref gb])), (ta, .inl (cs 3, 6, .inr (.inr (.inr (.inr gg)))))]) (AL L s.heap.size) s H _ := B
            have z5a : (up (up (up Z2 ga (Z2 gt * Z2 gu)) gb ((up Z2 ga (Z2 gt * Z2 gu)) tt * (up Z2 ga (Z2 gt * Z2 gu)) gp)) ga ((up (up Z2 ga (Z2 gt * Z2 gu)) gb ((up Z2 ga (Z2 gt * Z2 gu)) tt * (up Z2 ga (Z2 gt * Z2 gu)) gp)) ga + 1 * (up (up Z2 ga (Z2 gt * Z2 gu)) gb ((up Z2 ga (Z2 gt * Z2 gu)) tt * (up Z2 ga (Z2 gt * Z2 gu)) gp)) gb)) ga = hs0 (fun j => Zf (tm (base + j))) nn (Zf gu) (Zf gl) (nn + 1 - (kk - 1)) := by rw [up_self, z4a, z4b, show nn + 1 - (kk - 1) = (nn + 1 - kk) + 1 by omega, hnx, Int.one_mul]
            have z5p : (up (up (up Z2 ga (Z2 gt * Z2 gu)) gb ((up Z2 ga (Z2 gt * Z2 gu)) tt * (up Z2 ga (Z2 gt * Z2 gu)) gp)) ga ((up (up Z2 ga (Z2 gt * Z2 gu)) gb ((up Z2 ga (Z2 gt * Z2 gu)) tt * (up Z2 ga (Z2 gt * Z2 gu)) gp)) ga + 1 * (up (up Z2 ga (Z2 gt * Z2 gu)) gb ((up Z2 ga (Z2 gt * Z2 gu)) tt * (up Z2 ga (Z2 gt * Z2 gu)) gp)) gb)) gp = Zf gl ^ (nn + 1 - kk) := by rw [up_ne _ _ e4, up_ne _ _ e5, up_ne _ _ e4]; exact hZp
            have z5l : (up (up (up Z2 ga (Z2 gt * Z2 gu)) gb ((up Z2 ga (Z2 gt * Z2 gu)) tt * (up Z2 ga (Z2 gt * Z2 gu)) gp)) ga ((up (up Z2 ga (Z2 gt * Z2 gu)) gb ((up Z2 ga (Z2 gt * Z2 gu)) tt * (up Z2 ga (Z2 gt * Z2 gu)) gp)) ga + 1 * (up (up Z2 ga (Z2 gt * Z2 gu)) gb ((up Z2 ga (Z2 gt * Z2 gu)) tt * (up Z2 ga (Z2 gt * Z2 gu)) gp)) gb)) gl = Zf gl := by rw [up_ne _ _ n_glga, up_ne _ _ n_glgb, up_ne _ _ n_glga]; exact hZl
            have z5o : ∀ b, ¬ Wk b → (up (up (up Z2 ga (Z2 gt * Z2 gu)) gb ((up Z2 ga (Z2 gt * Z2 gu)) tt * (up Z2 ga (Z2 gt * Z2 gu)) gp)) ga ((up (up Z2 ga (Z2 gt * Z2 gu)) gb ((up Z2 ga (Z2 gt * Z2 gu)) tt * (up Z2 ga (Z2 gt * Z2 gu)) gp)) ga + 1 * (up (up Z2 ga (Z2 gt * Z2 gu)) gb ((up Z2 ga (Z2 gt * Z2 gu)) tt * (up Z2 ga (Z2 gt * Z2 gu)) gp)) gb)) b = Zf b := fun b hb => by rw [up_ne _ _ (ne_of_not hb hwa), up_ne _ _ (ne_of_not hb hwb), up_ne _ _ (ne_of_not hb hwa)]; exact hZo b hb
            refine lv_iload hx hb d_Spot_signOf_101 (lv_at hl 1 rfl) ?_
            refine x_if_le (tgt := 141) hx hb d_Spot_signOf_103 (by decide) (by omega) (fun h103 => ?_) (fun h103 => ?_)
            · refine x_iinc (lv' := [(4, .int (iI (((kk : Int) - 1) + (-1)))), (5, .ref gt), (0, .ref x), (1, .ref ta), (2, .int (iI ((base : Int)))), (3, .int (iI ((nn : Int))))]) hx hb d_Spot_signOf_141 hl (q := 1) rfl rfl (by decide) rfl (fun ls hl => ?_)
              refine lv_goto (tgt := 19) hx hb d_Spot_signOf_144 (by decide) ?_
              rw [show (kk : Int) - 1 + (-1) = ((kk - 1 : Nat) : Int) - 1 by omega] at hl
              exact ih_LP (kk - 1) f_78 ga gp gt gb ((up ((up ((up Z2 ga (Z2 gt * Z2 gu))) gb ((up Z2 ga (Z2 gt * Z2 gu)) tt * (up Z2 ga (Z2 gt * Z2 gu)) gp))) ga ((up (up Z2 ga (Z2 gt * Z2 gu)) gb ((up Z2 ga (Z2 gt * Z2 gu)) tt * (up Z2 ga (Z2 gt * Z2 gu)) gp)) ga + 1 * (up (up Z2 ga (Z2 gt * Z2 gu)) gb ((up Z2 ga (Z2 gt * Z2 gu)) tt * (up Z2 ga (Z2 gt * Z2 gu)) gp)) gb))) (by omega) (by omega) hB_78 (⟨hWd.2.2.1, hWd.2.1, hWd.1, hWd.2.2.2⟩) (by obtain ⟨⟨q1, q2, q3⟩, ⟨q4, q5⟩, q6⟩ := hne; exact ⟨⟨by omega, by omega, by omega⟩, ⟨by omega, by omega⟩, by omega⟩) z5a (fun h => by omega) z5o (fun k h1 h2 => by rw [hfr_78 k h1 h2, hfr_66 k h1 h2, hfr_49 k h1 h2]; exact hfr2 k h1 h2) _ _ _ B (lv_sub hl [0, 2, 3, 4, 5] rfl)
            · refine lv_aload_n hx hb d_Spot_signOf_106 rfl (lv_at hl 2 rfl) ?_
              refine x_get (C := RX5) (T := TX5) (N := 8) hx hb hts inX5 hown B hF 0 rfl rfl 7 (by decide) (hts _ w_96) (fun _ h9 => h9) rfl d_Spot_signOf_107 ?_
              refine lv_aload_n hx hb d_Spot_signOf_110 rfl (lv_at hl 2 rfl) ?_
              refine x_get (C := RX5) (T := TX5) (N := 8) hx hb hts inX5 hown B hF 0 rfl rfl 5 (by decide) (hts _ w_94) (fun _ h9 => h9) rfl d_Spot_signOf_111 ?_
              refine lv_aload_n hx hb d_Spot_signOf_114 rfl (lv_at hl 2 rfl) ?_
              refine x_get (C := RX5) (T := TX5) (N := 8) hx hb hts inX5 hown B hF 0 rfl rfl 1 (by decide) (hts _ w_86) (fun _ h9 => h9) rfl d_Spot_signOf_115 ?_
              have hx_118 := hB_78.keep (X := [(x, .inr (5, [.ref gu, .ref gl, .ref gs, .int (iI tp), .ref ga, .ref gp, .ref gt, .ref gb])), (ta, .inl (cs 3, 6, .inr (.inr (.inr (.inr gg)))))]) hOk
              obtain ⟨sd_1180, n_1180, lm_1180, c1_1180, c2_1180, c3_1180⟩ := hx_118 gb (hW _ hwb)
              obtain ⟨sd_1181, n_1181, lm_1181, c1_1181, c2_1181, c3_1181⟩ := hx_118 gp (hW _ hwp)
              obtain ⟨sd_1182, n_1182, lm_1182, c1_1182, c2_1182, c3_1182⟩ := hx_118 gl hSl
              refine x_callv B hA (va_runV (As := [.ref gp, .ref gl]) (rest := []) ⟨hx, hb, hml, hown, hts⟩ (c_Big_product l D cs _ _ _ gb (Qm gb) sd_1180 n_1180 lm_1180 gp (Qm gp) sd_1181 n_1181 lm_1181 ((up ((up ((up Z2 ga (Z2 gt * Z2 gu))) gb ((up Z2 ga (Z2 gt * Z2 gu)) tt * (up Z2 ga (Z2 gt * Z2 gu)) gp))) ga ((up (up Z2 ga (Z2 gt * Z2 gu)) gb ((up Z2 ga (Z2 gt * Z2 gu)) tt * (up Z2 ga (Z2 gt * Z2 gu)) gp)) ga + 1 * (up (up Z2 ga (Z2 gt * Z2 gu)) gb ((up Z2 ga (Z2 gt * Z2 gu)) tt * (up Z2 ga (Z2 gt * Z2 gu)) gp)) gb)) gp) gl (Qm gl) sd_1182 n_1182 lm_1182 ((up ((up ((up Z2 ga (Z2 gt * Z2 gu))) gb ((up Z2 ga (Z2 gt * Z2 gu)) tt * (up Z2 ga (Z2 gt * Z2 gu)) gp))) ga ((up (up Z2 ga (Z2 gt * Z2 gu)) gb ((up Z2 ga (Z2 gt * Z2 gu)) tt * (up Z2 ga (Z2 gt * Z2 gu)) gp)) ga + 1 * (up (up Z2 ga (Z2 gt * Z2 gu)) gb ((up Z2 ga (Z2 gt * Z2 gu)) tt * (up Z2 ga (Z2 gt * Z2 gu)) gp)) gb)) gl)  (hSp.fc3 (hW _ hwb) (hW _ hwp) hSl (Ne.symm e5) (Ne.symm n_glgb) (Ne.symm n_glgp)) c1_1180 c2_1180 c1_1181 c2_1181 c3_1181 c1_1182 c2_1182 c3_1182 (by rw [z5p, z5l]; exact r4 (by omega))) (cwV 2 hts (gw_V w_414 w_307 w_308 w_3 w_309) rfl rfl rfl (by decide +kernel) ⟨by rw [hRf]; exact Nat.le_of_ble_eq_true rfl, by rw [hRl]; exact Nat.le_of_ble_eq_true rfl⟩) ⟨K0.blind, B.recv (hSp.1 _ ((hW _ hwb))).1 c1_1180 rfl, B.pre _⟩ rfl rfl hl.1 rfl (lv_room (Nat.le_of_ble_eq_true rfl)) d_Spot_signOf_118 ⟨by rw [hRc]; omega, by rw [hRs]; omega⟩) (fun g118 H locs hw B => ?_)
              obtain ⟨s_118, n_118, l_118, hz_118, rfl⟩ := hw
              obtain ⟨f_118, hf_118⟩ : ∃ f_118, f_118 = mw (mw f_78 [(x, .inr (5, [.ref gu, .ref gl, .ref gs, .int (iI tp), .ref ga, .ref gp, .ref gt, .ref gb])), (ta, .inl (cs 3, 6, .inr (.inr (.inr (.inr gg)))))]) [(gb, .inr (0, [.int (iI s_118), .int (iI (n_118 : Int)), .ref (Qm gb)])), (Qm gb, .inl (cs 0, 48, .inl (ai l_118)))] := ⟨_, rfl⟩
              have hB_118 : BH cs f_118 S Qm (up ((up ((up ((up Z2 ga (Z2 gt * Z2 gu))) gb ((up Z2 ga (Z2 gt * Z2 gu)) tt * (up Z2 ga (Z2 gt * Z2 gu)) gp))) ga ((up (up Z2 ga (Z2 gt * Z2 gu)) gb ((up Z2 ga (Z2 gt * Z2 gu)) tt * (up Z2 ga (Z2 gt * Z2 gu)) gp)) ga + 1 * (up (up Z2 ga (Z2 gt * Z2 gu)) gb ((up Z2 ga (Z2 gt * Z2 gu)) tt * (up Z2 ga (Z2 gt * Z2 gu)) gp)) gb))) gb ((up (up (up Z2 ga (Z2 gt * Z2 gu)) gb ((up Z2 ga (Z2 gt * Z2 gu)) tt * (up Z2 ga (Z2 gt * Z2 gu)) gp)) ga ((up (up Z2 ga (Z2 gt * Z2 gu)) gb ((up Z2 ga (Z2 gt * Z2 gu)) tt * (up Z2 ga (Z2 gt * Z2 gu)) gp)) ga + 1 * (up (up Z2 ga (Z2 gt * Z2 gu)) gb ((up Z2 ga (Z2 gt * Z2 gu)) tt * (up Z2 ga (Z2 gt * Z2 gu)) gp)) gb)) gp * (up (up (up Z2 ga (Z2 gt * Z2 gu)) gb ((up Z2 ga (Z2 gt * Z2 gu)) tt * (up Z2 ga (Z2 gt * Z2 gu)) gp)) ga ((up (up Z2 ga (Z2 gt * Z2 gu)) gb ((up Z2 ga (Z2 gt * Z2 gu)) tt * (up Z2 ga (Z2 gt * Z2 gu)) gp)) ga + 1 * (up (up Z2 ga (Z2 gt * Z2 gu)) gb ((up Z2 ga (Z2 gt * Z2 gu)) tt * (up Z2 ga (Z2 gt * Z2 gu)) gp)) gb)) gl)) := by rw [hf_118]; exact BH.set hSp (hB_78.keep (X := [(x, .inr (5, [.ref gu, .ref gl, .ref gs, .int (iI tp), .ref ga, .ref gp, .ref gt, .ref gb])), (ta, .inl (cs 3, 6, .inr (.inr (.inr (.inr gg)))))]) hOk) (hW _ hwb) hz_118
              have hfr_118 : ∀ k, Out S Qm k → k ∉ ([x, ta] : List Nat) → f_118 k = f_78 k := fun k h1 h2 => by rw [hf_118, mw_out (h1.two (hW _ hwb)), mw_out (X := [(x, .inr (5, [.ref gu, .ref gl, .ref gs, .int (iI tp), .ref ga, .ref gp, .ref gt, .ref gb])), (ta, .inl (cs 3, 6, .inr (.inr (.inr (.inr gg)))))]) h2]
              rw [← hf_118] at B
              have B := B.focus [(x, .inr (5, [.ref gu, .ref gl, .ref gs, .int (iI tp), .ref ga, .ref gp, .ref gt, .ref gb])), (ta, .inl (cs 3, 6, .inr (.inr (.inr (.inr gg)))))] (by rw [hf_118]; exact foc hF.1 (fun k hk => (hOk k hk).two (hW _ hwb)))
              have B : Wb D vwCl (TY cs) L (mw f_118 [(x, .inr (5, [.ref gu, .ref gl, .ref gs, .int (iI tp), .ref ga, .ref gp, .ref gt, .ref gb])), (ta, .inl (cs 3, 6, .inr (.inr (.inr (.inr gg)))))]) (AL L s.heap.size) s H _ := B
              have z6a : (up ((up ((up ((up Z2 ga (Z2 gt * Z2 gu))) gb ((up Z2 ga (Z2 gt * Z2 gu)) tt * (up Z2 ga (Z2 gt * Z2 gu)) gp))) ga ((up (up Z2 ga (Z2 gt * Z2 gu)) gb ((up Z2 ga (Z2 gt * Z2 gu)) tt * (up Z2 ga (Z2 gt * Z2 gu)) gp)) ga + 1 * (up (up Z2 ga (Z2 gt * Z2 gu)) gb ((up Z2 ga (Z2 gt * Z2 gu)) tt * (up Z2 ga (Z2 gt * Z2 gu)) gp)) gb))) gb ((up (up (up Z2 ga (Z2 gt * Z2 gu)) gb ((up Z2 ga (Z2 gt * Z2 gu)) tt * (up Z2 ga (Z2 gt * Z2 gu)) gp)) ga ((up (up Z2 ga (Z2 gt * Z2 gu)) gb ((up Z2 ga (Z2 gt * Z2 gu)) tt * (up Z2 ga (Z2 gt * Z2 gu)) gp)) ga + 1 * (up (up Z2 ga (Z2 gt * Z2 gu)) gb ((up Z2 ga (Z2 gt * Z2 gu)) tt * (up Z2 ga (Z2 gt * Z2 gu)) gp)) gb)) gp * (up (up (up Z2 ga (Z2 gt * Z2 gu)) gb ((up Z2 ga (Z2 gt * Z2 gu)) tt * (up Z2 ga (Z2 gt * Z2 gu)) gp)) ga ((up (up Z2 ga (Z2 gt * Z2 gu)) gb ((up Z2 ga (Z2 gt * Z2 gu)) tt * (up Z2 ga (Z2 gt * Z2 gu)) gp)) ga + 1 * (up (up Z2 ga (Z2 gt * Z2 gu)) gb ((up Z2 ga (Z2 gt * Z2 gu)) tt * (up Z2 ga (Z2 gt * Z2 gu)) gp)) gb)) gl)) ga = hs0 (fun j => Zf (tm (base + j))) nn (Zf gu) (Zf gl) (nn + 1 - (kk - 1)) := by rw [up_ne _ _ e6]; exact z5a
              have z6b : (up ((up ((up ((up Z2 ga (Z2 gt * Z2 gu))) gb ((up Z2 ga (Z2 gt * Z2 gu)) tt * (up Z2 ga (Z2 gt * Z2 gu)) gp))) ga ((up (up Z2 ga (Z2 gt * Z2 gu)) gb ((up Z2 ga (Z2 gt * Z2 gu)) tt * (up Z2 ga (Z2 gt * Z2 gu)) gp)) ga + 1 * (up (up Z2 ga (Z2 gt * Z2 gu)) gb ((up Z2 ga (Z2 gt * Z2 gu)) tt * (up Z2 ga (Z2 gt * Z2 gu)) gp)) gb))) gb ((up (up (up Z2 ga (Z2 gt * Z2 gu)) gb ((up Z2 ga (Z2 gt * Z2 gu)) tt * (up Z2 ga (Z2 gt * Z2 gu)) gp)) ga ((up (up Z2 ga (Z2 gt * Z2 gu)) gb ((up Z2 ga (Z2 gt * Z2 gu)) tt * (up Z2 ga (Z2 gt * Z2 gu)) gp)) ga + 1 * (up (up Z2 ga (Z2 gt * Z2 gu)) gb ((up Z2 ga (Z2 gt * Z2 gu)) tt * (up Z2 ga (Z2 gt * Z2 gu)) gp)) gb)) gp * (up (up (up Z2 ga (Z2 gt * Z2 gu)) gb ((up Z2 ga (Z2 gt * Z2 gu)) tt * (up Z2 ga (Z2 gt * Z2 gu)) gp)) ga ((up (up Z2 ga (Z2 gt * Z2 gu)) gb ((up Z2 ga (Z2 gt * Z2 gu)) tt * (up Z2 ga (Z2 gt * Z2 gu)) gp)) ga + 1 * (up (up Z2 ga (Z2 gt * Z2 gu)) gb ((up Z2 ga (Z2 gt * Z2 gu)) tt * (up Z2 ga (Z2 gt * Z2 gu)) gp)) gb)) gl)) gb = Zf gl ^ (nn + 1 - (kk - 1)) := by rw [up_self, z5p, z5l, show nn + 1 - (kk - 1) = (nn + 1 - kk) + 1 by omega, Int.pow_succ]
              have z6o : ∀ b, ¬ Wk b → (up ((up ((up ((up Z2 ga (Z2 gt * Z2 gu))) gb ((up Z2 ga (Z2 gt * Z2 gu)) tt * (up Z2 ga (Z2 gt * Z2 gu)) gp))) ga ((up (up Z2 ga (Z2 gt * Z2 gu)) gb ((up Z2 ga (Z2 gt * Z2 gu)) tt * (up Z2 ga (Z2 gt * Z2 gu)) gp)) ga + 1 * (up (up Z2 ga (Z2 gt * Z2 gu)) gb ((up Z2 ga (Z2 gt * Z2 gu)) tt * (up Z2 ga (Z2 gt * Z2 gu)) gp)) gb))) gb ((up (up (up Z2 ga (Z2 gt * Z2 gu)) gb ((up Z2 ga (Z2 gt * Z2 gu)) tt * (up Z2 ga (Z2 gt * Z2 gu)) gp)) ga ((up (up Z2 ga (Z2 gt * Z2 gu)) gb ((up Z2 ga (Z2 gt * Z2 gu)) tt * (up Z2 ga (Z2 gt * Z2 gu)) gp)) ga + 1 * (up (up Z2 ga (Z2 gt * Z2 gu)) gb ((up Z2 ga (Z2 gt * Z2 gu)) tt * (up Z2 ga (Z2 gt * Z2 gu)) gp)) gb)) gp * (up (up (up Z2 ga (Z2 gt * Z2 gu)) gb ((up Z2 ga (Z2 gt * Z2 gu)) tt * (up Z2 ga (Z2 gt * Z2 gu)) gp)) ga ((up (up Z2 ga (Z2 gt * Z2 gu)) gb ((up Z2 ga (Z2 gt * Z2 gu)) tt * (up Z2 ga (Z2 gt * Z2 gu)) gp)) ga + 1 * (up (up Z2 ga (Z2 gt * Z2 gu)) gb ((up Z2 ga (Z2 gt * Z2 gu)) tt * (up Z2 ga (Z2 gt * Z2 gu)) gp)) gb)) gl)) b = Zf b := fun b hb => by rw [up_ne _ _ (ne_of_not hb hwb)]; exact z5o b hb
              refine lv_aload_n hx hb d_Spot_signOf_121 rfl (lv_at hl 2 rfl) ?_
              refine x_get (C := RX5) (T := TX5) (N := 8) hx hb hts inX5 hown B hF 0 rfl rfl 5 (by decide) (hts _ w_94) (fun _ h9 => h9) rfl d_Spot_signOf_122 ?_
              refine lv_astore (lv' := [(5, .ref gp), (4, .int (iI ((kk : Int) - 1))), (0, .ref x), (1, .ref ta), (2, .int (iI ((base : Int)))), (3, .int (iI ((nn : Int))))]) hx hb d_Spot_signOf_125 hl (by decide) rfl (fun ls hl => ?_)
              refine lv_aload_n hx hb d_Spot_signOf_127 rfl (lv_at hl 2 rfl) ?_
              refine lv_aload_n hx hb d_Spot_signOf_128 rfl (lv_at hl 2 rfl) ?_
              refine x_get (C := RX5) (T := TX5) (N := 8) hx hb hts inX5 hown B hF 0 rfl rfl 7 (by decide) (hts _ w_96) (fun _ h9 => h9) rfl d_Spot_signOf_129 ?_
              refine x_put (C := RX5) (T := TX5) (N := 8) hx hb hts inX5 tyX5 tyX5_ok nmX5 hown B hF 0 rfl rfl 5 (by decide) (hts _ w_94) (fun _ h9 => h9) rfl (tyX5_ok 5 (by decide)) rfl rfl (Nat.le_of_ble_eq_true rfl) d_Spot_signOf_132 (fun H locs B => ?_)
              have B : Wb D vwCl (TY cs) L (mw f_118 [(x, .inr (5, [.ref gu, .ref gl, .ref gs, .int (iI tp), .ref ga, .ref gb, .ref gt, .ref gb])), (ta, .inl (cs 3, 6, .inr (.inr (.inr (.inr gg)))))]) (AL L s.heap.size) s H _ := B
              refine lv_aload_n hx hb d_Spot_signOf_135 rfl (lv_at hl 2 rfl) ?_
              refine lv_aload hx hb d_Spot_signOf_136 (lv_at hl 0 rfl) ?_
              refine x_put (C := RX5) (T := TX5) (N := 8) hx hb hts inX5 tyX5 tyX5_ok nmX5 hown B hF 0 rfl rfl 7 (by decide) (hts _ w_96) (fun _ h9 => h9) rfl (tyX5_ok 7 (by decide)) rfl rfl (Nat.le_of_ble_eq_true rfl) d_Spot_signOf_138 (fun H locs B => ?_)
              have B : Wb D vwCl (TY cs) L (mw f_118 [(x, .inr (5, [.ref gu, .ref gl, .ref gs, .int (iI tp), .ref ga, .ref gb, .ref gt, .ref gp])), (ta, .inl (cs 3, 6, .inr (.inr (.inr (.inr gg)))))]) (AL L s.heap.size) s H _ := B
              refine x_iinc (lv' := [(4, .int (iI (((kk : Int) - 1) + (-1)))), (5, .ref gp), (0, .ref x), (1, .ref ta), (2, .int (iI ((base : Int)))), (3, .int (iI ((nn : Int))))]) hx hb d_Spot_signOf_141 hl (q := 1) rfl rfl (by decide) rfl (fun ls hl => ?_)
              refine lv_goto (tgt := 19) hx hb d_Spot_signOf_144 (by decide) ?_
              rw [show (kk : Int) - 1 + (-1) = ((kk - 1 : Nat) : Int) - 1 by omega] at hl
              exact ih_LP (kk - 1) f_118 ga gb gt gp ((up ((up ((up ((up Z2 ga (Z2 gt * Z2 gu))) gb ((up Z2 ga (Z2 gt * Z2 gu)) tt * (up Z2 ga (Z2 gt * Z2 gu)) gp))) ga ((up (up Z2 ga (Z2 gt * Z2 gu)) gb ((up Z2 ga (Z2 gt * Z2 gu)) tt * (up Z2 ga (Z2 gt * Z2 gu)) gp)) ga + 1 * (up (up Z2 ga (Z2 gt * Z2 gu)) gb ((up Z2 ga (Z2 gt * Z2 gu)) tt * (up Z2 ga (Z2 gt * Z2 gu)) gp)) gb))) gb ((up (up (up Z2 ga (Z2 gt * Z2 gu)) gb ((up Z2 ga (Z2 gt * Z2 gu)) tt * (up Z2 ga (Z2 gt * Z2 gu)) gp)) ga ((up (up Z2 ga (Z2 gt * Z2 gu)) gb ((up Z2 ga (Z2 gt * Z2 gu)) tt * (up Z2 ga (Z2 gt * Z2 gu)) gp)) ga + 1 * (up (up Z2 ga (Z2 gt * Z2 gu)) gb ((up Z2 ga (Z2 gt * Z2 gu)) tt * (up Z2 ga (Z2 gt * Z2 gu)) gp)) gb)) gp * (up (up (up Z2 ga (Z2 gt * Z2 gu)) gb ((up Z2 ga (Z2 gt * Z2 gu)) tt * (up Z2 ga (Z2 gt * Z2 gu)) gp)) ga ((up (up Z2 ga (Z2 gt * Z2 gu)) gb ((up Z2 ga (Z2 gt * Z2 gu)) tt * (up Z2 ga (Z2 gt * Z2 gu)) gp)) ga + 1 * (up (up Z2 ga (Z2 gt * Z2 gu)) gb ((up Z2 ga (Z2 gt * Z2 gu)) tt * (up Z2 ga (Z2 gt * Z2 gu)) gp)) gb)) gl))) (by omega) (by omega) hB_118 (⟨hWd.2.2.1, hWd.2.2.2, hWd.1, hWd.2.1⟩) (by obtain ⟨⟨q1, q2, q3⟩, ⟨q4, q5⟩, q6⟩ := hne; exact ⟨⟨by omega, by omega, by omega⟩, ⟨by omega, by omega⟩, by omega⟩) z6a (fun _ => z6b) z6o (fun k h1 h2 => by rw [hfr_118 k h1 h2, hfr_78 k h1 h2, hfr_66 k h1 h2, hfr_49 k h1 h2]; exact hfr2 k h1 h2) _ _ _ B (lv_sub hl [0, 2, 3, 4, 5] rfl)
  have hl5 : lv_has ls 6 [(4, .int (iI (((nn + 1 : Nat) : Int) - 1))), (0, .ref x), (1, .ref ta), (2, .int (iI ((base : Int)))), (3, .int (iI ((nn : Int))))] := by rw [show ((nn + 1 : Nat) : Int) - 1 = (nn : Int) by omega]; exact lv_sub hl [0, 1, 2, 3, 4] rfl
  exact LP _ (nn + 1) f_13 gt gp ga gb ((up ((up Zf gt (0))) gp (1))) (Nat.lt_succ_self _) (Nat.le_refl _) hB_13 (⟨hwt, hwp, hwa, hwb⟩) hne (by rw [Nat.sub_self, up_ne _ _ hne.1.1, up_self]; rfl) (fun _ => by rw [Nat.sub_self, up_self, Int.pow_zero]) (fun b hb => by rw [up_ne _ _ (ne_of_not hb hwp), up_ne _ _ (ne_of_not hb hwt)]) (fun k h1 h2 => by rw [hfr_13 k h1 h2, hfr_5 k h1 h2]) _ _ _ B hl5
set_option maxHeartbeats 8000000 in
set_option maxRecDepth 100000 in
theorem c_Spot_signOf_c (l : Launch) (D : va_G) (cs : Nat → ClassId) (L : List Nat) (f : Nat → va_E) (sz : Nat) (x ta gu gl gs gt gp ga gb base nn : Nat) (tp : Int) (S Wk : Nat → Prop) (Qm : Nat → Nat) (Zf : Nat → Int) (gg : Nat → Option Nat) (tm : Nat → Nat) (hF : Fc L [x, ta]) (ha : f x = .inr (5, [.ref gu, .ref gl, .ref gs, .int (iI tp), .ref gt, .ref gp, .ref ga, .ref gb])) (hta : f ta = .inl (cs 3, 42, .inr (.inr (.inr (.inr gg))))) (hSp : Sp L S Qm) (hB : BH cs f S Qm Zf) (hOk : ∀ k ∈ ([x, ta] : List Nat), Out S Qm k) (hW : ∀ b, Wk b → S b) (hWd : Wk gt ∧ Wk gp ∧ Wk ga ∧ Wk gb) (hne : (gt ≠ gp ∧ gt ≠ ga ∧ gt ≠ gb) ∧ (gp ≠ ga ∧ gp ≠ gb) ∧ ga ≠ gb) (hSu : S gu) (hSl : S gl) (hnu : ¬ Wk gu) (hnl : ¬ Wk gl) (hnn : nn < 6) (hbase : base + nn < 42) (hG : ∀ j, j ≤ nn → gg (base + j) = some (tm (base + j))) (hT : ∀ j, j ≤ nn → S (tm (base + j)) ∧ ¬ Wk (tm (base + j))) (hroom : ∀ i, i ≤ nn → ((hs0 (fun j => Zf (tm (base + j))) nn (Zf gu) (Zf gl) (i) * Zf gu).natAbs : Int) < Bp 47 ∧ (((fun j => Zf (tm (base + j))) (nn - i) * Zf gl ^ i).natAbs : Int) < Bp 47 ∧ ((hs0 (fun j => Zf (tm (base + j))) nn (Zf gu) (Zf gl) (i) * Zf gu).natAbs : Int) + (((fun j => Zf (tm (base + j))) (nn - i) * Zf gl ^ i).natAbs : Int) < Bp 48 ∧ (i < nn → ((Zf gl ^ i * Zf gl).natAbs : Int) < Bp 47)) : Met l (⟨"RealRoots$Spot", "signOf", "([LRealRoots$Big;II)I"⟩ : MethodName) (.code (⟨"RealRoots$Spot", "signOf", "([LRealRoots$Big;II)I"⟩ : MethodName) prog_7_method_6_code 6 (Option.some Jvm.ClassFile.FieldType.int) :: gw) ({ frames := 1, cells := 0, slots := 0, locals := 60 }) (va_Pc [.ref x, .ref ta, .int (iI ((base : Int))), .int (iI ((nn : Int)))] (K0 D vwCl (TY cs) L f sz)) (va_Qi (fun (r : Int32) (g : Nat → va_E) => ∃ (gt' gp' ga' gb' : Nat) (Z' : Nat → Int), r = iI (hsum (fun j => Zf (tm (base + j))) nn (Zf gu) (Zf gl) nn).sign ∧ Z' gt' = hsum (fun j => Zf (tm (base + j))) nn (Zf gu) (Zf gl) nn ∧ (Wk gt' ∧ Wk gp' ∧ Wk ga' ∧ Wk gb') ∧ ((gt' ≠ gp' ∧ gt' ≠ ga' ∧ gt' ≠ gb') ∧ (gp' ≠ ga' ∧ gp' ≠ gb') ∧ ga' ≠ gb') ∧ (∀ b, ¬ Wk b → Z' b = Zf b) ∧ BH cs g S Qm Z' ∧ (∀ k, Out S Qm k → k ∉ ([x, ta] : List Nat) → g k = f k) ∧ g x = .inr (5, [.ref gu, .ref gl, .ref gs, .int (iI tp), .ref (gt'), .ref (gp'), .ref (ga'), .ref (gb')]) ∧ g ta = .inl (cs 3, 42, .inr (.inr (.inr (.inr gg))))) (K1 D vwCl (TY cs) (AL L sz) L) (AL L sz)) 0 0 (AL L sz) := by
  refine Met.ofW (cc := prog_7_method_6_code) (maxL := 6) (ret := (Option.some Jvm.ClassFile.FieldType.int)) (by decide) rfl ?_
  intro p e s m args below meth c s₁ Bd hml hv
  obtain ⟨rfl, hk0⟩ := hv
  obtain ⟨hsz, B⟩ := hk0.start
  subst hsz
  have hx := Bd.exec
  have hb := Bd.bytes
  have hr := Bd.returns
  have hlocks := Bd.notSynchronized
  have hts0 := atoms_spec Bd.pre
  have hown : s.vm.findClass RX5 = some m.cls := findClass_of_methodNamed Bd.named
  have hA : ∀ q, s.heap.size ≤ q → AL L s.heap.size q := fun _ h => Or.inr h
  have hl := lv_entry ([.ref x, .ref ta, .int (iI ((base : Int))), .int (iI ((nn : Int)))]) (n := 6) (Nat.le_of_ble_eq_true rfl)
  rw [lg_entry_eq]
  generalize (lg_sl ([.ref x, .ref ta, .int (iI ((base : Int))), .int (iI ((nn : Int)))]) ++ List.replicate (6 - (lg_sl ([.ref x, .ref ta, .int (iI ((base : Int))), .int (iI ((nn : Int)))])).length) Slot.unset).toArray = ls at hl ⊢
  refine absQ (fun Q R av hQ hR hav => ?_)
  have hts : ∀ w ∈ gw, w.before av s = true := by rw [hav]; exact fun w h => hts0 w (List.mem_cons_of_mem _ h)
  have hRf : R.frames = 1 := by rw [hR]; rfl
  have hRl : R.locals = 60 := by rw [hR]; rfl
  have hRc : R.cells = 0 := by rw [hR]; rfl
  have hRs : R.slots = 0 := by rw [hR]; rfl
  clear hR hts0 Bd
  have hl : lv_has ls 6 [(0, .ref x), (1, .ref ta), (2, .int (iI ((base : Int)))), (3, .int (iI ((nn : Int))))] := hl
  obtain ⟨hwt, hwp, hwa, hwb⟩ := hWd
  have hfx : ∀ q ∈ ([(x, .inr (5, [.ref gu, .ref gl, .ref gs, .int (iI tp), .ref gt, .ref gp, .ref ga, .ref gb])), (ta, .inl (cs 3, 42, .inr (.inr (.inr (.inr gg)))))] : List (Nat × va_E)), f q.1 = q.2 := fun q hq => by
    simp only [List.mem_cons, List.not_mem_nil, or_false] at hq
    rcases hq with rfl | rfl
    · exact ha
    · exact hta
  have hmw : mw f [(x, .inr (5, [.ref gu, .ref gl, .ref gs, .int (iI tp), .ref gt, .ref gp, .ref ga, .ref gb])), (ta, .inl (cs 3, 42, .inr (.inr (.inr (.inr gg)))))] = f := mw_self (fun k a e hk => hfx (a, e) (List.mem_of_getElem? hk))
  have B := B.focus [(x, .inr (5, [.ref gu, .ref gl, .ref gs, .int (iI tp), .ref gt, .ref gp, .ref ga, .ref gb])), (ta, .inl (cs 3, 42, .inr (.inr (.inr (.inr gg)))))] hfx
  refine lv_aload_n hx hb d_Spot_signOf_0 rfl (lv_at hl 0 rfl) ?_
  refine x_get (C := RX5) (T := TX5) (N := 8) hx hb hts inX5 hown B hF 0 rfl rfl 4 (by decide) (hts _ w_92) (fun _ h9 => h9) rfl d_Spot_signOf_1 ?_
  refine x_lconst (z := 0) hx hb d_Spot_signOf_4 (by decide) ?_
  have hx_5 := hB.keep (X := [(x, .inr (5, [.ref gu, .ref gl, .ref gs, .int (iI tp), .ref gt, .ref gp, .ref ga, .ref gb])), (ta, .inl (cs 3, 42, .inr (.inr (.inr (.inr gg)))))]) hOk
  obtain ⟨sd_50, n_50, lm_50, c1_50, c2_50, c3_50⟩ := hx_5 gt (hW _ hwt)
  refine x_callv B hA (va_runV (As := [.long (lI 0)]) (rest := []) ⟨hx, hb, hml, hown, hts⟩ (c_Big_put l D cs _ _ _ gt (Qm gt) sd_50 n_50 lm_50 0 (hSp.fc1 (hW _ hwt)) c1_50 c2_50 (by decide)) (cwV 1 hts (gw_V w_405 w_294 w_295 w_3 w_296) rfl rfl rfl (by decide +kernel) ⟨by rw [hRf]; exact Nat.le_of_ble_eq_true rfl, by rw [hRl]; exact Nat.le_of_ble_eq_true rfl⟩) ⟨K0.blind, B.recv (hSp.1 _ ((hW _ hwt))).1 c1_50 rfl, B.pre _⟩ rfl rfl hl.1 rfl (lv_room (Nat.le_of_ble_eq_true rfl)) d_Spot_signOf_5 ⟨by rw [hRc]; omega, by rw [hRs]; omega⟩) (fun g5 H locs hw B => ?_)
  obtain ⟨s_5, n_5, l_5, hz_5, rfl⟩ := hw
  obtain ⟨f_5, hf_5⟩ : ∃ f_5, f_5 = mw (mw f [(x, .inr (5, [.ref gu, .ref gl, .ref gs, .int (iI tp), .ref gt, .ref gp, .ref ga, .ref gb])), (ta, .inl (cs 3, 42, .inr (.inr (.inr (.inr gg)))))]) [(gt, .inr (0, [.int (iI s_5), .int (iI (n_5 : Int)), .ref (Qm gt)])), (Qm gt, .inl (cs 0, 48, .inl (ai l_5)))] := ⟨_, rfl⟩
  have hB_5 : BH cs f_5 S Qm (up Zf gt (0)) := by rw [hf_5]; exact BH.set hSp (hB.keep (X := [(x, .inr (5, [.ref gu, .ref gl, .ref gs, .int (iI tp), .ref gt, .ref gp, .ref ga, .ref gb])), (ta, .inl (cs 3, 42, .inr (.inr (.inr (.inr gg)))))]) hOk) (hW _ hwt) hz_5
  have hfr_5 : ∀ k, Out S Qm k → k ∉ ([x, ta] : List Nat) → f_5 k = f k := fun k h1 h2 => by rw [hf_5, mw_out (h1.two (hW _ hwt)), mw_out (X := [(x, .inr (5, [.ref gu, .ref gl, .ref gs, .int (iI tp), .ref gt, .ref gp, .ref ga, .ref gb])), (ta, .inl (cs 3, 42, .inr (.inr (.inr (.inr gg)))))]) h2]
  rw [← hf_5] at B
  have B := B.focus [(x, .inr (5, [.ref gu, .ref gl, .ref gs, .int (iI tp), .ref gt, .ref gp, .ref ga, .ref gb])), (ta, .inl (cs 3, 42, .inr (.inr (.inr (.inr gg)))))] (by rw [hf_5]; exact foc hF.1 (fun k hk => (hOk k hk).two (hW _ hwt)))
  have B : Wb D vwCl (TY cs) L (mw f_5 [(x, .inr (5, [.ref gu, .ref gl, .ref gs, .int (iI tp), .ref gt, .ref gp, .ref ga, .ref gb])), (ta, .inl (cs 3, 42, .inr (.inr (.inr (.inr gg)))))]) (AL L s.heap.size) s H _ := B
  refine lv_aload_n hx hb d_Spot_signOf_8 rfl (lv_at hl 0 rfl) ?_
  refine x_get (C := RX5) (T := TX5) (N := 8) hx hb hts inX5 hown B hF 0 rfl rfl 5 (by decide) (hts _ w_94) (fun _ h9 => h9) rfl d_Spot_signOf_9 ?_
  refine x_lconst (z := 1) hx hb d_Spot_signOf_12 (by decide) ?_
  have hx_13 := hB_5.keep (X := [(x, .inr (5, [.ref gu, .ref gl, .ref gs, .int (iI tp), .ref gt, .ref gp, .ref ga, .ref gb])), (ta, .inl (cs 3, 42, .inr (.inr (.inr (.inr gg)))))]) hOk
  obtain ⟨sd_130, n_130, lm_130, c1_130, c2_130, c3_130⟩ := hx_13 gp (hW _ hwp)
  refine x_callv B hA (va_runV (As := [.long (lI 1)]) (rest := []) ⟨hx, hb, hml, hown, hts⟩ (c_Big_put l D cs _ _ _ gp (Qm gp) sd_130 n_130 lm_130 1 (hSp.fc1 (hW _ hwp)) c1_130 c2_130 (by decide)) (cwV 1 hts (gw_V w_405 w_294 w_295 w_3 w_296) rfl rfl rfl (by decide +kernel) ⟨by rw [hRf]; exact Nat.le_of_ble_eq_true rfl, by rw [hRl]; exact Nat.le_of_ble_eq_true rfl⟩) ⟨K0.blind, B.recv (hSp.1 _ ((hW _ hwp))).1 c1_130 rfl, B.pre _⟩ rfl rfl hl.1 rfl (lv_room (Nat.le_of_ble_eq_true rfl)) d_Spot_signOf_13 ⟨by rw [hRc]; omega, by rw [hRs]; omega⟩) (fun g13 H locs hw B => ?_)
  obtain ⟨s_13, n_13, l_13, hz_13, rfl⟩ := hw
  obtain ⟨f_13, hf_13⟩ : ∃ f_13, f_13 = mw (mw f_5 [(x, .inr (5, [.ref gu, .ref gl, .ref gs, .int (iI tp), .ref gt, .ref gp, .ref ga, .ref gb])), (ta, .inl (cs 3, 42, .inr (.inr (.inr (.inr gg)))))]) [(gp, .inr (0, [.int (iI s_13), .int (iI (n_13 : Int)), .ref (Qm gp)])), (Qm gp, .inl (cs 0, 48, .inl (ai l_13)))] := ⟨_, rfl⟩
  have hB_13 : BH cs f_13 S Qm (up ((up Zf gt (0))) gp (1)) := by rw [hf_13]; exact BH.set hSp (hB_5.keep (X := [(x, .inr (5, [.ref gu, .ref gl, .ref gs, .int (iI tp), .ref gt, .ref gp, .ref ga, .ref gb])), (ta, .inl (cs 3, 42, .inr (.inr (.inr (.inr gg)))))]) hOk) (hW _ hwp) hz_13
  have hfr_13 : ∀ k, Out S Qm k → k ∉ ([x, ta] : List Nat) → f_13 k = f_5 k := fun k h1 h2 => by rw [hf_13, mw_out (h1.two (hW _ hwp)), mw_out (X := [(x, .inr (5, [.ref gu, .ref gl, .ref gs, .int (iI tp), .ref gt, .ref gp, .ref ga, .ref gb])), (ta, .inl (cs 3, 42, .inr (.inr (.inr (.inr gg)))))]) h2]
  rw [← hf_13] at B
  have B := B.focus [(x, .inr (5, [.ref gu, .ref gl, .ref gs, .int (iI tp), .ref gt, .ref gp, .ref ga, .ref gb])), (ta, .inl (cs 3, 42, .inr (.inr (.inr (.inr gg)))))] (by rw [hf_13]; exact foc hF.1 (fun k hk => (hOk k hk).two (hW _ hwp)))
  have B : Wb D vwCl (TY cs) L (mw f_13 [(x, .inr (5, [.ref gu, .ref gl, .ref gs, .int (iI tp), .ref gt, .ref gp, .ref ga, .ref gb])), (ta, .inl (cs 3, 42, .inr (.inr (.inr (.inr gg)))))]) (AL L s.heap.size) s H _ := B
  refine lv_iload_n hx hb d_Spot_signOf_16 rfl (lv_at hl 3 rfl) ?_
  refine lv_istore (lv' := [(4, .int (iI ((nn : Int)))), (0, .ref x), (1, .ref ta), (2, .int (iI ((base : Int)))), (3, .int (iI ((nn : Int))))]) hx hb d_Spot_signOf_17 hl (by decide) rfl (fun ls hl => ?_)
  have LP : ∀ (fuel : Nat) (kk : Nat) (f2 : Nat → va_E) (gt : Nat) (gp : Nat) (ga : Nat) (gb : Nat) (Z2 : Nat → Int), kk < fuel → (kk ≤ nn + 1) → (BH cs f2 S Qm Z2) → (Wk gt ∧ Wk gp ∧ Wk ga ∧ Wk gb) → ((gt ≠ gp ∧ gt ≠ ga ∧ gt ≠ gb) ∧ (gp ≠ ga ∧ gp ≠ gb) ∧ ga ≠ gb) → (Z2 gt = hs0 (fun j => Zf (tm (base + j))) nn (Zf gu) (Zf gl) (nn + 1 - kk)) → (0 < kk → Z2 gp = Zf gl ^ (nn + 1 - kk)) → (∀ b, ¬ Wk b → Z2 b = Zf b) → (∀ k, Out S Qm k → k ∉ ([x, ta] : List Nat) → f2 k = f k) → ∀ (H : Heap) (locs : List Loc) (ls : Array Slot), Wb D vwCl (TY cs) L (mw f2 [(x, .inr (5, [.ref gu, .ref gl, .ref gs, .int (iI tp), .ref gt, .ref gp, .ref ga, .ref gb])), (ta, .inl (cs 3, 42, .inr (.inr (.inr (.inr gg)))))]) (AL L s.heap.size) s H locs → lv_has ls 6 [(4, .int (iI ((kk : Int) - 1))), (0, .ref x), (1, .ref ta), (2, .int (iI ((base : Int)))), (3, .int (iI ((nn : Int))))] → W p l e R s m av below meth c H locs (0) (0) Q (F0 m 19 ls []) := by
    intro fuel
    induction fuel with
    | zero => intro kk f2 gt gp ga gb Z2 hfu; exact absurd hfu (Nat.not_lt_zero _)
    | succ fuel ih_LP =>
      intro kk f2 gt gp ga gb Z2 hfu_LP hkk hB2 hWd hne hZt hZp hZo hfr2 H locs ls B hl
      obtain ⟨hwt, hwp, hwa, hwb⟩ := hWd
      have hWd : Wk gt ∧ Wk gp ∧ Wk ga ∧ Wk gb := ⟨hwt, hwp, hwa, hwb⟩
      refine lv_iload hx hb d_Spot_signOf_19 (lv_at hl 0 rfl) ?_
      refine x_if_lt (tgt := 147) hx hb d_Spot_signOf_21 (by decide) (by omega) (fun h21 => ?_) (fun h21 => ?_)
      · have hSt0 := hW gt hwt
        obtain ⟨sd9, n9, lm9, d1, d2, d3⟩ := (hB2.keep (X := [(x, .inr (5, [.ref gu, .ref gl, .ref gs, .int (iI tp), .ref gt, .ref gp, .ref ga, .ref gb])), (ta, .inl (cs 3, 42, .inr (.inr (.inr (.inr gg)))))]) hOk) gt hSt0
        refine lv_aload_n hx hb d_Spot_signOf_147 rfl (lv_at hl 1 rfl) ?_
        refine x_get (C := RX5) (T := TX5) (N := 8) hx hb hts inX5 hown B hF 0 rfl rfl 4 (by decide) (hts _ w_92) (fun _ h9 => h9) rfl d_Spot_signOf_148 ?_
        have hF9 : Fc L [gt, x, ta] := ⟨List.nodup_cons.mpr ⟨fun hm => (hOk gt hm).1 hSt0, hF.1⟩, fun q hq => by rcases List.mem_cons.mp hq with rfl | hq; exact (hSp.1 _ hSt0).1; exact hF.2 q hq⟩
        have B := (B.focus [(gt, .inr (0, [.int (iI sd9), .int (iI (n9 : Int)), .ref (Qm gt)]))] (fun p hp => by rw [List.mem_singleton.mp hp]; exact d1)).of_eq (mw_app _ _ _)
        have d0 : f2 gt = .inr (0, [.int (iI sd9), .int (iI (n9 : Int)), .ref (Qm gt)]) := (mw_out (f := f2) (X := [(x, .inr (5, [.ref gu, .ref gl, .ref gs, .int (iI tp), .ref gt, .ref gp, .ref ga, .ref gb])), (ta, .inl (cs 3, 42, .inr (.inr (.inr (.inr gg)))))]) (fun hm => (hOk gt hm).1 hSt0)).symm.trans d1
        have hdr : mw f2 [(gt, .inr (0, [.int (iI sd9), .int (iI ((n9 : Int))), .ref ((Qm gt))])), (x, .inr (5, [.ref gu, .ref gl, .ref gs, .int (iI tp), .ref gt, .ref gp, .ref ga, .ref gb])), (ta, .inl (cs 3, 42, .inr (.inr (.inr (.inr gg)))))] = mw f2 [(x, .inr (5, [.ref gu, .ref gl, .ref gs, .int (iI tp), .ref gt, .ref gp, .ref ga, .ref gb])), (ta, .inl (cs 3, 42, .inr (.inr (.inr (.inr gg)))))] := mw_drop (f := f2) (X := [(x, .inr (5, [.ref gu, .ref gl, .ref gs, .int (iI tp), .ref gt, .ref gp, .ref ga, .ref gb])), (ta, .inl (cs 3, 42, .inr (.inr (.inr (.inr gg)))))]) d0 (fun hm => (hOk gt hm).1 hSt0)
        have hF := hF9
        have B : Wb D vwCl (TY cs) L (mw f2 [(gt, .inr (0, [.int (iI sd9), .int (iI ((n9 : Int))), .ref ((Qm gt))])), (x, .inr (5, [.ref gu, .ref gl, .ref gs, .int (iI tp), .ref gt, .ref gp, .ref ga, .ref gb])), (ta, .inl (cs 3, 42, .inr (.inr (.inr (.inr gg)))))]) (AL L s.heap.size) s H _ := B
        refine x_get (C := RX0) (T := TX0) (N := 3) hx hb hts inX0 hown B hF 0 rfl rfl 0 (by decide) (hts _ w_41) (fun _ h9 => h9) rfl d_Spot_signOf_151 ?_
        subst hQ hav
        exact x_iret hx hb hr hlocks B d_Spot_signOf_154 (⟨gt, gp, ga, gb, Z2, by rw [d3.2.2.2.2.1, hZt, show nn + 1 - kk = nn + 1 by omega]; rfl, by rw [hZt, show nn + 1 - kk = nn + 1 by omega]; rfl, hWd, hne, hZo, by rw [hdr]; exact hB2.keep (X := [(x, .inr (5, [.ref gu, .ref gl, .ref gs, .int (iI tp), .ref gt, .ref gp, .ref ga, .ref gb])), (ta, .inl (cs 3, 42, .inr (.inr (.inr (.inr gg)))))]) hOk, fun k h1 h2 => by rw [hdr, mw_out (X := [(x, .inr (5, [.ref gu, .ref gl, .ref gs, .int (iI tp), .ref gt, .ref gp, .ref ga, .ref gb])), (ta, .inl (cs 3, 42, .inr (.inr (.inr (.inr gg)))))]) h2]; exact hfr2 k h1 h2, mw_get (X := [(gt, .inr (0, [.int (iI sd9), .int (iI ((n9 : Int))), .ref ((Qm gt))])), (x, .inr (5, [.ref gu, .ref gl, .ref gs, .int (iI tp), .ref gt, .ref gp, .ref ga, .ref gb])), (ta, .inl (cs 3, 42, .inr (.inr (.inr (.inr gg)))))]) hF.1 (k := 1) rfl, mw_get (X := [(gt, .inr (0, [.int (iI sd9), .int (iI ((n9 : Int))), .ref ((Qm gt))])), (x, .inr (5, [.ref gu, .ref gl, .ref gs, .int (iI tp), .ref gt, .ref gp, .ref ga, .ref gb])), (ta, .inl (cs 3, 42, .inr (.inr (.inr (.inr gg)))))]) hF.1 (k := 2) rfl⟩)
      · refine lv_iload_n hx hb d_Spot_signOf_24 rfl (lv_at hl 3 rfl) ?_
        refine x_if_lt (tgt := 147) hx hb d_Spot_signOf_25 (by decide) (by omega) (fun h25 => ?_) (fun h25 => ?_)
        · have hSt0 := hW gt hwt
          obtain ⟨sd9, n9, lm9, d1, d2, d3⟩ := (hB2.keep (X := [(x, .inr (5, [.ref gu, .ref gl, .ref gs, .int (iI tp), .ref gt, .ref gp, .ref ga, .ref gb])), (ta, .inl (cs 3, 42, .inr (.inr (.inr (.inr gg)))))]) hOk) gt hSt0
          refine lv_aload_n hx hb d_Spot_signOf_147 rfl (lv_at hl 1 rfl) ?_
          refine x_get (C := RX5) (T := TX5) (N := 8) hx hb hts inX5 hown B hF 0 rfl rfl 4 (by decide) (hts _ w_92) (fun _ h9 => h9) rfl d_Spot_signOf_148 ?_
          have hF9 : Fc L [gt, x, ta] := ⟨List.nodup_cons.mpr ⟨fun hm => (hOk gt hm).1 hSt0, hF.1⟩, fun q hq => by rcases List.mem_cons.mp hq with rfl | hq; exact (hSp.1 _ hSt0).1; exact hF.2 q hq⟩
          have B := (B.focus [(gt, .inr (0, [.int (iI sd9), .int (iI (n9 : Int)), .ref (Qm gt)]))] (fun p hp => by rw [List.mem_singleton.mp hp]; exact d1)).of_eq (mw_app _ _ _)
          have d0 : f2 gt = .inr (0, [.int (iI sd9), .int (iI (n9 : Int)), .ref (Qm gt)]) := (mw_out (f := f2) (X := [(x, .inr (5, [.ref gu, .ref gl, .ref gs, .int (iI tp), .ref gt, .ref gp, .ref ga, .ref gb])), (ta, .inl (cs 3, 42, .inr (.inr (.inr (.inr gg)))))]) (fun hm => (hOk gt hm).1 hSt0)).symm.trans d1
          have hdr : mw f2 [(gt, .inr (0, [.int (iI sd9), .int (iI ((n9 : Int))), .ref ((Qm gt))])), (x, .inr (5, [.ref gu, .ref gl, .ref gs, .int (iI tp), .ref gt, .ref gp, .ref ga, .ref gb])), (ta, .inl (cs 3, 42, .inr (.inr (.inr (.inr gg)))))] = mw f2 [(x, .inr (5, [.ref gu, .ref gl, .ref gs, .int (iI tp), .ref gt, .ref gp, .ref ga, .ref gb])), (ta, .inl (cs 3, 42, .inr (.inr (.inr (.inr gg)))))] := mw_drop (f := f2) (X := [(x, .inr (5, [.ref gu, .ref gl, .ref gs, .int (iI tp), .ref gt, .ref gp, .ref ga, .ref gb])), (ta, .inl (cs 3, 42, .inr (.inr (.inr (.inr gg)))))]) d0 (fun hm => (hOk gt hm).1 hSt0)
          have hF := hF9
          have B : Wb D vwCl (TY cs) L (mw f2 [(gt, .inr (0, [.int (iI sd9), .int (iI ((n9 : Int))), .ref ((Qm gt))])), (x, .inr (5, [.ref gu, .ref gl, .ref gs, .int (iI tp), .ref gt, .ref gp, .ref ga, .ref gb])), (ta, .inl (cs 3, 42, .inr (.inr (.inr (.inr gg)))))]) (AL L s.heap.size) s H _ := B
          refine x_get (C := RX0) (T := TX0) (N := 3) hx hb hts inX0 hown B hF 0 rfl rfl 0 (by decide) (hts _ w_41) (fun _ h9 => h9) rfl d_Spot_signOf_151 ?_
          subst hQ hav
          exact x_iret hx hb hr hlocks B d_Spot_signOf_154 (⟨gt, gp, ga, gb, Z2, by rw [d3.2.2.2.2.1, hZt, show nn + 1 - kk = nn + 1 by omega]; rfl, by rw [hZt, show nn + 1 - kk = nn + 1 by omega]; rfl, hWd, hne, hZo, by rw [hdr]; exact hB2.keep (X := [(x, .inr (5, [.ref gu, .ref gl, .ref gs, .int (iI tp), .ref gt, .ref gp, .ref ga, .ref gb])), (ta, .inl (cs 3, 42, .inr (.inr (.inr (.inr gg)))))]) hOk, fun k h1 h2 => by rw [hdr, mw_out (X := [(x, .inr (5, [.ref gu, .ref gl, .ref gs, .int (iI tp), .ref gt, .ref gp, .ref ga, .ref gb])), (ta, .inl (cs 3, 42, .inr (.inr (.inr (.inr gg)))))]) h2]; exact hfr2 k h1 h2, mw_get (X := [(gt, .inr (0, [.int (iI sd9), .int (iI ((n9 : Int))), .ref ((Qm gt))])), (x, .inr (5, [.ref gu, .ref gl, .ref gs, .int (iI tp), .ref gt, .ref gp, .ref ga, .ref gb])), (ta, .inl (cs 3, 42, .inr (.inr (.inr (.inr gg)))))]) hF.1 (k := 1) rfl, mw_get (X := [(gt, .inr (0, [.int (iI sd9), .int (iI ((n9 : Int))), .ref ((Qm gt))])), (x, .inr (5, [.ref gu, .ref gl, .ref gs, .int (iI tp), .ref gt, .ref gp, .ref ga, .ref gb])), (ta, .inl (cs 3, 42, .inr (.inr (.inr (.inr gg)))))]) hF.1 (k := 2) rfl⟩)
        · refine lv_iload_n hx hb d_Spot_signOf_28 rfl (lv_at hl 3 rfl) ?_
          refine lv_iload hx hb d_Spot_signOf_29 (lv_at hl 0 rfl) ?_
          refine x_iadd hx hb d_Spot_signOf_31 ?_
          refine lv_aload_n hx hb d_Spot_signOf_32 rfl (lv_at hl 2 rfl) ?_
          refine x_alen hx hb B hF 1 3 rfl rfl d_Spot_signOf_33 ?_
          refine x_icmp_ge (tgt := 147) hx hb d_Spot_signOf_34 (by decide) (by omega) (by omega) (fun h34 => ?_) (fun h34 => ?_)
          · have hSt0 := hW gt hwt
            obtain ⟨sd9, n9, lm9, d1, d2, d3⟩ := (hB2.keep (X := [(x, .inr (5, [.ref gu, .ref gl, .ref gs, .int (iI tp), .ref gt, .ref gp, .ref ga, .ref gb])), (ta, .inl (cs 3, 42, .inr (.inr (.inr (.inr gg)))))]) hOk) gt hSt0
            refine lv_aload_n hx hb d_Spot_signOf_147 rfl (lv_at hl 1 rfl) ?_
            refine x_get (C := RX5) (T := TX5) (N := 8) hx hb hts inX5 hown B hF 0 rfl rfl 4 (by decide) (hts _ w_92) (fun _ h9 => h9) rfl d_Spot_signOf_148 ?_
            have hF9 : Fc L [gt, x, ta] := ⟨List.nodup_cons.mpr ⟨fun hm => (hOk gt hm).1 hSt0, hF.1⟩, fun q hq => by rcases List.mem_cons.mp hq with rfl | hq; exact (hSp.1 _ hSt0).1; exact hF.2 q hq⟩
            have B := (B.focus [(gt, .inr (0, [.int (iI sd9), .int (iI (n9 : Int)), .ref (Qm gt)]))] (fun p hp => by rw [List.mem_singleton.mp hp]; exact d1)).of_eq (mw_app _ _ _)
            have d0 : f2 gt = .inr (0, [.int (iI sd9), .int (iI (n9 : Int)), .ref (Qm gt)]) := (mw_out (f := f2) (X := [(x, .inr (5, [.ref gu, .ref gl, .ref gs, .int (iI tp), .ref gt, .ref gp, .ref ga, .ref gb])), (ta, .inl (cs 3, 42, .inr (.inr (.inr (.inr gg)))))]) (fun hm => (hOk gt hm).1 hSt0)).symm.trans d1
            have hdr : mw f2 [(gt, .inr (0, [.int (iI sd9), .int (iI ((n9 : Int))), .ref ((Qm gt))])), (x, .inr (5, [.ref gu, .ref gl, .ref gs, .int (iI tp), .ref gt, .ref gp, .ref ga, .ref gb])), (ta, .inl (cs 3, 42, .inr (.inr (.inr (.inr gg)))))] = mw f2 [(x, .inr (5, [.ref gu, .ref gl, .ref gs, .int (iI tp), .ref gt, .ref gp, .ref ga, .ref gb])), (ta, .inl (cs 3, 42, .inr (.inr (.inr (.inr gg)))))] := mw_drop (f := f2) (X := [(x, .inr (5, [.ref gu, .ref gl, .ref gs, .int (iI tp), .ref gt, .ref gp, .ref ga, .ref gb])), (ta, .inl (cs 3, 42, .inr (.inr (.inr (.inr gg)))))]) d0 (fun hm => (hOk gt hm).1 hSt0)
            have hF := hF9
            have B : Wb D vwCl (TY cs) L (mw f2 [(gt, .inr (0, [.int (iI sd9), .int (iI ((n9 : Int))), .ref ((Qm gt))])), (x, .inr (5, [.ref gu, .ref gl, .ref gs, .int (iI tp), .ref gt, .ref gp, .ref ga, .ref gb])), (ta, .inl (cs 3, 42, .inr (.inr (.inr (.inr gg)))))]) (AL L s.heap.size) s H _ := B
            refine x_get (C := RX0) (T := TX0) (N := 3) hx hb hts inX0 hown B hF 0 rfl rfl 0 (by decide) (hts _ w_41) (fun _ h9 => h9) rfl d_Spot_signOf_151 ?_
            subst hQ hav
            exact x_iret hx hb hr hlocks B d_Spot_signOf_154 (⟨gt, gp, ga, gb, Z2, by rw [d3.2.2.2.2.1, hZt, show nn + 1 - kk = nn + 1 by omega]; rfl, by rw [hZt, show nn + 1 - kk = nn + 1 by omega]; rfl, hWd, hne, hZo, by rw [hdr]; exact hB2.keep (X := [(x, .inr (5, [.ref gu, .ref gl, .ref gs, .int (iI tp), .ref gt, .ref gp, .ref ga, .ref gb])), (ta, .inl (cs 3, 42, .inr (.inr (.inr (.inr gg)))))]) hOk, fun k h1 h2 => by rw [hdr, mw_out (X := [(x, .inr (5, [.ref gu, .ref gl, .ref gs, .int (iI tp), .ref gt, .ref gp, .ref ga, .ref gb])), (ta, .inl (cs 3, 42, .inr (.inr (.inr (.inr gg)))))]) h2]; exact hfr2 k h1 h2, mw_get (X := [(gt, .inr (0, [.int (iI sd9), .int (iI ((n9 : Int))), .ref ((Qm gt))])), (x, .inr (5, [.ref gu, .ref gl, .ref gs, .int (iI tp), .ref gt, .ref gp, .ref ga, .ref gb])), (ta, .inl (cs 3, 42, .inr (.inr (.inr (.inr gg)))))]) hF.1 (k := 1) rfl, mw_get (X := [(gt, .inr (0, [.int (iI sd9), .int (iI ((n9 : Int))), .ref ((Qm gt))])), (x, .inr (5, [.ref gu, .ref gl, .ref gs, .int (iI tp), .ref gt, .ref gp, .ref ga, .ref gb])), (ta, .inl (cs 3, 42, .inr (.inr (.inr (.inr gg)))))]) hF.1 (k := 2) rfl⟩)
          · obtain ⟨⟨e1, e2, e3⟩, ⟨e4, e5⟩, e6⟩ := hne
            have hne : (gt ≠ gp ∧ gt ≠ ga ∧ gt ≠ gb) ∧ (gp ≠ ga ∧ gp ≠ gb) ∧ ga ≠ gb := ⟨⟨e1, e2, e3⟩, ⟨e4, e5⟩, e6⟩
            obtain ⟨tt, htt⟩ : ∃ tt, tt = tm (base + (kk - 1)) := ⟨_, rfl⟩
            have hSt : S tt := by rw [htt]; exact (hT _ (by omega)).1
            have hnt : ¬ Wk tt := by rw [htt]; exact (hT _ (by omega)).2
            have hgg : gg (base + (kk - 1)) = some tt := by rw [htt]; exact hG _ (by omega)
            have n_ttgt : tt ≠ gt := ne_of_not hnt hwt
            have n_ttgp : tt ≠ gp := ne_of_not hnt hwp
            have n_ttga : tt ≠ ga := ne_of_not hnt hwa
            have n_ttgb : tt ≠ gb := ne_of_not hnt hwb
            have n_gugt : gu ≠ gt := ne_of_not hnu hwt
            have n_gugp : gu ≠ gp := ne_of_not hnu hwp
            have n_guga : gu ≠ ga := ne_of_not hnu hwa
            have n_gugb : gu ≠ gb := ne_of_not hnu hwb
            have n_glgt : gl ≠ gt := ne_of_not hnl hwt
            have n_glgp : gl ≠ gp := ne_of_not hnl hwp
            have n_glga : gl ≠ ga := ne_of_not hnl hwa
            have n_glgb : gl ≠ gb := ne_of_not hnl hwb
            have hZtt : Z2 tt = (fun j => Zf (tm (base + j))) (nn - (nn + 1 - kk)) := by rw [hZo _ hnt, htt, show nn - (nn + 1 - kk) = kk - 1 by omega]
            have hZu : Z2 gu = Zf gu := hZo _ hnu
            have hZl : Z2 gl = Zf gl := hZo _ hnl
            have hZp := hZp (by omega)
            obtain ⟨r1, r2, r3, r4⟩ := hroom (nn + 1 - kk) (by omega)
            have hnx := hs0_next (fun j => Zf (tm (base + j))) nn (Zf gu) (Zf gl) (nn + 1 - kk) (by omega)
            refine lv_aload_n hx hb d_Spot_signOf_37 rfl (lv_at hl 1 rfl) ?_
            refine x_get (C := RX5) (T := TX5) (N := 8) hx hb hts inX5 hown B hF 0 rfl rfl 6 (by decide) (hts _ w_95) (fun _ h9 => h9) rfl d_Spot_signOf_38 ?_
            refine lv_aload_n hx hb d_Spot_signOf_41 rfl (lv_at hl 1 rfl) ?_
            refine x_get (C := RX5) (T := TX5) (N := 8) hx hb hts inX5 hown B hF 0 rfl rfl 4 (by decide) (hts _ w_92) (fun _ h9 => h9) rfl d_Spot_signOf_42 ?_
            refine lv_aload_n hx hb d_Spot_signOf_45 rfl (lv_at hl 1 rfl) ?_
            refine x_get (C := RX5) (T := TX5) (N := 8) hx hb hts inX5 hown B hF 0 rfl rfl 0 (by decide) (hts _ w_84) (fun _ h9 => h9) rfl d_Spot_signOf_46 ?_
            have hx_49 := hB2.keep (X := [(x, .inr (5, [.ref gu, .ref gl, .ref gs, .int (iI tp), .ref gt, .ref gp, .ref ga, .ref gb])), (ta, .inl (cs 3, 42, .inr (.inr (.inr (.inr gg)))))]) hOk
            obtain ⟨sd_490, n_490, lm_490, c1_490, c2_490, c3_490⟩ := hx_49 ga (hW _ hwa)
            obtain ⟨sd_491, n_491, lm_491, c1_491, c2_491, c3_491⟩ := hx_49 gt (hW _ hwt)
            obtain ⟨sd_492, n_492, lm_492, c1_492, c2_492, c3_492⟩ := hx_49 gu hSu
            refine x_callv B hA (va_runV (As := [.ref gt, .ref gu]) (rest := []) ⟨hx, hb, hml, hown, hts⟩ (c_Big_product l D cs _ _ _ ga (Qm ga) sd_490 n_490 lm_490 gt (Qm gt) sd_491 n_491 lm_491 (Z2 gt) gu (Qm gu) sd_492 n_492 lm_492 (Z2 gu)  (hSp.fc3 (hW _ hwa) (hW _ hwt) hSu (Ne.symm e2) (Ne.symm n_guga) (Ne.symm n_gugt)) c1_490 c2_490 c1_491 c2_491 c3_491 c1_492 c2_492 c3_492 (by rw [hZt, hZu]; exact r1)) (cwV 2 hts (gw_V w_414 w_307 w_308 w_3 w_309) rfl rfl rfl (by decide +kernel) ⟨by rw [hRf]; exact Nat.le_of_ble_eq_true rfl, by rw [hRl]; exact Nat.le_of_ble_eq_true rfl⟩) ⟨K0.blind, B.recv (hSp.1 _ ((hW _ hwa))).1 c1_490 rfl, B.pre _⟩ rfl rfl hl.1 rfl (lv_room (Nat.le_of_ble_eq_true rfl)) d_Spot_signOf_49 ⟨by rw [hRc]; omega, by rw [hRs]; omega⟩) (fun g49 H locs hw B => ?_)
            obtain ⟨s_49, n_49, l_49, hz_49, rfl⟩ := hw
            obtain ⟨f_49, hf_49⟩ : ∃ f_49, f_49 = mw (mw f2 [(x, .inr (5, [.ref gu, .ref gl, .ref gs, .int (iI tp), .ref gt, .ref gp, .ref ga, .ref gb])), (ta, .inl (cs 3, 42, .inr (.inr (.inr (.inr gg)))))]) [(ga, .inr (0, [.int (iI s_49), .int (iI (n_49 : Int)), .ref (Qm ga)])), (Qm ga, .inl (cs 0, 48, .inl (ai l_49)))] := ⟨_, rfl⟩
            have hB_49 : BH cs f_49 S Qm (up Z2 ga (Z2 gt * Z2 gu)) := by rw [hf_49]; exact BH.set hSp (hB2.keep (X := [(x, .inr (5, [.ref gu, .ref gl, .ref gs, .int (iI tp), .ref gt, .ref gp, .ref ga, .ref gb])), (ta, .inl (cs 3, 42, .inr (.inr (.inr (.inr gg)))))]) hOk) (hW _ hwa) hz_49
            have hfr_49 : ∀ k, Out S Qm k → k ∉ ([x, ta] : List Nat) → f_49 k = f2 k := fun k h1 h2 => by rw [hf_49, mw_out (h1.two (hW _ hwa)), mw_out (X := [(x, .inr (5, [.ref gu, .ref gl, .ref gs, .int (iI tp), .ref gt, .ref gp, .ref ga, .ref gb])), (ta, .inl (cs 3, 42, .inr (.inr (.inr (.inr gg)))))]) h2]
            rw [← hf_49] at B
            have B := B.focus [(x, .inr (5, [.ref gu, .ref gl, .ref gs, .int (iI tp), .ref gt, .ref gp, .ref ga, .ref gb])), (ta, .inl (cs 3, 42, .inr (.inr (.inr (.inr gg)))))] (by rw [hf_49]; exact foc hF.1 (fun k hk => (hOk k hk).two (hW _ hwa)))
            have B : Wb D vwCl (TY cs) L (mw f_49 [(x, .inr (5, [.ref gu, .ref gl, .ref gs, .int (iI tp), .ref gt, .ref gp, .ref ga, .ref gb])), (ta, .inl (cs 3, 42, .inr (.inr (.inr (.inr gg)))))]) (AL L s.heap.size) s H _ := B
            refine lv_aload_n hx hb d_Spot_signOf_52 rfl (lv_at hl 1 rfl) ?_
            refine x_get (C := RX5) (T := TX5) (N := 8) hx hb hts inX5 hown B hF 0 rfl rfl 7 (by decide) (hts _ w_96) (fun _ h9 => h9) rfl d_Spot_signOf_53 ?_
            refine lv_aload_n hx hb d_Spot_signOf_56 rfl (lv_at hl 2 rfl) ?_
            refine lv_iload_n hx hb d_Spot_signOf_57 rfl (lv_at hl 3 rfl) ?_
            refine lv_iload hx hb d_Spot_signOf_58 (lv_at hl 0 rfl) ?_
            refine x_iadd hx hb d_Spot_signOf_60 ?_
            refine x_aald hx hb B hF 1 3 rfl rfl (base + (kk - 1)) (by omega) (by omega) (by decide) (hgg) d_Spot_signOf_61 ?_
            refine lv_aload_n hx hb d_Spot_signOf_62 rfl (lv_at hl 1 rfl) ?_
            refine x_get (C := RX5) (T := TX5) (N := 8) hx hb hts inX5 hown B hF 0 rfl rfl 5 (by decide) (hts _ w_94) (fun _ h9 => h9) rfl d_Spot_signOf_63 ?_
            have hx_66 := hB_49.keep (X := [(x, .inr (5, [.ref gu, .ref gl, .ref gs, .int (iI tp), .ref gt, .ref gp, .ref ga, .ref gb])), (ta, .inl (cs 3, 42, .inr (.inr (.inr (.inr gg)))))]) hOk
            obtain ⟨sd_660, n_660, lm_660, c1_660, c2_660, c3_660⟩ := hx_66 gb (hW _ hwb)
            obtain ⟨sd_661, n_661, lm_661, c1_661, c2_661, c3_661⟩ := hx_66 tt hSt
            obtain ⟨sd_662, n_662, lm_662, c1_662, c2_662, c3_662⟩ := hx_66 gp (hW _ hwp)
            refine x_callv B hA (va_runV (As := [.ref tt, .ref gp]) (rest := []) ⟨hx, hb, hml, hown, hts⟩ (c_Big_product l D cs _ _ _ gb (Qm gb) sd_660 n_660 lm_660 tt (Qm tt) sd_661 n_661 lm_661 ((up Z2 ga (Z2 gt * Z2 gu)) tt) gp (Qm gp) sd_662 n_662 lm_662 ((up Z2 ga (Z2 gt * Z2 gu)) gp)  (hSp.fc3 (hW _ hwb) hSt (hW _ hwp) (Ne.symm n_ttgb) (Ne.symm e5) n_ttgp) c1_660 c2_660 c1_661 c2_661 c3_661 c1_662 c2_662 c3_662 (by rw [up_ne _ _ n_ttga, up_ne _ _ e4, hZtt, hZp]; exact r2)) (cwV 2 hts (gw_V w_414 w_307 w_308 w_3 w_309) rfl rfl rfl (by decide +kernel) ⟨by rw [hRf]; exact Nat.le_of_ble_eq_true rfl, by rw [hRl]; exact Nat.le_of_ble_eq_true rfl⟩) ⟨K0.blind, B.recv (hSp.1 _ ((hW _ hwb))).1 c1_660 rfl, B.pre _⟩ rfl rfl hl.1 rfl (lv_room (Nat.le_of_ble_eq_true rfl)) d_Spot_signOf_66 ⟨by rw [hRc]; omega, by rw [hRs]; omega⟩) (fun g66 H locs hw B => ?_)
            obtain ⟨s_66, n_66, l_66, hz_66, rfl⟩ := hw
            obtain ⟨f_66, hf_66⟩ : ∃ f_66, f_66 = mw (mw f_49 [(x, .inr (5, [.ref gu, .ref gl, .ref gs, .int (iI tp), .ref gt, .ref gp, .ref ga, .ref gb])), (ta, .inl (cs 3, 42, .inr (.inr (.inr (.inr gg)))))]) [(gb, .inr (0, [.int (iI s_66), .int (iI (n_66 : Int)), .ref (Qm gb)])), (Qm gb, .inl (cs 0, 48, .inl (ai l_66)))] := ⟨_, rfl⟩
            have hB_66 : BH cs f_66 S Qm (up ((up Z2 ga (Z2 gt * Z2 gu))) gb ((up Z2 ga (Z2 gt * Z2 gu)) tt * (up Z2 ga (Z2 gt * Z2 gu)) gp)) := by rw [hf_66]; exact BH.set hSp (hB_49.keep (X := [(x, .inr (5, [.ref gu, .ref gl, .ref gs, .int (iI tp), .ref gt, .ref gp, .ref ga, .ref gb])), (ta, .inl (cs 3, 42, .inr (.inr (.inr (.inr gg)))))]) hOk) (hW _ hwb) hz_66
            have hfr_66 : ∀ k, Out S Qm k → k ∉ ([x, ta] : List Nat) → f_66 k = f_49 k := fun k h1 h2 => by rw [hf_66, mw_out (h1.two (hW _ hwb)), mw_out (X := [(x, .inr (5, [.ref gu, .ref gl, .ref gs, .int (iI tp), .ref gt, .ref gp, .ref ga, .ref gb])), (ta, .inl (cs 3, 42, .inr (.inr (.inr (.inr gg)))))]) h2]
            rw [← hf_66] at B
            have B := B.focus [(x, .inr (5, [.ref gu, .ref gl, .ref gs, .int (iI tp), .ref gt, .ref gp, .ref ga, .ref gb])), (ta, .inl (cs 3, 42, .inr (.inr (.inr (.inr gg)))))] (by rw [hf_66]; exact foc hF.1 (fun k hk => (hOk k hk).two (hW _ hwb)))
            have B : Wb D vwCl (TY cs) L (mw f_66 [(x, .inr (5, [.ref gu, .ref gl, .ref gs, .int (iI tp), .ref gt, .ref gp, .ref ga, .ref gb])), (ta, .inl (cs 3, 42, .inr (.inr (.inr (.inr gg)))))]) (AL L s.heap.size) s H _ := B
            refine lv_aload_n hx hb d_Spot_signOf_69 rfl (lv_at hl 1 rfl) ?_
            refine x_get (C := RX5) (T := TX5) (N := 8) hx hb hts inX5 hown B hF 0 rfl rfl 6 (by decide) (hts _ w_95) (fun _ h9 => h9) rfl d_Spot_signOf_70 ?_
            refine lv_aload_n hx hb d_Spot_signOf_73 rfl (lv_at hl 1 rfl) ?_
            refine x_get (C := RX5) (T := TX5) (N := 8) hx hb hts inX5 hown B hF 0 rfl rfl 7 (by decide) (hts _ w_96) (fun _ h9 => h9) rfl d_Spot_signOf_74 ?_
            refine x_iconst hx hb d_Spot_signOf_77 ?_
            have z4a : (up (up Z2 ga (Z2 gt * Z2 gu)) gb ((up Z2 ga (Z2 gt * Z2 gu)) tt * (up Z2 ga (Z2 gt * Z2 gu)) gp)) ga = hs0 (fun j => Zf (tm (base + j))) nn (Zf gu) (Zf gl) (nn + 1 - kk) * Zf gu := by rw [up_ne _ _ e6, up_self, hZt, hZu]
            have z4b : (up (up Z2 ga (Z2 gt * Z2 gu)) gb ((up Z2 ga (Z2 gt * Z2 gu)) tt * (up Z2 ga (Z2 gt * Z2 gu)) gp)) gb = (fun j => Zf (tm (base + j))) (nn - (nn + 1 - kk)) * Zf gl ^ (nn + 1 - kk) := by rw [up_self, up_ne _ _ n_ttga, up_ne _ _ e4, hZtt, hZp]
            have hx_78 := hB_66.keep (X := [(x, .inr (5, [.ref gu, .ref gl, .ref gs, .int (iI tp), .ref gt, .ref gp, .ref ga, .ref gb])), (ta, .inl (cs 3, 42, .inr (.inr (.inr (.inr gg)))))]) hOk
            obtain ⟨sd_780, n_780, lm_780, c1_780, c2_780, c3_780⟩ := hx_78 ga (hW _ hwa)
            obtain ⟨sd_781, n_781, lm_781, c1_781, c2_781, c3_781⟩ := hx_78 gb (hW _ hwb)
            refine x_callv B hA (va_runV (As := [.ref gb, .int (iI 1)]) (rest := []) ⟨hx, hb, hml, hown, hts⟩ (c_Big_add l D cs _ _ _ ga (Qm ga) sd_780 n_780 lm_780 ((up ((up Z2 ga (Z2 gt * Z2 gu))) gb ((up Z2 ga (Z2 gt * Z2 gu)) tt * (up Z2 ga (Z2 gt * Z2 gu)) gp)) ga) gb (Qm gb) sd_781 n_781 lm_781 ((up ((up Z2 ga (Z2 gt * Z2 gu))) gb ((up Z2 ga (Z2 gt * Z2 gu)) tt * (up Z2 ga (Z2 gt * Z2 gu)) gp)) gb) 1 (hSp.fc2 (hW _ hwa) (hW _ hwb) e6) c1_780 c2_780 c3_780 c1_781 c2_781 c3_781 (Or.inl rfl) (by rw [z4a, z4b]; exact r3)) (cwV 2 hts (gw_V w_415 w_311 w_312 w_3 w_313) rfl rfl rfl (by decide +kernel) ⟨by rw [hRf]; exact Nat.le_of_ble_eq_true rfl, by rw [hRl]; exact Nat.le_of_ble_eq_true rfl⟩) ⟨K0.blind, B.recv (hSp.1 _ ((hW _ hwa))).1 c1_780 rfl, B.pre _⟩ rfl rfl hl.1 rfl (lv_room (Nat.le_of_ble_eq_true rfl)) d_Spot_signOf_78 ⟨by rw [hRc]; omega, by rw [hRs]; omega⟩) (fun g78 H locs hw B => ?_)
            obtain ⟨s_78, n_78, l_78, hz_78, rfl⟩ := hw
            obtain ⟨f_78, hf_78⟩ : ∃ f_78, f_78 = mw (mw f_66 [(x, .inr (5, [.ref gu, .ref gl, .ref gs, .int (iI tp), .ref gt, .ref gp, .ref ga, .ref gb])), (ta, .inl (cs 3, 42, .inr (.inr (.inr (.inr gg)))))]) [(ga, .inr (0, [.int (iI s_78), .int (iI (n_78 : Int)), .ref (Qm ga)])), (Qm ga, .inl (cs 0, 48, .inl (ai l_78)))] := ⟨_, rfl⟩
            have hB_78 : BH cs f_78 S Qm (up ((up ((up Z2 ga (Z2 gt * Z2 gu))) gb ((up Z2 ga (Z2 gt * Z2 gu)) tt * (up Z2 ga (Z2 gt * Z2 gu)) gp))) ga ((up (up Z2 ga (Z2 gt * Z2 gu)) gb ((up Z2 ga (Z2 gt * Z2 gu)) tt * (up Z2 ga (Z2 gt * Z2 gu)) gp)) ga + 1 * (up (up Z2 ga (Z2 gt * Z2 gu)) gb ((up Z2 ga (Z2 gt * Z2 gu)) tt * (up Z2 ga (Z2 gt * Z2 gu)) gp)) gb)) := by rw [hf_78]; exact BH.set hSp (hB_66.keep (X := [(x, .inr (5, [.ref gu, .ref gl, .ref gs, .int (iI tp), .ref gt, .ref gp, .ref ga, .ref gb])), (ta, .inl (cs 3, 42, .inr (.inr (.inr (.inr gg)))))]) hOk) (hW _ hwa) hz_78
            have hfr_78 : ∀ k, Out S Qm k → k ∉ ([x, ta] : List Nat) → f_78 k = f_66 k := fun k h1 h2 => by rw [hf_78, mw_out (h1.two (hW _ hwa)), mw_out (X := [(x, .inr (5, [.ref gu, .ref gl, .ref gs, .int (iI tp), .ref gt, .ref gp, .ref ga, .ref gb])), (ta, .inl (cs 3, 42, .inr (.inr (.inr (.inr gg)))))]) h2]
            rw [← hf_78] at B
            have B := B.focus [(x, .inr (5, [.ref gu, .ref gl, .ref gs, .int (iI tp), .ref gt, .ref gp, .ref ga, .ref gb])), (ta, .inl (cs 3, 42, .inr (.inr (.inr (.inr gg)))))] (by rw [hf_78]; exact foc hF.1 (fun k hk => (hOk k hk).two (hW _ hwa)))
            have B : Wb D vwCl (TY cs) L (mw f_78 [(x, .inr (5, [.ref gu, .ref gl, .ref gs, .int (iI tp), .ref gt, .ref gp, .ref ga, .ref gb])), (ta, .inl (cs 3, 42, .inr (.inr (.inr (.inr gg)))))]) (AL L s.heap.size) s H _ := B
            refine lv_aload_n hx hb d_Spot_signOf_81 rfl (lv_at hl 1 rfl) ?_
            refine x_get (C := RX5) (T := TX5) (N := 8) hx hb hts inX5 hown B hF 0 rfl rfl 4 (by decide) (hts _ w_92) (fun _ h9 => h9) rfl d_Spot_signOf_82 ?_
            refine lv_astore (lv' := [(5, .ref gt), (4, .int (iI ((kk : Int) - 1))), (0, .ref x), (1, .ref ta), (2, .int (iI ((base : Int)))), (3, .int (iI ((nn : Int))))]) hx hb d_Spot_signOf_85 hl (by decide) rfl (fun ls hl => ?_)
            refine lv_aload_n hx hb d_Spot_signOf_87 rfl (lv_at hl 2 rfl) ?_
            refine lv_aload_n hx hb d_Spot_signOf_88 rfl (lv_at hl 2 rfl) ?_
            refine x_get (C := RX5) (T := TX5) (N := 8) hx hb hts inX5 hown B hF 0 rfl rfl 6 (by decide) (hts _ w_95) (fun _ h9 => h9) rfl d_Spot_signOf_89 ?_
            refine x_put (C := RX5) (T := TX5) (N := 8) hx hb hts inX5 tyX5 tyX5_ok nmX5 hown B hF 0 rfl rfl 4 (by decide) (hts _ w_92) (fun _ h9 => h9) rfl (tyX5_ok 4 (by decide)) rfl rfl (Nat.le_of_ble_eq_true rfl) d_Spot_signOf_92 (fun H locs B => ?_)
            have B : Wb D vwCl (TY cs) L (mw f_78 [(x, .inr (5, [.ref gu, .ref gl, .ref gs, .int (iI tp), .ref ga, .ref gp, .ref ga, .ref gb])), (ta, .inl (cs 3, 42, .inr (.inr (.inr (.inr gg)))))]) (AL L s.heap.size) s H _ := B
            refine lv_aload_n hx hb d_Spot_signOf_95 rfl (lv_at hl 2 rfl) ?_
            refine lv_aload hx hb d_Spot_signOf_96 (lv_at hl 0 rfl) ?_
            refine x_put (C := RX5) (T := TX5) (N := 8) hx hb hts inX5 tyX5 tyX5_ok nmX5 hown B hF 0 rfl rfl 6 (by decide) (hts _ w_95) (fun _ h9 => h9) rfl (tyX5_ok 6 (by decide)) rfl rfl (Nat.le_of_ble_eq_true rfl) d_Spot_signOf_98 (fun H locs B => ?_)
            have B : Wb D vwCl (TY cs) L (mw f_78 [(x, .inr (5, [.ref gu, .ref gl, .ref gs, .int (iI tp), .ref ga, .ref gp, .ref gt, .ref gb])), (ta, .inl (cs 3, 42, .inr (.inr (.inr (.inr gg)))))]) (AL L s.heap.size) s H _ := B
            have z5a : (up (up (up Z2 ga (Z2 gt * Z2 gu)) gb ((up Z2 ga (Z2 gt * Z2 gu)) tt * (up Z2 ga (Z2 gt * Z2 gu)) gp)) ga ((up (up Z2 ga (Z2 gt * Z2 gu)) gb ((up Z2 ga (Z2 gt * Z2 gu)) tt * (up Z2 ga (Z2 gt * Z2 gu)) gp)) ga + 1 * (up (up Z2 ga (Z2 gt * Z2 gu)) gb ((up Z2 ga (Z2 gt * Z2 gu)) tt * (up Z2 ga (Z2 gt * Z2 gu)) gp)) gb)) ga = hs0 (fun j => Zf (tm (base + j))) nn (Zf gu) (Zf gl) (nn + 1 - (kk - 1)) := by rw [up_self, z4a, z4b, show nn + 1 - (kk - 1) = (nn + 1 - kk) + 1 by omega, hnx, Int.one_mul]
            have z5p : (up (up (up Z2 ga (Z2 gt * Z2 gu)) gb ((up Z2 ga (Z2 gt * Z2 gu)) tt * (up Z2 ga (Z2 gt * Z2 gu)) gp)) ga ((up (up Z2 ga (Z2 gt * Z2 gu)) gb ((up Z2 ga (Z2 gt * Z2 gu)) tt * (up Z2 ga (Z2 gt * Z2 gu)) gp)) ga + 1 * (up (up Z2 ga (Z2 gt * Z2 gu)) gb ((up Z2 ga (Z2 gt * Z2 gu)) tt * (up Z2 ga (Z2 gt * Z2 gu)) gp)) gb)) gp = Zf gl ^ (nn + 1 - kk) := by rw [up_ne _ _ e4, up_ne _ _ e5, up_ne _ _ e4]; exact hZp
            have z5l : (up (up (up Z2 ga (Z2 gt * Z2 gu)) gb ((up Z2 ga (Z2 gt * Z2 gu)) tt * (up Z2 ga (Z2 gt * Z2 gu)) gp)) ga ((up (up Z2 ga (Z2 gt * Z2 gu)) gb ((up Z2 ga (Z2 gt * Z2 gu)) tt * (up Z2 ga (Z2 gt * Z2 gu)) gp)) ga + 1 * (up (up Z2 ga (Z2 gt * Z2 gu)) gb ((up Z2 ga (Z2 gt * Z2 gu)) tt * (up Z2 ga (Z2 gt * Z2 gu)) gp)) gb)) gl = Zf gl := by rw [up_ne _ _ n_glga, up_ne _ _ n_glgb, up_ne _ _ n_glga]; exact hZl
            have z5o : ∀ b, ¬ Wk b → (up (up (up Z2 ga (Z2 gt * Z2 gu)) gb ((up Z2 ga (Z2 gt * Z2 gu)) tt * (up Z2 ga (Z2 gt * Z2 gu)) gp)) ga ((up (up Z2 ga (Z2 gt * Z2 gu)) gb ((up Z2 ga (Z2 gt * Z2 gu)) tt * (up Z2 ga (Z2 gt * Z2 gu)) gp)) ga + 1 * (up (up Z2 ga (Z2 gt * Z2 gu)) gb ((up Z2 ga (Z2 gt * Z2 gu)) tt * (up Z2 ga (Z2 gt * Z2 gu)) gp)) gb)) b = Zf b := fun b hb => by rw [up_ne _ _ (ne_of_not hb hwa), up_ne _ _ (ne_of_not hb hwb), up_ne _ _ (ne_of_not hb hwa)]; exact hZo b hb
            refine lv_iload hx hb d_Spot_signOf_101 (lv_at hl 1 rfl) ?_
            refine x_if_le (tgt := 141) hx hb d_Spot_signOf_103 (by decide) (by omega) (fun h103 => ?_) (fun h103 => ?_)
            · refine x_iinc (lv' := [(4, .int (iI (((kk : Int) - 1) + (-1)))), (5, .ref gt), (0, .ref x), (1, .ref ta), (2, .int (iI ((base : Int)))), (3, .int (iI ((nn : Int))))]) hx hb d_Spot_signOf_141 hl (q := 1) rfl rfl (by decide) rfl (fun ls hl => ?_)
              refine lv_goto (tgt := 19) hx hb d_Spot_signOf_144 (by decide) ?_
              rw [show (kk : Int) - 1 + (-1) = ((kk - 1 : Nat) : Int) - 1 by omega] at hl
              exact ih_LP (kk - 1) f_78 ga gp gt gb ((up ((up ((up Z2 ga (Z2 gt * Z2 gu))) gb ((up Z2 ga (Z2 gt * Z2 gu)) tt * (up Z2 ga (Z2 gt * Z2 gu)) gp))) ga ((up (up Z2 ga (Z2 gt * Z2 gu)) gb ((up Z2 ga (Z2 gt * Z2 gu)) tt * (up Z2 ga (Z2 gt * Z2 gu)) gp)) ga + 1 * (up (up Z2 ga (Z2 gt * Z2 gu)) gb ((up Z2 ga (Z2 gt * Z2 gu)) tt * (up Z2 ga (Z2 gt * Z2 gu)) gp)) gb))) (by omega) (by omega) hB_78 (⟨hWd.2.2.1, hWd.2.1, hWd.1, hWd.2.2.2⟩) (by obtain ⟨⟨q1, q2, q3⟩, ⟨q4, q5⟩, q6⟩ := hne; exact ⟨⟨by omega, by omega, by omega⟩, ⟨by omega, by omega⟩, by omega⟩) z5a (fun h => by omega) z5o (fun k h1 h2 => by rw [hfr_78 k h1 h2, hfr_66 k h1 h2, hfr_49 k h1 h2]; exact hfr2 k h1 h2) _ _ _ B (lv_sub hl [0, 2, 3, 4, 5] rfl)
            · refine lv_aload_n hx hb d_Spot_signOf_106 rfl (lv_at hl 2 rfl) ?_
              refine x_get (C := RX5) (T := TX5) (N := 8) hx hb hts inX5 hown B hF 0 rfl rfl 7 (by decide) (hts _ w_96) (fun _ h9 => h9) rfl d_Spot_signOf_107 ?_
              refine lv_aload_n hx hb d_Spot_signOf_110 rfl (lv_at hl 2 rfl) ?_
              refine x_get (C := RX5) (T := TX5) (N := 8) hx hb hts inX5 hown B hF 0 rfl rfl 5 (by decide) (hts _ w_94) (fun _ h9 => h9) rfl d_Spot_signOf_111 ?_
              refine lv_aload_n hx hb d_Spot_signOf_114 rfl (lv_at hl 2 rfl) ?_
              refine x_get (C := RX5) (T := TX5) (N := 8) hx hb hts inX5 hown B hF 0 rfl rfl 1 (by decide) (hts _ w_86) (fun _ h9 => h9) rfl d_Spot_signOf_115 ?_
              have hx_118 := hB_78.keep (X := [(x, .inr (5, [.ref gu, .ref gl, .ref gs, .int (iI tp), .ref ga, .ref gp, .ref gt, .ref gb])), (ta, .inl (cs 3, 42, .inr (.inr (.inr (.inr gg)))))]) hOk
              obtain ⟨sd_1180, n_1180, lm_1180, c1_1180, c2_1180, c3_1180⟩ := hx_118 gb (hW _ hwb)
              obtain ⟨sd_1181, n_1181, lm_1181, c1_1181, c2_1181, c3_1181⟩ := hx_118 gp (hW _ hwp)
              obtain ⟨sd_1182, n_1182, lm_1182, c1_1182, c2_1182, c3_1182⟩ := hx_118 gl hSl
              refine x_callv B hA (va_runV (As := [.ref gp, .ref gl]) (rest := []) ⟨hx, hb, hml, hown, hts⟩ (c_Big_product l D cs _ _ _ gb (Qm gb) sd_1180 n_1180 lm_1180 gp (Qm gp) sd_1181 n_1181 lm_1181 ((up ((up ((up Z2 ga (Z2 gt * Z2 gu))) gb ((up Z2 ga (Z2 gt * Z2 gu)) tt * (up Z2 ga (Z2 gt * Z2 gu)) gp))) ga ((up (up Z2 ga (Z2 gt * Z2 gu)) gb ((up Z2 ga (Z2 gt * Z2 gu)) tt * (up Z2 ga (Z2 gt * Z2 gu)) gp)) ga + 1 * (up (up Z2 ga (Z2 gt * Z2 gu)) gb ((up Z2 ga (Z2 gt * Z2 gu)) tt * (up Z2 ga (Z2 gt * Z2 gu)) gp)) gb)) gp) gl (Qm gl) sd_1182 n_1182 lm_1182 ((up ((up ((up Z2 ga (Z2 gt * Z2 gu))) gb ((up Z2 ga (Z2 gt * Z2 gu)) tt * (up Z2 ga (Z2 gt * Z2 gu)) gp))) ga ((up (up Z2 ga (Z2 gt * Z2 gu)) gb ((up Z2 ga (Z2 gt * Z2 gu)) tt * (up Z2 ga (Z2 gt * Z2 gu)) gp)) ga + 1 * (up (up Z2 ga (Z2 gt * Z2 gu)) gb ((up Z2 ga (Z2 gt * Z2 gu)) tt * (up Z2 ga (Z2 gt * Z2 gu)) gp)) gb)) gl)  (hSp.fc3 (hW _ hwb) (hW _ hwp) hSl (Ne.symm e5) (Ne.symm n_glgb) (Ne.symm n_glgp)) c1_1180 c2_1180 c1_1181 c2_1181 c3_1181 c1_1182 c2_1182 c3_1182 (by rw [z5p, z5l]; exact r4 (by omega))) (cwV 2 hts (gw_V w_414 w_307 w_308 w_3 w_309) rfl rfl rfl (by decide +kernel) ⟨by rw [hRf]; exact Nat.le_of_ble_eq_true rfl, by rw [hRl]; exact Nat.le_of_ble_eq_true rfl⟩) ⟨K0.blind, B.recv (hSp.1 _ ((hW _ hwb))).1 c1_1180 rfl, B.pre _⟩ rfl rfl hl.1 rfl (lv_room (Nat.le_of_ble_eq_true rfl)) d_Spot_signOf_118 ⟨by rw [hRc]; omega, by rw [hRs]; omega⟩) (fun g118 H locs hw B => ?_)
              obtain ⟨s_118, n_118, l_118, hz_118, rfl⟩ := hw
              obtain ⟨f_118, hf_118⟩ : ∃ f_118, f_118 = mw (mw f_78 [(x, .inr (5, [.ref gu, .ref gl, .ref gs, .int (iI tp), .ref ga, .ref gp, .ref gt, .ref gb])), (ta, .inl (cs 3, 42, .inr (.inr (.inr (.inr gg)))))]) [(gb, .inr (0, [.int (iI s_118), .int (iI (n_118 : Int)), .ref (Qm gb)])), (Qm gb, .inl (cs 0, 48, .inl (ai l_118)))] := ⟨_, rfl⟩
              have hB_118 : BH cs f_118 S Qm (up ((up ((up ((up Z2 ga (Z2 gt * Z2 gu))) gb ((up Z2 ga (Z2 gt * Z2 gu)) tt * (up Z2 ga (Z2 gt * Z2 gu)) gp))) ga ((up (up Z2 ga (Z2 gt * Z2 gu)) gb ((up Z2 ga (Z2 gt * Z2 gu)) tt * (up Z2 ga (Z2 gt * Z2 gu)) gp)) ga + 1 * (up (up Z2 ga (Z2 gt * Z2 gu)) gb ((up Z2 ga (Z2 gt * Z2 gu)) tt * (up Z2 ga (Z2 gt * Z2 gu)) gp)) gb))) gb ((up (up (up Z2 ga (Z2 gt * Z2 gu)) gb ((up Z2 ga (Z2 gt * Z2 gu)) tt * (up Z2 ga (Z2 gt * Z2 gu)) gp)) ga ((up (up Z2 ga (Z2 gt * Z2 gu)) gb ((up Z2 ga (Z2 gt * Z2 gu)) tt * (up Z2 ga (Z2 gt * Z2 gu)) gp)) ga + 1 * (up (up Z2 ga (Z2 gt * Z2 gu)) gb ((up Z2 ga (Z2 gt * Z2 gu)) tt * (up Z2 ga (Z2 gt * Z2 gu)) gp)) gb)) gp * (up (up (up Z2 ga (Z2 gt * Z2 gu)) gb ((up Z2 ga (Z2 gt * Z2 gu)) tt * (up Z2 ga (Z2 gt * Z2 gu)) gp)) ga ((up (up Z2 ga (Z2 gt * Z2 gu)) gb ((up Z2 ga (Z2 gt * Z2 gu)) tt * (up Z2 ga (Z2 gt * Z2 gu)) gp)) ga + 1 * (up (up Z2 ga (Z2 gt * Z2 gu)) gb ((up Z2 ga (Z2 gt * Z2 gu)) tt * (up Z2 ga (Z2 gt * Z2 gu)) gp)) gb)) gl)) := by rw [hf_118]; exact BH.set hSp (hB_78.keep (X := [(x, .inr (5, [.ref gu, .ref gl, .ref gs, .int (iI tp), .ref ga, .ref gp, .ref gt, .ref gb])), (ta, .inl (cs 3, 42, .inr (.inr (.inr (.inr gg)))))]) hOk) (hW _ hwb) hz_118
              have hfr_118 : ∀ k, Out S Qm k → k ∉ ([x, ta] : List Nat) → f_118 k = f_78 k := fun k h1 h2 => by rw [hf_118, mw_out (h1.two (hW _ hwb)), mw_out (X := [(x, .inr (5, [.ref gu, .ref gl, .ref gs, .int (iI tp), .ref ga, .ref gp, .ref gt, .ref gb])), (ta, .inl (cs 3, 42, .inr (.inr (.inr (.inr gg)))))]) h2]
              rw [← hf_118] at B
              have B := B.focus [(x, .inr (5, [.ref gu, .ref gl, .ref gs, .int (iI tp), .ref ga, .ref gp, .ref gt, .ref gb])), (ta, .inl (cs 3, 42, .inr (.inr (.inr (.inr gg)))))] (by rw [hf_118]; exact foc hF.1 (fun k hk => (hOk k hk).two (hW _ hwb)))
              have B : Wb D vwCl (TY cs) L (mw f_118 [(x, .inr (5, [.ref gu, .ref gl, .ref gs, .int (iI tp), .ref ga, .ref gp, .ref gt, .ref gb])), (ta, .inl (cs 3, 42, .inr (.inr (.inr (.inr gg)))))]) (AL L s.heap.size) s H _ := B
              have z6a : (up ((up ((up ((up Z2 ga (Z2 gt * Z2 gu))) gb ((up Z2 ga (Z2 gt * Z2 gu)) tt * (up Z2 ga (Z2 gt * Z2 gu)) gp))) ga ((up (up Z2 ga (Z2 gt * Z2 gu)) gb ((up Z2 ga (Z2 gt * Z2 gu)) tt * (up Z2 ga (Z2 gt * Z2 gu)) gp)) ga + 1 * (up (up Z2 ga (Z2 gt * Z2 gu)) gb ((up Z2 ga (Z2 gt * Z2 gu)) tt * (up Z2 ga (Z2 gt * Z2 gu)) gp)) gb))) gb ((up (up (up Z2 ga (Z2 gt * Z2 gu)) gb ((up Z2 ga (Z2 gt * Z2 gu)) tt * (up Z2 ga (Z2 gt * Z2 gu)) gp)) ga ((up (up Z2 ga (Z2 gt * Z2 gu)) gb ((up Z2 ga (Z2 gt * Z2 gu)) tt * (up Z2 ga (Z2 gt * Z2 gu)) gp)) ga + 1 * (up (up Z2 ga (Z2 gt * Z2 gu)) gb ((up Z2 ga (Z2 gt * Z2 gu)) tt * (up Z2 ga (Z2 gt * Z2 gu)) gp)) gb)) gp * (up (up (up Z2 ga (Z2 gt * Z2 gu)) gb ((up Z2 ga (Z2 gt * Z2 gu)) tt * (up Z2 ga (Z2 gt * Z2 gu)) gp)) ga ((up (up Z2 ga (Z2 gt * Z2 gu)) gb ((up Z2 ga (Z2 gt * Z2 gu)) tt * (up Z2 ga (Z2 gt * Z2 gu)) gp)) ga + 1 * (up (up Z2 ga (Z2 gt * Z2 gu)) gb ((up Z2 ga (Z2 gt * Z2 gu)) tt * (up Z2 ga (Z2 gt * Z2 gu)) gp)) gb)) gl)) ga = hs0 (fun j => Zf (tm (base + j))) nn (Zf gu) (Zf gl) (nn + 1 - (kk - 1)) := by rw [up_ne _ _ e6]; exact z5a
              have z6b : (up ((up ((up ((up Z2 ga (Z2 gt * Z2 gu))) gb ((up Z2 ga (Z2 gt * Z2 gu)) tt * (up Z2 ga (Z2 gt * Z2 gu)) gp))) ga ((up (up Z2 ga (Z2 gt * Z2 gu)) gb ((up Z2 ga (Z2 gt * Z2 gu)) tt * (up Z2 ga (Z2 gt * Z2 gu)) gp)) ga + 1 * (up (up Z2 ga (Z2 gt * Z2 gu)) gb ((up Z2 ga (Z2 gt * Z2 gu)) tt * (up Z2 ga (Z2 gt * Z2 gu)) gp)) gb))) gb ((up (up (up Z2 ga (Z2 gt * Z2 gu)) gb ((up Z2 ga (Z2 gt * Z2 gu)) tt * (up Z2 ga (Z2 gt * Z2 gu)) gp)) ga ((up (up Z2 ga (Z2 gt * Z2 gu)) gb ((up Z2 ga (Z2 gt * Z2 gu)) tt * (up Z2 ga (Z2 gt * Z2 gu)) gp)) ga + 1 * (up (up Z2 ga (Z2 gt * Z2 gu)) gb ((up Z2 ga (Z2 gt * Z2 gu)) tt * (up Z2 ga (Z2 gt * Z2 gu)) gp)) gb)) gp * (up (up (up Z2 ga (Z2 gt * Z2 gu)) gb ((up Z2 ga (Z2 gt * Z2 gu)) tt * (up Z2 ga (Z2 gt * Z2 gu)) gp)) ga ((up (up Z2 ga (Z2 gt * Z2 gu)) gb ((up Z2 ga (Z2 gt * Z2 gu)) tt * (up Z2 ga (Z2 gt * Z2 gu)) gp)) ga + 1 * (up (up Z2 ga (Z2 gt * Z2 gu)) gb ((up Z2 ga (Z2 gt * Z2 gu)) tt * (up Z2 ga (Z2 gt * Z2 gu)) gp)) gb)) gl)) gb = Zf gl ^ (nn + 1 - (kk - 1)) := by rw [up_self, z5p, z5l, show nn + 1 - (kk - 1) = (nn + 1 - kk) + 1 by omega, Int.pow_succ]
              have z6o : ∀ b, ¬ Wk b → (up ((up ((up ((up Z2 ga (Z2 gt * Z2 gu))) gb ((up Z2 ga (Z2 gt * Z2 gu)) tt * (up Z2 ga (Z2 gt * Z2 gu)) gp))) ga ((up (up Z2 ga (Z2 gt * Z2 gu)) gb ((up Z2 ga (Z2 gt * Z2 gu)) tt * (up Z2 ga (Z2 gt * Z2 gu)) gp)) ga + 1 * (up (up Z2 ga (Z2 gt * Z2 gu)) gb ((up Z2 ga (Z2 gt * Z2 gu)) tt * (up Z2 ga (Z2 gt * Z2 gu)) gp)) gb))) gb ((up (up (up Z2 ga (Z2 gt * Z2 gu)) gb ((up Z2 ga (Z2 gt * Z2 gu)) tt * (up Z2 ga (Z2 gt * Z2 gu)) gp)) ga ((up (up Z2 ga (Z2 gt * Z2 gu)) gb ((up Z2 ga (Z2 gt * Z2 gu)) tt * (up Z2 ga (Z2 gt * Z2 gu)) gp)) ga + 1 * (up (up Z2 ga (Z2 gt * Z2 gu)) gb ((up Z2 ga (Z2 gt * Z2 gu)) tt * (up Z2 ga (Z2 gt * Z2 gu)) gp)) gb)) gp * (up (up (up Z2 ga (Z2 gt * Z2 gu)) gb ((up Z2 ga (Z2 gt * Z2 gu)) tt * (up Z2 ga (Z2 gt * Z2 gu)) gp)) ga ((up (up Z2 ga (Z2 gt * Z2 gu)) gb ((up Z2 ga (Z2 gt * Z2 gu)) tt * (up Z2 ga (Z2 gt * Z2 gu)) gp)) ga + 1 * (up (up Z2 ga (Z2 gt * Z2 gu)) gb ((up Z2 ga (Z2 gt * Z2 gu)) tt * (up Z2 ga (Z2 gt * Z2 gu)) gp)) gb)) gl)) b = Zf b := fun b hb => by rw [up_ne _ _ (ne_of_not hb hwb)]; exact z5o b hb
              refine lv_aload_n hx hb d_Spot_signOf_121 rfl (lv_at hl 2 rfl) ?_
              refine x_get (C := RX5) (T := TX5) (N := 8) hx hb hts inX5 hown B hF 0 rfl rfl 5 (by decide) (hts _ w_94) (fun _ h9 => h9) rfl d_Spot_signOf_122 ?_
              refine lv_astore (lv' := [(5, .ref gp), (4, .int (iI ((kk : Int) - 1))), (0, .ref x), (1, .ref ta), (2, .int (iI ((base : Int)))), (3, .int (iI ((nn : Int))))]) hx hb d_Spot_signOf_125 hl (by decide) rfl (fun ls hl => ?_)
              refine lv_aload_n hx hb d_Spot_signOf_127 rfl (lv_at hl 2 rfl) ?_
              refine lv_aload_n hx hb d_Spot_signOf_128 rfl (lv_at hl 2 rfl) ?_
              refine x_get (C := RX5) (T := TX5) (N := 8) hx hb hts inX5 hown B hF 0 rfl rfl 7 (by decide) (hts _ w_96) (fun _ h9 => h9) rfl d_Spot_signOf_129 ?_
              refine x_put (C := RX5) (T := TX5) (N := 8) hx hb hts inX5 tyX5 tyX5_ok nmX5 hown B hF 0 rfl rfl 5 (by decide) (hts _ w_94) (fun _ h9 => h9) rfl (tyX5_ok 5 (by decide)) rfl rfl (Nat.le_of_ble_eq_true rfl) d_Spot_signOf_132 (fun H locs B => ?_)
              have B : Wb D vwCl (TY cs) L (mw f_118 [(x, .inr (5, [.ref gu, .ref gl, .ref gs, .int (iI tp), .ref ga, .ref gb, .ref gt, .ref gb])), (ta, .inl (cs 3, 42, .inr (.inr (.inr (.inr gg)))))]) (AL L s.heap.size) s H _ := B
              refine lv_aload_n hx hb d_Spot_signOf_135 rfl (lv_at hl 2 rfl) ?_
              refine lv_aload hx hb d_Spot_signOf_136 (lv_at hl 0 rfl) ?_
              refine x_put (C := RX5) (T := TX5) (N := 8) hx hb hts inX5 tyX5 tyX5_ok nmX5 hown B hF 0 rfl rfl 7 (by decide) (hts _ w_96) (fun _ h9 => h9) rfl (tyX5_ok 7 (by decide)) rfl rfl (Nat.le_of_ble_eq_true rfl) d_Spot_signOf_138 (fun H locs B => ?_)
              have B : Wb D vwCl (TY cs) L (mw f_118 [(x, .inr (5, [.ref gu, .ref gl, .ref gs, .int (iI tp), .ref ga, .ref gb, .ref gt, .ref gp])), (ta, .inl (cs 3, 42, .inr (.inr (.inr (.inr gg)))))]) (AL L s.heap.size) s H _ := B
              refine x_iinc (lv' := [(4, .int (iI (((kk : Int) - 1) + (-1)))), (5, .ref gp), (0, .ref x), (1, .ref ta), (2, .int (iI ((base : Int)))), (3, .int (iI ((nn : Int))))]) hx hb d_Spot_signOf_141 hl (q := 1) rfl rfl (by decide) rfl (fun ls hl => ?_)
              refine lv_goto (tgt := 19) hx hb d_Spot_signOf_144 (by decide) ?_
              rw [show (kk : Int) - 1 + (-1) = ((kk - 1 : Nat) : Int) - 1 by omega] at hl
              exact ih_LP (kk - 1) f_118 ga gb gt gp ((up ((up ((up ((up Z2 ga (Z2 gt * Z2 gu))) gb ((up Z2 ga (Z2 gt * Z2 gu)) tt * (up Z2 ga (Z2 gt * Z2 gu)) gp))) ga ((up (up Z2 ga (Z2 gt * Z2 gu)) gb ((up Z2 ga (Z2 gt * Z2 gu)) tt * (up Z2 ga (Z2 gt * Z2 gu)) gp)) ga + 1 * (up (up Z2 ga (Z2 gt * Z2 gu)) gb ((up Z2 ga (Z2 gt * Z2 gu)) tt * (up Z2 ga (Z2 gt * Z2 gu)) gp)) gb))) gb ((up (up (up Z2 ga (Z2 gt * Z2 gu)) gb ((up Z2 ga (Z2 gt * Z2 gu)) tt * (up Z2 ga (Z2 gt * Z2 gu)) gp)) ga ((up (up Z2 ga (Z2 gt * Z2 gu)) gb ((up Z2 ga (Z2 gt * Z2 gu)) tt * (up Z2 ga (Z2 gt * Z2 gu)) gp)) ga + 1 * (up (up Z2 ga (Z2 gt * Z2 gu)) gb ((up Z2 ga (Z2 gt * Z2 gu)) tt * (up Z2 ga (Z2 gt * Z2 gu)) gp)) gb)) gp * (up (up (up Z2 ga (Z2 gt * Z2 gu)) gb ((up Z2 ga (Z2 gt * Z2 gu)) tt * (up Z2 ga (Z2 gt * Z2 gu)) gp)) ga ((up (up Z2 ga (Z2 gt * Z2 gu)) gb ((up Z2 ga (Z2 gt * Z2 gu)) tt * (up Z2 ga (Z2 gt * Z2 gu)) gp)) ga + 1 * (up (up Z2 ga (Z2 gt * Z2 gu)) gb ((up Z2 ga (Z2 gt * Z2 gu)) tt * (up Z2 ga (Z2 gt * Z2 gu)) gp)) gb)) gl))) (by omega) (by omega) hB_118 (⟨hWd.2.2.1, hWd.2.2.2, hWd.1, hWd.2.1⟩) (by obtain ⟨⟨q1, q2, q3⟩, ⟨q4, q5⟩, q6⟩ := hne; exact ⟨⟨by omega, by omega, by omega⟩, ⟨by omega, by omega⟩, by omega⟩) z6a (fun _ => z6b) z6o (fun k h1 h2 => by rw [hfr_118 k h1 h2, hfr_78 k h1 h2, hfr_66 k h1 h2, hfr_49 k h1 h2]; exact hfr2 k h1 h2) _ _ _ B (lv_sub hl [0, 2, 3, 4, 5] rfl)
  have hl5 : lv_has ls 6 [(4, .int (iI (((nn + 1 : Nat) : Int) - 1))), (0, .ref x), (1, .ref ta), (2, .int (iI ((base : Int)))), (3, .int (iI ((nn : Int))))] := by rw [show ((nn + 1 : Nat) : Int) - 1 = (nn : Int) by omega]; exact lv_sub hl [0, 1, 2, 3, 4] rfl
  exact LP _ (nn + 1) f_13 gt gp ga gb ((up ((up Zf gt (0))) gp (1))) (Nat.lt_succ_self _) (Nat.le_refl _) hB_13 (⟨hwt, hwp, hwa, hwb⟩) hne (by rw [Nat.sub_self, up_ne _ _ hne.1.1, up_self]; rfl) (fun _ => by rw [Nat.sub_self, up_self, Int.pow_zero]) (fun b hb => by rw [up_ne _ _ (ne_of_not hb hwp), up_ne _ _ (ne_of_not hb hwt)]) (fun k h1 h2 => by rw [hfr_13 k h1 h2, hfr_5 k h1 h2]) _ _ _ B hl5
