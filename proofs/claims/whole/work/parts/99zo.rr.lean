set_option maxHeartbeats 8000000 in
set_option maxRecDepth 100000 in
theorem c_Spot_signOf_z (l : Launch) (D : va_G) (cs : Nat → ClassId) (L : List Nat) (f : Nat → va_E) (sz : Nat) (x ta gu gl gs gt gp ga gb : Nat) (tp : Int) (S Wk : Nat → Prop) (Qm : Nat → Nat) (Zf : Nat → Int) (gg : Nat → Option Nat) (hF : Fc L [x, ta]) (ha : f x = .inr (5, [.ref gu, .ref gl, .ref gs, .int (iI tp), .ref gt, .ref gp, .ref ga, .ref gb])) (hta : f ta = .inl (cs 3, 6, .inr (.inr (.inr (.inr gg))))) (hSp : Sp L S Qm) (hB : BH cs f S Qm Zf) (hOk : ∀ k ∈ ([x, ta] : List Nat), Out S Qm k) (hW : ∀ b, Wk b → S b) (hWd : Wk gt ∧ Wk gp ∧ Wk ga ∧ Wk gb) (hne : (gt ≠ gp ∧ gt ≠ ga ∧ gt ≠ gb) ∧ (gp ≠ ga ∧ gp ≠ gb) ∧ ga ≠ gb) : Met l (⟨"RealRoots$Spot", "signOf", "([LRealRoots$Big;II)I"⟩ : MethodName) (.code (⟨"RealRoots$Spot", "signOf", "([LRealRoots$Big;II)I"⟩ : MethodName) prog_7_method_6_code 6 (Option.some Jvm.ClassFile.FieldType.int) :: gw) ({ frames := 1, cells := 0, slots := 0, locals := 60 }) (va_Pc [.ref x, .ref ta, .int (iI 0), .int (iI (-1))] (K0 D vwCl (TY cs) L f sz)) (va_Qi (fun (r : Int32) (g : Nat → va_E) => ∃ (gt' gp' ga' gb' : Nat) (Z' : Nat → Int), r = iI 0 ∧ Z' gt' = 0 ∧ (Wk gt' ∧ Wk gp' ∧ Wk ga' ∧ Wk gb') ∧ ((gt' ≠ gp' ∧ gt' ≠ ga' ∧ gt' ≠ gb') ∧ (gp' ≠ ga' ∧ gp' ≠ gb') ∧ ga' ≠ gb') ∧ (∀ b, ¬ Wk b → Z' b = Zf b) ∧ BH cs g S Qm Z' ∧ (∀ k, Out S Qm k → k ∉ ([x, ta] : List Nat) → g k = f k) ∧ g x = .inr (5, [.ref gu, .ref gl, .ref gs, .int (iI tp), .ref (gt'), .ref (gp'), .ref (ga'), .ref (gb')]) ∧ g ta = .inl (cs 3, 6, .inr (.inr (.inr (.inr gg))))) (K1 D vwCl (TY cs) (AL L sz) L) (AL L sz)) 0 0 (AL L sz) := by
  refine Met.ofW (cc := prog_7_method_6_code) (maxL := 6) (ret := (Option.some Jvm.ClassFile.FieldType.int)) (by decide) rfl ?_
  intro p e s m args below meth c s₁ Bd hml hv
  obtain ⟨rfl, hk0⟩ := hv
  obtain ⟨hsz, B⟩ := hk0.start
  subst hsz
  have hx := Bd.exec
  have hb := Bd.bytes
  have hr := Bd.returns
  have hlocks := Bd.notSynchronized
  have hts0 := atoms_spec Bd.pre
  have hown : s.vm.findClass RX5 = some m.cls := findClass_of_methodNamed Bd.named
  have hA : ∀ q, s.heap.size ≤ q → AL L s.heap.size q := fun _ h => Or.inr h
  have hl := lv_entry ([.ref x, .ref ta, .int (iI 0), .int (iI (-1))]) (n := 6) (Nat.le_of_ble_eq_true rfl)
  rw [lg_entry_eq]
  generalize (lg_sl ([.ref x, .ref ta, .int (iI 0), .int (iI (-1))]) ++ List.replicate (6 - (lg_sl ([.ref x, .ref ta, .int (iI 0), .int (iI (-1))])).length) Slot.unset).toArray = ls at hl ⊢
  refine absQ (fun Q R av hQ hR hav => ?_)
  have hts : ∀ w ∈ gw, w.before av s = true := by rw [hav]; exact fun w h => hts0 w (List.mem_cons_of_mem _ h)
  have hRf : R.frames = 1 := by rw [hR]; rfl
  have hRl : R.locals = 60 := by rw [hR]; rfl
  have hRc : R.cells = 0 := by rw [hR]; rfl
  have hRs : R.slots = 0 := by rw [hR]; rfl
  clear hR hts0 Bd
  have hl : lv_has ls 6 [(0, .ref x), (1, .ref ta), (2, .int (iI 0)), (3, .int (iI (-1)))] := hl
  obtain ⟨hwt, hwp, hwa, hwb⟩ := hWd
  have hfx : ∀ q ∈ ([(x, .inr (5, [.ref gu, .ref gl, .ref gs, .int (iI tp), .ref gt, .ref gp, .ref ga, .ref gb])), (ta, .inl (cs 3, 6, .inr (.inr (.inr (.inr gg)))))] : List (Nat × va_E)), f q.1 = q.2 := fun q hq => by
    simp only [List.mem_cons, List.not_mem_nil, or_false] at hq
    rcases hq with rfl | rfl
    · exact ha
    · exact hta
  have hmw : mw f [(x, .inr (5, [.ref gu, .ref gl, .ref gs, .int (iI tp), .ref gt, .ref gp, .ref ga, .ref gb])), (ta, .inl (cs 3, 6, .inr (.inr (.inr (.inr gg)))))] = f := mw_self (fun k a e hk => hfx (a, e) (List.mem_of_getElem? hk))
  have B := B.focus [(x, .inr (5, [.ref gu, .ref gl, .ref gs, .int (iI tp), .ref gt, .ref gp, .ref ga, .ref gb])), (ta, .inl (cs 3, 6, .inr (.inr (.inr (.inr gg)))))] hfx
  refine lv_aload_n hx hb d_Spot_signOf_0 rfl (lv_at hl 0 rfl) ?_
  refine x_get (C := RX5) (T := TX5) (N := 8) hx hb hts inX5 hown B hF 0 rfl rfl 4 (by decide) (hts _ w_92) (fun _ h9 => h9) rfl d_Spot_signOf_1 ?_
  refine x_lconst (z := 0) hx hb d_Spot_signOf_4 (by decide) ?_
  have hx_5 := hB.keep (X := [(x, .inr (5, [.ref gu, .ref gl, .ref gs, .int (iI tp), .ref gt, .ref gp, .ref ga, .ref gb])), (ta, .inl (cs 3, 6, .inr (.inr (.inr (.inr gg)))))]) hOk
  obtain ⟨sd_50, n_50, lm_50, c1_50, c2_50, c3_50⟩ := hx_5 gt (hW _ hwt)
  refine x_callv B hA (va_runV (As := [.long (lI 0)]) (rest := []) ⟨hx, hb, hml, hown, hts⟩ (c_Big_put l D cs _ _ _ gt (Qm gt) sd_50 n_50 lm_50 0 (hSp.fc1 (hW _ hwt)) c1_50 c2_50 (by decide)) (cwV 1 hts (gw_V w_405 w_294 w_295 w_3 w_296) rfl rfl rfl (by decide +kernel) ⟨by rw [hRf]; exact Nat.le_of_ble_eq_true rfl, by rw [hRl]; exact Nat.le_of_ble_eq_true rfl⟩) ⟨K0.blind, B.recv (hSp.1 _ ((hW _ hwt))).1 c1_50 rfl, B.pre _⟩ rfl rfl hl.1 rfl (lv_room (Nat.le_of_ble_eq_true rfl)) d_Spot_signOf_5 ⟨by rw [hRc]; omega, by rw [hRs]; omega⟩) (fun g5 H locs hw B => ?_)
  obtain ⟨s_5, n_5, l_5, hz_5, rfl⟩ := hw
  obtain ⟨f_5, hf_5⟩ : ∃ f_5, f_5 = mw (mw f [(x, .inr (5, [.ref gu, .ref gl, .ref gs, .int (iI tp), .ref gt, .ref gp, .ref ga, .ref gb])), (ta, .inl (cs 3, 6, .inr (.inr (.inr (.inr gg)))))]) [(gt, .inr (0, [.int (iI s_5), .int (iI (n_5 : Int)), .ref (Qm gt)])), (Qm gt, .inl (cs 0, 48, .inl (ai l_5)))] := ⟨_, rfl⟩
  have hB_5 : BH cs f_5 S Qm (up Zf gt (0)) := by rw [hf_5]; exact BH.set hSp (hB.keep (X := [(x, .inr (5, [.ref gu, .ref gl, .ref gs, .int (iI tp), .ref gt, .ref gp, .ref ga, .ref gb])), (ta, .inl (cs 3, 6, .inr (.inr (.inr (.inr gg)))))]) hOk) (hW _ hwt) hz_5
  have hfr_5 : ∀ k, Out S Qm k → k ∉ ([x, ta] : List Nat) → f_5 k = f k := fun k h1 h2 => by rw [hf_5, mw_out (h1.two (hW _ hwt)), mw_out (X := [(x, .inr (5, [.ref gu, .ref gl, .ref gs, .int (iI tp), .ref gt, .ref gp, .ref ga, .ref gb])), (ta, .inl (cs 3, 6, .inr (.inr (.inr (.inr gg)))))]) h2]
  rw [← hf_5] at B
  have B := B.focus [(x, .inr (5, [.ref gu, .ref gl, .ref gs, .int (iI tp), .ref gt, .ref gp, .ref ga, .ref gb])), (ta, .inl (cs 3, 6, .inr (.inr (.inr (.inr gg)))))] (by rw [hf_5]; exact foc hF.1 (fun k hk => (hOk k hk).two (hW _ hwt)))
  have B : Wb D vwCl (TY cs) L (mw f_5 [(x, .inr (5, [.ref gu, .ref gl, .ref gs, .int (iI tp), .ref gt, .ref gp, .ref ga, .ref gb])), (ta, .inl (cs 3, 6, .inr (.inr (.inr (.inr gg)))))]) (AL L s.heap.size) s H _ := B
  refine lv_aload_n hx hb d_Spot_signOf_8 rfl (lv_at hl 0 rfl) ?_
  refine x_get (C := RX5) (T := TX5) (N := 8) hx hb hts inX5 hown B hF 0 rfl rfl 5 (by decide) (hts _ w_94) (fun _ h9 => h9) rfl d_Spot_signOf_9 ?_
  refine x_lconst (z := 1) hx hb d_Spot_signOf_12 (by decide) ?_
  have hx_13 := hB_5.keep (X := [(x, .inr (5, [.ref gu, .ref gl, .ref gs, .int (iI tp), .ref gt, .ref gp, .ref ga, .ref gb])), (ta, .inl (cs 3, 6, .inr (.inr (.inr (.inr gg)))))]) hOk
  obtain ⟨sd_130, n_130, lm_130, c1_130, c2_130, c3_130⟩ := hx_13 gp (hW _ hwp)
  refine x_callv B hA (va_runV (As := [.long (lI 1)]) (rest := []) ⟨hx, hb, hml, hown, hts⟩ (c_Big_put l D cs _ _ _ gp (Qm gp) sd_130 n_130 lm_130 1 (hSp.fc1 (hW _ hwp)) c1_130 c2_130 (by decide)) (cwV 1 hts (gw_V w_405 w_294 w_295 w_3 w_296) rfl rfl rfl (by decide +kernel) ⟨by rw [hRf]; exact Nat.le_of_ble_eq_true rfl, by rw [hRl]; exact Nat.le_of_ble_eq_true rfl⟩) ⟨K0.blind, B.recv (hSp.1 _ ((hW _ hwp))).1 c1_130 rfl, B.pre _⟩ rfl rfl hl.1 rfl (lv_room (Nat.le_of_ble_eq_true rfl)) d_Spot_signOf_13 ⟨by rw [hRc]; omega, by rw [hRs]; omega⟩) (fun g13 H locs hw B => ?_)
  obtain ⟨s_13, n_13, l_13, hz_13, rfl⟩ := hw
  obtain ⟨f_13, hf_13⟩ : ∃ f_13, f_13 = mw (mw f_5 [(x, .inr (5, [.ref gu, .ref gl, .ref gs, .int (iI tp), .ref gt, .ref gp, .ref ga, .ref gb])), (ta, .inl (cs 3, 6, .inr (.inr (.inr (.inr gg)))))]) [(gp, .inr (0, [.int (iI s_13), .int (iI (n_13 : Int)), .ref (Qm gp)])), (Qm gp, .inl (cs 0, 48, .inl (ai l_13)))] := ⟨_, rfl⟩
  have hB_13 : BH cs f_13 S Qm (up ((up Zf gt (0))) gp (1)) := by rw [hf_13]; exact BH.set hSp (hB_5.keep (X := [(x, .inr (5, [.ref gu, .ref gl, .ref gs, .int (iI tp), .ref gt, .ref gp, .ref ga, .ref gb])), (ta, .inl (cs 3, 6, .inr (.inr (.inr (.inr gg)))))]) hOk) (hW _ hwp) hz_13
  have hfr_13 : ∀ k, Out S Qm k → k ∉ ([x, ta] : List Nat) → f_13 k = f_5 k := fun k h1 h2 => by rw [hf_13, mw_out (h1.two (hW _ hwp)), mw_out (X := [(x, .inr (5, [.ref gu, .ref gl, .ref gs, .int (iI tp), .ref gt, .ref gp, .ref ga, .ref gb])), (ta, .inl (cs 3, 6, .inr (.inr (.inr (.inr gg)))))]) h2]
  rw [← hf_13] at B
  have B := B.focus [(x, .inr (5, [.ref gu, .ref gl, .ref gs, .int (iI tp), .ref gt, .ref gp, .ref ga, .ref gb])), (ta, .inl (cs 3, 6, .inr (.inr (.inr (.inr gg)))))] (by rw [hf_13]; exact foc hF.1 (fun k hk => (hOk k hk).two (hW _ hwp)))
  have B : Wb D vwCl (TY cs) L (mw f_13 [(x, .inr (5, [.ref gu, .ref gl, .ref gs, .int (iI tp), .ref gt, .ref gp, .ref ga, .ref gb])), (ta, .inl (cs 3, 6, .inr (.inr (.inr (.inr gg)))))]) (AL L s.heap.size) s H _ := B
  refine lv_iload_n hx hb d_Spot_signOf_16 rfl (lv_at hl 3 rfl) ?_
  refine lv_istore (lv' := [(4, .int (iI (-1))), (0, .ref x), (1, .ref ta), (2, .int (iI 0)), (3, .int (iI (-1)))]) hx hb d_Spot_signOf_17 hl (by decide) rfl (fun ls hl => ?_)
  refine lv_iload hx hb d_Spot_signOf_19 (lv_at hl 0 rfl) ?_
  refine x_if_lt (tgt := 147) hx hb d_Spot_signOf_21 (by decide) (by omega) (fun h21 => ?_) (fun h21 => ?_)
  · have hSt0 := hW gt hwt
    have hB9 := hB_13
    obtain ⟨sd9, n9, lm9, d1, d2, d3⟩ := (hB9.keep (X := [(x, .inr (5, [.ref gu, .ref gl, .ref gs, .int (iI tp), .ref gt, .ref gp, .ref ga, .ref gb])), (ta, .inl (cs 3, 6, .inr (.inr (.inr (.inr gg)))))]) hOk) gt hSt0
    refine lv_aload_n hx hb d_Spot_signOf_147 rfl (lv_at hl 1 rfl) ?_
    refine x_get (C := RX5) (T := TX5) (N := 8) hx hb hts inX5 hown B hF 0 rfl rfl 4 (by decide) (hts _ w_92) (fun _ h9 => h9) rfl d_Spot_signOf_148 ?_
    have hF9 : Fc L [gt, x, ta] := ⟨List.nodup_cons.mpr ⟨fun hm => (hOk gt hm).1 hSt0, hF.1⟩, fun q hq => by rcases List.mem_cons.mp hq with rfl | hq; exact (hSp.1 _ hSt0).1; exact hF.2 q hq⟩
    have B := (B.focus [(gt, .inr (0, [.int (iI sd9), .int (iI (n9 : Int)), .ref (Qm gt)]))] (fun p hp => by rw [List.mem_singleton.mp hp]; exact d1)).of_eq (mw_app _ _ _)
    have d0 : f_13 gt = .inr (0, [.int (iI sd9), .int (iI (n9 : Int)), .ref (Qm gt)]) := (mw_out (f := f_13) (X := [(x, .inr (5, [.ref gu, .ref gl, .ref gs, .int (iI tp), .ref gt, .ref gp, .ref ga, .ref gb])), (ta, .inl (cs 3, 6, .inr (.inr (.inr (.inr gg)))))]) (fun hm => (hOk gt hm).1 hSt0)).symm.trans d1
    have hdr : mw f_13 [(gt, .inr (0, [.int (iI sd9), .int (iI ((n9 : Int))), .ref ((Qm gt))])), (x, .inr (5, [.ref gu, .ref gl, .ref gs, .int (iI tp), .ref gt, .ref gp, .ref ga, .ref gb])), (ta, .inl (cs 3, 6, .inr (.inr (.inr (.inr gg)))))] = mw f_13 [(x, .inr (5, [.ref gu, .ref gl, .ref gs, .int (iI tp), .ref gt, .ref gp, .ref ga, .ref gb])), (ta, .inl (cs 3, 6, .inr (.inr (.inr (.inr gg)))))] := mw_drop (f := f_13) (X := [(x, .inr (5, [.ref gu, .ref gl, .ref gs, .int (iI tp), .ref gt, .ref gp, .ref ga, .ref gb])), (ta, .inl (cs 3, 6, .inr (.inr (.inr (.inr gg)))))]) d0 (fun hm => (hOk gt hm).1 hSt0)
    have hF := hF9
    have B : Wb D vwCl (TY cs) L (mw f_13 [(gt, .inr (0, [.int (iI sd9), .int (iI ((n9 : Int))), .ref ((Qm gt))])), (x, .inr (5, [.ref gu, .ref gl, .ref gs, .int (iI tp), .ref gt, .ref gp, .ref ga, .ref gb])), (ta, .inl (cs 3, 6, .inr (.inr (.inr (.inr gg)))))]) (AL L s.heap.size) s H _ := B
    refine x_get (C := RX0) (T := TX0) (N := 3) hx hb hts inX0 hown B hF 0 rfl rfl 0 (by decide) (hts _ w_41) (fun _ h9 => h9) rfl d_Spot_signOf_151 ?_
    subst hQ hav
    exact x_iret hx hb hr hlocks B d_Spot_signOf_154 (⟨gt, gp, ga, gb, (up ((up Zf gt (0))) gp (1)), by rw [d3.2.2.2.2.1, (show (up ((up Zf gt (0))) gp (1)) gt = 0 by rw [up_ne _ _ hne.1.1, up_self])]; rfl, (show (up ((up Zf gt (0))) gp (1)) gt = 0 by rw [up_ne _ _ hne.1.1, up_self]), ⟨hwt, hwp, hwa, hwb⟩, hne, fun b hb => by rw [up_ne _ _ (ne_of_not hb hwp), up_ne _ _ (ne_of_not hb hwt)], by rw [hdr]; exact hB9.keep (X := [(x, .inr (5, [.ref gu, .ref gl, .ref gs, .int (iI tp), .ref gt, .ref gp, .ref ga, .ref gb])), (ta, .inl (cs 3, 6, .inr (.inr (.inr (.inr gg)))))]) hOk, fun k h1 h2 => by rw [hdr, mw_out (X := [(x, .inr (5, [.ref gu, .ref gl, .ref gs, .int (iI tp), .ref gt, .ref gp, .ref ga, .ref gb])), (ta, .inl (cs 3, 6, .inr (.inr (.inr (.inr gg)))))]) h2, hfr_13 k h1 h2, hfr_5 k h1 h2], mw_get (X := [(gt, .inr (0, [.int (iI sd9), .int (iI ((n9 : Int))), .ref ((Qm gt))])), (x, .inr (5, [.ref gu, .ref gl, .ref gs, .int (iI tp), .ref gt, .ref gp, .ref ga, .ref gb])), (ta, .inl (cs 3, 6, .inr (.inr (.inr (.inr gg)))))]) hF.1 (k := 1) rfl, mw_get (X := [(gt, .inr (0, [.int (iI sd9), .int (iI ((n9 : Int))), .ref ((Qm gt))])), (x, .inr (5, [.ref gu, .ref gl, .ref gs, .int (iI tp), .ref gt, .ref gp, .ref ga, .ref gb])), (ta, .inl (cs 3, 6, .inr (.inr (.inr (.inr gg)))))]) hF.1 (k := 2) rfl⟩)
  · exfalso; omega
set_option maxHeartbeats 8000000 in
set_option maxRecDepth 100000 in
theorem c_RR_at_k (l : Launch) (D : va_G) (cs : Nat → ClassId) (L : List Nat) (f : Nat → va_E) (sz : Nat) (ad Qm : Nat → Nat) (If : Nat → Int) (Af : Nat → Nat → Int) (Rf : Nat → Nat) (Zf : Nat → Int) (p0 : Nat) (a2 a3 : Int) (hAd : AdOk L ad Qm) (hC : CSt cs ad Qm f If Af Rf Zf) (hInv : Inv If Af) (hpk : (p0 : Int) < If 0) (ha2 : -2147483648 ≤ a2 ∧ a2 < 2147483648) (ha3 : -2147483648 ≤ a3 ∧ a3 < 2147483648) : Met l (⟨"RealRoots", "at", "(III)I"⟩ : MethodName) (.code (⟨"RealRoots", "at", "(III)I"⟩ : MethodName) prog_1_method_17_code 4 (Option.some Jvm.ClassFile.FieldType.int) :: gw) ({ frames := 6, cells := 0, slots := 0, locals := 300 }) (va_Pc [.ref ((ad 0)), .int (iI ((p0 : Int))), .int (iI a2), .int (iI a3)] (K0 D vwCl (TY cs) L f sz)) (va_Qi (fun (r : Int32) (g : Nat → va_E) => ∃ (I' : Nat → Int) (A' : Nat → Nat → Int) (R' : Nat → Nat) (Z' : Nat → Int), CSt cs ad Qm g I' A' R' Z' ∧ (∀ k, Awy ad k → g k = f k) ∧ Inv I' A' ∧ SameV If Af I' A' ∧ ((¬ ((-1000000 ≤ a2 ∧ a2 ≤ 1000000) ∧ 1 ≤ a3 ∧ a3 ≤ 1000000) ∧ r = iI (-8)) ∨ (((-1000000 ≤ a2 ∧ a2 ≤ 1000000) ∧ 1 ≤ a3 ∧ a3 ≤ 1000000) ∧ r = iI (sg (es (Af (20 + p0)) 6 ((a2 : Rat) / (a3 : Rat))))))) (K1 D vwCl (TY cs) (AL L sz) L) (AL L sz)) 0 0 (AL L sz) := by
  refine Met.ofW (cc := prog_1_method_17_code) (maxL := 4) (ret := (Option.some Jvm.ClassFile.FieldType.int)) (by decide) rfl ?_
  intro p e s m args below meth c s₁ Bd hml hv
  obtain ⟨rfl, hk0⟩ := hv
  obtain ⟨hsz, B⟩ := hk0.start
  subst hsz
  have hx := Bd.exec
  have hb := Bd.bytes
  have hr := Bd.returns
  have hlocks := Bd.notSynchronized
  have hts0 := atoms_spec Bd.pre
  have hown : s.vm.findClass RX6 = some m.cls := findClass_of_methodNamed Bd.named
  have hA : ∀ q, s.heap.size ≤ q → AL L s.heap.size q := fun _ h => Or.inr h
  have hl := lv_entry ([.ref ((ad 0)), .int (iI ((p0 : Int))), .int (iI a2), .int (iI a3)]) (n := 4) (Nat.le_of_ble_eq_true rfl)
  rw [lg_entry_eq]
  generalize (lg_sl ([.ref ((ad 0)), .int (iI ((p0 : Int))), .int (iI a2), .int (iI a3)]) ++ List.replicate (4 - (lg_sl ([.ref ((ad 0)), .int (iI ((p0 : Int))), .int (iI a2), .int (iI a3)])).length) Slot.unset).toArray = ls at hl ⊢
  refine absQ (fun Q R av hQ hR hav => ?_)
  have hts : ∀ w ∈ gw, w.before av s = true := by rw [hav]; exact fun w h => hts0 w (List.mem_cons_of_mem _ h)
  have hRf : R.frames = 6 := by rw [hR]; rfl
  have hRl : R.locals = 300 := by rw [hR]; rfl
  have hRc : R.cells = 0 := by rw [hR]; rfl
  have hRs : R.slots = 0 := by rw [hR]; rfl
  clear hR hts0 Bd
  have hl : lv_has ls 4 [(0, .ref ((ad 0))), (1, .int (iI ((p0 : Int)))), (2, .int (iI a2)), (3, .int (iI a3))] := hl
  have hfr : ∀ k, Awy ad k → f k = f k := fun _ _ => rfl
  have hG0 := hInv.1
  have hhd := hG0.1
  have hp0 : p0 < 12 := by omega
  have hVM := hG0.2.1 p0 hp0
  refine lv_aload_n hx hb d_RR_at_0 rfl (lv_at hl 0 rfl) ?_
  refine lv_iload_n hx hb d_RR_at_1 rfl (lv_at hl 1 rfl) ?_
  refine x_calli B hA (va_runV (As := [.int (iI ((p0 : Int)))]) (rest := []) ⟨hx, hb, hml, hown, hts⟩ (c_RR_unknown l D cs _ _ _ (ad 0) (ad 1) (ad 2) (ad 5) (ad 7) (ad 8) (ad 9) (ad 10) (ad 11) (ad 12) (ad 13) (ad 14) (If 0) (If 1) (If 2) ((p0 : Int)) (hAd.f1 (by decide)) hC.x (hhd) (by omega)) (cwV 1 hts (gw_V w_261 w_263 s_3 w_1 w_264) rfl rfl rfl (by decide +kernel) ⟨by rw [hRf]; exact Nat.le_of_ble_eq_true rfl, by rw [hRl]; exact Nat.le_of_ble_eq_true rfl⟩) ⟨K0.blind, B.recv (hAd.1 _ (by omega)) (hC.x) rfl, B.pre _⟩ rfl rfl hl.1 rfl (lv_room (Nat.le_of_ble_eq_true rfl)) d_RR_at_2 ⟨by rw [hRc]; omega, by rw [hRs]; omega⟩) (fun r2 g2 H locs hw B => ?_)
  obtain ⟨rfl, hgf⟩ := hw
  rw [hgf] at B
  rw [if_neg (by omega)]
  refine x_if_eq (tgt := 11) hx hb d_RR_at_5 (by decide) (by omega) (fun h5 => ?_) (fun h5 => ?_)
  · refine lv_iload_n hx hb d_RR_at_11 rfl (lv_at hl 2 rfl) ?_
    refine lv_iload_n hx hb d_RR_at_12 rfl (lv_at hl 3 rfl) ?_
    refine x_calli B hA (va_runS (As := [.int (iI a2), .int (iI a3)]) (rest := []) ⟨hx, hb, hml, hown, hts⟩ (c_RR_outside l D cs _ _ _ a2 a3 (by omega) (by omega)) (va_cwS 2 hts (gw_S w_544 w_545 w_1 w_546) rfl rfl rfl (by decide +kernel) ⟨by rw [hRf]; exact Nat.le_of_ble_eq_true rfl, by rw [hRl]; exact Nat.le_of_ble_eq_true rfl⟩) ⟨K0.blind, B.pre _⟩ rfl rfl hl.1 rfl (lv_room (Nat.le_of_ble_eq_true rfl)) d_RR_at_13 ⟨by rw [hRc]; omega, by rw [hRs]; omega⟩) (fun r13 g13 H locs hw B => ?_)
    obtain ⟨rfl, hgf⟩ := hw
    rw [hgf] at B
    obtain ⟨ou13, hou13⟩ : ∃ ou13 : Int, ou13 = if a2 < -1000000 ∨ 1000000 < a2 ∨ a3 < 1 ∨ 1000000 < a3 then 1 else 0 := ⟨_, rfl⟩
    rw [← hou13]
    have hou13c : (ou13 = 1 ∧ (a2 < -1000000 ∨ 1000000 < a2 ∨ a3 < 1 ∨ 1000000 < a3)) ∨ (ou13 = 0 ∧ ¬ (a2 < -1000000 ∨ 1000000 < a2 ∨ a3 < 1 ∨ 1000000 < a3)) := by rw [hou13]; split; exact Or.inl ⟨rfl, by assumption⟩; exact Or.inr ⟨rfl, by assumption⟩
    refine x_if_eq (tgt := 22) hx hb d_RR_at_16 (by decide) (by omega) (fun h16 => ?_) (fun h16 => ?_)
    · refine lv_aload_n hx hb d_RR_at_22 rfl (lv_at hl 0 rfl) ?_
      refine x_get (C := RX6) (T := TX6) (N := 14) hx hb hts inX6 hown (B.foc1 (hC.x)) (hAd.f1 (by omega)) 0 rfl rfl 3 (by decide) (hts _ w_200) (fun _ h9 => h9) rfl d_RR_at_23 ?_
      refine lv_aload_n hx hb d_RR_at_26 rfl (lv_at hl 0 rfl) ?_
      refine x_get (C := RX6) (T := TX6) (N := 14) hx hb hts inX6 hown (B.foc1 (hC.x)) (hAd.f1 (by omega)) 0 rfl rfl 0 (by decide) (hts _ w_197) (fun _ h9 => h9) rfl d_RR_at_27 ?_
      refine lv_iload_n hx hb d_RR_at_30 rfl (lv_at hl 1 rfl) ?_
      refine x_aald hx hb (B.foc1 (hC.c0)) (hAd.f1 (by omega)) 0 4 rfl rfl p0 (by omega) (by omega) (by decide) (rfs_at (by omega)) d_RR_at_31 ?_
      refine x_get (C := RX2) (T := TX2) (N := 5) hx hb hts inX2 hown (B.foc1 (hC.cu (p := p0) (by omega))) (hAd.f1 (by omega)) 0 rfl rfl 0 (by decide) (hts _ w_177) (fun _ h9 => h9) rfl d_RR_at_32 ?_
      refine x_callv B hA (va_runV (As := [.ref ((ad (27 + p0)))]) (rest := []) ⟨hx, hb, hml, hown, hts⟩ (c_Spot_load l D cs _ _ _ (ad 5) (ad (27 + p0)) (ad 227) (ad 228) (ad 6) (Rf 52) (Rf 53) (Rf 54) (Rf 55) (If 6) (Bg ad) Qm Zf (rfs 6 (fun j => ad (229 + j))) (fun j => ad (229 + j)) (Af (20 + p0)) (hAd.fc [5, 6, 27 + p0] (by have := ((Ar.va hp0)).lt; simp only [List.nodup_cons, List.mem_cons, List.not_mem_nil, or_false, not_or, List.nodup_nil, and_true, not_false_eq_true]; omega) (by have := ((Ar.va hp0)).lt; intro q hq; simp only [List.mem_cons, List.not_mem_nil, or_false] at hq; omega)) hC.sp hC.gs (hC.ar (Ar.va hp0)) hAd.sp hC.2.2.1 (hAd.outs [5, 6, 27 + p0] (by have := ((Ar.va hp0)).lt; intro q hq; simp only [List.mem_cons, List.not_mem_nil, or_false] at hq; omega)) (fun j hj => Bg.pl (by omega)) (fun j hj => rfs_at hj) (fun i j hi hj h => by have := hAd.2.1 _ _ (by omega) (by omega) h; omega) (fun j hj => by have := hVM j hj; omega)) (cwV 1 hts (gw_V w_473 w_474 w_475 w_4 w_476) rfl rfl rfl (by decide +kernel) ⟨by rw [hRf]; exact Nat.le_of_ble_eq_true rfl, by rw [hRl]; exact Nat.le_of_ble_eq_true rfl⟩) ⟨K0.blind, B.recv (hAd.1 _ (by omega)) (hC.sp) rfl, B.pre _⟩ rfl rfl hl.1 rfl (lv_room (Nat.le_of_ble_eq_true rfl)) d_RR_at_35 ⟨by rw [hRc]; omega, by rw [hRs]; omega⟩) (fun g35 H locs hw B => ?_)
      obtain ⟨kd, Z_35, hkd6, hkdz, hkdl, hZs_35, hZo_35, hBB_35, hq_35, hc1_35, hc2_35, hc3_35⟩ := hw
      obtain ⟨I_35, hI_35⟩ : ∃ I_35, I_35 = up If 6 ((kd : Int) - 1) := ⟨_, rfl⟩
      have hC_35 : CSt cs ad Qm g35 I_35 Af Rf Z_35 := by
        have h9 := CSt.spot hAd hC [6, 27 + p0] hC.2.2.2.2.1 hC.2.2.2.2.2 hBB_35 hq_35 (fun k hk => by
          simp only [List.mem_cons, List.not_mem_nil, or_false] at hk
          rcases hk with h | h <;> rw [h]
          · exact ⟨by omega, hc2_35.trans hC.gs.symm⟩
          · exact ⟨by have := ((Ar.va hp0)).lt; omega, hc3_35.trans (hC.ar (Ar.va hp0)).symm⟩) hc1_35
        rw [upW_same, ← hI_35] at h9
        exact h9
      have hfr_35 : ∀ k, Awy ad k → g35 k = f k := fun k hk => (hq_35 k (hk.out hAd) (hk.nin [5, 6, 27 + p0] (by have := ((Ar.va hp0)).lt; intro q hq; simp only [List.mem_cons, List.not_mem_nil, or_false] at hq; omega))).trans (hfr k hk)
      have hIo_35 : ∀ i, i ≠ 6 → I_35 i = If i := fun i hi => by rw [hI_35, up_ne _ _ hi]
      have hI6_35 : I_35 6 = (kd : Int) - 1 := by rw [hI_35, up_self]
      have B : Wb D vwCl (TY cs) L g35 (AL L s.heap.size) s H _ := B
      rcases Nat.eq_zero_or_pos kd with hk0 | hk0
      · have hI6z : I_35 6 = -1 := by rw [hI6_35]; omega
        refine lv_aload_n hx hb d_RR_at_38 rfl (lv_at hl 0 rfl) ?_
        refine x_get (C := RX6) (T := TX6) (N := 14) hx hb hts inX6 hown (B.foc1 (hC_35.x)) (hAd.f1 (by omega)) 0 rfl rfl 3 (by decide) (hts _ w_200) (fun _ h9 => h9) rfl d_RR_at_39 ?_
        refine lv_iload_n hx hb d_RR_at_42 rfl (lv_at hl 2 rfl) ?_
        refine x_i2l hx hb d_RR_at_43 (by omega) ?_
        refine lv_iload_n hx hb d_RR_at_44 rfl (lv_at hl 3 rfl) ?_
        refine x_i2l hx hb d_RR_at_45 (by omega) ?_
        obtain ⟨sdn460, nnn460, lmn460, c1n460, c2n460, c3n460⟩ := hC_35.2.2.1 (ad 227) (Bg.pl (by decide))
        obtain ⟨sdn461, nnn461, lmn461, c1n461, c2n461, c3n461⟩ := hC_35.2.2.1 (ad 228) (Bg.pl (by decide))
        have hqan46 : Qm (ad 227) = ad 288 := hAd.2.2 44 (by decide)
        have hqbn46 : Qm (ad 228) = ad 289 := hAd.2.2 45 (by decide)
        refine x_callv B hA (va_runV (As := [.long (lI a2), .long (lI a3)]) (rest := []) ⟨hx, hb, hml, hown, hts⟩ (c_Spot_number l D cs _ _ _ (ad 5) (ad 227) (ad 228) (ad 6) (Rf 52) (Rf 53) (Rf 54) (Rf 55) (Qm (ad 227)) (Qm (ad 228)) (I_35 6) sdn460 sdn461 nnn460 nnn461 lmn460 lmn461 a2 a3 (by rw [hqan46, hqbn46]; exact hAd.fc [5, 227, 288, 228, 289] (by decide) (by decide)) hC_35.sp c1n460 c2n460 c1n461 c2n461 (by omega) (by omega)) (cwV 2 hts (gw_V w_401 w_402 w_403 w_4 w_404) rfl rfl rfl (by decide +kernel) ⟨by rw [hRf]; exact Nat.le_of_ble_eq_true rfl, by rw [hRl]; exact Nat.le_of_ble_eq_true rfl⟩) ⟨K0.blind, B.recv (hAd.1 _ (by omega)) (hC_35.sp) rfl, B.pre _⟩ rfl rfl hl.1 rfl (lv_room (Nat.le_of_ble_eq_true rfl)) d_RR_at_46 ⟨by rw [hRc]; omega, by rw [hRs]; omega⟩) (fun g46 H locs hw B => ?_)
        obtain ⟨s1_46, n1_46, l1_46, s2_46, n2_46, l2_46, hz1_46, hz2_46, hg_46⟩ := hw
        obtain ⟨hC_46, hq_46⟩ := CSt.number hAd hC_35 hz1_46 hz2_46 hg_46
        obtain ⟨Z_46, hZ_46⟩ : ∃ Z_46, Z_46 = up (up Z_35 (ad 228) a3) (ad 227) a2 := ⟨_, rfl⟩
        rw [← hZ_46] at hC_46
        have hfr_46 : ∀ k, Awy ad k → g46 k = f k := fun k hk => (hq_46 k hk).trans (hfr_35 k hk)
        have hZu_46 : Z_46 (ad 227) = a2 := by rw [hZ_46, up_self]
        have hZl_46 : Z_46 (ad 228) = a3 := by rw [hZ_46, up_ne _ _ (hAd.ne (by decide) (by decide) (by decide)), up_self]
        have B : Wb D vwCl (TY cs) L g46 (AL L s.heap.size) s H _ := B
        have hZs_46 : ∀ j, j < 6 → Z_46 (ad (229 + j)) = Af (20 + p0) j := fun j hj => by rw [hZ_46, up_ne _ _ (hAd.ne (by omega) (by omega) (by omega)), up_ne _ _ (hAd.ne (by omega) (by omega) (by omega))]; exact hZs_35 j hj
        refine lv_aload_n hx hb d_RR_at_49 rfl (lv_at hl 0 rfl) ?_
        refine x_get (C := RX6) (T := TX6) (N := 14) hx hb hts inX6 hown (B.foc1 (hC_46.x)) (hAd.f1 (by omega)) 0 rfl rfl 3 (by decide) (hts _ w_200) (fun _ h9 => h9) rfl d_RR_at_50 ?_
        refine lv_aload_n hx hb d_RR_at_53 rfl (lv_at hl 0 rfl) ?_
        refine x_get (C := RX6) (T := TX6) (N := 14) hx hb hts inX6 hown (B.foc1 (hC_46.x)) (hAd.f1 (by omega)) 0 rfl rfl 3 (by decide) (hts _ w_200) (fun _ h9 => h9) rfl d_RR_at_54 ?_
        refine x_get (C := RX5) (T := TX5) (N := 8) hx hb hts inX5 hown (B.foc1 (hC_46.sp)) (hAd.f1 (by omega)) 0 rfl rfl 2 (by decide) (hts _ w_89) (fun _ h9 => h9) rfl d_RR_at_57 ?_
        refine x_iconst hx hb d_RR_at_60 ?_
        refine lv_aload_n hx hb d_RR_at_61 rfl (lv_at hl 0 rfl) ?_
        refine x_get (C := RX6) (T := TX6) (N := 14) hx hb hts inX6 hown (B.foc1 (hC_46.x)) (hAd.f1 (by omega)) 0 rfl rfl 3 (by decide) (hts _ w_200) (fun _ h9 => h9) rfl d_RR_at_62 ?_
        refine x_get (C := RX5) (T := TX5) (N := 8) hx hb hts inX5 hown (B.foc1 (hC_46.sp)) (hAd.f1 (by omega)) 0 rfl rfl 3 (by decide) (hts _ w_91) (fun _ h9 => h9) rfl d_RR_at_65 ?_
        rw [hI6z]
        refine x_calli B hA (va_runV (As := [.ref ((ad 6)), .int (iI 0), .int (iI (-1))]) (rest := []) ⟨hx, hb, hml, hown, hts⟩ (c_Spot_signOf_z l D cs _ _ _ (ad 5) (ad 6) (ad 227) (ad 228) (ad 6) (Rf 52) (Rf 53) (Rf 54) (Rf 55) (I_35 6) (Bg ad) (Wkk ad) Qm Z_46 (rfs 6 (fun j => ad (229 + j))) (hAd.fc [5, 6] (by simp only [List.nodup_cons, List.mem_cons, List.not_mem_nil, or_false, not_or, List.nodup_nil, and_true, not_false_eq_true]; omega) (by intro q hq; simp only [List.mem_cons, List.not_mem_nil, or_false] at hq; omega)) hC_46.sp hC_46.gs hAd.sp hC_46.2.2.1 (hAd.outs [5, 6] (by intro q hq; simp only [List.mem_cons, List.not_mem_nil, or_false] at hq; omega)) (fun b hb => Wkk.bg hb) hC_46.2.2.2.2.1 hC_46.2.2.2.2.2) (cwV 3 hts (gw_V w_478 w_411 w_412 w_4 w_413) rfl rfl rfl (by decide +kernel) ⟨by rw [hRf]; exact Nat.le_of_ble_eq_true rfl, by rw [hRl]; exact Nat.le_of_ble_eq_true rfl⟩) ⟨K0.blind, B.recv (hAd.1 _ (by omega)) (hC_46.sp) rfl, B.pre _⟩ rfl rfl hl.1 rfl (lv_room (Nat.le_of_ble_eq_true rfl)) d_RR_at_68 ⟨by rw [hRc]; omega, by rw [hRs]; omega⟩) (fun r68 g68 H locs hw B => ?_)
        obtain ⟨gt_68, gp_68, ga_68, gb_68, Z_68, rfl, hZt_68, hWd_68, hNe_68, hZo_68, hBB_68, hq_68, hc1_68, hc2_68⟩ := hw
        obtain ⟨R_68, hR_68⟩ : ∃ R_68, R_68 = upW Rf gt_68 gp_68 ga_68 gb_68 := ⟨_, rfl⟩
        have hC_68 : CSt cs ad Qm g68 I_35 Af R_68 Z_68 := by
          have h9 := CSt.spot hAd hC_46 [6] hWd_68 hNe_68 hBB_68 hq_68 (fun k hk => by rw [List.mem_singleton.mp hk]; exact ⟨by decide, hc2_68.trans hC_46.gs.symm⟩) hc1_68
          rw [up_same, ← hR_68] at h9
          exact h9
        have hfr_68 : ∀ k, Awy ad k → g68 k = f k := fun k hk => (hq_68 k (hk.out hAd) (hk.nin [5, 6] (by intro q hq; simp only [List.mem_cons, List.not_mem_nil, or_false] at hq; omega))).trans (hfr_46 k hk)
        have B : Wb D vwCl (TY cs) L g68 (AL L s.heap.size) s H _ := B
        subst hQ hav
        exact x_iret hx hb hr hlocks B d_RR_at_71 (⟨I_35, Af, R_68, Z_68, hC_68, hfr_68, hInv.scr (fun i hi => hIo_35 i (by omega)) (fun _ _ => rfl), ⟨hIo_35 0 (by decide), fun _ _ => rfl⟩, Or.inr ⟨by omega, by rw [es_zero (fun j hj => hkdz j (by omega) hj) _, sg_zero]⟩⟩)
      · obtain ⟨nn, hnn⟩ : ∃ nn, kd = nn + 1 := ⟨kd - 1, by omega⟩
        have hI6n : I_35 6 = (nn : Int) := by rw [hI6_35]; omega
        have hRB10 : RowB (Af (20 + p0)) 10 := fun j hj => by have := hVM j hj; omega
        refine lv_aload_n hx hb d_RR_at_38 rfl (lv_at hl 0 rfl) ?_
        refine x_get (C := RX6) (T := TX6) (N := 14) hx hb hts inX6 hown (B.foc1 (hC_35.x)) (hAd.f1 (by omega)) 0 rfl rfl 3 (by decide) (hts _ w_200) (fun _ h9 => h9) rfl d_RR_at_39 ?_
        refine lv_iload_n hx hb d_RR_at_42 rfl (lv_at hl 2 rfl) ?_
        refine x_i2l hx hb d_RR_at_43 (by omega) ?_
        refine lv_iload_n hx hb d_RR_at_44 rfl (lv_at hl 3 rfl) ?_
        refine x_i2l hx hb d_RR_at_45 (by omega) ?_
        obtain ⟨sdn460, nnn460, lmn460, c1n460, c2n460, c3n460⟩ := hC_35.2.2.1 (ad 227) (Bg.pl (by decide))
        obtain ⟨sdn461, nnn461, lmn461, c1n461, c2n461, c3n461⟩ := hC_35.2.2.1 (ad 228) (Bg.pl (by decide))
        have hqan46 : Qm (ad 227) = ad 288 := hAd.2.2 44 (by decide)
        have hqbn46 : Qm (ad 228) = ad 289 := hAd.2.2 45 (by decide)
        refine x_callv B hA (va_runV (As := [.long (lI a2), .long (lI a3)]) (rest := []) ⟨hx, hb, hml, hown, hts⟩ (c_Spot_number l D cs _ _ _ (ad 5) (ad 227) (ad 228) (ad 6) (Rf 52) (Rf 53) (Rf 54) (Rf 55) (Qm (ad 227)) (Qm (ad 228)) (I_35 6) sdn460 sdn461 nnn460 nnn461 lmn460 lmn461 a2 a3 (by rw [hqan46, hqbn46]; exact hAd.fc [5, 227, 288, 228, 289] (by decide) (by decide)) hC_35.sp c1n460 c2n460 c1n461 c2n461 (by omega) (by omega)) (cwV 2 hts (gw_V w_401 w_402 w_403 w_4 w_404) rfl rfl rfl (by decide +kernel) ⟨by rw [hRf]; exact Nat.le_of_ble_eq_true rfl, by rw [hRl]; exact Nat.le_of_ble_eq_true rfl⟩) ⟨K0.blind, B.recv (hAd.1 _ (by omega)) (hC_35.sp) rfl, B.pre _⟩ rfl rfl hl.1 rfl (lv_room (Nat.le_of_ble_eq_true rfl)) d_RR_at_46 ⟨by rw [hRc]; omega, by rw [hRs]; omega⟩) (fun g46 H locs hw B => ?_)
        obtain ⟨s1_46, n1_46, l1_46, s2_46, n2_46, l2_46, hz1_46, hz2_46, hg_46⟩ := hw
        obtain ⟨hC_46, hq_46⟩ := CSt.number hAd hC_35 hz1_46 hz2_46 hg_46
        obtain ⟨Z_46, hZ_46⟩ : ∃ Z_46, Z_46 = up (up Z_35 (ad 228) a3) (ad 227) a2 := ⟨_, rfl⟩
        rw [← hZ_46] at hC_46
        have hfr_46 : ∀ k, Awy ad k → g46 k = f k := fun k hk => (hq_46 k hk).trans (hfr_35 k hk)
        have hZu_46 : Z_46 (ad 227) = a2 := by rw [hZ_46, up_self]
        have hZl_46 : Z_46 (ad 228) = a3 := by rw [hZ_46, up_ne _ _ (hAd.ne (by decide) (by decide) (by decide)), up_self]
        have B : Wb D vwCl (TY cs) L g46 (AL L s.heap.size) s H _ := B
        have hZs_46 : ∀ j, j < 6 → Z_46 (ad (229 + j)) = Af (20 + p0) j := fun j hj => by rw [hZ_46, up_ne _ _ (hAd.ne (by omega) (by omega) (by omega)), up_ne _ _ (hAd.ne (by omega) (by omega) (by omega))]; exact hZs_35 j hj
        refine lv_aload_n hx hb d_RR_at_49 rfl (lv_at hl 0 rfl) ?_
        refine x_get (C := RX6) (T := TX6) (N := 14) hx hb hts inX6 hown (B.foc1 (hC_46.x)) (hAd.f1 (by omega)) 0 rfl rfl 3 (by decide) (hts _ w_200) (fun _ h9 => h9) rfl d_RR_at_50 ?_
        refine lv_aload_n hx hb d_RR_at_53 rfl (lv_at hl 0 rfl) ?_
        refine x_get (C := RX6) (T := TX6) (N := 14) hx hb hts inX6 hown (B.foc1 (hC_46.x)) (hAd.f1 (by omega)) 0 rfl rfl 3 (by decide) (hts _ w_200) (fun _ h9 => h9) rfl d_RR_at_54 ?_
        refine x_get (C := RX5) (T := TX5) (N := 8) hx hb hts inX5 hown (B.foc1 (hC_46.sp)) (hAd.f1 (by omega)) 0 rfl rfl 2 (by decide) (hts _ w_89) (fun _ h9 => h9) rfl d_RR_at_57 ?_
        refine x_iconst hx hb d_RR_at_60 ?_
        refine lv_aload_n hx hb d_RR_at_61 rfl (lv_at hl 0 rfl) ?_
        refine x_get (C := RX6) (T := TX6) (N := 14) hx hb hts inX6 hown (B.foc1 (hC_46.x)) (hAd.f1 (by omega)) 0 rfl rfl 3 (by decide) (hts _ w_200) (fun _ h9 => h9) rfl d_RR_at_62 ?_
        refine x_get (C := RX5) (T := TX5) (N := 8) hx hb hts inX5 hown (B.foc1 (hC_46.sp)) (hAd.f1 (by omega)) 0 rfl rfl 3 (by decide) (hts _ w_91) (fun _ h9 => h9) rfl d_RR_at_65 ?_
        rw [hI6n]
        refine x_calli B hA (va_runV (As := [.ref ((ad 6)), .int (iI 0), .int (iI ((nn : Int)))]) (rest := []) ⟨hx, hb, hml, hown, hts⟩ (c_Spot_signOf_s l D cs _ _ _ (ad 5) (ad 6) (ad 227) (ad 228) (ad 6) (Rf 52) (Rf 53) (Rf 54) (Rf 55) 0 nn (I_35 6) (Bg ad) (Wkk ad) Qm Z_46 (rfs 6 (fun j => ad (229 + j))) (fun j => ad (229 + j)) (hAd.fc [5, 6] (by simp only [List.nodup_cons, List.mem_cons, List.not_mem_nil, or_false, not_or, List.nodup_nil, and_true, not_false_eq_true]; omega) (by intro q hq; simp only [List.mem_cons, List.not_mem_nil, or_false] at hq; omega)) hC_46.sp hC_46.gs hAd.sp hC_46.2.2.1 (hAd.outs [5, 6] (by intro q hq; simp only [List.mem_cons, List.not_mem_nil, or_false] at hq; omega)) (fun b hb => Wkk.bg hb) hC_46.2.2.2.2.1 hC_46.2.2.2.2.2 (Bg.pl (by decide)) (Bg.pl (by decide)) (Wkk.not hAd (by decide) (by decide)) (Wkk.not hAd (by decide) (by decide)) (by omega) (by omega) (fun j hj => by rw [Nat.zero_add]; exact rfs_at (by omega)) (fun j hj => ⟨Bg.pl (by omega), Wkk.not hAd (by omega) (by omega)⟩) (sp_room (c := (fun j => Z_46 ((fun j => ad (229 + j)) (0 + j)))) (a := 10) (fun j hj => by show ((Z_46 (ad (229 + (0 + j)))).natAbs : Int) < _; rw [Nat.zero_add, hZs_46 j hj]; exact hRB10 j hj) (by omega) (by omega) (by rw [hZu_46]; exact Int.lt_of_le_of_lt (show ((a2 : Int).natAbs : Int) ≤ 1000000 by omega) (by decide)) (by rw [hZl_46]; exact Int.lt_of_le_of_lt (show ((a3 : Int).natAbs : Int) ≤ 1000000 by omega) (by decide)))) (cwV 3 hts (gw_V w_478 w_411 w_412 w_4 w_413) rfl rfl rfl (by decide +kernel) ⟨by rw [hRf]; exact Nat.le_of_ble_eq_true rfl, by rw [hRl]; exact Nat.le_of_ble_eq_true rfl⟩) ⟨K0.blind, B.recv (hAd.1 _ (by omega)) (hC_46.sp) rfl, B.pre _⟩ rfl rfl hl.1 rfl (lv_room (Nat.le_of_ble_eq_true rfl)) d_RR_at_68 ⟨by rw [hRc]; omega, by rw [hRs]; omega⟩) (fun r68 g68 H locs hw B => ?_)
        obtain ⟨gt_68, gp_68, ga_68, gb_68, Z_68, rfl, hZt_68, hWd_68, hNe_68, hZo_68, hBB_68, hq_68, hc1_68, hc2_68⟩ := hw
        obtain ⟨R_68, hR_68⟩ : ∃ R_68, R_68 = upW Rf gt_68 gp_68 ga_68 gb_68 := ⟨_, rfl⟩
        have hC_68 : CSt cs ad Qm g68 I_35 Af R_68 Z_68 := by
          have h9 := CSt.spot hAd hC_46 [6] hWd_68 hNe_68 hBB_68 hq_68 (fun k hk => by rw [List.mem_singleton.mp hk]; exact ⟨by decide, hc2_68.trans hC_46.gs.symm⟩) hc1_68
          rw [up_same, ← hR_68] at h9
          exact h9
        have hfr_68 : ∀ k, Awy ad k → g68 k = f k := fun k hk => (hq_68 k (hk.out hAd) (hk.nin [5, 6] (by intro q hq; simp only [List.mem_cons, List.not_mem_nil, or_false] at hq; omega))).trans (hfr_46 k hk)
        obtain ⟨sa, hsa⟩ : ∃ sa : Int, sa = (hsum (fun j => Z_46 ((fun j => ad (229 + j)) (0 + j))) nn (Z_46 (ad 227)) (Z_46 (ad 228)) nn).sign := ⟨_, rfl⟩
        rw [← hsa]
        have hsaS : sa = sg (es (Af (20 + p0)) 6 (((a2 : Rat) / (a3 : Rat)))) := by rw [hsa, ← (show (Z_46 (ad 227) : Rat) / (Z_46 (ad 228) : Rat) = (a2 : Rat) / (a3 : Rat) by rw [hZu_46, hZl_46])]; exact sgn_row (by rw [hZl_46]; omega) (by omega) (fun j hj => by show Z_46 (ad (229 + (0 + j))) = _; rw [Nat.zero_add]; exact (hZs_46 j hj).trans (rfl)) (fun j h1 h2 => hkdz j (by omega) h2)
        have hsar : -1 ≤ sa ∧ sa ≤ 1 := by rw [hsaS]; exact sg_rng _
        have B : Wb D vwCl (TY cs) L g68 (AL L s.heap.size) s H _ := B
        have hrw_68 : ∀ t, t < 42 → Z_68 (R_68 t) = Z_46 (Rf t) := fun t ht => by rw [hR_68, upW_lt ht]; exact hZo_68 _ (Ckk.wk hAd (hC_46.rck ht))
        have hZu_68 := (hZo_68 (ad 227) (Wkk.not hAd (by decide) (by decide))).trans hZu_46
        have hZl_68 := (hZo_68 (ad 228) (Wkk.not hAd (by decide) (by decide))).trans hZl_46
        have hZs_68 : ∀ j, j < 6 → Z_68 (ad (229 + j)) = (Af (20 + p0)) j := fun j hj => (hZo_68 (ad (229 + j)) (Wkk.not hAd (by omega) (by omega))).trans (hZs_46 j hj)
        subst hQ hav
        exact x_iret hx hb hr hlocks B d_RR_at_71 (⟨I_35, Af, R_68, Z_68, hC_68, hfr_68, hInv.scr (fun i hi => hIo_35 i (by omega)) (fun _ _ => rfl), ⟨hIo_35 0 (by decide), fun _ _ => rfl⟩, Or.inr ⟨by omega, by rw [hsaS]⟩⟩)
    · refine x_bipush hx hb d_RR_at_19 (by decide) ?_
      subst hQ hav
      exact x_iret hx hb hr hlocks B d_RR_at_21 (⟨If, Af, Rf, Zf, hC, hfr, hInv, ⟨rfl, fun _ _ => rfl⟩, Or.inl ⟨by omega, rfl⟩⟩)
  · exfalso; omega
