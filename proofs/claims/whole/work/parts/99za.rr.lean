theorem sg_rng (x : Rat) : -1 ≤ sg x ∧ sg x ≤ 1 := by rcases sg_mem x with h | h | h <;> rw [h] <;> decide
theorem d_RR_deepenByCount_0 : decode prog_1_method_45_code 0 = .ok (.aload_n 1, 1) := by decide +kernel
theorem d_RR_deepenByCount_1 : decode prog_1_method_45_code 1 = .ok (.getfield 129, 3) := by decide +kernel
theorem d_RR_deepenByCount_4 : decode prog_1_method_45_code 4 = .ok (.iload_n 2, 1) := by decide +kernel
theorem d_RR_deepenByCount_5 : decode prog_1_method_45_code 5 = .ok (.aaload, 1) := by decide +kernel
theorem d_RR_deepenByCount_6 : decode prog_1_method_45_code 6 = .ok (.astore_n 3, 1) := by decide +kernel
theorem d_RR_deepenByCount_7 : decode prog_1_method_45_code 7 = .ok (.aload_n 3, 1) := by decide +kernel
theorem d_RR_deepenByCount_8 : decode prog_1_method_45_code 8 = .ok (.invokevirtual 318, 3) := by decide +kernel
theorem d_RR_deepenByCount_11 : decode prog_1_method_45_code 11 = .ok (.ifCond .eq 37, 3) := by decide +kernel
theorem d_RR_deepenByCount_14 : decode prog_1_method_45_code 14 = .ok (.aload_n 0, 1) := by decide +kernel
theorem d_RR_deepenByCount_15 : decode prog_1_method_45_code 15 = .ok (.getfield 29, 3) := by decide +kernel
theorem d_RR_deepenByCount_18 : decode prog_1_method_45_code 18 = .ok (.aload_n 3, 1) := by decide +kernel
theorem d_RR_deepenByCount_19 : decode prog_1_method_45_code 19 = .ok (.invokevirtual 158, 3) := by decide +kernel
theorem d_RR_deepenByCount_22 : decode prog_1_method_45_code 22 = .ok (.aload_n 0, 1) := by decide +kernel
theorem d_RR_deepenByCount_23 : decode prog_1_method_45_code 23 = .ok (.getfield 22, 3) := by decide +kernel
theorem d_RR_deepenByCount_26 : decode prog_1_method_45_code 26 = .ok (.aload_n 0, 1) := by decide +kernel
theorem d_RR_deepenByCount_27 : decode prog_1_method_45_code 27 = .ok (.getfield 29, 3) := by decide +kernel
theorem d_RR_deepenByCount_30 : decode prog_1_method_45_code 30 = .ok (.invokevirtual 187, 3) := by decide +kernel
theorem d_RR_deepenByCount_33 : decode prog_1_method_45_code 33 = .ok (.aload_n 0, 1) := by decide +kernel
theorem d_RR_deepenByCount_34 : decode prog_1_method_45_code 34 = .ok (.getfield 22, 3) := by decide +kernel
theorem d_RR_deepenByCount_37 : decode prog_1_method_45_code 37 = .ok (.invokevirtual 301, 3) := by decide +kernel
theorem d_RR_deepenByCount_40 : decode prog_1_method_45_code 40 = .ok (.iload_n 2, 1) := by decide +kernel
theorem d_RR_deepenByCount_41 : decode prog_1_method_45_code 41 = .ok (.if_icmp .le 7, 3) := by decide +kernel
theorem d_RR_deepenByCount_44 : decode prog_1_method_45_code 44 = .ok (.aload_n 3, 1) := by decide +kernel
theorem d_RR_deepenByCount_45 : decode prog_1_method_45_code 45 = .ok (.invokevirtual 322, 3) := by decide +kernel
theorem d_RR_deepenByCount_48 : decode prog_1_method_45_code 48 = .ok (.return_, 1) := by decide +kernel
set_option maxHeartbeats 8000000 in
set_option maxRecDepth 100000 in
theorem c_RR_deepenByCount (l : Launch) (D : va_G) (cs : Nat → ClassId) (L : List Nat) (f : Nat → va_E) (sz : Nat) (ad Qm : Nat → Nat) (If : Nat → Int) (Af : Nat → Nat → Int) (Rf : Nat → Nat) (Zf : Nat → Int) (p0 i0 dp : Nat) (v : Int) (N : Rat → Int) (hAd : AdOk L ad Qm) (hC : CSt cs ad Qm f If Af Rf Zf) (hp0 : p0 < 12) (hi0 : i0 < 5) (hNB : NB (Af (40 + p0)) N) (hdp : If (200 + (5 * p0 + i0)) = (dp : Int)) (hpl : Pl (If (100 + (5 * p0 + i0))) dp (Af (100 + (5 * p0 + i0))) v) (hcell : Cell N (i0 : Int) v dp) (hch : ChF (Af (40 + p0)) If Af Rf Zf) : Met l (⟨"RealRoots", "deepenByCount", "(LRealRoots$Curve;I)V"⟩ : MethodName) (.code (⟨"RealRoots", "deepenByCount", "(LRealRoots$Curve;I)V"⟩ : MethodName) prog_1_method_45_code 4 (Option.none : Option Jvm.ClassFile.FieldType) :: gw) ({ frames := 4, cells := 0, slots := 0, locals := 200 }) (va_Pc [.ref ((ad 0)), .ref ((ad (15 + p0))), .int (iI ((i0 : Int)))] (K0 D vwCl (TY cs) L f sz)) (va_Qv (fun (g : Nat → va_E) => ∃ (I' : Nat → Int) (A' : Nat → Nat → Int) (R' : Nat → Nat) (Z' : Nat → Int), CSt cs ad Qm g I' A' R' Z' ∧ (∀ k, Awy ad k → g k = f k) ∧ (∃ (dp' : Nat) (v' : Int), I' (200 + (5 * p0 + i0)) = (dp' : Int) ∧ Pl (I' (100 + (5 * p0 + i0))) dp' (A' (100 + (5 * p0 + i0))) v' ∧ Cell N (i0 : Int) v' dp' ∧ ((dp = 248 ∧ dp' = dp ∧ v' = v) ∨ (dp < 248 ∧ dp' = dp + 1 ∧ v' / 2 = v))) ∧ ChF (Af (40 + p0)) I' A' R' Z' ∧ (∀ i, i ≠ 4 → i ≠ 5 → i ≠ 200 + (5 * p0 + i0) → I' i = If i) ∧ ∀ q, q ≠ 100 + (5 * p0 + i0) → A' q = Af q) (K1 D vwCl (TY cs) (AL L sz) L) (AL L sz)) 0 0 (AL L sz) := by
  refine Met.ofW (cc := prog_1_method_45_code) (maxL := 4) (ret := (Option.none : Option Jvm.ClassFile.FieldType)) (by decide) rfl ?_
  intro p e s m args below meth c s₁ Bd hml hv
  obtain ⟨rfl, hk0⟩ := hv
  obtain ⟨hsz, B⟩ := hk0.start
  subst hsz
  have hx := Bd.exec
  have hb := Bd.bytes
  have hr := Bd.returns
  have hlocks := Bd.notSynchronized
  have hts0 := atoms_spec Bd.pre
  have hown : s.vm.findClass RX6 = some m.cls := findClass_of_methodNamed Bd.named
  have hA : ∀ q, s.heap.size ≤ q → AL L s.heap.size q := fun _ h => Or.inr h
  have hl := lv_entry ([.ref ((ad 0)), .ref ((ad (15 + p0))), .int (iI ((i0 : Int)))]) (n := 4) (Nat.le_of_ble_eq_true rfl)
  rw [lg_entry_eq]
  generalize (lg_sl ([.ref ((ad 0)), .ref ((ad (15 + p0))), .int (iI ((i0 : Int)))]) ++ List.replicate (4 - (lg_sl ([.ref ((ad 0)), .ref ((ad (15 + p0))), .int (iI ((i0 : Int)))])).length) Slot.unset).toArray = ls at hl ⊢
  refine absQ (fun Q R av hQ hR hav => ?_)
  have hts : ∀ w ∈ gw, w.before av s = true := by rw [hav]; exact fun w h => hts0 w (List.mem_cons_of_mem _ h)
  have hRf : R.frames = 4 := by rw [hR]; rfl
  have hRl : R.locals = 200 := by rw [hR]; rfl
  have hRc : R.cells = 0 := by rw [hR]; rfl
  have hRs : R.slots = 0 := by rw [hR]; rfl
  clear hR hts0 Bd
  have hl : lv_has ls 4 [(0, .ref ((ad 0))), (1, .ref ((ad (15 + p0)))), (2, .int (iI ((i0 : Int))))] := hl
  have hfr : ∀ k, Awy ad k → f k = f k := fun _ _ => rfl
  refine lv_aload_n hx hb d_RR_deepenByCount_0 rfl (lv_at hl 1 rfl) ?_
  refine x_get (C := RX2) (T := TX2) (N := 5) hx hb hts inX2 hown (B.foc1 (hC.cu (p := p0) (by omega))) (hAd.f1 (by omega)) 0 rfl rfl 2 (by decide) (hts _ w_181) (fun _ h9 => h9) rfl d_RR_deepenByCount_1 ?_
  refine lv_iload_n hx hb d_RR_deepenByCount_4 rfl (lv_at hl 2 rfl) ?_
  refine x_aald hx hb (B.foc1 (hC.pa (p := p0) (by omega))) (hAd.f1 (by omega)) 0 5 rfl rfl i0 (by omega) (by omega) (by decide) (rfs_at (by omega)) d_RR_deepenByCount_5 ?_
  refine lv_astore_n (lv' := [(3, .ref ((ad (63 + (5 * p0 + i0))))), (0, .ref ((ad 0))), (1, .ref ((ad (15 + p0)))), (2, .int (iI ((i0 : Int))))]) hx hb d_RR_deepenByCount_6 rfl hl (by decide) rfl (fun ls hl => ?_)
  rcases Nat.lt_or_ge dp 248 with hfull | hfull
  · refine lv_aload_n hx hb d_RR_deepenByCount_7 rfl (lv_at hl 0 rfl) ?_
    refine x_calli B hA (va_runV (As := []) (rest := []) ⟨hx, hb, hml, hown, hts⟩ (c_Place_lengthen l D cs _ _ _ (ad (63 + (5 * p0 + i0))) (ad (123 + (5 * p0 + i0))) dp (If (100 + (5 * p0 + i0))) (Af (100 + (5 * p0 + i0))) (hAd.fc [63 + (5 * p0 + i0), 123 + (5 * p0 + i0)] (by simp only [List.nodup_cons, List.mem_cons, List.not_mem_nil, or_false, not_or, List.nodup_nil, and_true, not_false_eq_true]; omega) (by intro q hq; simp only [List.mem_cons, List.not_mem_nil, or_false] at hq; omega)) (by rw [← hdp]; exact hC.pl (m := (5 * p0 + i0)) (by omega)) (hC.wq (m := (5 * p0 + i0)) (by omega)) (by omega) (hpl.2.1 _ (by omega)) (hpl.bit (by omega))) (cwV 0 hts (gw_V w_442 w_443 w_444 w_7 w_445) rfl rfl rfl (by decide +kernel) ⟨by rw [hRf]; exact Nat.le_of_ble_eq_true rfl, by rw [hRl]; exact Nat.le_of_ble_eq_true rfl⟩) ⟨K0.blind, B.recv (hAd.1 _ (by omega)) (hC.pl (m := (5 * p0 + i0)) (by omega)) rfl, B.pre _⟩ rfl rfl hl.1 rfl (lv_room (Nat.le_of_ble_eq_true rfl)) d_RR_deepenByCount_8 ⟨by rw [hRc]; omega, by rw [hRs]; omega⟩) (fun r8 g8 H locs hw B => ?_)
    obtain ⟨rfl, rfl⟩ := hw
    have B : Wb D vwCl (TY cs) L (mw f [((ad (63 + (5 * p0 + i0))), .inr (3, [.int (iI (If (100 + (5 * p0 + i0)))), .int (iI (((dp + 1 : Nat) : Int))), .ref (ad (123 + (5 * p0 + i0)))])), ((ad (123 + (5 * p0 + i0))), .inl (cs 0, 8, .inl (ai (up (Af (100 + (5 * p0 + i0))) (dp / 31) (Af (100 + (5 * p0 + i0)) (dp / 31) + 2 ^ (30 - dp % 31))))))]) (AL L s.heap.size) s H _ := B
    obtain ⟨f_8, hf_8⟩ : ∃ f_8, f_8 = mw f [((ad (63 + (5 * p0 + i0))), .inr (3, [.int (iI (If (100 + (5 * p0 + i0)))), .int (iI (((dp + 1 : Nat) : Int))), .ref (ad (123 + (5 * p0 + i0)))])), ((ad (123 + (5 * p0 + i0))), .inl (cs 0, 8, .inl (ai (up (Af (100 + (5 * p0 + i0))) (dp / 31) (Af (100 + (5 * p0 + i0)) (dp / 31) + 2 ^ (30 - dp % 31))))))] := ⟨_, rfl⟩
    rw [← hf_8] at B
    obtain ⟨I_8, hI_8⟩ : ∃ I_8, I_8 = up (up If (100 + (5 * p0 + i0)) (If (100 + (5 * p0 + i0)))) (200 + (5 * p0 + i0)) ((dp + 1 : Nat) : Int) := ⟨_, rfl⟩
    obtain ⟨A_8, hA_8⟩ : ∃ A_8, A_8 = upA Af (100 + (5 * p0 + i0)) (up (Af (100 + (5 * p0 + i0))) (dp / 31) (Af (100 + (5 * p0 + i0)) (dp / 31) + 2 ^ (30 - dp % 31))) := ⟨_, rfl⟩
    have hC_8 : CSt cs ad Qm f_8 I_8 A_8 Rf Zf := by rw [hf_8, hI_8, hA_8]; exact CSt.w_pl hAd hC (m := (5 * p0 + i0)) (by omega) _ _ _
    have hfr_8 : ∀ k, Awy ad k → f_8 k = f k := fun k hk => Eq.trans (by rw [hf_8]; exact hk.mws [63 + (5 * p0 + i0), 123 + (5 * p0 + i0)] (by intro j hj; simp only [List.mem_cons, List.not_mem_nil, or_false] at hj; omega) rfl) (hfr k hk)
    have hIo_8 : ∀ i, i ≠ 200 + (5 * p0 + i0) → I_8 i = If i := fun i hi => by rw [hI_8, up_ne _ _ hi, up_same]
    have hId_8 : I_8 (200 + (5 * p0 + i0)) = ((dp + 1 : Nat) : Int) := by rw [hI_8, up_self]
    have hPl_8 : Pl (I_8 (100 + (5 * p0 + i0))) (dp + 1) (A_8 (100 + (5 * p0 + i0))) (2 * v + 1) := by rw [hIo_8 _ (by omega), hA_8, upA_self]; exact hpl.lengthen (by omega)
    have hAo_8 : ∀ q, q ≠ 100 + (5 * p0 + i0) → A_8 q = Af q := fun q hq => by rw [hA_8, upA_ne _ _ hq]
    have hch_8 := hch.keep (I' := I_8) (A' := A_8) (R' := Rf) (Z' := Zf) (hIo_8 3 (by omega)) (hAo_8 7 (by omega)) (fun _ _ => rfl)
    refine x_if_eq (tgt := 48) hx hb d_RR_deepenByCount_11 (by decide) (by omega) (fun h11 => ?_) (fun h11 => ?_)
    · exfalso; omega
    · have hr2 := hcell.rng2
      have hwh2 := hPl_8.whr (by omega)
      obtain ⟨hsm1, hsm2, hsm3⟩ := pl_small (v := 2 * v + 1) (dp := dp + 1) (by omega) (by omega)
      refine lv_aload_n hx hb d_RR_deepenByCount_14 rfl (lv_at hl 1 rfl) ?_
      refine x_get (C := RX6) (T := TX6) (N := 14) hx hb hts inX6 hown (B.foc1 (hC_8.x)) (hAd.f1 (by omega)) 0 rfl rfl 3 (by decide) (hts _ w_200) (fun _ h9 => h9) rfl d_RR_deepenByCount_15 ?_
      refine lv_aload_n hx hb d_RR_deepenByCount_18 rfl (lv_at hl 0 rfl) ?_
      refine x_callv B hA (va_runV (As := [.ref ((ad (63 + (5 * p0 + i0))))]) (rest := []) ⟨hx, hb, hml, hown, hts⟩ (c_Spot_start l D cs _ _ _ (ad 5) (ad (63 + (5 * p0 + i0))) (ad (123 + (5 * p0 + i0))) (ad 227) (ad 228) (ad 6) (Rf 52) (Rf 53) (Rf 54) (Rf 55) (dp + 1) (I_8 6) (I_8 (100 + (5 * p0 + i0))) (Bg ad) Qm Zf (A_8 (100 + (5 * p0 + i0))) (hAd.fc [5, 63 + (5 * p0 + i0), 123 + (5 * p0 + i0)] (by simp only [List.nodup_cons, List.mem_cons, List.not_mem_nil, or_false, not_or, List.nodup_nil, and_true, not_false_eq_true]; omega) (by intro q hq; simp only [List.mem_cons, List.not_mem_nil, or_false] at hq; omega)) hC_8.sp (by rw [← hId_8]; exact hC_8.pl (m := (5 * p0 + i0)) (by omega)) (hC_8.wq (m := (5 * p0 + i0)) (by omega)) hAd.sp hC_8.2.2.1 (hAd.outs [5, 63 + (5 * p0 + i0), 123 + (5 * p0 + i0)] (by intro q hq; simp only [List.mem_cons, List.not_mem_nil, or_false] at hq; omega)) (Bg.pl (by decide)) (Bg.pl (by decide)) hC_8.2.2.2.2.1.2.2.2.bg (Ne.symm (Wkk.na hAd hC_8.2.2.2.2.1.2.2.2 (by decide) (by decide))) (hAd.ne (by decide) (by decide) (by decide)) (Wkk.na hAd hC_8.2.2.2.2.1.2.2.2 (by decide) (by decide)) (by omega) hPl_8.1 hPl_8.2.1) (cwV 1 hts (gw_V w_446 w_447 w_448 w_4 w_449) rfl rfl rfl (by decide +kernel) ⟨by rw [hRf]; exact Nat.le_of_ble_eq_true rfl, by rw [hRl]; exact Nat.le_of_ble_eq_true rfl⟩) ⟨K0.blind, B.recv (hAd.1 _ (by omega)) (hC_8.sp) rfl, B.pre _⟩ rfl rfl hl.1 rfl (lv_room (Nat.le_of_ble_eq_true rfl)) d_RR_deepenByCount_19 ⟨by rw [hRc]; omega, by rw [hRs]; omega⟩) (fun g19 H locs hw B => ?_)
      obtain ⟨Z_19, hZu_19, hZl_19, hZo_19, hBB_19, hq_19, hc1_19, hc2_19, hc3_19⟩ := hw
      have hC_19 : CSt cs ad Qm g19 I_8 A_8 Rf Z_19 := CSt.bigsL hAd hC_8 [5, 63 + (5 * p0 + i0), 123 + (5 * p0 + i0)] hBB_19 hq_19 (fun k hk => by
          simp only [List.mem_cons, List.not_mem_nil, or_false] at hk
          rcases hk with h | h | h <;> rw [h]
          · exact ⟨by omega, hc1_19.trans hC_8.sp.symm⟩
          · exact ⟨by omega, hc2_19.trans (Eq.symm (by rw [← hId_8]; exact hC_8.pl (m := (5 * p0 + i0)) (by omega)))⟩
          · exact ⟨by omega, hc3_19.trans (hC_8.wq (m := (5 * p0 + i0)) (by omega)).symm⟩)
      have hfr_19 : ∀ k, Awy ad k → g19 k = f k := fun k hk => (hq_19 k (hk.out hAd) (hk.nin [5, 63 + (5 * p0 + i0), 123 + (5 * p0 + i0)] (by intro q hq; simp only [List.mem_cons, List.not_mem_nil, or_false] at hq; omega))).trans (hfr_8 k hk)
      have B : Wb D vwCl (TY cs) L g19 (AL L s.heap.size) s H _ := B
      have hch_19 := hch_8.keep (I' := I_8) (A' := A_8) (R' := Rf) (Z' := Z_19) (rfl) (rfl) (fun t ht => hZo_19 _ (ckk_ne hAd (hC_8.rck ht) (by decide)) (ckk_ne hAd (hC_8.rck ht) (by decide)) (wkk_ne hAd (hC_8.rck ht) hC_8.2.2.2.2.1.2.2.2))
      rw [(hPl_8).up.1] at hZu_19
      rw [(hPl_8).up.2] at hZl_19
      refine lv_aload_n hx hb d_RR_deepenByCount_22 rfl (lv_at hl 1 rfl) ?_
      refine x_get (C := RX6) (T := TX6) (N := 14) hx hb hts inX6 hown (B.foc1 (hC_19.x)) (hAd.f1 (by omega)) 0 rfl rfl 2 (by decide) (hts _ w_199) (fun _ h9 => h9) rfl d_RR_deepenByCount_23 ?_
      refine lv_aload_n hx hb d_RR_deepenByCount_26 rfl (lv_at hl 1 rfl) ?_
      refine x_get (C := RX6) (T := TX6) (N := 14) hx hb hts inX6 hown (B.foc1 (hC_19.x)) (hAd.f1 (by omega)) 0 rfl rfl 3 (by decide) (hts _ w_200) (fun _ h9 => h9) rfl d_RR_deepenByCount_27 ?_
      have hxx : ((Z_19 (ad 227) : Rat) / (Z_19 (ad 228) : Rat)) = Pt (2 * v + 1) (dp + 1) := Pt_of hZu_19 hZl_19
      obtain ⟨Gk30, hG1k30, hG2k30⟩ := hC_19.2.1
      have hcxk30 := hch_19
      obtain ⟨nk30, hI3k30, hSsk30, hTpk30, hBtk30⟩ := hcxk30
      have hn6k30 := hSsk30.2.1
      refine x_callv B hA (va_runV (As := [.ref ((ad 5))]) (rest := []) ⟨hx, hb, hml, hown, hts⟩ (c_Chain_look l D cs _ _ _ (ad 2) (ad 3) (ad 4) (Rf 42) (ad 226) nk30 (I_8 4) (I_8 5) (A_8 7) (fun k => (A_8 7 k).toNat) Gk30 Rf (ad 5) (ad 227) (ad 228) (ad 6) (Rf 52) (Rf 53) (Rf 54) (Rf 55) (I_8 6) (Wkk ad) (Bg ad) Qm Z_19 (hAd.fc [2, 3, 4, 5] (by simp only [List.nodup_cons, List.mem_cons, List.not_mem_nil, or_false, not_or, List.nodup_nil, and_true, not_false_eq_true]; omega) (by intro q hq; simp only [List.mem_cons, List.not_mem_nil, or_false] at hq; omega)) (by rw [← hI3k30]; exact hC_19.ch) hG2k30 hC_19.tq ⟨hSsk30.1, hSsk30.2.1⟩ (fun k hk => (tops_dg hTpk30 k hk).1) hG1k30 (fun t ht => (hC_19.rck ht).bg) (fun k hk => (tops_dg hTpk30 k hk).2) hC_19.sp hAd.sp hC_19.2.2.1 (hAd.outs [2, 3, 4, 5] (by intro q hq; simp only [List.mem_cons, List.not_mem_nil, or_false] at hq; omega)) (fun b hb => Wkk.bg hb) hC_19.2.2.2.2.1 hC_19.2.2.2.2.2 (Bg.pl (by decide)) (Bg.pl (by decide)) (Wkk.not hAd (by decide) (by decide)) (Wkk.not hAd (by decide) (by decide)) (fun t ht => Ckk.wk hAd (hC_19.rck ht)) (by rw [hZl_19]; exact hsm3) (fun Z2 hZ2 => by have hh : ∀ k, k < nk30 → ∀ j, j < 6 → ChRow Rf Z2 k j = ChRow Rf Z_19 k j := fun k hk j hj => hZ2 _ (Ckk.wk hAd (hC_19.rck (by omega))); exact bt_room (r := ChRow Rf Z2) (hTpk30.congr hh (fun _ _ => rfl)) (hBtk30.congr hh) (by rw [hZ2 _ (Wkk.not hAd (by decide) (by decide))]; exact (by rw [hZu_19]; exact hsm1)) (by rw [hZ2 _ (Wkk.not hAd (by decide) (by decide))]; exact (by rw [hZl_19]; exact hsm2)))) (cwV 1 hts (gw_V w_406 w_407 w_408 w_2 w_409) rfl rfl rfl (by decide +kernel) ⟨by rw [hRf]; exact Nat.le_of_ble_eq_true rfl, by rw [hRl]; exact Nat.le_of_ble_eq_true rfl⟩) ⟨K0.blind, B.recv (hAd.1 _ (by omega)) (hC_19.ch) rfl, B.pre _⟩ rfl rfl hl.1 rfl (lv_room (Nat.le_of_ble_eq_true rfl)) d_RR_deepenByCount_30 ⟨by rw [hRc]; omega, by rw [hRs]; omega⟩) (fun g30 H locs hw B => ?_)
      obtain ⟨gtk30, gpk30, gak30, gbk30, Zk30, hWdk30, hNek30, hZZk30, hBBk30, hqk30, hcck30, httk30, htqk30, hspk30⟩ := hw
      obtain ⟨Ik30, hIk30⟩ : ∃ Ik30, Ik30 = up (up I_8 4 (tn (fun k => sg (es (fun j => Z_19 (Rf (6 * k + j))) 6 ((Z_19 (ad 227) : Rat) / (Z_19 (ad 228) : Rat)))) nk30)) 5 ((fun k => sg (es (fun j => Z_19 (Rf (6 * k + j))) 6 ((Z_19 (ad 227) : Rat) / (Z_19 (ad 228) : Rat)))) 0) := ⟨_, rfl⟩
      obtain ⟨Rk30, hRk30⟩ : ∃ Rk30, Rk30 = upW Rf gtk30 gpk30 gak30 gbk30 := ⟨_, rfl⟩
      have hCk30 : CSt cs ad Qm g30 Ik30 A_8 Rk30 Zk30 := by rw [hIk30, hRk30]; exact CSt.look hAd hC_19 hG1k30 hWdk30 hNek30 hBBk30 hqk30 (by rw [hI3k30]; exact hcck30) httk30 htqk30 hspk30
      have hfrk30 : ∀ k, Awy ad k → g30 k = f k := fun k hk => (hqk30 k (hk.out hAd) (hk.nin [2, 3, 4, 5] (by intro q hq; simp only [List.mem_cons, List.not_mem_nil, or_false] at hq; omega))).trans (hfr_19 k hk)
      have hIok30 : ∀ i, i ≠ 4 → i ≠ 5 → Ik30 i = I_8 i := fun i h1 h2 => by rw [hIk30, up_ne _ _ h2, up_ne _ _ h1]
      have hrwk30 : ∀ t, t < 42 → Zk30 (Rk30 t) = Z_19 (Rf t) := fun t ht => by rw [hRk30, upW_lt ht]; exact hZZk30 _ (Ckk.wk hAd (hC_19.rck ht))
      have hI4k30 : Ik30 4 = tn (fun k => sg (es (fun j => Z_19 (Rf (6 * k + j))) 6 ((Z_19 (ad 227) : Rat) / (Z_19 (ad 228) : Rat)))) nk30 := by rw [hIk30, up_ne _ _ (by decide), up_self]
      have hI5k30 : Ik30 5 = (fun k => sg (es (fun j => Z_19 (Rf (6 * k + j))) 6 ((Z_19 (ad 227) : Rat) / (Z_19 (ad 228) : Rat)))) 0 := by rw [hIk30, up_self]
      have B : Wb D vwCl (TY cs) L g30 (AL L s.heap.size) s H _ := B
      have hchk30 := hch_19.keep (I' := Ik30) (A' := A_8) (R' := Rk30) (Z' := Zk30) (hIok30 3 (by decide) (by decide)) (rfl) (hrwk30)
      refine lv_aload_n hx hb d_RR_deepenByCount_33 rfl (lv_at hl 1 rfl) ?_
      refine x_get (C := RX6) (T := TX6) (N := 14) hx hb hts inX6 hown (B.foc1 (hCk30.x)) (hAd.f1 (by omega)) 0 rfl rfl 2 (by decide) (hts _ w_199) (fun _ h9 => h9) rfl d_RR_deepenByCount_34 ?_
      obtain ⟨Gb37, hG1b37, hG2b37⟩ := hCk30.2.1
      have hcxb37 := hchk30
      obtain ⟨nb37, hI3b37, hSsb37, hTpb37, hBtb37⟩ := hcxb37
      refine x_calli B hA (va_runV (As := []) (rest := []) ⟨hx, hb, hml, hown, hts⟩ (c_Chain_rootsBelow l D cs _ _ _ (ad 2) (ad 3) (ad 4) (Rk30 42) (ad 226) nb37 (Ik30 4) (Ik30 5) (A_8 7) (fun k => (A_8 7 k).toNat) Gb37 Rk30 (Bg ad) Qm Zk30 (hAd.fc [2, 3, 4] (by simp only [List.nodup_cons, List.mem_cons, List.not_mem_nil, or_false, not_or, List.nodup_nil, and_true, not_false_eq_true]; omega) (by intro q hq; simp only [List.mem_cons, List.not_mem_nil, or_false] at hq; omega)) (by rw [← hI3b37]; exact hCk30.ch) hG2b37 hCk30.tq ⟨hSsb37.1, hSsb37.2.1⟩ (fun k hk => (tops_dg hTpb37 k hk).1) hG1b37 (fun t ht => (hCk30.rck ht).bg) (fun k hk => (tops_dg hTpb37 k hk).2) hAd.sp hCk30.2.2.1 (hAd.outs [2, 3, 4] (by intro q hq; simp only [List.mem_cons, List.not_mem_nil, or_false] at hq; omega)) (by rw [hI5k30]; exact sg_rng _)) (cwV 0 hts (gw_V w_416 w_417 w_418 w_2 w_419) rfl rfl rfl (by decide +kernel) ⟨by rw [hRf]; exact Nat.le_of_ble_eq_true rfl, by rw [hRl]; exact Nat.le_of_ble_eq_true rfl⟩) ⟨K0.blind, B.recv (hAd.1 _ (by omega)) (hCk30.ch) rfl, B.pre _⟩ rfl rfl hl.1 rfl (lv_room (Nat.le_of_ble_eq_true rfl)) d_RR_deepenByCount_37 ⟨by rw [hRc]; omega, by rw [hRs]; omega⟩) (fun r37 g37 H locs hw B => ?_)
      obtain ⟨rfl, hgf⟩ := hw
      rw [hgf] at B
      obtain ⟨bl, hbl⟩ : ∃ bl : Int, bl = tn (fun k => sgL (fun j => Zk30 (Rk30 (6 * k + j)))) nb37 - Ik30 4 - (if Ik30 5 = 0 then 1 else 0) := ⟨_, rfl⟩
      rw [← hbl]
      have hblN : bl = N (Pt (2 * v + 1) (dp + 1)) := by rw [hbl, hI4k30, hI5k30, ← hxx]; exact below_eq hNB hSsk30 hSsb37 hrwk30
      have hfew := hNB.few (Pt (2 * v + 1) (dp + 1))
      rw [← hblN] at hfew
      refine lv_iload_n hx hb d_RR_deepenByCount_40 rfl (lv_at hl 3 rfl) ?_
      refine x_icmp_le (tgt := 48) hx hb d_RR_deepenByCount_41 (by decide) (by omega) (by omega) (fun h41 => ?_) (fun h41 => ?_)
      · subst hQ hav
        exact x_vret hx hb hr hlocks B d_RR_deepenByCount_48 (⟨Ik30, A_8, Rk30, Zk30, hCk30, hfrk30, ⟨dp + 1, 2 * v + 1, by rw [hIok30 _ (by omega) (by omega)]; exact hId_8, by rw [hIok30 _ (by omega) (by omega)]; exact hPl_8, hcell.one (by rw [← hblN]; omega), Or.inr ⟨hfull, rfl, by omega⟩⟩, hchk30, fun i h1 h2 h3 => by rw [hIok30 i h1 h2, hIo_8 i h3], fun q hq => hAo_8 q hq⟩)
      · refine lv_aload_n hx hb d_RR_deepenByCount_44 rfl (lv_at hl 0 rfl) ?_
        have hPl45 : Pl (Ik30 (100 + (5 * p0 + i0))) (dp + 1) (A_8 (100 + (5 * p0 + i0))) (2 * v + 1) := by rw [hIok30 _ (by omega) (by omega)]; exact hPl_8
        have hId45 : Ik30 (200 + (5 * p0 + i0)) = ((dp + 1 : Nat) : Int) := by rw [hIok30 _ (by omega) (by omega)]; exact hId_8
        refine x_callv B hA (va_runV (As := []) (rest := []) ⟨hx, hb, hml, hown, hts⟩ (c_Place_clearLast l D cs _ _ _ (ad (63 + (5 * p0 + i0))) (ad (123 + (5 * p0 + i0))) ((dp + 1)) (Ik30 (100 + (5 * p0 + i0))) (A_8 (100 + (5 * p0 + i0))) (hAd.fc [63 + (5 * p0 + i0), 123 + (5 * p0 + i0)] (by simp only [List.nodup_cons, List.mem_cons, List.not_mem_nil, or_false, not_or, List.nodup_nil, and_true, not_false_eq_true]; omega) (by intro q hq; simp only [List.mem_cons, List.not_mem_nil, or_false] at hq; omega)) (by rw [← hId45]; exact hCk30.pl (m := (5 * p0 + i0)) (by omega)) (hCk30.wq (m := (5 * p0 + i0)) (by omega)) ⟨by omega, hPl45.1⟩ (hPl45.2.1 _ (by have := hPl45.1; omega)) (hPl45.bit1 (by omega) (by omega))) (cwV 0 hts (gw_V w_458 w_459 w_460 w_7 w_461) rfl rfl rfl (by decide +kernel) ⟨by rw [hRf]; exact Nat.le_of_ble_eq_true rfl, by rw [hRl]; exact Nat.le_of_ble_eq_true rfl⟩) ⟨K0.blind, B.recv (hAd.1 _ (by omega)) (hCk30.pl (m := (5 * p0 + i0)) (by omega)) rfl, B.pre _⟩ rfl rfl hl.1 rfl (lv_room (Nat.le_of_ble_eq_true rfl)) d_RR_deepenByCount_45 ⟨by rw [hRc]; omega, by rw [hRs]; omega⟩) (fun g45 H locs hw B => ?_)
        obtain rfl := hw
        have B : Wb D vwCl (TY cs) L (mw g30 [((ad (123 + (5 * p0 + i0))), .inl (cs 0, 8, .inl (ai (up (A_8 (100 + (5 * p0 + i0))) (((dp + 1) - 1) / 31) (A_8 (100 + (5 * p0 + i0)) (((dp + 1) - 1) / 31) - 2 ^ (30 - ((dp + 1) - 1) % 31))))))]) (AL L s.heap.size) s H _ := B
        obtain ⟨f_45, hf_45⟩ : ∃ f_45, f_45 = mw g30 [((ad (123 + (5 * p0 + i0))), .inl (cs 0, 8, .inl (ai (up (A_8 (100 + (5 * p0 + i0))) (((dp + 1) - 1) / 31) (A_8 (100 + (5 * p0 + i0)) (((dp + 1) - 1) / 31) - 2 ^ (30 - ((dp + 1) - 1) % 31))))))] := ⟨_, rfl⟩
        rw [← hf_45] at B
        obtain ⟨A_45, hA_45⟩ : ∃ A_45, A_45 = upA A_8 (100 + (5 * p0 + i0)) (up (A_8 (100 + (5 * p0 + i0))) (((dp + 1) - 1) / 31) (A_8 (100 + (5 * p0 + i0)) (((dp + 1) - 1) / 31) - 2 ^ (30 - ((dp + 1) - 1) % 31))) := ⟨_, rfl⟩
        have hC_45 : CSt cs ad Qm f_45 Ik30 A_45 Rk30 Zk30 := by rw [hf_45, hA_45]; exact CSt.w_wq hAd hCk30 (m := (5 * p0 + i0)) (by omega) _
        have hfr_45 : ∀ k, Awy ad k → f_45 k = f k := fun k hk => Eq.trans (by rw [hf_45]; exact hk.mw1 (by omega)) (hfrk30 k hk)
        have hPl_45 : Pl (Ik30 (100 + (5 * p0 + i0))) ((dp + 1)) (A_45 (100 + (5 * p0 + i0))) ((2 * v + 1) - 1) := by rw [hA_45, upA_self]; exact hPl45.clear (by omega) (by omega)
        have hAo_45 : ∀ q, q ≠ 100 + (5 * p0 + i0) → A_45 q = A_8 q := fun q hq => by rw [hA_45, upA_ne _ _ hq]
        have hch_45 := hchk30.keep (I' := Ik30) (A' := A_45) (R' := Rk30) (Z' := Zk30) (rfl) (hAo_45 7 (by omega)) (fun _ _ => rfl)
        subst hQ hav
        exact x_vret hx hb hr hlocks B d_RR_deepenByCount_48 (⟨Ik30, A_45, Rk30, Zk30, hC_45, hfr_45, ⟨dp + 1, 2 * v + 1 - 1, hId45, hPl_45, hcell.zro (by rw [← hblN]; omega), Or.inr ⟨hfull, rfl, by omega⟩⟩, hch_45, fun i h1 h2 h3 => by rw [hIok30 i h1 h2, hIo_8 i h3], fun q hq => by rw [hAo_45 q hq, hAo_8 q hq]⟩)
  · refine lv_aload_n hx hb d_RR_deepenByCount_7 rfl (lv_at hl 0 rfl) ?_
    refine x_calli B hA (va_runV (As := []) (rest := []) ⟨hx, hb, hml, hown, hts⟩ (c_Place_lengthen_f l D cs _ _ _ (ad (63 + (5 * p0 + i0))) (ad (123 + (5 * p0 + i0))) dp (If (100 + (5 * p0 + i0))) (Af (100 + (5 * p0 + i0))) (hAd.fc [63 + (5 * p0 + i0), 123 + (5 * p0 + i0)] (by simp only [List.nodup_cons, List.mem_cons, List.not_mem_nil, or_false, not_or, List.nodup_nil, and_true, not_false_eq_true]; omega) (by intro q hq; simp only [List.mem_cons, List.not_mem_nil, or_false] at hq; omega)) (by rw [← hdp]; exact hC.pl (m := (5 * p0 + i0)) (by omega)) (hC.wq (m := (5 * p0 + i0)) (by omega)) (by have := hpl.1; omega)) (cwV 0 hts (gw_V w_442 w_443 w_444 w_7 w_445) rfl rfl rfl (by decide +kernel) ⟨by rw [hRf]; exact Nat.le_of_ble_eq_true rfl, by rw [hRl]; exact Nat.le_of_ble_eq_true rfl⟩) ⟨K0.blind, B.recv (hAd.1 _ (by omega)) (hC.pl (m := (5 * p0 + i0)) (by omega)) rfl, B.pre _⟩ rfl rfl hl.1 rfl (lv_room (Nat.le_of_ble_eq_true rfl)) d_RR_deepenByCount_8 ⟨by rw [hRc]; omega, by rw [hRs]; omega⟩) (fun r8 g8 H locs hw B => ?_)
    obtain ⟨rfl, hgf⟩ := hw
    rw [hgf] at B
    refine x_if_eq (tgt := 48) hx hb d_RR_deepenByCount_11 (by decide) (by omega) (fun h11 => ?_) (fun h11 => ?_)
    · subst hQ hav
      exact x_vret hx hb hr hlocks B d_RR_deepenByCount_48 (⟨If, Af, Rf, Zf, hC, hfr, ⟨dp, v, hdp, hpl, hcell, Or.inl ⟨by have := hpl.1; omega, rfl, rfl⟩⟩, hch, fun i _ _ _ => rfl, fun q _ => rfl⟩)
    · exfalso; omega
