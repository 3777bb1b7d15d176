theorem i32_ex (r : Int32) : ∃ v : Int, r = iI v ∧ -2147483648 ≤ v ∧ v < 2147483648 := ⟨r.toInt, (iI_of r).symm, by have h := r.le_toInt; show -2147483648 ≤ r.toInt; omega, by have h := r.toInt_lt; show r.toInt < 2147483648; omega⟩
theorem i64_ex (r : Int64) : ∃ v : Int, r = lI v ∧ -9223372036854775808 ≤ v ∧ v < 9223372036854775808 := ⟨r.toInt, (lI_of r).symm, by have h := r.le_toInt; show -9223372036854775808 ≤ r.toInt; omega, by have h := r.toInt_lt; show r.toInt < 9223372036854775808; omega⟩
set_option maxHeartbeats 8000000 in
set_option maxRecDepth 100000 in
theorem law_case_5 {p : Program} {l : Launch} {e : Env} {s : State} {m : MethodId} {below : List Frame} {meth : Method} {c : Code} {R : Room} {av : Array Value} {Q : State → Prop} {ad Qm M : Nat → Nat} {ys : Nat → Int} {b n ii CC SS : Nat} {A0 : Nat → Prop} {D : va_G} {cs : Nat → ClassId} {LL : List Nat} {f : Nat → va_E} {H : Heap} {locs : List Loc} {ls : Array Slot} (hx : p.tables.exec = Jvm.exec) (hb : c.code = code) (hml : c.maxLocals = 8) (hown : s.vm.findClass R_law = some m.cls) (hts : ∀ w ∈ gw, w.before av s = true) (hRf : R.frames = 14) (hRl : R.locals = 594) (hRc : R.cells = 601024) (hRs : R.slots = 7293034) (hA : ∀ q, s.heap.size ≤ q → A0 q) (hX : va_X b n (ai ys) s s.heap) (hbl : b < s.heap.size) (hbA : ¬ A0 b) (hyr : ∀ j, -2147483648 ≤ ys j ∧ ys j < 2147483648) (hn : n ≤ 3072) (hi : ii + 6 ≤ n) (hCC : CC ≤ 600000) (hSS : SS ≤ 7000000) (hAd : AdOk LL ad Qm) (hMd : MdOk LL ad M) (hLI : LI cs ad Qm M f) (TAIL : ∀ (f' : Nat → va_E) (H : Heap) (locs : List Loc) (ls : Array Slot), LI cs ad Qm M f' → Wb D vwCl (TY cs) LL f' A0 s H locs → lv_has ls 8 [(4, .int (iI (ii : Int))), (3, .ref (M 4)), (2, .ref (M 0)), (1, .ref (ad 0)), (0, .ref b)] → W p l e R s m av below meth c H locs CC SS Q (F0 m 956 ls [])) (B : Wb D vwCl (TY cs) LL f A0 s H locs) (hl : lv_has ls 8 [(4, .int (iI (ii : Int))), (3, .ref (M 4)), (2, .ref (M 0)), (1, .ref (ad 0)), (0, .ref b)]) : W p l e R s m av below meth c H locs CC SS Q (F0 m 309 ls []) := by
  obtain ⟨I, A, Rf, Zf, th, cv, bl, ro, fr, Z, ov, hC, hInv, hLM, hov, hEq⟩ := hLI
  obtain ⟨rw_, fu, fb, lm, mn, sn, w8, w9, w10, w11, md, w15, hMC, hRS, hLA, hcv, hpn0, hpn12⟩ := hLM
  have hG0 := hInv.1
  have hhd := hG0.1
  have hy1 := hyr (ii + 1)
  have hy2 := hyr (ii + 2)
  have hy3 := hyr (ii + 3)
  have hy4 := hyr (ii + 4)
  have hy5 := hyr (ii + 5)
  refine lv_aload_n hx hb d_law_309 rfl (lv_at hl 3 rfl) ?_
  refine lv_aload_n hx hb d_law_310 rfl (lv_at hl 4 rfl) ?_
  refine lv_iload hx hb d_law_311 (lv_at hl 0 rfl) ?_
  refine x_iconst hx hb d_law_313 ?_
  refine x_iadd hx hb d_law_314 ?_
  refine x_sld hx hb hX hbl hbA B.2.2.2.1 (ii + 1) (by omega) (by omega) (by omega) d_law_315 ?_
  by_cases hk1 : 0 ≤ ys (ii + 1) ∧ ys (ii + 1) < I 0
  · obtain ⟨p0, hp0e⟩ : ∃ p0 : Nat, ys (ii + 1) = (p0 : Int) := ⟨(ys (ii + 1)).toNat, by omega⟩
    have hp0l : (p0 : Int) < I 0 := by omega
    have hp0t : p0 < 12 := by omega
    rw [hp0e]
    refine x_calli B hA (va_runV (As := [.int (iI ((p0 : Int)))]) (rest := []) ⟨hx, hb, hml, hown, hts⟩ (c_RR_roots_k l D cs _ _ _ ad Qm I A Rf Zf p0  hAd hC hInv hp0l ) (cwV 1 hts (gw_V w_366 w_367 w_368 w_1 w_369) rfl rfl rfl (by decide +kernel) ⟨by rw [hRf]; exact Nat.le_of_ble_eq_true rfl, by rw [hRl]; exact Nat.le_of_ble_eq_true rfl⟩) ⟨K0.blind, B.recv (hAd.1 0 (by omega)) hC.x rfl, B.pre _⟩ rfl rfl hl.1 rfl (lv_room (Nat.le_of_ble_eq_true rfl)) d_law_316 ⟨by rw [hRc]; omega, by rw [hRs]; omega⟩) (fun r316 g316 H locs hw B => ?_)
    obtain ⟨I1, A1, R1, Zf1, hC1, hq1, hInv1, hsv1, hans1⟩ := hw
    have hMC1 := hMC.frame (fun k hk => hq1 _ (hMd.2.2 k hk))
    have hov1 := (hq1 _ (hMd.2.2 4 (by decide))).trans hov
    refine lv_aload_n hx hb d_law_319 rfl (lv_at hl 2 rfl) ?_
    refine lv_aload_n hx hb d_law_320 rfl (lv_at hl 4 rfl) ?_
    refine lv_iload hx hb d_law_321 (lv_at hl 0 rfl) ?_
    refine x_iconst hx hb d_law_323 ?_
    refine x_iadd hx hb d_law_324 ?_
    refine x_sld hx hb hX hbl hbA B.2.2.2.1 (ii + 1) (by omega) (by omega) (by omega) d_law_325 ?_
    rw [hp0e]
    refine x_calli B hA (va_runV (As := [.int (iI ((p0 : Int)))]) (rest := [.int r316]) ⟨hx, hb, hml, hown, hts⟩ (c_Mo_roots_k l D cs _ _ _ (M 0) (M 1) (M 2) (M 3) (M 5) (M 6) (M 7) (M 8) (M 9) (M 10) (M 11) (M 12) (M 13) (M 14) th (I 0) rw_ fu fb lm mn sn Z bl w8 w9 w10 w11 ro fr cv p0 (hMd.fc [0, 1, 2, 3, 6, 8, 9, 10, 11, 12, 13, 5] (by decide) (by decide)) hMC1.1 hMC1.2.1 hMC1.2.2.1 hMC1.2.2.2.1 hMC1.2.2.2.2.2.1 hMC1.2.2.2.2.2.2.2.1 hMC1.2.2.2.2.2.2.2.2.1 hMC1.2.2.2.2.2.2.2.2.2.1 hMC1.2.2.2.2.2.2.2.2.2.2.1 hMC1.2.2.2.2.2.2.2.2.2.2.2.1 hMC1.2.2.2.2.2.2.2.2.2.2.2.2.1 hMC1.2.2.2.2.1 hRS hp0t hcv hLA hhd hp0l) (cwV 1 hts (gw_V w_878 w_879 w_880 w_8 w_881) rfl rfl rfl (by decide +kernel) ⟨by rw [hRf]; exact Nat.le_of_ble_eq_true rfl, by rw [hRl]; exact Nat.le_of_ble_eq_true rfl⟩) ⟨K0.blind, B.recv (hMd.1 0 (by decide)) hMC1.1 rfl, B.pre _⟩ rfl rfl hl.1 rfl (lv_room (Nat.le_of_ble_eq_true rfl)) d_law_326 ⟨by rw [hRc]; omega, by rw [hRs]; omega⟩) (fun r326 g326 H locs hw B => ?_)
    obtain ⟨lm2, mn2, sn2, Z2, bl2, w82, w92, w102, w112, ro2, fr2, rw2, hRS2, hLA2, hst2, hans2, hg2⟩ := hw
    have hMC2 := MC.m11 hMd hMC1 hg2
    have hC2 := hC1.frame hAd (g := g326) (fun k hk => by rw [hg2]; exact hMd.ad [0, 1, 2, 3, 6, 8, 9, 10, 11, 12, 13] (by decide) rfl hk)
    have hov2 : g326 (M 4) = .inl (cs 1, 1, .inr (.inl (al ov))) := by rw [hg2]; exact (hMd.out (b := 4) (by decide) [0, 1, 2, 3, 6, 8, 9, 10, 11, 12, 13] (by decide) rfl).trans hov1
    have he : r316 = r326 := gl_roots (hG0.2.1 p0 hp0t) (hEq p0 hp0l) (hLA2.1 p0 hp0t) hans1 hans2
    rw [← he]
    obtain ⟨vv, hvv, hvr⟩ := i32_ex r316
    rw [hvv]
    refine x_icmp_eq (tgt := 956) hx hb d_law_329 (by decide) (by omega) (by omega) (fun h329 => ?_) (fun h329 => ?_)
    · exact TAIL _ _ _ _ ⟨I1, A1, R1, Zf1, _, cv, bl2, ro2, fr2, Z2, ov, hC2, hInv1, by rw [show I1 0 = I 0 from hsv1.1]; exact ⟨_, _, _, lm2, mn2, sn2, w82, w92, w102, w112, md, w15, hMC2, hRS2, hLA2, hcv, hhd.1, hhd.2⟩, hov2, fun q hq => by rw [show I1 0 = I 0 from hsv1.1] at hq; rw [show A1 (20 + q) = A (20 + q) from hsv1.2 q (by omega)]; exact hEq q hq⟩ B (lv_sub hl [0, 1, 2, 3, 4] rfl)
    · exfalso; omega
  · refine x_calli B hA (va_runV (As := [.int (iI (ys (ii + 1)))]) (rest := []) ⟨hx, hb, hml, hown, hts⟩ (c_RR_roots_u l D cs _ _ _ (ad 0) (ad 1) (ad 2) (ad 5) (ad 7) (ad 8) (ad 9) (ad 10) (ad 11) (ad 12) (ad 13) (ad 14) (I 0) (I 1) (I 2) (ys (ii + 1)) (hAd.f1 (by omega)) hC.x hhd (by omega) (by omega)) (cwV 1 hts (gw_V w_366 w_367 w_368 w_1 w_369) rfl rfl rfl (by decide +kernel) ⟨by rw [hRf]; exact Nat.le_of_ble_eq_true rfl, by rw [hRl]; exact Nat.le_of_ble_eq_true rfl⟩) ⟨K0.blind, B.recv (hAd.1 0 (by omega)) hC.x rfl, B.pre _⟩ rfl rfl hl.1 rfl (lv_room (Nat.le_of_ble_eq_true rfl)) d_law_316 ⟨by rw [hRc]; omega, by rw [hRs]; omega⟩) (fun r316 g316 H locs hw B => ?_)
    obtain ⟨hr1, hgf⟩ := hw
    rw [hgf] at B
    have hC1 := hC
    have hMC1 := hMC
    have hov1 := hov
    have hInv1 := hInv
    have hsv1 : SameV I A I A := ⟨rfl, fun _ _ => rfl⟩
    refine lv_aload_n hx hb d_law_319 rfl (lv_at hl 2 rfl) ?_
    refine lv_aload_n hx hb d_law_320 rfl (lv_at hl 4 rfl) ?_
    refine lv_iload hx hb d_law_321 (lv_at hl 0 rfl) ?_
    refine x_iconst hx hb d_law_323 ?_
    refine x_iadd hx hb d_law_324 ?_
    refine x_sld hx hb hX hbl hbA B.2.2.2.1 (ii + 1) (by omega) (by omega) (by omega) d_law_325 ?_
    refine x_calli B hA (va_runV (As := [.int (iI (ys (ii + 1)))]) (rest := [.int r316]) ⟨hx, hb, hml, hown, hts⟩ (c_Mo_roots_u l D cs _ _ _ (M 0) (M 1) (M 2) (M 3) (M 5) (M 6) (M 7) (M 8) (M 9) (M 10) (M 11) (M 12) (M 13) (M 14) th (I 0) rw_ fu fb (ys (ii + 1)) (hMd.fc [0] (by decide) (by decide)) hMC1.1 hhd (by omega) (by omega)) (cwV 1 hts (gw_V w_878 w_879 w_880 w_8 w_881) rfl rfl rfl (by decide +kernel) ⟨by rw [hRf]; exact Nat.le_of_ble_eq_true rfl, by rw [hRl]; exact Nat.le_of_ble_eq_true rfl⟩) ⟨K0.blind, B.recv (hMd.1 0 (by decide)) hMC1.1 rfl, B.pre _⟩ rfl rfl hl.1 rfl (lv_room (Nat.le_of_ble_eq_true rfl)) d_law_326 ⟨by rw [hRc]; omega, by rw [hRs]; omega⟩) (fun r326 g326 H locs hw B => ?_)
    obtain ⟨hr2, hg2⟩ := hw
    have hMC2 := MC.m1 hMd hMC1 hg2
    have hC2 := hC1.frame hAd (g := g326) (fun k hk => by rw [hg2]; exact hMd.ad [0] (by decide) rfl hk)
    have hov2 : g326 (M 4) = .inl (cs 1, 1, .inr (.inl (al ov))) := by rw [hg2]; exact (hMd.out (b := 4) (by decide) [0] (by decide) rfl).trans hov1
    have he : r316 = r326 := hr1.trans hr2.symm
    rw [← he]
    obtain ⟨vv, hvv, hvr⟩ := i32_ex r316
    rw [hvv]
    refine x_icmp_eq (tgt := 956) hx hb d_law_329 (by decide) (by omega) (by omega) (fun h329 => ?_) (fun h329 => ?_)
    · exact TAIL _ _ _ _ ⟨I, A, Rf, Zf, _, cv, bl, ro, fr, Z, ov, hC2, hInv1, by rw [show I 0 = I 0 from hsv1.1]; exact ⟨_, _, _, lm, mn, sn, w8, w9, w10, w11, md, w15, hMC2, hRS, hLA, hcv, hhd.1, hhd.2⟩, hov2, fun q hq => by rw [show I 0 = I 0 from hsv1.1] at hq; rw [show A (20 + q) = A (20 + q) from hsv1.2 q (by omega)]; exact hEq q hq⟩ B (lv_sub hl [0, 1, 2, 3, 4] rfl)
    · exfalso; omega
