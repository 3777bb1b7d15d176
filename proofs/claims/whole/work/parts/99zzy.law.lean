set_option maxHeartbeats 8000000 in
set_option maxRecDepth 100000 in
theorem law_case_8 {p : Program} {l : Launch} {e : Env} {s : State} {m : MethodId} {below : List Frame} {meth : Method} {c : Code} {R : Room} {av : Array Value} {Q : State → Prop} {ad Qm M : Nat → Nat} {ys : Nat → Int} {b n ii CC SS : Nat} {A0 : Nat → Prop} {D : va_G} {cs : Nat → ClassId} {LL : List Nat} {f : Nat → va_E} {H : Heap} {locs : List Loc} {ls : Array Slot} (hx : p.tables.exec = Jvm.exec) (hb : c.code = code) (hml : c.maxLocals = 8) (hown : s.vm.findClass R_law = some m.cls) (hts : ∀ w ∈ gw, w.before av s = true) (hRf : R.frames = 14) (hRl : R.locals = 594) (hRc : R.cells = 601024) (hRs : R.slots = 7293034) (hA : ∀ q, s.heap.size ≤ q → A0 q) (hX : va_X b n (ai ys) s s.heap) (hbl : b < s.heap.size) (hbA : ¬ A0 b) (hyr : ∀ j, -2147483648 ≤ ys j ∧ ys j < 2147483648) (hn : n ≤ 3072) (hi : ii + 6 ≤ n) (hCC : CC ≤ 600000) (hSS : SS ≤ 7000000) (hAd : AdOk LL ad Qm) (hMd : MdOk LL ad M) (hLI : LI cs ad Qm M f) (TAIL : ∀ (f' : Nat → va_E) (H : Heap) (locs : List Loc) (ls : Array Slot), LI cs ad Qm M f' → Wb D vwCl (TY cs) LL f' A0 s H locs → lv_has ls 8 [(4, .int (iI (ii : Int))), (3, .ref (M 4)), (2, .ref (M 0)), (1, .ref (ad 0)), (0, .ref b)] → W p l e R s m av below meth c H locs CC SS Q (F0 m 956 ls [])) (B : Wb D vwCl (TY cs) LL f A0 s H locs) (hl : lv_has ls 8 [(4, .int (iI (ii : Int))), (3, .ref (M 4)), (2, .ref (M 0)), (1, .ref (ad 0)), (0, .ref b)]) : W p l e R s m av below meth c H locs CC SS Q (F0 m 421 ls []) := by
  obtain ⟨I, A, Rf, Zf, th, cv, bl, ro, fr, Z, ov, hC, hInv, hLM, hov, hEq⟩ := hLI
  obtain ⟨rw_, fu, fb, lm, mn, sn, w8, w9, w10, w11, md, w15, hMC, hRS, hLA, hcv, hpn0, hpn12⟩ := hLM
  have hG0 := hInv.1
  have hhd := hG0.1
  have hy1 := hyr (ii + 1)
  have hy2 := hyr (ii + 2)
  have hy3 := hyr (ii + 3)
  have hy4 := hyr (ii + 4)
  have hy5 := hyr (ii + 5)
  refine lv_aload_n hx hb d_law_421 rfl (lv_at hl 3 rfl) ?_
  refine lv_aload_n hx hb d_law_422 rfl (lv_at hl 4 rfl) ?_
  refine lv_iload hx hb d_law_423 (lv_at hl 0 rfl) ?_
  refine x_iconst hx hb d_law_425 ?_
  refine x_iadd hx hb d_law_426 ?_
  refine x_sld hx hb hX hbl hbA B.2.2.2.1 (ii + 1) (by omega) (by omega) (by omega) d_law_427 ?_
  refine lv_aload_n hx hb d_law_428 rfl (lv_at hl 4 rfl) ?_
  refine lv_iload hx hb d_law_429 (lv_at hl 0 rfl) ?_
  refine x_iconst hx hb d_law_431 ?_
  refine x_iadd hx hb d_law_432 ?_
  refine x_sld hx hb hX hbl hbA B.2.2.2.1 (ii + 2) (by omega) (by omega) (by omega) d_law_433 ?_
  refine lv_aload_n hx hb d_law_434 rfl (lv_at hl 4 rfl) ?_
  refine lv_iload hx hb d_law_435 (lv_at hl 0 rfl) ?_
  refine x_iconst hx hb d_law_437 ?_
  refine x_iadd hx hb d_law_438 ?_
  refine x_sld hx hb hX hbl hbA B.2.2.2.1 (ii + 3) (by omega) (by omega) (by omega) d_law_439 ?_
  by_cases hk1 : 0 ≤ ys (ii + 1) ∧ ys (ii + 1) < I 0
  · obtain ⟨p0, hp0e⟩ : ∃ p0 : Nat, ys (ii + 1) = (p0 : Int) := ⟨(ys (ii + 1)).toNat, by omega⟩
    have hp0l : (p0 : Int) < I 0 := by omega
    have hp0t : p0 < 12 := by omega
    rw [hp0e]
    refine x_calll B hA (va_runV (As := [.int (iI ((p0 : Int))), .int (iI (ys (ii + 2))), .int (iI (ys (ii + 3)))]) (rest := []) ⟨hx, hb, hml, hown, hts⟩ (c_RR_fraction_k l D cs _ _ _ ad Qm I A Rf Zf p0 (ys (ii + 2)) (ys (ii + 3)) hAd hC hInv hp0l (by omega) (by omega)) (cwV 3 hts (gw_V w_501 w_502 w_503 w_1 w_504) rfl rfl rfl (by decide +kernel) ⟨by rw [hRf]; exact Nat.le_of_ble_eq_true rfl, by rw [hRl]; exact Nat.le_of_ble_eq_true rfl⟩) ⟨K0.blind, B.recv (hAd.1 0 (by omega)) hC.x rfl, B.pre _⟩ rfl rfl hl.1 rfl (lv_room (Nat.le_of_ble_eq_true rfl)) d_law_440 ⟨by rw [hRc]; omega, by rw [hRs]; omega⟩) (fun r440 g440 H locs hw B => ?_)
    obtain ⟨I1, A1, R1, Zf1, hC1, hq1, hInv1, hsv1, hans1⟩ := hw
    have hMC1 := hMC.frame (fun k hk => hq1 _ (hMd.2.2 k hk))
    have hov1 := (hq1 _ (hMd.2.2 4 (by decide))).trans hov
    refine lv_aload_n hx hb d_law_443 rfl (lv_at hl 2 rfl) ?_
    refine lv_aload_n hx hb d_law_444 rfl (lv_at hl 4 rfl) ?_
    refine lv_iload hx hb d_law_445 (lv_at hl 0 rfl) ?_
    refine x_iconst hx hb d_law_447 ?_
    refine x_iadd hx hb d_law_448 ?_
    refine x_sld hx hb hX hbl hbA B.2.2.2.1 (ii + 1) (by omega) (by omega) (by omega) d_law_449 ?_
    refine lv_aload_n hx hb d_law_450 rfl (lv_at hl 4 rfl) ?_
    refine lv_iload hx hb d_law_451 (lv_at hl 0 rfl) ?_
    refine x_iconst hx hb d_law_453 ?_
    refine x_iadd hx hb d_law_454 ?_
    refine x_sld hx hb hX hbl hbA B.2.2.2.1 (ii + 2) (by omega) (by omega) (by omega) d_law_455 ?_
    refine lv_aload_n hx hb d_law_456 rfl (lv_at hl 4 rfl) ?_
    refine lv_iload hx hb d_law_457 (lv_at hl 0 rfl) ?_
    refine x_iconst hx hb d_law_459 ?_
    refine x_iadd hx hb d_law_460 ?_
    refine x_sld hx hb hX hbl hbA B.2.2.2.1 (ii + 3) (by omega) (by omega) (by omega) d_law_461 ?_
    rw [hp0e]
    refine x_calll B hA (va_runV (As := [.int (iI ((p0 : Int))), .int (iI (ys (ii + 2))), .int (iI (ys (ii + 3)))]) (rest := [.long r440]) ⟨hx, hb, hml, hown, hts⟩ (c_Mo_fraction_k l D cs _ _ _ (M 0) (M 1) (M 2) (M 3) (M 5) (M 6) (M 7) (M 8) (M 9) (M 10) (M 11) (M 12) (M 13) (M 14) th (I 0) rw_ fu fb lm mn sn Z bl w8 w9 w10 w11 ro fr cv p0 (ys (ii + 2)) (ys (ii + 3)) (hMd.fc [0, 1, 2, 3, 6, 8, 9, 10, 11, 12, 13, 5] (by decide) (by decide)) hMC1.1 hMC1.2.1 hMC1.2.2.1 hMC1.2.2.2.1 hMC1.2.2.2.2.2.1 hMC1.2.2.2.2.2.2.2.1 hMC1.2.2.2.2.2.2.2.2.1 hMC1.2.2.2.2.2.2.2.2.2.1 hMC1.2.2.2.2.2.2.2.2.2.2.1 hMC1.2.2.2.2.2.2.2.2.2.2.2.1 hMC1.2.2.2.2.2.2.2.2.2.2.2.2.1 hMC1.2.2.2.2.1 hRS hp0t hcv hLA hhd hp0l (by omega) (by omega)) (cwV 3 hts (gw_V w_942 w_943 w_944 w_8 w_945) rfl rfl rfl (by decide +kernel) ⟨by rw [hRf]; exact Nat.le_of_ble_eq_true rfl, by rw [hRl]; exact Nat.le_of_ble_eq_true rfl⟩) ⟨K0.blind, B.recv (hMd.1 0 (by decide)) hMC1.1 rfl, B.pre _⟩ rfl rfl hl.1 rfl (lv_room (Nat.le_of_ble_eq_true rfl)) d_law_462 ⟨by rw [hRc]; omega, by rw [hRs]; omega⟩) (fun r462 g462 H locs hw B => ?_)
    obtain ⟨lm2, mn2, sn2, Z2, bl2, w82, w92, w102, w112, ro2, fr2, rw2, fu2, fb2, hRS2, hLA2, hst2, hans2, hg2⟩ := hw
    have hMC2 := MC.m11 hMd hMC1 hg2
    have hC2 := hC1.frame hAd (g := g462) (fun k hk => by rw [hg2]; exact hMd.ad [0, 1, 2, 3, 6, 8, 9, 10, 11, 12, 13] (by decide) rfl hk)
    have hov2 : g462 (M 4) = .inl (cs 1, 1, .inr (.inl (al ov))) := by rw [hg2]; exact (hMd.out (b := 4) (by decide) [0, 1, 2, 3, 6, 8, 9, 10, 11, 12, 13] (by decide) rfl).trans hov1
    have he : r440 = r462 := gl_fraction (hG0.2.1 p0 hp0t) (hEq p0 hp0l) (hLA2.1 p0 hp0t) hans1 hans2
    rw [← he]
    obtain ⟨vv, hvv, hvr⟩ := i64_ex r440
    rw [hvv]
    refine x_lc_eq (tgt := 956) hx hb d_law_465 rfl d_law_466 (by decide) (by omega) (by omega) (fun h466 => ?_) (fun h466 => ?_)
    · exact TAIL _ _ _ _ ⟨I1, A1, R1, Zf1, _, cv, bl2, ro2, fr2, Z2, ov, hC2, hInv1, by rw [show I1 0 = I 0 from hsv1.1]; exact ⟨_, _, _, lm2, mn2, sn2, w82, w92, w102, w112, md, w15, hMC2, hRS2, hLA2, hcv, hhd.1, hhd.2⟩, hov2, fun q hq => by rw [show I1 0 = I 0 from hsv1.1] at hq; rw [show A1 (20 + q) = A (20 + q) from hsv1.2 q (by omega)]; exact hEq q hq⟩ B (lv_sub hl [0, 1, 2, 3, 4] rfl)
    · exfalso; omega
  · refine x_calll B hA (va_runV (As := [.int (iI (ys (ii + 1))), .int (iI (ys (ii + 2))), .int (iI (ys (ii + 3)))]) (rest := []) ⟨hx, hb, hml, hown, hts⟩ (c_RR_fraction_u l D cs _ _ _ (ad 0) (ad 1) (ad 2) (ad 5) (ad 7) (ad 8) (ad 9) (ad 10) (ad 11) (ad 12) (ad 13) (ad 14) (I 0) (I 1) (I 2) (ys (ii + 1)) (ys (ii + 2)) (ys (ii + 3)) (hAd.f1 (by omega)) hC.x hhd (by omega) (by omega) (by omega) (by omega)) (cwV 3 hts (gw_V w_501 w_502 w_503 w_1 w_504) rfl rfl rfl (by decide +kernel) ⟨by rw [hRf]; exact Nat.le_of_ble_eq_true rfl, by rw [hRl]; exact Nat.le_of_ble_eq_true rfl⟩) ⟨K0.blind, B.recv (hAd.1 0 (by omega)) hC.x rfl, B.pre _⟩ rfl rfl hl.1 rfl (lv_room (Nat.le_of_ble_eq_true rfl)) d_law_440 ⟨by rw [hRc]; omega, by rw [hRs]; omega⟩) (fun r440 g440 H locs hw B => ?_)
    obtain ⟨hr1, hgf⟩ := hw
    rw [hgf] at B
    have hC1 := hC
    have hMC1 := hMC
    have hov1 := hov
    have hInv1 := hInv
    have hsv1 : SameV I A I A := ⟨rfl, fun _ _ => rfl⟩
    refine lv_aload_n hx hb d_law_443 rfl (lv_at hl 2 rfl) ?_
    refine lv_aload_n hx hb d_law_444 rfl (lv_at hl 4 rfl) ?_
    refine lv_iload hx hb d_law_445 (lv_at hl 0 rfl) ?_
    refine x_iconst hx hb d_law_447 ?_
    refine x_iadd hx hb d_law_448 ?_
    refine x_sld hx hb hX hbl hbA B.2.2.2.1 (ii + 1) (by omega) (by omega) (by omega) d_law_449 ?_
    refine lv_aload_n hx hb d_law_450 rfl (lv_at hl 4 rfl) ?_
    refine lv_iload hx hb d_law_451 (lv_at hl 0 rfl) ?_
    refine x_iconst hx hb d_law_453 ?_
    refine x_iadd hx hb d_law_454 ?_
    refine x_sld hx hb hX hbl hbA B.2.2.2.1 (ii + 2) (by omega) (by omega) (by omega) d_law_455 ?_
    refine lv_aload_n hx hb d_law_456 rfl (lv_at hl 4 rfl) ?_
    refine lv_iload hx hb d_law_457 (lv_at hl 0 rfl) ?_
    refine x_iconst hx hb d_law_459 ?_
    refine x_iadd hx hb d_law_460 ?_
    refine x_sld hx hb hX hbl hbA B.2.2.2.1 (ii + 3) (by omega) (by omega) (by omega) d_law_461 ?_
    refine x_calll B hA (va_runV (As := [.int (iI (ys (ii + 1))), .int (iI (ys (ii + 2))), .int (iI (ys (ii + 3)))]) (rest := [.long r440]) ⟨hx, hb, hml, hown, hts⟩ (c_Mo_fraction_u l D cs _ _ _ (M 0) (M 1) (M 2) (M 3) (M 5) (M 6) (M 7) (M 8) (M 9) (M 10) (M 11) (M 12) (M 13) (M 14) th (I 0) rw_ fu fb (ys (ii + 1)) (ys (ii + 2)) (ys (ii + 3)) (hMd.fc [0] (by decide) (by decide)) hMC1.1 hhd (by omega) (by omega) (by omega) (by omega)) (cwV 3 hts (gw_V w_942 w_943 w_944 w_8 w_945) rfl rfl rfl (by decide +kernel) ⟨by rw [hRf]; exact Nat.le_of_ble_eq_true rfl, by rw [hRl]; exact Nat.le_of_ble_eq_true rfl⟩) ⟨K0.blind, B.recv (hMd.1 0 (by decide)) hMC1.1 rfl, B.pre _⟩ rfl rfl hl.1 rfl (lv_room (Nat.le_of_ble_eq_true rfl)) d_law_462 ⟨by rw [hRc]; omega, by rw [hRs]; omega⟩) (fun r462 g462 H locs hw B => ?_)
    obtain ⟨hr2, hg2⟩ := hw
    have hMC2 := MC.m1 hMd hMC1 hg2
    have hC2 := hC1.frame hAd (g := g462) (fun k hk => by rw [hg2]; exact hMd.ad [0] (by decide) rfl hk)
    have hov2 : g462 (M 4) = .inl (cs 1, 1, .inr (.inl (al ov))) := by rw [hg2]; exact (hMd.out (b := 4) (by decide) [0] (by decide) rfl).trans hov1
    have he : r440 = r462 := hr1.trans hr2.symm
    rw [← he]
    obtain ⟨vv, hvv, hvr⟩ := i64_ex r440
    rw [hvv]
    refine x_lc_eq (tgt := 956) hx hb d_law_465 rfl d_law_466 (by decide) (by omega) (by omega) (fun h466 => ?_) (fun h466 => ?_)
    · exact TAIL _ _ _ _ ⟨I, A, Rf, Zf, _, cv, bl, ro, fr, Z, ov, hC2, hInv1, by rw [show I 0 = I 0 from hsv1.1]; exact ⟨_, _, _, lm, mn, sn, w8, w9, w10, w11, md, w15, hMC2, hRS, hLA, hcv, hhd.1, hhd.2⟩, hov2, fun q hq => by rw [show I 0 = I 0 from hsv1.1] at hq; rw [show A (20 + q) = A (20 + q) from hsv1.2 q (by omega)]; exact hEq q hq⟩ B (lv_sub hl [0, 1, 2, 3, 4] rfl)
    · exfalso; omega
set_option maxHeartbeats 8000000 in
set_option maxRecDepth 100000 in
theorem law_case_11 {p : Program} {l : Launch} {e : Env} {s : State} {m : MethodId} {below : List Frame} {meth : Method} {c : Code} {R : Room} {av : Array Value} {Q : State → Prop} {ad Qm M : Nat → Nat} {ys : Nat → Int} {b n ii CC SS : Nat} {A0 : Nat → Prop} {D : va_G} {cs : Nat → ClassId} {LL : List Nat} {f : Nat → va_E} {H : Heap} {locs : List Loc} {ls : Array Slot} (hx : p.tables.exec = Jvm.exec) (hb : c.code = code) (hml : c.maxLocals = 8) (hown : s.vm.findClass R_law = some m.cls) (hts : ∀ w ∈ gw, w.before av s = true) (hRf : R.frames = 14) (hRl : R.locals = 594) (hRc : R.cells = 601024) (hRs : R.slots = 7293034) (hA : ∀ q, s.heap.size ≤ q → A0 q) (hX : va_X b n (ai ys) s s.heap) (hbl : b < s.heap.size) (hbA : ¬ A0 b) (hyr : ∀ j, -2147483648 ≤ ys j ∧ ys j < 2147483648) (hn : n ≤ 3072) (hi : ii + 6 ≤ n) (hCC : CC ≤ 600000) (hSS : SS ≤ 7000000) (hAd : AdOk LL ad Qm) (hMd : MdOk LL ad M) (hLI : LI cs ad Qm M f) (TAIL : ∀ (f' : Nat → va_E) (H : Heap) (locs : List Loc) (ls : Array Slot), LI cs ad Qm M f' → Wb D vwCl (TY cs) LL f' A0 s H locs → lv_has ls 8 [(4, .int (iI (ii : Int))), (3, .ref (M 4)), (2, .ref (M 0)), (1, .ref (ad 0)), (0, .ref b)] → W p l e R s m av below meth c H locs CC SS Q (F0 m 956 ls [])) (B : Wb D vwCl (TY cs) LL f A0 s H locs) (hl : lv_has ls 8 [(4, .int (iI (ii : Int))), (3, .ref (M 4)), (2, .ref (M 0)), (1, .ref (ad 0)), (0, .ref b)]) : W p l e R s m av below meth c H locs CC SS Q (F0 m 581 ls []) := by
  obtain ⟨I, A, Rf, Zf, th, cv, bl, ro, fr, Z, ov, hC, hInv, hLM, hov, hEq⟩ := hLI
  obtain ⟨rw_, fu, fb, lm, mn, sn, w8, w9, w10, w11, md, w15, hMC, hRS, hLA, hcv, hpn0, hpn12⟩ := hLM
  have hG0 := hInv.1
  have hhd := hG0.1
  have hy1 := hyr (ii + 1)
  have hy2 := hyr (ii + 2)
  have hy3 := hyr (ii + 3)
  have hy4 := hyr (ii + 4)
  have hy5 := hyr (ii + 5)
  refine lv_aload_n hx hb d_law_581 rfl (lv_at hl 3 rfl) ?_
  refine lv_aload_n hx hb d_law_582 rfl (lv_at hl 4 rfl) ?_
  refine lv_iload hx hb d_law_583 (lv_at hl 0 rfl) ?_
  refine x_iconst hx hb d_law_585 ?_
  refine x_iadd hx hb d_law_586 ?_
  refine x_sld hx hb hX hbl hbA B.2.2.2.1 (ii + 1) (by omega) (by omega) (by omega) d_law_587 ?_
  refine lv_aload_n hx hb d_law_588 rfl (lv_at hl 4 rfl) ?_
  refine lv_iload hx hb d_law_589 (lv_at hl 0 rfl) ?_
  refine x_iconst hx hb d_law_591 ?_
  refine x_iadd hx hb d_law_592 ?_
  refine x_sld hx hb hX hbl hbA B.2.2.2.1 (ii + 2) (by omega) (by omega) (by omega) d_law_593 ?_
  by_cases hk1 : 0 ≤ ys (ii + 1) ∧ ys (ii + 1) < I 0
  · obtain ⟨p0, hp0e⟩ : ∃ p0 : Nat, ys (ii + 1) = (p0 : Int) := ⟨(ys (ii + 1)).toNat, by omega⟩
    have hp0l : (p0 : Int) < I 0 := by omega
    have hp0t : p0 < 12 := by omega
    rw [hp0e]
    refine x_calli B hA (va_runV (As := [.int (iI ((p0 : Int))), .int (iI (ys (ii + 2)))]) (rest := []) ⟨hx, hb, hml, hown, hts⟩ (c_RR_rank_k l D cs _ _ _ ad Qm I A Rf Zf p0 (ys (ii + 2)) hAd hC hInv hp0l (by omega)) (cwV 2 hts (gw_V w_528 w_529 w_530 w_1 w_531) rfl rfl rfl (by decide +kernel) ⟨by rw [hRf]; exact Nat.le_of_ble_eq_true rfl, by rw [hRl]; exact Nat.le_of_ble_eq_true rfl⟩) ⟨K0.blind, B.recv (hAd.1 0 (by omega)) hC.x rfl, B.pre _⟩ rfl rfl hl.1 rfl (lv_room (Nat.le_of_ble_eq_true rfl)) d_law_594 ⟨by rw [hRc]; omega, by rw [hRs]; omega⟩) (fun r594 g594 H locs hw B => ?_)
    obtain ⟨I1, A1, R1, Zf1, hC1, hq1, hInv1, hsv1, hans1⟩ := hw
    have hMC1 := hMC.frame (fun k hk => hq1 _ (hMd.2.2 k hk))
    have hov1 := (hq1 _ (hMd.2.2 4 (by decide))).trans hov
    refine lv_aload_n hx hb d_law_597 rfl (lv_at hl 2 rfl) ?_
    refine lv_aload_n hx hb d_law_598 rfl (lv_at hl 4 rfl) ?_
    refine lv_iload hx hb d_law_599 (lv_at hl 0 rfl) ?_
    refine x_iconst hx hb d_law_601 ?_
    refine x_iadd hx hb d_law_602 ?_
    refine x_sld hx hb hX hbl hbA B.2.2.2.1 (ii + 1) (by omega) (by omega) (by omega) d_law_603 ?_
    refine lv_aload_n hx hb d_law_604 rfl (lv_at hl 4 rfl) ?_
    refine lv_iload hx hb d_law_605 (lv_at hl 0 rfl) ?_
    refine x_iconst hx hb d_law_607 ?_
    refine x_iadd hx hb d_law_608 ?_
    refine x_sld hx hb hX hbl hbA B.2.2.2.1 (ii + 2) (by omega) (by omega) (by omega) d_law_609 ?_
    rw [hp0e]
    obtain ⟨np, hnp⟩ : ∃ np : Nat, I 0 = (np : Int) := ⟨(I 0).toNat, by omega⟩
    refine x_calli B hA (va_runV (As := [.int (iI ((p0 : Int))), .int (iI (ys (ii + 2)))]) (rest := [.int r594]) ⟨hx, hb, hml, hown, hts⟩ (c_Mo_rank_k l D cs _ _ _ (M 0) (M 1) (M 2) (M 3) (M 5) (M 6) (M 7) (M 8) (M 9) (M 10) (M 11) (M 12) (M 13) (M 14) th (I 0) rw_ fu fb lm mn sn Z bl w8 w9 w10 w11 ro fr cv p0 (ys (ii + 2)) np (hMd.fc [0, 1, 2, 3, 6, 8, 9, 10, 11, 12, 13, 5] (by decide) (by decide)) hMC1.1 hMC1.2.1 hMC1.2.2.1 hMC1.2.2.2.1 hMC1.2.2.2.2.2.1 hMC1.2.2.2.2.2.2.2.1 hMC1.2.2.2.2.2.2.2.2.1 hMC1.2.2.2.2.2.2.2.2.2.1 hMC1.2.2.2.2.2.2.2.2.2.2.1 hMC1.2.2.2.2.2.2.2.2.2.2.2.1 hMC1.2.2.2.2.2.2.2.2.2.2.2.2.1 hMC1.2.2.2.2.1 hRS hp0t hcv hLA hhd hp0l hnp (by omega)) (cwV 2 hts (gw_V w_962 w_963 w_964 w_8 w_965) rfl rfl rfl (by decide +kernel) ⟨by rw [hRf]; exact Nat.le_of_ble_eq_true rfl, by rw [hRl]; exact Nat.le_of_ble_eq_true rfl⟩) ⟨K0.blind, B.recv (hMd.1 0 (by decide)) hMC1.1 rfl, B.pre _⟩ rfl rfl hl.1 rfl (lv_room (Nat.le_of_ble_eq_true rfl)) d_law_610 ⟨by rw [hRc]; omega, by rw [hRs]; omega⟩) (fun r610 g610 H locs hw B => ?_)
    obtain ⟨lm2, mn2, sn2, Z2, bl2, w82, w92, w102, w112, ro2, fr2, rw2, hRS2, hLA2, hst2, hans2, hg2⟩ := hw
    have hMC2 := MC.m11 hMd hMC1 hg2
    have hC2 := hC1.frame hAd (g := g610) (fun k hk => by rw [hg2]; exact hMd.ad [0, 1, 2, 3, 6, 8, 9, 10, 11, 12, 13] (by decide) rfl hk)
    have hov2 : g610 (M 4) = .inl (cs 1, 1, .inr (.inl (al ov))) := by rw [hg2]; exact (hMd.out (b := 4) (by decide) [0, 1, 2, 3, 6, 8, 9, 10, 11, 12, 13] (by decide) rfl).trans hov1
    have he : r594 = r610 := gl_rank hInv1 (hsv1.1.trans hnp) (by omega) hLA2 (fun q hq => by rw [hsv1.2 q (by omega)]; exact hEq q (by omega)) (hG0.2.1 p0 hp0t) (hEq p0 hp0l) hans1 hans2
    rw [← he]
    obtain ⟨vv, hvv, hvr⟩ := i32_ex r594
    rw [hvv]
    refine x_icmp_eq (tgt := 956) hx hb d_law_613 (by decide) (by omega) (by omega) (fun h613 => ?_) (fun h613 => ?_)
    · exact TAIL _ _ _ _ ⟨I1, A1, R1, Zf1, _, cv, bl2, ro2, fr2, Z2, ov, hC2, hInv1, by rw [show I1 0 = I 0 from hsv1.1]; exact ⟨_, _, _, lm2, mn2, sn2, w82, w92, w102, w112, md, w15, hMC2, hRS2, hLA2, hcv, hhd.1, hhd.2⟩, hov2, fun q hq => by rw [show I1 0 = I 0 from hsv1.1] at hq; rw [show A1 (20 + q) = A (20 + q) from hsv1.2 q (by omega)]; exact hEq q hq⟩ B (lv_sub hl [0, 1, 2, 3, 4] rfl)
    · exfalso; omega
  · refine x_calli B hA (va_runV (As := [.int (iI (ys (ii + 1))), .int (iI (ys (ii + 2)))]) (rest := []) ⟨hx, hb, hml, hown, hts⟩ (c_RR_rank_u l D cs _ _ _ (ad 0) (ad 1) (ad 2) (ad 5) (ad 7) (ad 8) (ad 9) (ad 10) (ad 11) (ad 12) (ad 13) (ad 14) (I 0) (I 1) (I 2) (ys (ii + 1)) (ys (ii + 2)) (hAd.f1 (by omega)) hC.x hhd (by omega) (by omega) (by omega)) (cwV 2 hts (gw_V w_528 w_529 w_530 w_1 w_531) rfl rfl rfl (by decide +kernel) ⟨by rw [hRf]; exact Nat.le_of_ble_eq_true rfl, by rw [hRl]; exact Nat.le_of_ble_eq_true rfl⟩) ⟨K0.blind, B.recv (hAd.1 0 (by omega)) hC.x rfl, B.pre _⟩ rfl rfl hl.1 rfl (lv_room (Nat.le_of_ble_eq_true rfl)) d_law_594 ⟨by rw [hRc]; omega, by rw [hRs]; omega⟩) (fun r594 g594 H locs hw B => ?_)
    obtain ⟨hr1, hgf⟩ := hw
    rw [hgf] at B
    have hC1 := hC
    have hMC1 := hMC
    have hov1 := hov
    have hInv1 := hInv
    have hsv1 : SameV I A I A := ⟨rfl, fun _ _ => rfl⟩
    refine lv_aload_n hx hb d_law_597 rfl (lv_at hl 2 rfl) ?_
    refine lv_aload_n hx hb d_law_598 rfl (lv_at hl 4 rfl) ?_
    refine lv_iload hx hb d_law_599 (lv_at hl 0 rfl) ?_
    refine x_iconst hx hb d_law_601 ?_
    refine x_iadd hx hb d_law_602 ?_
    refine x_sld hx hb hX hbl hbA B.2.2.2.1 (ii + 1) (by omega) (by omega) (by omega) d_law_603 ?_
    refine lv_aload_n hx hb d_law_604 rfl (lv_at hl 4 rfl) ?_
    refine lv_iload hx hb d_law_605 (lv_at hl 0 rfl) ?_
    refine x_iconst hx hb d_law_607 ?_
    refine x_iadd hx hb d_law_608 ?_
    refine x_sld hx hb hX hbl hbA B.2.2.2.1 (ii + 2) (by omega) (by omega) (by omega) d_law_609 ?_
    refine x_calli B hA (va_runV (As := [.int (iI (ys (ii + 1))), .int (iI (ys (ii + 2)))]) (rest := [.int r594]) ⟨hx, hb, hml, hown, hts⟩ (c_Mo_rank_u l D cs _ _ _ (M 0) (M 1) (M 2) (M 3) (M 5) (M 6) (M 7) (M 8) (M 9) (M 10) (M 11) (M 12) (M 13) (M 14) th (I 0) rw_ fu fb (ys (ii + 1)) (ys (ii + 2)) (hMd.fc [0] (by decide) (by decide)) hMC1.1 hhd (by omega) (by omega) (by omega)) (cwV 2 hts (gw_V w_962 w_963 w_964 w_8 w_965) rfl rfl rfl (by decide +kernel) ⟨by rw [hRf]; exact Nat.le_of_ble_eq_true rfl, by rw [hRl]; exact Nat.le_of_ble_eq_true rfl⟩) ⟨K0.blind, B.recv (hMd.1 0 (by decide)) hMC1.1 rfl, B.pre _⟩ rfl rfl hl.1 rfl (lv_room (Nat.le_of_ble_eq_true rfl)) d_law_610 ⟨by rw [hRc]; omega, by rw [hRs]; omega⟩) (fun r610 g610 H locs hw B => ?_)
    obtain ⟨hr2, hg2⟩ := hw
    have hMC2 := MC.m1 hMd hMC1 hg2
    have hC2 := hC1.frame hAd (g := g610) (fun k hk => by rw [hg2]; exact hMd.ad [0] (by decide) rfl hk)
    have hov2 : g610 (M 4) = .inl (cs 1, 1, .inr (.inl (al ov))) := by rw [hg2]; exact (hMd.out (b := 4) (by decide) [0] (by decide) rfl).trans hov1
    have he : r594 = r610 := hr1.trans hr2.symm
    rw [← he]
    obtain ⟨vv, hvv, hvr⟩ := i32_ex r594
    rw [hvv]
    refine x_icmp_eq (tgt := 956) hx hb d_law_613 (by decide) (by omega) (by omega) (fun h613 => ?_) (fun h613 => ?_)
    · exact TAIL _ _ _ _ ⟨I, A, Rf, Zf, _, cv, bl, ro, fr, Z, ov, hC2, hInv1, by rw [show I 0 = I 0 from hsv1.1]; exact ⟨_, _, _, lm, mn, sn, w8, w9, w10, w11, md, w15, hMC2, hRS, hLA, hcv, hhd.1, hhd.2⟩, hov2, fun q hq => by rw [show I 0 = I 0 from hsv1.1] at hq; rw [show A (20 + q) = A (20 + q) from hsv1.2 q (by omega)]; exact hEq q hq⟩ B (lv_sub hl [0, 1, 2, 3, 4] rfl)
    · exfalso; omega
set_option maxHeartbeats 8000000 in
set_option maxRecDepth 100000 in
theorem law_case_12 {p : Program} {l : Launch} {e : Env} {s : State} {m : MethodId} {below : List Frame} {meth : Method} {c : Code} {R : Room} {av : Array Value} {Q : State → Prop} {ad Qm M : Nat → Nat} {ys : Nat → Int} {b n ii CC SS : Nat} {A0 : Nat → Prop} {D : va_G} {cs : Nat → ClassId} {LL : List Nat} {f : Nat → va_E} {H : Heap} {locs : List Loc} {ls : Array Slot} (hx : p.tables.exec = Jvm.exec) (hb : c.code = code) (hml : c.maxLocals = 8) (hown : s.vm.findClass R_law = some m.cls) (hts : ∀ w ∈ gw, w.before av s = true) (hRf : R.frames = 14) (hRl : R.locals = 594) (hRc : R.cells = 601024) (hRs : R.slots = 7293034) (hA : ∀ q, s.heap.size ≤ q → A0 q) (hX : va_X b n (ai ys) s s.heap) (hbl : b < s.heap.size) (hbA : ¬ A0 b) (hyr : ∀ j, -2147483648 ≤ ys j ∧ ys j < 2147483648) (hn : n ≤ 3072) (hi : ii + 6 ≤ n) (hCC : CC ≤ 600000) (hSS : SS ≤ 7000000) (hAd : AdOk LL ad Qm) (hMd : MdOk LL ad M) (hLI : LI cs ad Qm M f) (TAIL : ∀ (f' : Nat → va_E) (H : Heap) (locs : List Loc) (ls : Array Slot), LI cs ad Qm M f' → Wb D vwCl (TY cs) LL f' A0 s H locs → lv_has ls 8 [(4, .int (iI (ii : Int))), (3, .ref (M 4)), (2, .ref (M 0)), (1, .ref (ad 0)), (0, .ref b)] → W p l e R s m av below meth c H locs CC SS Q (F0 m 956 ls [])) (B : Wb D vwCl (TY cs) LL f A0 s H locs) (hl : lv_has ls 8 [(4, .int (iI (ii : Int))), (3, .ref (M 4)), (2, .ref (M 0)), (1, .ref (ad 0)), (0, .ref b)]) : W p l e R s m av below meth c H locs CC SS Q (F0 m 618 ls []) := by
  obtain ⟨I, A, Rf, Zf, th, cv, bl, ro, fr, Z, ov, hC, hInv, hLM, hov, hEq⟩ := hLI
  obtain ⟨rw_, fu, fb, lm, mn, sn, w8, w9, w10, w11, md, w15, hMC, hRS, hLA, hcv, hpn0, hpn12⟩ := hLM
  have hG0 := hInv.1
  have hhd := hG0.1
  have hy1 := hyr (ii + 1)
  have hy2 := hyr (ii + 2)
  have hy3 := hyr (ii + 3)
  have hy4 := hyr (ii + 4)
  have hy5 := hyr (ii + 5)
  refine lv_aload_n hx hb d_law_618 rfl (lv_at hl 3 rfl) ?_
  refine lv_aload_n hx hb d_law_619 rfl (lv_at hl 4 rfl) ?_
  refine lv_iload hx hb d_law_620 (lv_at hl 0 rfl) ?_
  refine x_iconst hx hb d_law_622 ?_
  refine x_iadd hx hb d_law_623 ?_
  refine x_sld hx hb hX hbl hbA B.2.2.2.1 (ii + 1) (by omega) (by omega) (by omega) d_law_624 ?_
  refine lv_aload_n hx hb d_law_625 rfl (lv_at hl 4 rfl) ?_
  refine lv_iload hx hb d_law_626 (lv_at hl 0 rfl) ?_
  refine x_iconst hx hb d_law_628 ?_
  refine x_iadd hx hb d_law_629 ?_
  refine x_sld hx hb hX hbl hbA B.2.2.2.1 (ii + 2) (by omega) (by omega) (by omega) d_law_630 ?_
  refine lv_aload_n hx hb d_law_631 rfl (lv_at hl 4 rfl) ?_
  refine lv_iload hx hb d_law_632 (lv_at hl 0 rfl) ?_
  refine x_iconst hx hb d_law_634 ?_
  refine x_iadd hx hb d_law_635 ?_
  refine x_sld hx hb hX hbl hbA B.2.2.2.1 (ii + 3) (by omega) (by omega) (by omega) d_law_636 ?_
  refine lv_aload_n hx hb d_law_637 rfl (lv_at hl 4 rfl) ?_
  refine lv_iload hx hb d_law_638 (lv_at hl 0 rfl) ?_
  refine x_iconst hx hb d_law_640 ?_
  refine x_iadd hx hb d_law_641 ?_
  refine x_sld hx hb hX hbl hbA B.2.2.2.1 (ii + 4) (by omega) (by omega) (by omega) d_law_642 ?_
  refine lv_aload_n hx hb d_law_643 rfl (lv_at hl 4 rfl) ?_
  refine lv_iload hx hb d_law_644 (lv_at hl 0 rfl) ?_
  refine x_iconst hx hb d_law_646 ?_
  refine x_iadd hx hb d_law_647 ?_
  refine x_sld hx hb hX hbl hbA B.2.2.2.1 (ii + 5) (by omega) (by omega) (by omega) d_law_648 ?_
  by_cases hk1 : 0 ≤ ys (ii + 1) ∧ ys (ii + 1) < I 0
  · obtain ⟨p0, hp0e⟩ : ∃ p0 : Nat, ys (ii + 1) = (p0 : Int) := ⟨(ys (ii + 1)).toNat, by omega⟩
    have hp0l : (p0 : Int) < I 0 := by omega
    have hp0t : p0 < 12 := by omega
    rw [hp0e]
    refine x_calli B hA (va_runV (As := [.int (iI ((p0 : Int))), .int (iI (ys (ii + 2))), .int (iI (ys (ii + 3))), .int (iI (ys (ii + 4))), .int (iI (ys (ii + 5)))]) (rest := []) ⟨hx, hb, hml, hown, hts⟩ (c_RR_between_k l D cs _ _ _ ad Qm I A Rf Zf p0 (ys (ii + 2)) (ys (ii + 3)) (ys (ii + 4)) (ys (ii + 5)) hAd hC hInv hp0l (by omega) (by omega) (by omega) (by omega)) (cwV 5 hts (gw_V w_540 w_541 w_542 w_1 w_543) rfl rfl rfl (by decide +kernel) ⟨by rw [hRf]; exact Nat.le_of_ble_eq_true rfl, by rw [hRl]; exact Nat.le_of_ble_eq_true rfl⟩) ⟨K0.blind, B.recv (hAd.1 0 (by omega)) hC.x rfl, B.pre _⟩ rfl rfl hl.1 rfl (lv_room (Nat.le_of_ble_eq_true rfl)) d_law_649 ⟨by rw [hRc]; omega, by rw [hRs]; omega⟩) (fun r649 g649 H locs hw B => ?_)
    obtain ⟨I1, A1, R1, Zf1, hC1, hq1, hInv1, hsv1, hans1⟩ := hw
    have hMC1 := hMC.frame (fun k hk => hq1 _ (hMd.2.2 k hk))
    have hov1 := (hq1 _ (hMd.2.2 4 (by decide))).trans hov
    refine lv_aload_n hx hb d_law_652 rfl (lv_at hl 2 rfl) ?_
    refine lv_aload_n hx hb d_law_653 rfl (lv_at hl 4 rfl) ?_
    refine lv_iload hx hb d_law_654 (lv_at hl 0 rfl) ?_
    refine x_iconst hx hb d_law_656 ?_
    refine x_iadd hx hb d_law_657 ?_
    refine x_sld hx hb hX hbl hbA B.2.2.2.1 (ii + 1) (by omega) (by omega) (by omega) d_law_658 ?_
    refine lv_aload_n hx hb d_law_659 rfl (lv_at hl 4 rfl) ?_
    refine lv_iload hx hb d_law_660 (lv_at hl 0 rfl) ?_
    refine x_iconst hx hb d_law_662 ?_
    refine x_iadd hx hb d_law_663 ?_
    refine x_sld hx hb hX hbl hbA B.2.2.2.1 (ii + 2) (by omega) (by omega) (by omega) d_law_664 ?_
    refine lv_aload_n hx hb d_law_665 rfl (lv_at hl 4 rfl) ?_
    refine lv_iload hx hb d_law_666 (lv_at hl 0 rfl) ?_
    refine x_iconst hx hb d_law_668 ?_
    refine x_iadd hx hb d_law_669 ?_
    refine x_sld hx hb hX hbl hbA B.2.2.2.1 (ii + 3) (by omega) (by omega) (by omega) d_law_670 ?_
    refine lv_aload_n hx hb d_law_671 rfl (lv_at hl 4 rfl) ?_
    refine lv_iload hx hb d_law_672 (lv_at hl 0 rfl) ?_
    refine x_iconst hx hb d_law_674 ?_
    refine x_iadd hx hb d_law_675 ?_
    refine x_sld hx hb hX hbl hbA B.2.2.2.1 (ii + 4) (by omega) (by omega) (by omega) d_law_676 ?_
    refine lv_aload_n hx hb d_law_677 rfl (lv_at hl 4 rfl) ?_
    refine lv_iload hx hb d_law_678 (lv_at hl 0 rfl) ?_
    refine x_iconst hx hb d_law_680 ?_
    refine x_iadd hx hb d_law_681 ?_
    refine x_sld hx hb hX hbl hbA B.2.2.2.1 (ii + 5) (by omega) (by omega) (by omega) d_law_682 ?_
    rw [hp0e]
    refine x_calli B hA (va_runV (As := [.int (iI ((p0 : Int))), .int (iI (ys (ii + 2))), .int (iI (ys (ii + 3))), .int (iI (ys (ii + 4))), .int (iI (ys (ii + 5)))]) (rest := [.int r649]) ⟨hx, hb, hml, hown, hts⟩ (c_Mo_between_k l D cs _ _ _ (M 0) (M 1) (M 2) (M 3) (M 5) (M 6) (M 7) (M 8) (M 9) (M 10) (M 11) (M 12) (M 13) (M 14) th (I 0) rw_ fu fb lm mn sn Z bl w8 w9 w10 w11 ro fr cv p0 (ys (ii + 2)) (ys (ii + 3)) (ys (ii + 4)) (ys (ii + 5)) (hMd.fc [0, 1, 2, 3, 6, 8, 9, 10, 11, 12, 13, 5] (by decide) (by decide)) hMC1.1 hMC1.2.1 hMC1.2.2.1 hMC1.2.2.2.1 hMC1.2.2.2.2.2.1 hMC1.2.2.2.2.2.2.2.1 hMC1.2.2.2.2.2.2.2.2.1 hMC1.2.2.2.2.2.2.2.2.2.1 hMC1.2.2.2.2.2.2.2.2.2.2.1 hMC1.2.2.2.2.2.2.2.2.2.2.2.1 hMC1.2.2.2.2.2.2.2.2.2.2.2.2.1 hMC1.2.2.2.2.1 hRS hp0t hcv hLA hhd hp0l (by omega) (by omega) (by omega) (by omega)) (cwV 5 hts (gw_V w_978 w_979 w_980 w_8 w_981) rfl rfl rfl (by decide +kernel) ⟨by rw [hRf]; exact Nat.le_of_ble_eq_true rfl, by rw [hRl]; exact Nat.le_of_ble_eq_true rfl⟩) ⟨K0.blind, B.recv (hMd.1 0 (by decide)) hMC1.1 rfl, B.pre _⟩ rfl rfl hl.1 rfl (lv_room (Nat.le_of_ble_eq_true rfl)) d_law_683 ⟨by rw [hRc]; omega, by rw [hRs]; omega⟩) (fun r683 g683 H locs hw B => ?_)
    obtain ⟨lm2, mn2, sn2, Z2, bl2, w82, w92, w102, w112, ro2, fr2, rw2, hRS2, hLA2, hst2, hans2, hg2⟩ := hw
    have hMC2 := MC.m11 hMd hMC1 hg2
    have hC2 := hC1.frame hAd (g := g683) (fun k hk => by rw [hg2]; exact hMd.ad [0, 1, 2, 3, 6, 8, 9, 10, 11, 12, 13] (by decide) rfl hk)
    have hov2 : g683 (M 4) = .inl (cs 1, 1, .inr (.inl (al ov))) := by rw [hg2]; exact (hMd.out (b := 4) (by decide) [0, 1, 2, 3, 6, 8, 9, 10, 11, 12, 13] (by decide) rfl).trans hov1
    have he : r649 = r683 := gl_between (hG0.2.1 p0 hp0t) (hEq p0 hp0l) (hLA2.1 p0 hp0t) hans1 hans2
    rw [← he]
    obtain ⟨vv, hvv, hvr⟩ := i32_ex r649
    rw [hvv]
    refine x_icmp_eq (tgt := 956) hx hb d_law_686 (by decide) (by omega) (by omega) (fun h686 => ?_) (fun h686 => ?_)
    · exact TAIL _ _ _ _ ⟨I1, A1, R1, Zf1, _, cv, bl2, ro2, fr2, Z2, ov, hC2, hInv1, by rw [show I1 0 = I 0 from hsv1.1]; exact ⟨_, _, _, lm2, mn2, sn2, w82, w92, w102, w112, md, w15, hMC2, hRS2, hLA2, hcv, hhd.1, hhd.2⟩, hov2, fun q hq => by rw [show I1 0 = I 0 from hsv1.1] at hq; rw [show A1 (20 + q) = A (20 + q) from hsv1.2 q (by omega)]; exact hEq q hq⟩ B (lv_sub hl [0, 1, 2, 3, 4] rfl)
    · exfalso; omega
  · refine x_calli B hA (va_runV (As := [.int (iI (ys (ii + 1))), .int (iI (ys (ii + 2))), .int (iI (ys (ii + 3))), .int (iI (ys (ii + 4))), .int (iI (ys (ii + 5)))]) (rest := []) ⟨hx, hb, hml, hown, hts⟩ (c_RR_between_u l D cs _ _ _ (ad 0) (ad 1) (ad 2) (ad 5) (ad 7) (ad 8) (ad 9) (ad 10) (ad 11) (ad 12) (ad 13) (ad 14) (I 0) (I 1) (I 2) (ys (ii + 1)) (ys (ii + 2)) (ys (ii + 3)) (ys (ii + 4)) (ys (ii + 5)) (hAd.f1 (by omega)) hC.x hhd (by omega) (by omega) (by omega) (by omega) (by omega) (by omega)) (cwV 5 hts (gw_V w_540 w_541 w_542 w_1 w_543) rfl rfl rfl (by decide +kernel) ⟨by rw [hRf]; exact Nat.le_of_ble_eq_true rfl, by rw [hRl]; exact Nat.le_of_ble_eq_true rfl⟩) ⟨K0.blind, B.recv (hAd.1 0 (by omega)) hC.x rfl, B.pre _⟩ rfl rfl hl.1 rfl (lv_room (Nat.le_of_ble_eq_true rfl)) d_law_649 ⟨by rw [hRc]; omega, by rw [hRs]; omega⟩) (fun r649 g649 H locs hw B => ?_)
    obtain ⟨hr1, hgf⟩ := hw
    rw [hgf] at B
    have hC1 := hC
    have hMC1 := hMC
    have hov1 := hov
    have hInv1 := hInv
    have hsv1 : SameV I A I A := ⟨rfl, fun _ _ => rfl⟩
    refine lv_aload_n hx hb d_law_652 rfl (lv_at hl 2 rfl) ?_
    refine lv_aload_n hx hb d_law_653 rfl (lv_at hl 4 rfl) ?_
    refine lv_iload hx hb d_law_654 (lv_at hl 0 rfl) ?_
    refine x_iconst hx hb d_law_656 ?_
    refine x_iadd hx hb d_law_657 ?_
    refine x_sld hx hb hX hbl hbA B.2.2.2.1 (ii + 1) (by omega) (by omega) (by omega) d_law_658 ?_
    refine lv_aload_n hx hb d_law_659 rfl (lv_at hl 4 rfl) ?_
    refine lv_iload hx hb d_law_660 (lv_at hl 0 rfl) ?_
    refine x_iconst hx hb d_law_662 ?_
    refine x_iadd hx hb d_law_663 ?_
    refine x_sld hx hb hX hbl hbA B.2.2.2.1 (ii + 2) (by omega) (by omega) (by omega) d_law_664 ?_
    refine lv_aload_n hx hb d_law_665 rfl (lv_at hl 4 rfl) ?_
    refine lv_iload hx hb d_law_666 (lv_at hl 0 rfl) ?_
    refine x_iconst hx hb d_law_668 ?_
    refine x_iadd hx hb d_law_669 ?_
    refine x_sld hx hb hX hbl hbA B.2.2.2.1 (ii + 3) (by omega) (by omega) (by omega) d_law_670 ?_
    refine lv_aload_n hx hb d_law_671 rfl (lv_at hl 4 rfl) ?_
    refine lv_iload hx hb d_law_672 (lv_at hl 0 rfl) ?_
    refine x_iconst hx hb d_law_674 ?_
    refine x_iadd hx hb d_law_675 ?_
    refine x_sld hx hb hX hbl hbA B.2.2.2.1 (ii + 4) (by omega) (by omega) (by omega) d_law_676 ?_
    refine lv_aload_n hx hb d_law_677 rfl (lv_at hl 4 rfl) ?_
    refine lv_iload hx hb d_law_678 (lv_at hl 0 rfl) ?_
    refine x_iconst hx hb d_law_680 ?_
    refine x_iadd hx hb d_law_681 ?_
    refine x_sld hx hb hX hbl hbA B.2.2.2.1 (ii + 5) (by omega) (by omega) (by omega) d_law_682 ?_
    refine x_calli B hA (va_runV (As := [.int (iI (ys (ii + 1))), .int (iI (ys (ii + 2))), .int (iI (ys (ii + 3))), .int (iI (ys (ii + 4))), .int (iI (ys (ii + 5)))]) (rest := [.int r649]) ⟨hx, hb, hml, hown, hts⟩ (c_Mo_between_u l D cs _ _ _ (M 0) (M 1) (M 2) (M 3) (M 5) (M 6) (M 7) (M 8) (M 9) (M 10) (M 11) (M 12) (M 13) (M 14) th (I 0) rw_ fu fb (ys (ii + 1)) (ys (ii + 2)) (ys (ii + 3)) (ys (ii + 4)) (ys (ii + 5)) (hMd.fc [0] (by decide) (by decide)) hMC1.1 hhd (by omega) (by omega) (by omega) (by omega) (by omega) (by omega)) (cwV 5 hts (gw_V w_978 w_979 w_980 w_8 w_981) rfl rfl rfl (by decide +kernel) ⟨by rw [hRf]; exact Nat.le_of_ble_eq_true rfl, by rw [hRl]; exact Nat.le_of_ble_eq_true rfl⟩) ⟨K0.blind, B.recv (hMd.1 0 (by decide)) hMC1.1 rfl, B.pre _⟩ rfl rfl hl.1 rfl (lv_room (Nat.le_of_ble_eq_true rfl)) d_law_683 ⟨by rw [hRc]; omega, by rw [hRs]; omega⟩) (fun r683 g683 H locs hw B => ?_)
    obtain ⟨hr2, hg2⟩ := hw
    have hMC2 := MC.m1 hMd hMC1 hg2
    have hC2 := hC1.frame hAd (g := g683) (fun k hk => by rw [hg2]; exact hMd.ad [0] (by decide) rfl hk)
    have hov2 : g683 (M 4) = .inl (cs 1, 1, .inr (.inl (al ov))) := by rw [hg2]; exact (hMd.out (b := 4) (by decide) [0] (by decide) rfl).trans hov1
    have he : r649 = r683 := hr1.trans hr2.symm
    rw [← he]
    obtain ⟨vv, hvv, hvr⟩ := i32_ex r649
    rw [hvv]
    refine x_icmp_eq (tgt := 956) hx hb d_law_686 (by decide) (by omega) (by omega) (fun h686 => ?_) (fun h686 => ?_)
    · exact TAIL _ _ _ _ ⟨I, A, Rf, Zf, _, cv, bl, ro, fr, Z, ov, hC2, hInv1, by rw [show I 0 = I 0 from hsv1.1]; exact ⟨_, _, _, lm, mn, sn, w8, w9, w10, w11, md, w15, hMC2, hRS, hLA, hcv, hhd.1, hhd.2⟩, hov2, fun q hq => by rw [show I 0 = I 0 from hsv1.1] at hq; rw [show A (20 + q) = A (20 + q) from hsv1.2 q (by omega)]; exact hEq q hq⟩ B (lv_sub hl [0, 1, 2, 3, 4] rfl)
    · exfalso; omega
set_option maxHeartbeats 8000000 in
set_option maxRecDepth 100000 in
theorem law_case_13 {p : Program} {l : Launch} {e : Env} {s : State} {m : MethodId} {below : List Frame} {meth : Method} {c : Code} {R : Room} {av : Array Value} {Q : State → Prop} {ad Qm M : Nat → Nat} {ys : Nat → Int} {b n ii CC SS : Nat} {A0 : Nat → Prop} {D : va_G} {cs : Nat → ClassId} {LL : List Nat} {f : Nat → va_E} {H : Heap} {locs : List Loc} {ls : Array Slot} (hx : p.tables.exec = Jvm.exec) (hb : c.code = code) (hml : c.maxLocals = 8) (hown : s.vm.findClass R_law = some m.cls) (hts : ∀ w ∈ gw, w.before av s = true) (hRf : R.frames = 14) (hRl : R.locals = 594) (hRc : R.cells = 601024) (hRs : R.slots = 7293034) (hA : ∀ q, s.heap.size ≤ q → A0 q) (hX : va_X b n (ai ys) s s.heap) (hbl : b < s.heap.size) (hbA : ¬ A0 b) (hyr : ∀ j, -2147483648 ≤ ys j ∧ ys j < 2147483648) (hn : n ≤ 3072) (hi : ii + 6 ≤ n) (hCC : CC ≤ 600000) (hSS : SS ≤ 7000000) (hAd : AdOk LL ad Qm) (hMd : MdOk LL ad M) (hLI : LI cs ad Qm M f) (TAIL : ∀ (f' : Nat → va_E) (H : Heap) (locs : List Loc) (ls : Array Slot), LI cs ad Qm M f' → Wb D vwCl (TY cs) LL f' A0 s H locs → lv_has ls 8 [(4, .int (iI (ii : Int))), (3, .ref (M 4)), (2, .ref (M 0)), (1, .ref (ad 0)), (0, .ref b)] → W p l e R s m av below meth c H locs CC SS Q (F0 m 956 ls [])) (B : Wb D vwCl (TY cs) LL f A0 s H locs) (hl : lv_has ls 8 [(4, .int (iI (ii : Int))), (3, .ref (M 4)), (2, .ref (M 0)), (1, .ref (ad 0)), (0, .ref b)]) : W p l e R s m av below meth c H locs CC SS Q (F0 m 691 ls []) := by
  obtain ⟨I, A, Rf, Zf, th, cv, bl, ro, fr, Z, ov, hC, hInv, hLM, hov, hEq⟩ := hLI
  obtain ⟨rw_, fu, fb, lm, mn, sn, w8, w9, w10, w11, md, w15, hMC, hRS, hLA, hcv, hpn0, hpn12⟩ := hLM
  have hG0 := hInv.1
  have hhd := hG0.1
  have hy1 := hyr (ii + 1)
  have hy2 := hyr (ii + 2)
  have hy3 := hyr (ii + 3)
  have hy4 := hyr (ii + 4)
  have hy5 := hyr (ii + 5)
  refine lv_aload_n hx hb d_law_691 rfl (lv_at hl 3 rfl) ?_
  refine lv_aload_n hx hb d_law_692 rfl (lv_at hl 4 rfl) ?_
  refine lv_iload hx hb d_law_693 (lv_at hl 0 rfl) ?_
  refine x_iconst hx hb d_law_695 ?_
  refine x_iadd hx hb d_law_696 ?_
  refine x_sld hx hb hX hbl hbA B.2.2.2.1 (ii + 1) (by omega) (by omega) (by omega) d_law_697 ?_
  refine lv_aload_n hx hb d_law_698 rfl (lv_at hl 4 rfl) ?_
  refine lv_iload hx hb d_law_699 (lv_at hl 0 rfl) ?_
  refine x_iconst hx hb d_law_701 ?_
  refine x_iadd hx hb d_law_702 ?_
  refine x_sld hx hb hX hbl hbA B.2.2.2.1 (ii + 2) (by omega) (by omega) (by omega) d_law_703 ?_
  refine lv_aload_n hx hb d_law_704 rfl (lv_at hl 4 rfl) ?_
  refine lv_iload hx hb d_law_705 (lv_at hl 0 rfl) ?_
  refine x_iconst hx hb d_law_707 ?_
  refine x_iadd hx hb d_law_708 ?_
  refine x_sld hx hb hX hbl hbA B.2.2.2.1 (ii + 3) (by omega) (by omega) (by omega) d_law_709 ?_
  by_cases hk1 : 0 ≤ ys (ii + 1) ∧ ys (ii + 1) < I 0
  · obtain ⟨p0, hp0e⟩ : ∃ p0 : Nat, ys (ii + 1) = (p0 : Int) := ⟨(ys (ii + 1)).toNat, by omega⟩
    have hp0l : (p0 : Int) < I 0 := by omega
    have hp0t : p0 < 12 := by omega
    rw [hp0e]
    refine x_calli B hA (va_runV (As := [.int (iI ((p0 : Int))), .int (iI (ys (ii + 2))), .int (iI (ys (ii + 3)))]) (rest := []) ⟨hx, hb, hml, hown, hts⟩ (c_RR_changes_k l D cs _ _ _ ad Qm I A Rf Zf p0 (ys (ii + 2)) (ys (ii + 3)) hAd hC hInv hp0l (by omega) (by omega)) (cwV 3 hts (gw_V w_549 w_550 w_551 w_1 w_552) rfl rfl rfl (by decide +kernel) ⟨by rw [hRf]; exact Nat.le_of_ble_eq_true rfl, by rw [hRl]; exact Nat.le_of_ble_eq_true rfl⟩) ⟨K0.blind, B.recv (hAd.1 0 (by omega)) hC.x rfl, B.pre _⟩ rfl rfl hl.1 rfl (lv_room (Nat.le_of_ble_eq_true rfl)) d_law_710 ⟨by rw [hRc]; omega, by rw [hRs]; omega⟩) (fun r710 g710 H locs hw B => ?_)
    obtain ⟨I1, A1, R1, Zf1, hC1, hq1, hInv1, hsv1, hans1⟩ := hw
    have hMC1 := hMC.frame (fun k hk => hq1 _ (hMd.2.2 k hk))
    have hov1 := (hq1 _ (hMd.2.2 4 (by decide))).trans hov
    refine lv_aload_n hx hb d_law_713 rfl (lv_at hl 2 rfl) ?_
    refine lv_aload_n hx hb d_law_714 rfl (lv_at hl 4 rfl) ?_
    refine lv_iload hx hb d_law_715 (lv_at hl 0 rfl) ?_
    refine x_iconst hx hb d_law_717 ?_
    refine x_iadd hx hb d_law_718 ?_
    refine x_sld hx hb hX hbl hbA B.2.2.2.1 (ii + 1) (by omega) (by omega) (by omega) d_law_719 ?_
    refine lv_aload_n hx hb d_law_720 rfl (lv_at hl 4 rfl) ?_
    refine lv_iload hx hb d_law_721 (lv_at hl 0 rfl) ?_
    refine x_iconst hx hb d_law_723 ?_
    refine x_iadd hx hb d_law_724 ?_
    refine x_sld hx hb hX hbl hbA B.2.2.2.1 (ii + 2) (by omega) (by omega) (by omega) d_law_725 ?_
    refine lv_aload_n hx hb d_law_726 rfl (lv_at hl 4 rfl) ?_
    refine lv_iload hx hb d_law_727 (lv_at hl 0 rfl) ?_
    refine x_iconst hx hb d_law_729 ?_
    refine x_iadd hx hb d_law_730 ?_
    refine x_sld hx hb hX hbl hbA B.2.2.2.1 (ii + 3) (by omega) (by omega) (by omega) d_law_731 ?_
    rw [hp0e]
    refine x_calli B hA (va_runV (As := [.int (iI ((p0 : Int))), .int (iI (ys (ii + 2))), .int (iI (ys (ii + 3)))]) (rest := [.int r710]) ⟨hx, hb, hml, hown, hts⟩ (c_Mo_changes_k l D cs _ _ _ (M 0) (M 1) (M 2) (M 3) (M 5) (M 6) (M 7) (M 8) (M 9) (M 10) (M 11) (M 12) (M 13) (M 14) th (I 0) rw_ fu fb lm mn sn Z bl w8 w9 w10 w11 ro fr cv p0 (ys (ii + 2)) (ys (ii + 3)) (hMd.fc [0, 1, 2, 3, 6, 8, 9, 10, 11, 12, 13, 5] (by decide) (by decide)) hMC1.1 hMC1.2.1 hMC1.2.2.1 hMC1.2.2.2.1 hMC1.2.2.2.2.2.1 hMC1.2.2.2.2.2.2.2.1 hMC1.2.2.2.2.2.2.2.2.1 hMC1.2.2.2.2.2.2.2.2.2.1 hMC1.2.2.2.2.2.2.2.2.2.2.1 hMC1.2.2.2.2.2.2.2.2.2.2.2.1 hMC1.2.2.2.2.2.2.2.2.2.2.2.2.1 hMC1.2.2.2.2.1 hRS hp0t hcv hLA hhd hp0l (by omega) (by omega)) (cwV 3 hts (gw_V w_991 w_992 w_993 w_8 w_994) rfl rfl rfl (by decide +kernel) ⟨by rw [hRf]; exact Nat.le_of_ble_eq_true rfl, by rw [hRl]; exact Nat.le_of_ble_eq_true rfl⟩) ⟨K0.blind, B.recv (hMd.1 0 (by decide)) hMC1.1 rfl, B.pre _⟩ rfl rfl hl.1 rfl (lv_room (Nat.le_of_ble_eq_true rfl)) d_law_732 ⟨by rw [hRc]; omega, by rw [hRs]; omega⟩) (fun r732 g732 H locs hw B => ?_)
    obtain ⟨lm2, mn2, sn2, Z2, bl2, w82, w92, w102, w112, ro2, fr2, rw2, hRS2, hLA2, hst2, hans2, hg2⟩ := hw
    have hMC2 := MC.m11 hMd hMC1 hg2
    have hC2 := hC1.frame hAd (g := g732) (fun k hk => by rw [hg2]; exact hMd.ad [0, 1, 2, 3, 6, 8, 9, 10, 11, 12, 13] (by decide) rfl hk)
    have hov2 : g732 (M 4) = .inl (cs 1, 1, .inr (.inl (al ov))) := by rw [hg2]; exact (hMd.out (b := 4) (by decide) [0, 1, 2, 3, 6, 8, 9, 10, 11, 12, 13] (by decide) rfl).trans hov1
    have he : r710 = r732 := gl_changes (hEq p0 hp0l) hans1 hans2
    rw [← he]
    obtain ⟨vv, hvv, hvr⟩ := i32_ex r710
    rw [hvv]
    refine x_icmp_eq (tgt := 956) hx hb d_law_735 (by decide) (by omega) (by omega) (fun h735 => ?_) (fun h735 => ?_)
    · exact TAIL _ _ _ _ ⟨I1, A1, R1, Zf1, _, cv, bl2, ro2, fr2, Z2, ov, hC2, hInv1, by rw [show I1 0 = I 0 from hsv1.1]; exact ⟨_, _, _, lm2, mn2, sn2, w82, w92, w102, w112, md, w15, hMC2, hRS2, hLA2, hcv, hhd.1, hhd.2⟩, hov2, fun q hq => by rw [show I1 0 = I 0 from hsv1.1] at hq; rw [show A1 (20 + q) = A (20 + q) from hsv1.2 q (by omega)]; exact hEq q hq⟩ B (lv_sub hl [0, 1, 2, 3, 4] rfl)
    · exfalso; omega
  · refine x_calli B hA (va_runV (As := [.int (iI (ys (ii + 1))), .int (iI (ys (ii + 2))), .int (iI (ys (ii + 3)))]) (rest := []) ⟨hx, hb, hml, hown, hts⟩ (c_RR_changes_u l D cs _ _ _ (ad 0) (ad 1) (ad 2) (ad 5) (ad 7) (ad 8) (ad 9) (ad 10) (ad 11) (ad 12) (ad 13) (ad 14) (I 0) (I 1) (I 2) (ys (ii + 1)) (ys (ii + 2)) (ys (ii + 3)) (hAd.f1 (by omega)) hC.x hhd (by omega) (by omega) (by omega) (by omega)) (cwV 3 hts (gw_V w_549 w_550 w_551 w_1 w_552) rfl rfl rfl (by decide +kernel) ⟨by rw [hRf]; exact Nat.le_of_ble_eq_true rfl, by rw [hRl]; exact Nat.le_of_ble_eq_true rfl⟩) ⟨K0.blind, B.recv (hAd.1 0 (by omega)) hC.x rfl, B.pre _⟩ rfl rfl hl.1 rfl (lv_room (Nat.le_of_ble_eq_true rfl)) d_law_710 ⟨by rw [hRc]; omega, by rw [hRs]; omega⟩) (fun r710 g710 H locs hw B => ?_)
    obtain ⟨hr1, hgf⟩ := hw
    rw [hgf] at B
    have hC1 := hC
    have hMC1 := hMC
    have hov1 := hov
    have hInv1 := hInv
    have hsv1 : SameV I A I A := ⟨rfl, fun _ _ => rfl⟩
    refine lv_aload_n hx hb d_law_713 rfl (lv_at hl 2 rfl) ?_
    refine lv_aload_n hx hb d_law_714 rfl (lv_at hl 4 rfl) ?_
    refine lv_iload hx hb d_law_715 (lv_at hl 0 rfl) ?_
    refine x_iconst hx hb d_law_717 ?_
    refine x_iadd hx hb d_law_718 ?_
    refine x_sld hx hb hX hbl hbA B.2.2.2.1 (ii + 1) (by omega) (by omega) (by omega) d_law_719 ?_
    refine lv_aload_n hx hb d_law_720 rfl (lv_at hl 4 rfl) ?_
    refine lv_iload hx hb d_law_721 (lv_at hl 0 rfl) ?_
    refine x_iconst hx hb d_law_723 ?_
    refine x_iadd hx hb d_law_724 ?_
    refine x_sld hx hb hX hbl hbA B.2.2.2.1 (ii + 2) (by omega) (by omega) (by omega) d_law_725 ?_
    refine lv_aload_n hx hb d_law_726 rfl (lv_at hl 4 rfl) ?_
    refine lv_iload hx hb d_law_727 (lv_at hl 0 rfl) ?_
    refine x_iconst hx hb d_law_729 ?_
    refine x_iadd hx hb d_law_730 ?_
    refine x_sld hx hb hX hbl hbA B.2.2.2.1 (ii + 3) (by omega) (by omega) (by omega) d_law_731 ?_
    refine x_calli B hA (va_runV (As := [.int (iI (ys (ii + 1))), .int (iI (ys (ii + 2))), .int (iI (ys (ii + 3)))]) (rest := [.int r710]) ⟨hx, hb, hml, hown, hts⟩ (c_Mo_changes_u l D cs _ _ _ (M 0) (M 1) (M 2) (M 3) (M 5) (M 6) (M 7) (M 8) (M 9) (M 10) (M 11) (M 12) (M 13) (M 14) th (I 0) rw_ fu fb (ys (ii + 1)) (ys (ii + 2)) (ys (ii + 3)) (hMd.fc [0] (by decide) (by decide)) hMC1.1 hhd (by omega) (by omega) (by omega) (by omega)) (cwV 3 hts (gw_V w_991 w_992 w_993 w_8 w_994) rfl rfl rfl (by decide +kernel) ⟨by rw [hRf]; exact Nat.le_of_ble_eq_true rfl, by rw [hRl]; exact Nat.le_of_ble_eq_true rfl⟩) ⟨K0.blind, B.recv (hMd.1 0 (by decide)) hMC1.1 rfl, B.pre _⟩ rfl rfl hl.1 rfl (lv_room (Nat.le_of_ble_eq_true rfl)) d_law_732 ⟨by rw [hRc]; omega, by rw [hRs]; omega⟩) (fun r732 g732 H locs hw B => ?_)
    obtain ⟨hr2, hg2⟩ := hw
    have hMC2 := MC.m1 hMd hMC1 hg2
    have hC2 := hC1.frame hAd (g := g732) (fun k hk => by rw [hg2]; exact hMd.ad [0] (by decide) rfl hk)
    have hov2 : g732 (M 4) = .inl (cs 1, 1, .inr (.inl (al ov))) := by rw [hg2]; exact (hMd.out (b := 4) (by decide) [0] (by decide) rfl).trans hov1
    have he : r710 = r732 := hr1.trans hr2.symm
    rw [← he]
    obtain ⟨vv, hvv, hvr⟩ := i32_ex r710
    rw [hvv]
    refine x_icmp_eq (tgt := 956) hx hb d_law_735 (by decide) (by omega) (by omega) (fun h735 => ?_) (fun h735 => ?_)
    · exact TAIL _ _ _ _ ⟨I, A, Rf, Zf, _, cv, bl, ro, fr, Z, ov, hC2, hInv1, by rw [show I 0 = I 0 from hsv1.1]; exact ⟨_, _, _, lm, mn, sn, w8, w9, w10, w11, md, w15, hMC2, hRS, hLA, hcv, hhd.1, hhd.2⟩, hov2, fun q hq => by rw [show I 0 = I 0 from hsv1.1] at hq; rw [show A (20 + q) = A (20 + q) from hsv1.2 q (by omega)]; exact hEq q hq⟩ B (lv_sub hl [0, 1, 2, 3, 4] rfl)
    · exfalso; omega
set_option maxHeartbeats 8000000 in
set_option maxRecDepth 100000 in
theorem law_case_14 {p : Program} {l : Launch} {e : Env} {s : State} {m : MethodId} {below : List Frame} {meth : Method} {c : Code} {R : Room} {av : Array Value} {Q : State → Prop} {ad Qm M : Nat → Nat} {ys : Nat → Int} {b n ii CC SS : Nat} {A0 : Nat → Prop} {D : va_G} {cs : Nat → ClassId} {LL : List Nat} {f : Nat → va_E} {H : Heap} {locs : List Loc} {ls : Array Slot} (hx : p.tables.exec = Jvm.exec) (hb : c.code = code) (hml : c.maxLocals = 8) (hown : s.vm.findClass R_law = some m.cls) (hts : ∀ w ∈ gw, w.before av s = true) (hRf : R.frames = 14) (hRl : R.locals = 594) (hRc : R.cells = 601024) (hRs : R.slots = 7293034) (hA : ∀ q, s.heap.size ≤ q → A0 q) (hX : va_X b n (ai ys) s s.heap) (hbl : b < s.heap.size) (hbA : ¬ A0 b) (hyr : ∀ j, -2147483648 ≤ ys j ∧ ys j < 2147483648) (hn : n ≤ 3072) (hi : ii + 6 ≤ n) (hCC : CC ≤ 600000) (hSS : SS ≤ 7000000) (hAd : AdOk LL ad Qm) (hMd : MdOk LL ad M) (hLI : LI cs ad Qm M f) (TAIL : ∀ (f' : Nat → va_E) (H : Heap) (locs : List Loc) (ls : Array Slot), LI cs ad Qm M f' → Wb D vwCl (TY cs) LL f' A0 s H locs → lv_has ls 8 [(4, .int (iI (ii : Int))), (3, .ref (M 4)), (2, .ref (M 0)), (1, .ref (ad 0)), (0, .ref b)] → W p l e R s m av below meth c H locs CC SS Q (F0 m 956 ls [])) (B : Wb D vwCl (TY cs) LL f A0 s H locs) (hl : lv_has ls 8 [(4, .int (iI (ii : Int))), (3, .ref (M 4)), (2, .ref (M 0)), (1, .ref (ad 0)), (0, .ref b)]) : W p l e R s m av below meth c H locs CC SS Q (F0 m 740 ls []) := by
  obtain ⟨I, A, Rf, Zf, th, cv, bl, ro, fr, Z, ov, hC, hInv, hLM, hov, hEq⟩ := hLI
  obtain ⟨rw_, fu, fb, lm, mn, sn, w8, w9, w10, w11, md, w15, hMC, hRS, hLA, hcv, hpn0, hpn12⟩ := hLM
  have hG0 := hInv.1
  have hhd := hG0.1
  have hy1 := hyr (ii + 1)
  have hy2 := hyr (ii + 2)
  have hy3 := hyr (ii + 3)
  have hy4 := hyr (ii + 4)
  have hy5 := hyr (ii + 5)
  refine lv_aload_n hx hb d_law_740 rfl (lv_at hl 3 rfl) ?_
  refine lv_aload_n hx hb d_law_741 rfl (lv_at hl 4 rfl) ?_
  refine lv_iload hx hb d_law_742 (lv_at hl 0 rfl) ?_
  refine x_iconst hx hb d_law_744 ?_
  refine x_iadd hx hb d_law_745 ?_
  refine x_sld hx hb hX hbl hbA B.2.2.2.1 (ii + 1) (by omega) (by omega) (by omega) d_law_746 ?_
  by_cases hk1 : 0 ≤ ys (ii + 1) ∧ ys (ii + 1) < I 0
  · obtain ⟨p0, hp0e⟩ : ∃ p0 : Nat, ys (ii + 1) = (p0 : Int) := ⟨(ys (ii + 1)).toNat, by omega⟩
    have hp0l : (p0 : Int) < I 0 := by omega
    have hp0t : p0 < 12 := by omega
    rw [hp0e]
    refine x_calli B hA (va_runV (As := [.int (iI ((p0 : Int)))]) (rest := []) ⟨hx, hb, hml, hown, hts⟩ (c_RR_row_k l D cs _ _ _ ad Qm I A Rf Zf p0  hAd hC hInv hp0l ) (cwV 1 hts (gw_V w_553 w_554 w_555 w_1 w_556) rfl rfl rfl (by decide +kernel) ⟨by rw [hRf]; exact Nat.le_of_ble_eq_true rfl, by rw [hRl]; exact Nat.le_of_ble_eq_true rfl⟩) ⟨K0.blind, B.recv (hAd.1 0 (by omega)) hC.x rfl, B.pre _⟩ rfl rfl hl.1 rfl (lv_room (Nat.le_of_ble_eq_true rfl)) d_law_747 ⟨by rw [hRc]; omega, by rw [hRs]; omega⟩) (fun r747 g747 H locs hw B => ?_)
    obtain ⟨I1, A1, R1, Zf1, hC1, hq1, hInv1, hsv1, hans1⟩ := hw
    have hMC1 := hMC.frame (fun k hk => hq1 _ (hMd.2.2 k hk))
    have hov1 := (hq1 _ (hMd.2.2 4 (by decide))).trans hov
    refine lv_aload_n hx hb d_law_750 rfl (lv_at hl 2 rfl) ?_
    refine lv_aload_n hx hb d_law_751 rfl (lv_at hl 4 rfl) ?_
    refine lv_iload hx hb d_law_752 (lv_at hl 0 rfl) ?_
    refine x_iconst hx hb d_law_754 ?_
    refine x_iadd hx hb d_law_755 ?_
    refine x_sld hx hb hX hbl hbA B.2.2.2.1 (ii + 1) (by omega) (by omega) (by omega) d_law_756 ?_
    rw [hp0e]
    refine x_calli B hA (va_runV (As := [.int (iI ((p0 : Int)))]) (rest := [.int r747]) ⟨hx, hb, hml, hown, hts⟩ (c_Mo_row_k l D cs _ _ _ (M 0) (M 1) (M 2) (M 3) (M 5) (M 6) (M 7) (M 8) (M 9) (M 10) (M 11) (M 12) (M 13) (M 14) th (I 0) rw_ fu fb lm mn sn Z bl w8 w9 w10 w11 ro fr cv p0  (hMd.fc [0, 1, 2, 3, 6, 8, 9, 10, 11, 12, 13, 5] (by decide) (by decide)) hMC1.1 hMC1.2.1 hMC1.2.2.1 hMC1.2.2.2.1 hMC1.2.2.2.2.2.1 hMC1.2.2.2.2.2.2.2.1 hMC1.2.2.2.2.2.2.2.2.1 hMC1.2.2.2.2.2.2.2.2.2.1 hMC1.2.2.2.2.2.2.2.2.2.2.1 hMC1.2.2.2.2.2.2.2.2.2.2.2.1 hMC1.2.2.2.2.2.2.2.2.2.2.2.2.1 hMC1.2.2.2.2.1 hRS hp0t hcv hLA hhd hp0l ) (cwV 1 hts (gw_V w_995 w_996 w_997 w_8 w_998) rfl rfl rfl (by decide +kernel) ⟨by rw [hRf]; exact Nat.le_of_ble_eq_true rfl, by rw [hRl]; exact Nat.le_of_ble_eq_true rfl⟩) ⟨K0.blind, B.recv (hMd.1 0 (by decide)) hMC1.1 rfl, B.pre _⟩ rfl rfl hl.1 rfl (lv_room (Nat.le_of_ble_eq_true rfl)) d_law_757 ⟨by rw [hRc]; omega, by rw [hRs]; omega⟩) (fun r757 g757 H locs hw B => ?_)
    obtain ⟨lm2, mn2, sn2, Z2, bl2, w82, w92, w102, w112, ro2, fr2, rw2, hRS2, hLA2, hst2, hans2, hg2⟩ := hw
    have hMC2 := MC.m11 hMd hMC1 hg2
    have hC2 := hC1.frame hAd (g := g757) (fun k hk => by rw [hg2]; exact hMd.ad [0, 1, 2, 3, 6, 8, 9, 10, 11, 12, 13] (by decide) rfl hk)
    have hov2 : g757 (M 4) = .inl (cs 1, 1, .inr (.inl (al ov))) := by rw [hg2]; exact (hMd.out (b := 4) (by decide) [0, 1, 2, 3, 6, 8, 9, 10, 11, 12, 13] (by decide) rfl).trans hov1
    have he : r747 = r757 := gl_row (hEq p0 hp0l) hans1 hans2
    rw [← he]
    obtain ⟨vv, hvv, hvr⟩ := i32_ex r747
    rw [hvv]
    refine x_icmp_eq (tgt := 956) hx hb d_law_760 (by decide) (by omega) (by omega) (fun h760 => ?_) (fun h760 => ?_)
    · exact TAIL _ _ _ _ ⟨I1, A1, R1, Zf1, _, cv, bl2, ro2, fr2, Z2, ov, hC2, hInv1, by rw [show I1 0 = I 0 from hsv1.1]; exact ⟨_, _, _, lm2, mn2, sn2, w82, w92, w102, w112, md, w15, hMC2, hRS2, hLA2, hcv, hhd.1, hhd.2⟩, hov2, fun q hq => by rw [show I1 0 = I 0 from hsv1.1] at hq; rw [show A1 (20 + q) = A (20 + q) from hsv1.2 q (by omega)]; exact hEq q hq⟩ B (lv_sub hl [0, 1, 2, 3, 4] rfl)
    · exfalso; omega
  · refine x_calli B hA (va_runV (As := [.int (iI (ys (ii + 1)))]) (rest := []) ⟨hx, hb, hml, hown, hts⟩ (c_RR_row_u l D cs _ _ _ (ad 0) (ad 1) (ad 2) (ad 5) (ad 7) (ad 8) (ad 9) (ad 10) (ad 11) (ad 12) (ad 13) (ad 14) (I 0) (I 1) (I 2) (ys (ii + 1)) (hAd.f1 (by omega)) hC.x hhd (by omega) (by omega)) (cwV 1 hts (gw_V w_553 w_554 w_555 w_1 w_556) rfl rfl rfl (by decide +kernel) ⟨by rw [hRf]; exact Nat.le_of_ble_eq_true rfl, by rw [hRl]; exact Nat.le_of_ble_eq_true rfl⟩) ⟨K0.blind, B.recv (hAd.1 0 (by omega)) hC.x rfl, B.pre _⟩ rfl rfl hl.1 rfl (lv_room (Nat.le_of_ble_eq_true rfl)) d_law_747 ⟨by rw [hRc]; omega, by rw [hRs]; omega⟩) (fun r747 g747 H locs hw B => ?_)
    obtain ⟨hr1, hgf⟩ := hw
    rw [hgf] at B
    have hC1 := hC
    have hMC1 := hMC
    have hov1 := hov
    have hInv1 := hInv
    have hsv1 : SameV I A I A := ⟨rfl, fun _ _ => rfl⟩
    refine lv_aload_n hx hb d_law_750 rfl (lv_at hl 2 rfl) ?_
    refine lv_aload_n hx hb d_law_751 rfl (lv_at hl 4 rfl) ?_
    refine lv_iload hx hb d_law_752 (lv_at hl 0 rfl) ?_
    refine x_iconst hx hb d_law_754 ?_
    refine x_iadd hx hb d_law_755 ?_
    refine x_sld hx hb hX hbl hbA B.2.2.2.1 (ii + 1) (by omega) (by omega) (by omega) d_law_756 ?_
    refine x_calli B hA (va_runV (As := [.int (iI (ys (ii + 1)))]) (rest := [.int r747]) ⟨hx, hb, hml, hown, hts⟩ (c_Mo_row_u l D cs _ _ _ (M 0) (M 1) (M 2) (M 3) (M 5) (M 6) (M 7) (M 8) (M 9) (M 10) (M 11) (M 12) (M 13) (M 14) th (I 0) rw_ fu fb (ys (ii + 1)) (hMd.fc [0] (by decide) (by decide)) hMC1.1 hhd (by omega) (by omega)) (cwV 1 hts (gw_V w_995 w_996 w_997 w_8 w_998) rfl rfl rfl (by decide +kernel) ⟨by rw [hRf]; exact Nat.le_of_ble_eq_true rfl, by rw [hRl]; exact Nat.le_of_ble_eq_true rfl⟩) ⟨K0.blind, B.recv (hMd.1 0 (by decide)) hMC1.1 rfl, B.pre _⟩ rfl rfl hl.1 rfl (lv_room (Nat.le_of_ble_eq_true rfl)) d_law_757 ⟨by rw [hRc]; omega, by rw [hRs]; omega⟩) (fun r757 g757 H locs hw B => ?_)
    obtain ⟨hr2, hg2⟩ := hw
    have hMC2 := MC.m1 hMd hMC1 hg2
    have hC2 := hC1.frame hAd (g := g757) (fun k hk => by rw [hg2]; exact hMd.ad [0] (by decide) rfl hk)
    have hov2 : g757 (M 4) = .inl (cs 1, 1, .inr (.inl (al ov))) := by rw [hg2]; exact (hMd.out (b := 4) (by decide) [0] (by decide) rfl).trans hov1
    have he : r747 = r757 := hr1.trans hr2.symm
    rw [← he]
    obtain ⟨vv, hvv, hvr⟩ := i32_ex r747
    rw [hvv]
    refine x_icmp_eq (tgt := 956) hx hb d_law_760 (by decide) (by omega) (by omega) (fun h760 => ?_) (fun h760 => ?_)
    · exact TAIL _ _ _ _ ⟨I, A, Rf, Zf, _, cv, bl, ro, fr, Z, ov, hC2, hInv1, by rw [show I 0 = I 0 from hsv1.1]; exact ⟨_, _, _, lm, mn, sn, w8, w9, w10, w11, md, w15, hMC2, hRS, hLA, hcv, hhd.1, hhd.2⟩, hov2, fun q hq => by rw [show I 0 = I 0 from hsv1.1] at hq; rw [show A (20 + q) = A (20 + q) from hsv1.2 q (by omega)]; exact hEq q hq⟩ B (lv_sub hl [0, 1, 2, 3, 4] rfl)
    · exfalso; omega
set_option maxHeartbeats 8000000 in
set_option maxRecDepth 100000 in
theorem law_case_15 {p : Program} {l : Launch} {e : Env} {s : State} {m : MethodId} {below : List Frame} {meth : Method} {c : Code} {R : Room} {av : Array Value} {Q : State → Prop} {ad Qm M : Nat → Nat} {ys : Nat → Int} {b n ii CC SS : Nat} {A0 : Nat → Prop} {D : va_G} {cs : Nat → ClassId} {LL : List Nat} {f : Nat → va_E} {H : Heap} {locs : List Loc} {ls : Array Slot} (hx : p.tables.exec = Jvm.exec) (hb : c.code = code) (hml : c.maxLocals = 8) (hown : s.vm.findClass R_law = some m.cls) (hts : ∀ w ∈ gw, w.before av s = true) (hRf : R.frames = 14) (hRl : R.locals = 594) (hRc : R.cells = 601024) (hRs : R.slots = 7293034) (hA : ∀ q, s.heap.size ≤ q → A0 q) (hX : va_X b n (ai ys) s s.heap) (hbl : b < s.heap.size) (hbA : ¬ A0 b) (hyr : ∀ j, -2147483648 ≤ ys j ∧ ys j < 2147483648) (hn : n ≤ 3072) (hi : ii + 6 ≤ n) (hCC : CC ≤ 600000) (hSS : SS ≤ 7000000) (hAd : AdOk LL ad Qm) (hMd : MdOk LL ad M) (hLI : LI cs ad Qm M f) (TAIL : ∀ (f' : Nat → va_E) (H : Heap) (locs : List Loc) (ls : Array Slot), LI cs ad Qm M f' → Wb D vwCl (TY cs) LL f' A0 s H locs → lv_has ls 8 [(4, .int (iI (ii : Int))), (3, .ref (M 4)), (2, .ref (M 0)), (1, .ref (ad 0)), (0, .ref b)] → W p l e R s m av below meth c H locs CC SS Q (F0 m 956 ls [])) (B : Wb D vwCl (TY cs) LL f A0 s H locs) (hl : lv_has ls 8 [(4, .int (iI (ii : Int))), (3, .ref (M 4)), (2, .ref (M 0)), (1, .ref (ad 0)), (0, .ref b)]) : W p l e R s m av below meth c H locs CC SS Q (F0 m 765 ls []) := by
  obtain ⟨I, A, Rf, Zf, th, cv, bl, ro, fr, Z, ov, hC, hInv, hLM, hov, hEq⟩ := hLI
  obtain ⟨rw_, fu, fb, lm, mn, sn, w8, w9, w10, w11, md, w15, hMC, hRS, hLA, hcv, hpn0, hpn12⟩ := hLM
  have hG0 := hInv.1
  have hhd := hG0.1
  have hy1 := hyr (ii + 1)
  have hy2 := hyr (ii + 2)
  have hy3 := hyr (ii + 3)
  have hy4 := hyr (ii + 4)
  have hy5 := hyr (ii + 5)
  refine lv_aload_n hx hb d_law_765 rfl (lv_at hl 3 rfl) ?_
  refine lv_aload_n hx hb d_law_766 rfl (lv_at hl 4 rfl) ?_
  refine lv_iload hx hb d_law_767 (lv_at hl 0 rfl) ?_
  refine x_iconst hx hb d_law_769 ?_
  refine x_iadd hx hb d_law_770 ?_
  refine x_sld hx hb hX hbl hbA B.2.2.2.1 (ii + 1) (by omega) (by omega) (by omega) d_law_771 ?_
  refine lv_aload_n hx hb d_law_772 rfl (lv_at hl 4 rfl) ?_
  refine lv_iload hx hb d_law_773 (lv_at hl 0 rfl) ?_
  refine x_iconst hx hb d_law_775 ?_
  refine x_iadd hx hb d_law_776 ?_
  refine x_sld hx hb hX hbl hbA B.2.2.2.1 (ii + 2) (by omega) (by omega) (by omega) d_law_777 ?_
  refine lv_aload_n hx hb d_law_778 rfl (lv_at hl 4 rfl) ?_
  refine lv_iload hx hb d_law_779 (lv_at hl 0 rfl) ?_
  refine x_iconst hx hb d_law_781 ?_
  refine x_iadd hx hb d_law_782 ?_
  refine x_sld hx hb hX hbl hbA B.2.2.2.1 (ii + 3) (by omega) (by omega) (by omega) d_law_783 ?_
  by_cases hk1 : 0 ≤ ys (ii + 1) ∧ ys (ii + 1) < I 0
  · obtain ⟨p0, hp0e⟩ : ∃ p0 : Nat, ys (ii + 1) = (p0 : Int) := ⟨(ys (ii + 1)).toNat, by omega⟩
    have hp0l : (p0 : Int) < I 0 := by omega
    have hp0t : p0 < 12 := by omega
    rw [hp0e]
    refine x_calli B hA (va_runV (As := [.int (iI ((p0 : Int))), .int (iI (ys (ii + 2))), .int (iI (ys (ii + 3)))]) (rest := []) ⟨hx, hb, hml, hown, hts⟩ (c_RR_at_k l D cs _ _ _ ad Qm I A Rf Zf p0 (ys (ii + 2)) (ys (ii + 3)) hAd hC hInv hp0l (by omega) (by omega)) (cwV 3 hts (gw_V w_557 w_558 w_559 w_1 w_560) rfl rfl rfl (by decide +kernel) ⟨by rw [hRf]; exact Nat.le_of_ble_eq_true rfl, by rw [hRl]; exact Nat.le_of_ble_eq_true rfl⟩) ⟨K0.blind, B.recv (hAd.1 0 (by omega)) hC.x rfl, B.pre _⟩ rfl rfl hl.1 rfl (lv_room (Nat.le_of_ble_eq_true rfl)) d_law_784 ⟨by rw [hRc]; omega, by rw [hRs]; omega⟩) (fun r784 g784 H locs hw B => ?_)
    obtain ⟨I1, A1, R1, Zf1, hC1, hq1, hInv1, hsv1, hans1⟩ := hw
    have hMC1 := hMC.frame (fun k hk => hq1 _ (hMd.2.2 k hk))
    have hov1 := (hq1 _ (hMd.2.2 4 (by decide))).trans hov
    refine lv_aload_n hx hb d_law_787 rfl (lv_at hl 2 rfl) ?_
    refine lv_aload_n hx hb d_law_788 rfl (lv_at hl 4 rfl) ?_
    refine lv_iload hx hb d_law_789 (lv_at hl 0 rfl) ?_
    refine x_iconst hx hb d_law_791 ?_
    refine x_iadd hx hb d_law_792 ?_
    refine x_sld hx hb hX hbl hbA B.2.2.2.1 (ii + 1) (by omega) (by omega) (by omega) d_law_793 ?_
    refine lv_aload_n hx hb d_law_794 rfl (lv_at hl 4 rfl) ?_
    refine lv_iload hx hb d_law_795 (lv_at hl 0 rfl) ?_
    refine x_iconst hx hb d_law_797 ?_
    refine x_iadd hx hb d_law_798 ?_
    refine x_sld hx hb hX hbl hbA B.2.2.2.1 (ii + 2) (by omega) (by omega) (by omega) d_law_799 ?_
    refine lv_aload_n hx hb d_law_800 rfl (lv_at hl 4 rfl) ?_
    refine lv_iload hx hb d_law_801 (lv_at hl 0 rfl) ?_
    refine x_iconst hx hb d_law_803 ?_
    refine x_iadd hx hb d_law_804 ?_
    refine x_sld hx hb hX hbl hbA B.2.2.2.1 (ii + 3) (by omega) (by omega) (by omega) d_law_805 ?_
    rw [hp0e]
    refine x_calli B hA (va_runV (As := [.int (iI ((p0 : Int))), .int (iI (ys (ii + 2))), .int (iI (ys (ii + 3)))]) (rest := [.int r784]) ⟨hx, hb, hml, hown, hts⟩ (c_Mo_at_k l D cs _ _ _ (M 0) (M 1) (M 2) (M 3) (M 5) (M 6) (M 7) (M 8) (M 9) (M 10) (M 11) (M 12) (M 13) (M 14) th (I 0) rw_ fu fb lm mn sn Z bl w8 w9 w10 w11 ro fr cv p0 (ys (ii + 2)) (ys (ii + 3)) (hMd.fc [0, 1, 2, 3, 6, 8, 9, 10, 11, 12, 13, 5] (by decide) (by decide)) hMC1.1 hMC1.2.1 hMC1.2.2.1 hMC1.2.2.2.1 hMC1.2.2.2.2.2.1 hMC1.2.2.2.2.2.2.2.1 hMC1.2.2.2.2.2.2.2.2.1 hMC1.2.2.2.2.2.2.2.2.2.1 hMC1.2.2.2.2.2.2.2.2.2.2.1 hMC1.2.2.2.2.2.2.2.2.2.2.2.1 hMC1.2.2.2.2.2.2.2.2.2.2.2.2.1 hMC1.2.2.2.2.1 hRS hp0t hcv hLA hhd hp0l (by omega) (by omega)) (cwV 3 hts (gw_V w_999 w_1000 w_1001 w_8 w_1002) rfl rfl rfl (by decide +kernel) ⟨by rw [hRf]; exact Nat.le_of_ble_eq_true rfl, by rw [hRl]; exact Nat.le_of_ble_eq_true rfl⟩) ⟨K0.blind, B.recv (hMd.1 0 (by decide)) hMC1.1 rfl, B.pre _⟩ rfl rfl hl.1 rfl (lv_room (Nat.le_of_ble_eq_true rfl)) d_law_806 ⟨by rw [hRc]; omega, by rw [hRs]; omega⟩) (fun r806 g806 H locs hw B => ?_)
    obtain ⟨lm2, mn2, sn2, Z2, bl2, w82, w92, w102, w112, ro2, fr2, rw2, hRS2, hLA2, hst2, hans2, hg2⟩ := hw
    have hMC2 := MC.m11 hMd hMC1 hg2
    have hC2 := hC1.frame hAd (g := g806) (fun k hk => by rw [hg2]; exact hMd.ad [0, 1, 2, 3, 6, 8, 9, 10, 11, 12, 13] (by decide) rfl hk)
    have hov2 : g806 (M 4) = .inl (cs 1, 1, .inr (.inl (al ov))) := by rw [hg2]; exact (hMd.out (b := 4) (by decide) [0, 1, 2, 3, 6, 8, 9, 10, 11, 12, 13] (by decide) rfl).trans hov1
    have he : r784 = r806 := gl_at (hEq p0 hp0l) hans1 hans2
    rw [← he]
    obtain ⟨vv, hvv, hvr⟩ := i32_ex r784
    rw [hvv]
    refine x_icmp_eq (tgt := 956) hx hb d_law_809 (by decide) (by omega) (by omega) (fun h809 => ?_) (fun h809 => ?_)
    · exact TAIL _ _ _ _ ⟨I1, A1, R1, Zf1, _, cv, bl2, ro2, fr2, Z2, ov, hC2, hInv1, by rw [show I1 0 = I 0 from hsv1.1]; exact ⟨_, _, _, lm2, mn2, sn2, w82, w92, w102, w112, md, w15, hMC2, hRS2, hLA2, hcv, hhd.1, hhd.2⟩, hov2, fun q hq => by rw [show I1 0 = I 0 from hsv1.1] at hq; rw [show A1 (20 + q) = A (20 + q) from hsv1.2 q (by omega)]; exact hEq q hq⟩ B (lv_sub hl [0, 1, 2, 3, 4] rfl)
    · exfalso; omega
  · refine x_calli B hA (va_runV (As := [.int (iI (ys (ii + 1))), .int (iI (ys (ii + 2))), .int (iI (ys (ii + 3)))]) (rest := []) ⟨hx, hb, hml, hown, hts⟩ (c_RR_at_u l D cs _ _ _ (ad 0) (ad 1) (ad 2) (ad 5) (ad 7) (ad 8) (ad 9) (ad 10) (ad 11) (ad 12) (ad 13) (ad 14) (I 0) (I 1) (I 2) (ys (ii + 1)) (ys (ii + 2)) (ys (ii + 3)) (hAd.f1 (by omega)) hC.x hhd (by omega) (by omega) (by omega) (by omega)) (cwV 3 hts (gw_V w_557 w_558 w_559 w_1 w_560) rfl rfl rfl (by decide +kernel) ⟨by rw [hRf]; exact Nat.le_of_ble_eq_true rfl, by rw [hRl]; exact Nat.le_of_ble_eq_true rfl⟩) ⟨K0.blind, B.recv (hAd.1 0 (by omega)) hC.x rfl, B.pre _⟩ rfl rfl hl.1 rfl (lv_room (Nat.le_of_ble_eq_true rfl)) d_law_784 ⟨by rw [hRc]; omega, by rw [hRs]; omega⟩) (fun r784 g784 H locs hw B => ?_)
    obtain ⟨hr1, hgf⟩ := hw
    rw [hgf] at B
    have hC1 := hC
    have hMC1 := hMC
    have hov1 := hov
    have hInv1 := hInv
    have hsv1 : SameV I A I A := ⟨rfl, fun _ _ => rfl⟩
    refine lv_aload_n hx hb d_law_787 rfl (lv_at hl 2 rfl) ?_
    refine lv_aload_n hx hb d_law_788 rfl (lv_at hl 4 rfl) ?_
    refine lv_iload hx hb d_law_789 (lv_at hl 0 rfl) ?_
    refine x_iconst hx hb d_law_791 ?_
    refine x_iadd hx hb d_law_792 ?_
    refine x_sld hx hb hX hbl hbA B.2.2.2.1 (ii + 1) (by omega) (by omega) (by omega) d_law_793 ?_
    refine lv_aload_n hx hb d_law_794 rfl (lv_at hl 4 rfl) ?_
    refine lv_iload hx hb d_law_795 (lv_at hl 0 rfl) ?_
    refine x_iconst hx hb d_law_797 ?_
    refine x_iadd hx hb d_law_798 ?_
    refine x_sld hx hb hX hbl hbA B.2.2.2.1 (ii + 2) (by omega) (by omega) (by omega) d_law_799 ?_
    refine lv_aload_n hx hb d_law_800 rfl (lv_at hl 4 rfl) ?_
    refine lv_iload hx hb d_law_801 (lv_at hl 0 rfl) ?_
    refine x_iconst hx hb d_law_803 ?_
    refine x_iadd hx hb d_law_804 ?_
    refine x_sld hx hb hX hbl hbA B.2.2.2.1 (ii + 3) (by omega) (by omega) (by omega) d_law_805 ?_
    refine x_calli B hA (va_runV (As := [.int (iI (ys (ii + 1))), .int (iI (ys (ii + 2))), .int (iI (ys (ii + 3)))]) (rest := [.int r784]) ⟨hx, hb, hml, hown, hts⟩ (c_Mo_at_u l D cs _ _ _ (M 0) (M 1) (M 2) (M 3) (M 5) (M 6) (M 7) (M 8) (M 9) (M 10) (M 11) (M 12) (M 13) (M 14) th (I 0) rw_ fu fb (ys (ii + 1)) (ys (ii + 2)) (ys (ii + 3)) (hMd.fc [0] (by decide) (by decide)) hMC1.1 hhd (by omega) (by omega) (by omega) (by omega)) (cwV 3 hts (gw_V w_999 w_1000 w_1001 w_8 w_1002) rfl rfl rfl (by decide +kernel) ⟨by rw [hRf]; exact Nat.le_of_ble_eq_true rfl, by rw [hRl]; exact Nat.le_of_ble_eq_true rfl⟩) ⟨K0.blind, B.recv (hMd.1 0 (by decide)) hMC1.1 rfl, B.pre _⟩ rfl rfl hl.1 rfl (lv_room (Nat.le_of_ble_eq_true rfl)) d_law_806 ⟨by rw [hRc]; omega, by rw [hRs]; omega⟩) (fun r806 g806 H locs hw B => ?_)
    obtain ⟨hr2, hg2⟩ := hw
    have hMC2 := MC.m1 hMd hMC1 hg2
    have hC2 := hC1.frame hAd (g := g806) (fun k hk => by rw [hg2]; exact hMd.ad [0] (by decide) rfl hk)
    have hov2 : g806 (M 4) = .inl (cs 1, 1, .inr (.inl (al ov))) := by rw [hg2]; exact (hMd.out (b := 4) (by decide) [0] (by decide) rfl).trans hov1
    have he : r784 = r806 := hr1.trans hr2.symm
    rw [← he]
    obtain ⟨vv, hvv, hvr⟩ := i32_ex r784
    rw [hvv]
    refine x_icmp_eq (tgt := 956) hx hb d_law_809 (by decide) (by omega) (by omega) (fun h809 => ?_) (fun h809 => ?_)
    · exact TAIL _ _ _ _ ⟨I, A, Rf, Zf, _, cv, bl, ro, fr, Z, ov, hC2, hInv1, by rw [show I 0 = I 0 from hsv1.1]; exact ⟨_, _, _, lm, mn, sn, w8, w9, w10, w11, md, w15, hMC2, hRS, hLA, hcv, hhd.1, hhd.2⟩, hov2, fun q hq => by rw [show I 0 = I 0 from hsv1.1] at hq; rw [show A (20 + q) = A (20 + q) from hsv1.2 q (by omega)]; exact hEq q hq⟩ B (lv_sub hl [0, 1, 2, 3, 4] rfl)
    · exfalso; omega
set_option maxHeartbeats 8000000 in
set_option maxRecDepth 100000 in
theorem law_case_17 {p : Program} {l : Launch} {e : Env} {s : State} {m : MethodId} {below : List Frame} {meth : Method} {c : Code} {R : Room} {av : Array Value} {Q : State → Prop} {ad Qm M : Nat → Nat} {ys : Nat → Int} {b n ii CC SS : Nat} {A0 : Nat → Prop} {D : va_G} {cs : Nat → ClassId} {LL : List Nat} {f : Nat → va_E} {H : Heap} {locs : List Loc} {ls : Array Slot} (hx : p.tables.exec = Jvm.exec) (hb : c.code = code) (hml : c.maxLocals = 8) (hown : s.vm.findClass R_law = some m.cls) (hts : ∀ w ∈ gw, w.before av s = true) (hRf : R.frames = 14) (hRl : R.locals = 594) (hRc : R.cells = 601024) (hRs : R.slots = 7293034) (hA : ∀ q, s.heap.size ≤ q → A0 q) (hX : va_X b n (ai ys) s s.heap) (hbl : b < s.heap.size) (hbA : ¬ A0 b) (hyr : ∀ j, -2147483648 ≤ ys j ∧ ys j < 2147483648) (hn : n ≤ 3072) (hi : ii + 6 ≤ n) (hCC : CC ≤ 600000) (hSS : SS ≤ 7000000) (hAd : AdOk LL ad Qm) (hMd : MdOk LL ad M) (hLI : LI cs ad Qm M f) (TAIL : ∀ (f' : Nat → va_E) (H : Heap) (locs : List Loc) (ls : Array Slot), LI cs ad Qm M f' → Wb D vwCl (TY cs) LL f' A0 s H locs → lv_has ls 8 [(4, .int (iI (ii : Int))), (3, .ref (M 4)), (2, .ref (M 0)), (1, .ref (ad 0)), (0, .ref b)] → W p l e R s m av below meth c H locs CC SS Q (F0 m 956 ls [])) (B : Wb D vwCl (TY cs) LL f A0 s H locs) (hl : lv_has ls 8 [(4, .int (iI (ii : Int))), (3, .ref (M 4)), (2, .ref (M 0)), (1, .ref (ad 0)), (0, .ref b)]) : W p l e R s m av below meth c H locs CC SS Q (F0 m 905 ls []) := by
  obtain ⟨I, A, Rf, Zf, th, cv, bl, ro, fr, Z, ov, hC, hInv, hLM, hov, hEq⟩ := hLI
  obtain ⟨rw_, fu, fb, lm, mn, sn, w8, w9, w10, w11, md, w15, hMC, hRS, hLA, hcv, hpn0, hpn12⟩ := hLM
  have hG0 := hInv.1
  have hhd := hG0.1
  have hy1 := hyr (ii + 1)
  have hy2 := hyr (ii + 2)
  have hy3 := hyr (ii + 3)
  have hy4 := hyr (ii + 4)
  have hy5 := hyr (ii + 5)
  refine lv_aload_n hx hb d_law_905 rfl (lv_at hl 3 rfl) ?_
  refine lv_aload_n hx hb d_law_906 rfl (lv_at hl 4 rfl) ?_
  refine lv_iload hx hb d_law_907 (lv_at hl 0 rfl) ?_
  refine x_iconst hx hb d_law_909 ?_
  refine x_iadd hx hb d_law_910 ?_
  refine x_sld hx hb hX hbl hbA B.2.2.2.1 (ii + 1) (by omega) (by omega) (by omega) d_law_911 ?_
  by_cases hk1 : 0 ≤ ys (ii + 1) ∧ ys (ii + 1) < I 0
  · obtain ⟨p0, hp0e⟩ : ∃ p0 : Nat, ys (ii + 1) = (p0 : Int) := ⟨(ys (ii + 1)).toNat, by omega⟩
    have hp0l : (p0 : Int) < I 0 := by omega
    have hp0t : p0 < 12 := by omega
    rw [hp0e]
    refine x_calli B hA (va_runV (As := [.int (iI ((p0 : Int)))]) (rest := []) ⟨hx, hb, hml, hown, hts⟩ (c_RR_bound_k l D cs _ _ _ ad Qm I A Rf Zf p0  hAd hC hInv hp0l ) (cwV 1 hts (gw_V w_561 w_562 w_563 w_1 w_564) rfl rfl rfl (by decide +kernel) ⟨by rw [hRf]; exact Nat.le_of_ble_eq_true rfl, by rw [hRl]; exact Nat.le_of_ble_eq_true rfl⟩) ⟨K0.blind, B.recv (hAd.1 0 (by omega)) hC.x rfl, B.pre _⟩ rfl rfl hl.1 rfl (lv_room (Nat.le_of_ble_eq_true rfl)) d_law_912 ⟨by rw [hRc]; omega, by rw [hRs]; omega⟩) (fun r912 g912 H locs hw B => ?_)
    obtain ⟨I1, A1, R1, Zf1, hC1, hq1, hInv1, hsv1, hans1⟩ := hw
    have hMC1 := hMC.frame (fun k hk => hq1 _ (hMd.2.2 k hk))
    have hov1 := (hq1 _ (hMd.2.2 4 (by decide))).trans hov
    refine lv_aload_n hx hb d_law_915 rfl (lv_at hl 2 rfl) ?_
    refine lv_aload_n hx hb d_law_916 rfl (lv_at hl 4 rfl) ?_
    refine lv_iload hx hb d_law_917 (lv_at hl 0 rfl) ?_
    refine x_iconst hx hb d_law_919 ?_
    refine x_iadd hx hb d_law_920 ?_
    refine x_sld hx hb hX hbl hbA B.2.2.2.1 (ii + 1) (by omega) (by omega) (by omega) d_law_921 ?_
    rw [hp0e]
    refine x_calli B hA (va_runV (As := [.int (iI ((p0 : Int)))]) (rest := [.int r912]) ⟨hx, hb, hml, hown, hts⟩ (c_Mo_bound_k l D cs _ _ _ (M 0) (M 1) (M 2) (M 3) (M 5) (M 6) (M 7) (M 8) (M 9) (M 10) (M 11) (M 12) (M 13) (M 14) th (I 0) rw_ fu fb lm mn sn Z bl w8 w9 w10 w11 ro fr cv p0  (hMd.fc [0, 1, 2, 3, 6, 8, 9, 10, 11, 12, 13, 5] (by decide) (by decide)) hMC1.1 hMC1.2.1 hMC1.2.2.1 hMC1.2.2.2.1 hMC1.2.2.2.2.2.1 hMC1.2.2.2.2.2.2.2.1 hMC1.2.2.2.2.2.2.2.2.1 hMC1.2.2.2.2.2.2.2.2.2.1 hMC1.2.2.2.2.2.2.2.2.2.2.1 hMC1.2.2.2.2.2.2.2.2.2.2.2.1 hMC1.2.2.2.2.2.2.2.2.2.2.2.2.1 hMC1.2.2.2.2.1 hRS hp0t hcv hLA hhd hp0l ) (cwV 1 hts (gw_V w_1009 w_1010 w_1011 w_8 w_1012) rfl rfl rfl (by decide +kernel) ⟨by rw [hRf]; exact Nat.le_of_ble_eq_true rfl, by rw [hRl]; exact Nat.le_of_ble_eq_true rfl⟩) ⟨K0.blind, B.recv (hMd.1 0 (by decide)) hMC1.1 rfl, B.pre _⟩ rfl rfl hl.1 rfl (lv_room (Nat.le_of_ble_eq_true rfl)) d_law_922 ⟨by rw [hRc]; omega, by rw [hRs]; omega⟩) (fun r922 g922 H locs hw B => ?_)
    obtain ⟨lm2, mn2, sn2, Z2, bl2, w82, w92, w102, w112, ro2, fr2, rw2, hRS2, hLA2, hst2, hans2, hg2⟩ := hw
    have hMC2 := MC.m11 hMd hMC1 hg2
    have hC2 := hC1.frame hAd (g := g922) (fun k hk => by rw [hg2]; exact hMd.ad [0, 1, 2, 3, 6, 8, 9, 10, 11, 12, 13] (by decide) rfl hk)
    have hov2 : g922 (M 4) = .inl (cs 1, 1, .inr (.inl (al ov))) := by rw [hg2]; exact (hMd.out (b := 4) (by decide) [0, 1, 2, 3, 6, 8, 9, 10, 11, 12, 13] (by decide) rfl).trans hov1
    have he : r912 = r922 := gl_bound (hG0.2.1 p0 hp0t) (hEq p0 hp0l) (hLA2.1 p0 hp0t) hans1 hans2
    rw [← he]
    obtain ⟨vv, hvv, hvr⟩ := i32_ex r912
    rw [hvv]
    refine x_icmp_eq (tgt := 956) hx hb d_law_925 (by decide) (by omega) (by omega) (fun h925 => ?_) (fun h925 => ?_)
    · exact TAIL _ _ _ _ ⟨I1, A1, R1, Zf1, _, cv, bl2, ro2, fr2, Z2, ov, hC2, hInv1, by rw [show I1 0 = I 0 from hsv1.1]; exact ⟨_, _, _, lm2, mn2, sn2, w82, w92, w102, w112, md, w15, hMC2, hRS2, hLA2, hcv, hhd.1, hhd.2⟩, hov2, fun q hq => by rw [show I1 0 = I 0 from hsv1.1] at hq; rw [show A1 (20 + q) = A (20 + q) from hsv1.2 q (by omega)]; exact hEq q hq⟩ B (lv_sub hl [0, 1, 2, 3, 4] rfl)
    · exfalso; omega
  · refine x_calli B hA (va_runV (As := [.int (iI (ys (ii + 1)))]) (rest := []) ⟨hx, hb, hml, hown, hts⟩ (c_RR_bound_u l D cs _ _ _ (ad 0) (ad 1) (ad 2) (ad 5) (ad 7) (ad 8) (ad 9) (ad 10) (ad 11) (ad 12) (ad 13) (ad 14) (I 0) (I 1) (I 2) (ys (ii + 1)) (hAd.f1 (by omega)) hC.x hhd (by omega) (by omega)) (cwV 1 hts (gw_V w_561 w_562 w_563 w_1 w_564) rfl rfl rfl (by decide +kernel) ⟨by rw [hRf]; exact Nat.le_of_ble_eq_true rfl, by rw [hRl]; exact Nat.le_of_ble_eq_true rfl⟩) ⟨K0.blind, B.recv (hAd.1 0 (by omega)) hC.x rfl, B.pre _⟩ rfl rfl hl.1 rfl (lv_room (Nat.le_of_ble_eq_true rfl)) d_law_912 ⟨by rw [hRc]; omega, by rw [hRs]; omega⟩) (fun r912 g912 H locs hw B => ?_)
    obtain ⟨hr1, hgf⟩ := hw
    rw [hgf] at B
    have hC1 := hC
    have hMC1 := hMC
    have hov1 := hov
    have hInv1 := hInv
    have hsv1 : SameV I A I A := ⟨rfl, fun _ _ => rfl⟩
    refine lv_aload_n hx hb d_law_915 rfl (lv_at hl 2 rfl) ?_
    refine lv_aload_n hx hb d_law_916 rfl (lv_at hl 4 rfl) ?_
    refine lv_iload hx hb d_law_917 (lv_at hl 0 rfl) ?_
    refine x_iconst hx hb d_law_919 ?_
    refine x_iadd hx hb d_law_920 ?_
    refine x_sld hx hb hX hbl hbA B.2.2.2.1 (ii + 1) (by omega) (by omega) (by omega) d_law_921 ?_
    refine x_calli B hA (va_runV (As := [.int (iI (ys (ii + 1)))]) (rest := [.int r912]) ⟨hx, hb, hml, hown, hts⟩ (c_Mo_bound_u l D cs _ _ _ (M 0) (M 1) (M 2) (M 3) (M 5) (M 6) (M 7) (M 8) (M 9) (M 10) (M 11) (M 12) (M 13) (M 14) th (I 0) rw_ fu fb (ys (ii + 1)) (hMd.fc [0] (by decide) (by decide)) hMC1.1 hhd (by omega) (by omega)) (cwV 1 hts (gw_V w_1009 w_1010 w_1011 w_8 w_1012) rfl rfl rfl (by decide +kernel) ⟨by rw [hRf]; exact Nat.le_of_ble_eq_true rfl, by rw [hRl]; exact Nat.le_of_ble_eq_true rfl⟩) ⟨K0.blind, B.recv (hMd.1 0 (by decide)) hMC1.1 rfl, B.pre _⟩ rfl rfl hl.1 rfl (lv_room (Nat.le_of_ble_eq_true rfl)) d_law_922 ⟨by rw [hRc]; omega, by rw [hRs]; omega⟩) (fun r922 g922 H locs hw B => ?_)
    obtain ⟨hr2, hg2⟩ := hw
    have hMC2 := MC.m1 hMd hMC1 hg2
    have hC2 := hC1.frame hAd (g := g922) (fun k hk => by rw [hg2]; exact hMd.ad [0] (by decide) rfl hk)
    have hov2 : g922 (M 4) = .inl (cs 1, 1, .inr (.inl (al ov))) := by rw [hg2]; exact (hMd.out (b := 4) (by decide) [0] (by decide) rfl).trans hov1
    have he : r912 = r922 := hr1.trans hr2.symm
    rw [← he]
    obtain ⟨vv, hvv, hvr⟩ := i32_ex r912
    rw [hvv]
    refine x_icmp_eq (tgt := 956) hx hb d_law_925 (by decide) (by omega) (by omega) (fun h925 => ?_) (fun h925 => ?_)
    · exact TAIL _ _ _ _ ⟨I, A, Rf, Zf, _, cv, bl, ro, fr, Z, ov, hC2, hInv1, by rw [show I 0 = I 0 from hsv1.1]; exact ⟨_, _, _, lm, mn, sn, w8, w9, w10, w11, md, w15, hMC2, hRS, hLA, hcv, hhd.1, hhd.2⟩, hov2, fun q hq => by rw [show I 0 = I 0 from hsv1.1] at hq; rw [show A (20 + q) = A (20 + q) from hsv1.2 q (by omega)]; exact hEq q hq⟩ B (lv_sub hl [0, 1, 2, 3, 4] rfl)
    · exfalso; omega
set_option maxHeartbeats 8000000 in
set_option maxRecDepth 100000 in
theorem law_case_18 {p : Program} {l : Launch} {e : Env} {s : State} {m : MethodId} {below : List Frame} {meth : Method} {c : Code} {R : Room} {av : Array Value} {Q : State → Prop} {ad Qm M : Nat → Nat} {ys : Nat → Int} {b n ii CC SS : Nat} {A0 : Nat → Prop} {D : va_G} {cs : Nat → ClassId} {LL : List Nat} {f : Nat → va_E} {H : Heap} {locs : List Loc} {ls : Array Slot} (hx : p.tables.exec = Jvm.exec) (hb : c.code = code) (hml : c.maxLocals = 8) (hown : s.vm.findClass R_law = some m.cls) (hts : ∀ w ∈ gw, w.before av s = true) (hRf : R.frames = 14) (hRl : R.locals = 594) (hRc : R.cells = 601024) (hRs : R.slots = 7293034) (hA : ∀ q, s.heap.size ≤ q → A0 q) (hX : va_X b n (ai ys) s s.heap) (hbl : b < s.heap.size) (hbA : ¬ A0 b) (hyr : ∀ j, -2147483648 ≤ ys j ∧ ys j < 2147483648) (hn : n ≤ 3072) (hi : ii + 6 ≤ n) (hCC : CC ≤ 600000) (hSS : SS ≤ 7000000) (hAd : AdOk LL ad Qm) (hMd : MdOk LL ad M) (hLI : LI cs ad Qm M f) (TAIL : ∀ (f' : Nat → va_E) (H : Heap) (locs : List Loc) (ls : Array Slot), LI cs ad Qm M f' → Wb D vwCl (TY cs) LL f' A0 s H locs → lv_has ls 8 [(4, .int (iI (ii : Int))), (3, .ref (M 4)), (2, .ref (M 0)), (1, .ref (ad 0)), (0, .ref b)] → W p l e R s m av below meth c H locs CC SS Q (F0 m 956 ls [])) (B : Wb D vwCl (TY cs) LL f A0 s H locs) (hl : lv_has ls 8 [(4, .int (iI (ii : Int))), (3, .ref (M 4)), (2, .ref (M 0)), (1, .ref (ad 0)), (0, .ref b)]) : W p l e R s m av below meth c H locs CC SS Q (F0 m 930 ls []) := by
  obtain ⟨I, A, Rf, Zf, th, cv, bl, ro, fr, Z, ov, hC, hInv, hLM, hov, hEq⟩ := hLI
  obtain ⟨rw_, fu, fb, lm, mn, sn, w8, w9, w10, w11, md, w15, hMC, hRS, hLA, hcv, hpn0, hpn12⟩ := hLM
  have hG0 := hInv.1
  have hhd := hG0.1
  have hy1 := hyr (ii + 1)
  have hy2 := hyr (ii + 2)
  have hy3 := hyr (ii + 3)
  have hy4 := hyr (ii + 4)
  have hy5 := hyr (ii + 5)
  refine lv_aload_n hx hb d_law_930 rfl (lv_at hl 3 rfl) ?_
  refine x_calli B hA (va_runV (As := []) (rest := []) ⟨hx, hb, hml, hown, hts⟩ (c_RR_all_k l D cs _ _ _ ad Qm I A Rf Zf hAd hC hInv) (cwV 0 hts (gw_V w_565 w_566 w_567 w_1 w_568) rfl rfl rfl (by decide +kernel) ⟨by rw [hRf]; exact Nat.le_of_ble_eq_true rfl, by rw [hRl]; exact Nat.le_of_ble_eq_true rfl⟩) ⟨K0.blind, B.recv (hAd.1 0 (by omega)) hC.x rfl, B.pre _⟩ rfl rfl hl.1 rfl (lv_room (Nat.le_of_ble_eq_true rfl)) d_law_931 ⟨by rw [hRc]; omega, by rw [hRs]; omega⟩) (fun r931 g931 H locs hw B => ?_)
  obtain ⟨I1, A1, R1, Zf1, hC1, hq1, hInv1, hsv1, hans1⟩ := hw
  have hMC1 := hMC.frame (fun k hk => hq1 _ (hMd.2.2 k hk))
  have hov1 := (hq1 _ (hMd.2.2 4 (by decide))).trans hov
  refine lv_aload_n hx hb d_law_934 rfl (lv_at hl 2 rfl) ?_
  obtain ⟨np, hnp⟩ : ∃ np : Nat, I 0 = (np : Int) := ⟨(I 0).toNat, by omega⟩
  refine x_calli B hA (va_runV (As := []) (rest := [.int r931]) ⟨hx, hb, hml, hown, hts⟩ (c_Mo_all_k l D cs _ _ _ (M 0) (M 1) (M 2) (M 3) (M 5) (M 6) (M 7) (M 8) (M 9) (M 10) (M 11) (M 12) (M 13) (M 14) th (I 0) rw_ fu fb lm mn sn Z bl w8 w9 w10 w11 ro fr cv np (hMd.fc [0, 1, 2, 3, 6, 8, 9, 10, 11, 12, 13, 5] (by decide) (by decide)) hMC1.1 hMC1.2.1 hMC1.2.2.1 hMC1.2.2.2.1 hMC1.2.2.2.2.2.1 hMC1.2.2.2.2.2.2.2.1 hMC1.2.2.2.2.2.2.2.2.1 hMC1.2.2.2.2.2.2.2.2.2.1 hMC1.2.2.2.2.2.2.2.2.2.2.1 hMC1.2.2.2.2.2.2.2.2.2.2.2.1 hMC1.2.2.2.2.2.2.2.2.2.2.2.2.1 hMC1.2.2.2.2.1 hRS hcv hLA hhd hnp) (cwV 0 hts (gw_V w_974 w_975 w_976 w_8 w_977) rfl rfl rfl (by decide +kernel) ⟨by rw [hRf]; exact Nat.le_of_ble_eq_true rfl, by rw [hRl]; exact Nat.le_of_ble_eq_true rfl⟩) ⟨K0.blind, B.recv (hMd.1 0 (by decide)) hMC1.1 rfl, B.pre _⟩ rfl rfl hl.1 rfl (lv_room (Nat.le_of_ble_eq_true rfl)) d_law_935 ⟨by rw [hRc]; omega, by rw [hRs]; omega⟩) (fun r935 g935 H locs hw B => ?_)
  obtain ⟨lm2, mn2, sn2, Z2, bl2, w82, w92, w102, w112, ro2, fr2, rw2, hRS2, hLA2, hst2, hans2, hg2⟩ := hw
  have hMC2 := MC.m11 hMd hMC1 hg2
  have hC2 := hC1.frame hAd (g := g935) (fun k hk => by rw [hg2]; exact hMd.ad [0, 1, 2, 3, 6, 8, 9, 10, 11, 12, 13] (by decide) rfl hk)
  have hov2 : g935 (M 4) = .inl (cs 1, 1, .inr (.inl (al ov))) := by rw [hg2]; exact (hMd.out (b := 4) (by decide) [0, 1, 2, 3, 6, 8, 9, 10, 11, 12, 13] (by decide) rfl).trans hov1
  have he : r931 = r935 := gl_all hInv1 (hsv1.1.trans hnp) hLA2 (fun q hq => by rw [hsv1.2 q (by omega)]; exact hEq q (by omega)) hans1 hans2
  rw [← he]
  obtain ⟨vv, hvv, hvr⟩ := i32_ex r931
  rw [hvv]
  refine x_icmp_eq (tgt := 956) hx hb d_law_938 (by decide) (by omega) (by omega) (fun h938 => ?_) (fun h938 => ?_)
  · exact TAIL _ _ _ _ ⟨I1, A1, R1, Zf1, _, cv, bl2, ro2, fr2, Z2, ov, hC2, hInv1, by rw [show I1 0 = I 0 from hsv1.1]; exact ⟨_, _, _, lm2, mn2, sn2, w82, w92, w102, w112, md, w15, hMC2, hRS2, hLA2, hcv, hhd.1, hhd.2⟩, hov2, fun q hq => by rw [show I1 0 = I 0 from hsv1.1] at hq; rw [show A1 (20 + q) = A (20 + q) from hsv1.2 q (by omega)]; exact hEq q hq⟩ B (lv_sub hl [0, 1, 2, 3, 4] rfl)
  · exfalso; omega
set_option maxHeartbeats 8000000 in
set_option maxRecDepth 100000 in
theorem law_case_19 {p : Program} {l : Launch} {e : Env} {s : State} {m : MethodId} {below : List Frame} {meth : Method} {c : Code} {R : Room} {av : Array Value} {Q : State → Prop} {ad Qm M : Nat → Nat} {ys : Nat → Int} {b n ii CC SS : Nat} {A0 : Nat → Prop} {D : va_G} {cs : Nat → ClassId} {LL : List Nat} {f : Nat → va_E} {H : Heap} {locs : List Loc} {ls : Array Slot} (hx : p.tables.exec = Jvm.exec) (hb : c.code = code) (hml : c.maxLocals = 8) (hown : s.vm.findClass R_law = some m.cls) (hts : ∀ w ∈ gw, w.before av s = true) (hRf : R.frames = 14) (hRl : R.locals = 594) (hRc : R.cells = 601024) (hRs : R.slots = 7293034) (hA : ∀ q, s.heap.size ≤ q → A0 q) (hX : va_X b n (ai ys) s s.heap) (hbl : b < s.heap.size) (hbA : ¬ A0 b) (hyr : ∀ j, -2147483648 ≤ ys j ∧ ys j < 2147483648) (hn : n ≤ 3072) (hi : ii + 6 ≤ n) (hCC : CC ≤ 600000) (hSS : SS ≤ 7000000) (hAd : AdOk LL ad Qm) (hMd : MdOk LL ad M) (hLI : LI cs ad Qm M f) (TAIL : ∀ (f' : Nat → va_E) (H : Heap) (locs : List Loc) (ls : Array Slot), LI cs ad Qm M f' → Wb D vwCl (TY cs) LL f' A0 s H locs → lv_has ls 8 [(4, .int (iI (ii : Int))), (3, .ref (M 4)), (2, .ref (M 0)), (1, .ref (ad 0)), (0, .ref b)] → W p l e R s m av below meth c H locs CC SS Q (F0 m 956 ls [])) (B : Wb D vwCl (TY cs) LL f A0 s H locs) (hl : lv_has ls 8 [(4, .int (iI (ii : Int))), (3, .ref (M 4)), (2, .ref (M 0)), (1, .ref (ad 0)), (0, .ref b)]) : W p l e R s m av below meth c H locs CC SS Q (F0 m 943 ls []) := by
  obtain ⟨I, A, Rf, Zf, th, cv, bl, ro, fr, Z, ov, hC, hInv, hLM, hov, hEq⟩ := hLI
  obtain ⟨rw_, fu, fb, lm, mn, sn, w8, w9, w10, w11, md, w15, hMC, hRS, hLA, hcv, hpn0, hpn12⟩ := hLM
  have hG0 := hInv.1
  have hhd := hG0.1
  have hy1 := hyr (ii + 1)
  have hy2 := hyr (ii + 2)
  have hy3 := hyr (ii + 3)
  have hy4 := hyr (ii + 4)
  have hy5 := hyr (ii + 5)
  refine lv_aload_n hx hb d_law_943 rfl (lv_at hl 3 rfl) ?_
  refine x_calli B hA (va_runV (As := []) (rest := []) ⟨hx, hb, hml, hown, hts⟩ (c_RR_count_c l D cs _ _ _ ad Qm I A Rf Zf hAd hC hInv) (cwV 0 hts (gw_V w_569 w_570 w_571 w_1 w_572) rfl rfl rfl (by decide +kernel) ⟨by rw [hRf]; exact Nat.le_of_ble_eq_true rfl, by rw [hRl]; exact Nat.le_of_ble_eq_true rfl⟩) ⟨K0.blind, B.recv (hAd.1 0 (by omega)) hC.x rfl, B.pre _⟩ rfl rfl hl.1 rfl (lv_room (Nat.le_of_ble_eq_true rfl)) d_law_944 ⟨by rw [hRc]; omega, by rw [hRs]; omega⟩) (fun r944 g944 H locs hw B => ?_)
  obtain ⟨I1, A1, R1, Zf1, hC1, hq1, hInv1, hsv1, hans1⟩ := hw
  have hMC1 := hMC.frame (fun k hk => hq1 _ (hMd.2.2 k hk))
  have hov1 := (hq1 _ (hMd.2.2 4 (by decide))).trans hov
  refine lv_aload_n hx hb d_law_947 rfl (lv_at hl 2 rfl) ?_
  refine x_calli B hA (va_runV (As := []) (rest := [.int r944]) ⟨hx, hb, hml, hown, hts⟩ (c_Mo_count l D cs _ _ _ (M 0) (M 1) (M 2) (M 3) (M 5) (M 6) (M 7) (M 8) (M 9) (M 10) (M 11) (M 12) (M 13) (M 14) th (I 0) rw_ fu fb (hMd.fc [0] (by decide) (by decide)) hMC1.1 hhd) (cwV 0 hts (gw_V w_767 w_768 w_769 w_8 w_770) rfl rfl rfl (by decide +kernel) ⟨by rw [hRf]; exact Nat.le_of_ble_eq_true rfl, by rw [hRl]; exact Nat.le_of_ble_eq_true rfl⟩) ⟨K0.blind, B.recv (hMd.1 0 (by decide)) hMC1.1 rfl, B.pre _⟩ rfl rfl hl.1 rfl (lv_room (Nat.le_of_ble_eq_true rfl)) d_law_948 ⟨by rw [hRc]; omega, by rw [hRs]; omega⟩) (fun r948 g948 H locs hw B => ?_)
  obtain ⟨hr2, hg2⟩ := hw
  have hMC2 := MC.m1 hMd hMC1 hg2
  have hC2 := hC1.frame hAd (g := g948) (fun k hk => by rw [hg2]; exact hMd.ad [0] (by decide) rfl hk)
  have hov2 : g948 (M 4) = .inl (cs 1, 1, .inr (.inl (al ov))) := by rw [hg2]; exact (hMd.out (b := 4) (by decide) [0] (by decide) rfl).trans hov1
  have he : r944 = r948 := hans1.trans hr2.symm
  rw [← he]
  obtain ⟨vv, hvv, hvr⟩ := i32_ex r944
  rw [hvv]
  refine x_icmp_eq (tgt := 956) hx hb d_law_951 (by decide) (by omega) (by omega) (fun h951 => ?_) (fun h951 => ?_)
  · exact TAIL _ _ _ _ ⟨I1, A1, R1, Zf1, _, cv, bl, ro, fr, Z, ov, hC2, hInv1, by rw [show I1 0 = I 0 from hsv1.1]; exact ⟨_, _, _, lm, mn, sn, w8, w9, w10, w11, md, w15, hMC2, hRS, hLA, hcv, hhd.1, hhd.2⟩, hov2, fun q hq => by rw [show I1 0 = I 0 from hsv1.1] at hq; rw [show A1 (20 + q) = A (20 + q) from hsv1.2 q (by omega)]; exact hEq q hq⟩ B (lv_sub hl [0, 1, 2, 3, 4] rfl)
  · exfalso; omega
