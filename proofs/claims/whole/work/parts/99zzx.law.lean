set_option maxHeartbeats 8000000 in
set_option maxRecDepth 100000 in
theorem law_case_2 {p : Program} {l : Launch} {e : Env} {s : State} {m : MethodId} {below : List Frame} {meth : Method} {c : Code} {R : Room} {av : Array Value} {Q : State → Prop} {ad Qm M : Nat → Nat} {ys : Nat → Int} {b n ii CC SS : Nat} {A0 : Nat → Prop} {D : va_G} {cs : Nat → ClassId} {LL : List Nat} {f : Nat → va_E} {H : Heap} {locs : List Loc} {ls : Array Slot} (hx : p.tables.exec = Jvm.exec) (hb : c.code = code) (hml : c.maxLocals = 8) (hown : s.vm.findClass R_law = some m.cls) (hts : ∀ w ∈ gw, w.before av s = true) (hRf : R.frames = 14) (hRl : R.locals = 594) (hRc : R.cells = 601024) (hRs : R.slots = 7293034) (hA : ∀ q, s.heap.size ≤ q → A0 q) (hX : va_X b n (ai ys) s s.heap) (hbl : b < s.heap.size) (hbA : ¬ A0 b) (hyr : ∀ j, -2147483648 ≤ ys j ∧ ys j < 2147483648) (hn : n ≤ 3072) (hi : ii + 6 ≤ n) (hCC : CC ≤ 600000) (hSS : SS ≤ 7000000) (hAd : AdOk LL ad Qm) (hMd : MdOk LL ad M) (hLI : LI cs ad Qm M f) (TAIL : ∀ (f' : Nat → va_E) (H : Heap) (locs : List Loc) (ls : Array Slot), LI cs ad Qm M f' → Wb D vwCl (TY cs) LL f' A0 s H locs → lv_has ls 8 [(4, .int (iI (ii : Int))), (3, .ref (M 4)), (2, .ref (M 0)), (1, .ref (ad 0)), (0, .ref b)] → W p l e R s m av below meth c H locs CC SS Q (F0 m 956 ls [])) (B : Wb D vwCl (TY cs) LL f A0 s H locs) (hl : lv_has ls 8 [(4, .int (iI (ii : Int))), (3, .ref (M 4)), (2, .ref (M 0)), (1, .ref (ad 0)), (0, .ref b)]) : W p l e R s m av below meth c H locs CC SS Q (F0 m 198 ls []) := by
  obtain ⟨I, A, Rf, Zf, th, cv, bl, ro, fr, Z, ov, hC, hInv, hLM, hov, hEq⟩ := hLI
  obtain ⟨rw_, fu, fb, lm, mn, sn, w8, w9, w10, w11, md, w15, hMC, hRS, hLA, hcv, hpn0, hpn12⟩ := hLM
  have hG0 := hInv.1
  have hhd := hG0.1
  have hy1 := hyr (ii + 1)
  have hy2 := hyr (ii + 2)
  have hy3 := hyr (ii + 3)
  have hy4 := hyr (ii + 4)
  have hy5 := hyr (ii + 5)
  refine lv_aload_n hx hb d_law_198 rfl (lv_at hl 3 rfl) ?_
  refine lv_aload_n hx hb d_law_199 rfl (lv_at hl 4 rfl) ?_
  refine lv_iload hx hb d_law_200 (lv_at hl 0 rfl) ?_
  refine x_iconst hx hb d_law_202 ?_
  refine x_iadd hx hb d_law_203 ?_
  refine x_sld hx hb hX hbl hbA B.2.2.2.1 (ii + 1) (by omega) (by omega) (by omega) d_law_204 ?_
  refine lv_aload_n hx hb d_law_205 rfl (lv_at hl 4 rfl) ?_
  refine lv_iload hx hb d_law_206 (lv_at hl 0 rfl) ?_
  refine x_iconst hx hb d_law_208 ?_
  refine x_iadd hx hb d_law_209 ?_
  refine x_sld hx hb hX hbl hbA B.2.2.2.1 (ii + 2) (by omega) (by omega) (by omega) d_law_210 ?_
  by_cases hk1 : 0 ≤ ys (ii + 1) ∧ ys (ii + 1) < I 0
  · obtain ⟨p0, hp0e⟩ : ∃ p0 : Nat, ys (ii + 1) = (p0 : Int) := ⟨(ys (ii + 1)).toNat, by omega⟩
    have hp0l : (p0 : Int) < I 0 := by omega
    have hp0t : p0 < 12 := by omega
    rw [hp0e]
    refine x_calli B hA (va_runV (As := [.int (iI ((p0 : Int))), .int (iI (ys (ii + 2)))]) (rest := []) ⟨hx, hb, hml, hown, hts⟩ (c_RR_coefficient_c l D cs _ _ _ ad Qm I A Rf Zf p0 (ys (ii + 2)) hAd hC hInv hp0l (by omega)) (cwV 2 hts (gw_V w_265 w_266 w_267 w_1 w_268) rfl rfl rfl (by decide +kernel) ⟨by rw [hRf]; exact Nat.le_of_ble_eq_true rfl, by rw [hRl]; exact Nat.le_of_ble_eq_true rfl⟩) ⟨K0.blind, B.recv (hAd.1 0 (by omega)) hC.x rfl, B.pre _⟩ rfl rfl hl.1 rfl (lv_room (Nat.le_of_ble_eq_true rfl)) d_law_211 ⟨by rw [hRc]; omega, by rw [hRs]; omega⟩) (fun r211 g211 H locs hw B => ?_)
    obtain ⟨I1, A1, R1, Zf1, hC1, hq1, hInv1, hsv1, hans1⟩ := hw
    have hMC1 := hMC.frame (fun k hk => hq1 _ (hMd.2.2 k hk))
    have hov1 := (hq1 _ (hMd.2.2 4 (by decide))).trans hov
    refine lv_aload_n hx hb d_law_214 rfl (lv_at hl 2 rfl) ?_
    refine lv_aload_n hx hb d_law_215 rfl (lv_at hl 4 rfl) ?_
    refine lv_iload hx hb d_law_216 (lv_at hl 0 rfl) ?_
    refine x_iconst hx hb d_law_218 ?_
    refine x_iadd hx hb d_law_219 ?_
    refine x_sld hx hb hX hbl hbA B.2.2.2.1 (ii + 1) (by omega) (by omega) (by omega) d_law_220 ?_
    refine lv_aload_n hx hb d_law_221 rfl (lv_at hl 4 rfl) ?_
    refine lv_iload hx hb d_law_222 (lv_at hl 0 rfl) ?_
    refine x_iconst hx hb d_law_224 ?_
    refine x_iadd hx hb d_law_225 ?_
    refine x_sld hx hb hX hbl hbA B.2.2.2.1 (ii + 2) (by omega) (by omega) (by omega) d_law_226 ?_
    rw [hp0e]
    by_cases hk2 : 0 ≤ ys (ii + 2) ∧ ys (ii + 2) < 6
    · obtain ⟨kp, hkp⟩ : ∃ kp : Nat, ys (ii + 2) = (kp : Int) := ⟨(ys (ii + 2)).toNat, by omega⟩
      rw [hkp]
      refine x_calli B hA (va_runV (As := [.int (iI ((p0 : Int))), .int (iI ((kp : Int)))]) (rest := [.int r211]) ⟨hx, hb, hml, hown, hts⟩ (c_Mo_coefficient_k l D cs _ _ _ (M 0) (M 1) (M 2) (M 3) (M 5) (M 6) (M 7) (M 8) (M 9) (M 10) (M 11) (M 12) (M 13) (M 14) th (I 0) rw_ fu fb p0 cv bl kp (hMd.fc [0, 5, 6] (by decide) (by decide)) hMC1.1 hhd hp0l hMC1.2.2.2.2.1 hMC1.2.2.2.2.2.1 hcv (by omega)) (cwV 2 hts (gw_V w_755 w_756 w_757 w_8 w_758) rfl rfl rfl (by decide +kernel) ⟨by rw [hRf]; exact Nat.le_of_ble_eq_true rfl, by rw [hRl]; exact Nat.le_of_ble_eq_true rfl⟩) ⟨K0.blind, B.recv (hMd.1 0 (by decide)) hMC1.1 rfl, B.pre _⟩ rfl rfl hl.1 rfl (lv_room (Nat.le_of_ble_eq_true rfl)) d_law_227 ⟨by rw [hRc]; omega, by rw [hRs]; omega⟩) (fun r227 g227 H locs hw B => ?_)
      obtain ⟨hr2, hg2⟩ := hw
      have hMC2 := MC.m1 hMd hMC1 hg2
      have hC2 := hC1.frame hAd (g := g227) (fun k hk => by rw [hg2]; exact hMd.ad [0] (by decide) rfl hk)
      have hov2 : g227 (M 4) = .inl (cs 1, 1, .inr (.inl (al ov))) := by rw [hg2]; exact (hMd.out (b := 4) (by decide) [0] (by decide) rfl).trans hov1
      have he : r211 = r227 := by rcases hans1 with ⟨h, _⟩ | ⟨_, h⟩; omega; rw [h, hr2, hkp, Int.toNat_natCast]; exact congrArg iI (hEq p0 hp0l kp (by omega)).symm
      rw [← he]
      obtain ⟨vv, hvv, hvr⟩ := i32_ex r211
      rw [hvv]
      refine x_icmp_eq (tgt := 956) hx hb d_law_230 (by decide) (by omega) (by omega) (fun h230 => ?_) (fun h230 => ?_)
      · exact TAIL _ _ _ _ ⟨I1, A1, R1, Zf1, _, cv, bl, ro, fr, Z, ov, hC2, hInv1, by rw [show I1 0 = I 0 from hsv1.1]; exact ⟨_, _, _, lm, mn, sn, w8, w9, w10, w11, md, w15, hMC2, hRS, hLA, hcv, hhd.1, hhd.2⟩, hov2, fun q hq => by rw [show I1 0 = I 0 from hsv1.1] at hq; rw [show A1 (20 + q) = A (20 + q) from hsv1.2 q (by omega)]; exact hEq q hq⟩ B (lv_sub hl [0, 1, 2, 3, 4] rfl)
      · exfalso; omega
    · refine x_calli B hA (va_runV (As := [.int (iI ((p0 : Int))), .int (iI (ys (ii + 2)))]) (rest := [.int r211]) ⟨hx, hb, hml, hown, hts⟩ (c_Mo_coefficient_b l D cs _ _ _ (M 0) (M 1) (M 2) (M 3) (M 5) (M 6) (M 7) (M 8) (M 9) (M 10) (M 11) (M 12) (M 13) (M 14) th (I 0) rw_ fu fb p0 cv bl (ys (ii + 2)) (hMd.fc [0, 5, 6] (by decide) (by decide)) hMC1.1 hhd hp0l hMC1.2.2.2.2.1 hMC1.2.2.2.2.2.1 hcv (by omega) (by omega)) (cwV 2 hts (gw_V w_755 w_756 w_757 w_8 w_758) rfl rfl rfl (by decide +kernel) ⟨by rw [hRf]; exact Nat.le_of_ble_eq_true rfl, by rw [hRl]; exact Nat.le_of_ble_eq_true rfl⟩) ⟨K0.blind, B.recv (hMd.1 0 (by decide)) hMC1.1 rfl, B.pre _⟩ rfl rfl hl.1 rfl (lv_room (Nat.le_of_ble_eq_true rfl)) d_law_227 ⟨by rw [hRc]; omega, by rw [hRs]; omega⟩) (fun r227 g227 H locs hw B => ?_)
      obtain ⟨hr2, hg2⟩ := hw
      have hMC2 := MC.m1 hMd hMC1 hg2
      have hC2 := hC1.frame hAd (g := g227) (fun k hk => by rw [hg2]; exact hMd.ad [0] (by decide) rfl hk)
      have hov2 : g227 (M 4) = .inl (cs 1, 1, .inr (.inl (al ov))) := by rw [hg2]; exact (hMd.out (b := 4) (by decide) [0] (by decide) rfl).trans hov1
      have he : r211 = r227 := by rcases hans1 with ⟨_, h⟩ | ⟨h, _⟩; rw [h, hr2]; omega
      rw [← he]
      obtain ⟨vv, hvv, hvr⟩ := i32_ex r211
      rw [hvv]
      refine x_icmp_eq (tgt := 956) hx hb d_law_230 (by decide) (by omega) (by omega) (fun h230 => ?_) (fun h230 => ?_)
      · exact TAIL _ _ _ _ ⟨I1, A1, R1, Zf1, _, cv, bl, ro, fr, Z, ov, hC2, hInv1, by rw [show I1 0 = I 0 from hsv1.1]; exact ⟨_, _, _, lm, mn, sn, w8, w9, w10, w11, md, w15, hMC2, hRS, hLA, hcv, hhd.1, hhd.2⟩, hov2, fun q hq => by rw [show I1 0 = I 0 from hsv1.1] at hq; rw [show A1 (20 + q) = A (20 + q) from hsv1.2 q (by omega)]; exact hEq q hq⟩ B (lv_sub hl [0, 1, 2, 3, 4] rfl)
      · exfalso; omega
  · refine x_calli B hA (va_runV (As := [.int (iI (ys (ii + 1))), .int (iI (ys (ii + 2)))]) (rest := []) ⟨hx, hb, hml, hown, hts⟩ (c_RR_coefficient_u l D cs _ _ _ (ad 0) (ad 1) (ad 2) (ad 5) (ad 7) (ad 8) (ad 9) (ad 10) (ad 11) (ad 12) (ad 13) (ad 14) (I 0) (I 1) (I 2) (ys (ii + 1)) (ys (ii + 2)) (hAd.f1 (by omega)) hC.x hhd (by omega) (by omega) (by omega)) (cwV 2 hts (gw_V w_265 w_266 w_267 w_1 w_268) rfl rfl rfl (by decide +kernel) ⟨by rw [hRf]; exact Nat.le_of_ble_eq_true rfl, by rw [hRl]; exact Nat.le_of_ble_eq_true rfl⟩) ⟨K0.blind, B.recv (hAd.1 0 (by omega)) hC.x rfl, B.pre _⟩ rfl rfl hl.1 rfl (lv_room (Nat.le_of_ble_eq_true rfl)) d_law_211 ⟨by rw [hRc]; omega, by rw [hRs]; omega⟩) (fun r211 g211 H locs hw B => ?_)
    obtain ⟨hr1, hgf⟩ := hw
    rw [hgf] at B
    have hC1 := hC
    have hMC1 := hMC
    have hov1 := hov
    have hInv1 := hInv
    have hsv1 : SameV I A I A := ⟨rfl, fun _ _ => rfl⟩
    refine lv_aload_n hx hb d_law_214 rfl (lv_at hl 2 rfl) ?_
    refine lv_aload_n hx hb d_law_215 rfl (lv_at hl 4 rfl) ?_
    refine lv_iload hx hb d_law_216 (lv_at hl 0 rfl) ?_
    refine x_iconst hx hb d_law_218 ?_
    refine x_iadd hx hb d_law_219 ?_
    refine x_sld hx hb hX hbl hbA B.2.2.2.1 (ii + 1) (by omega) (by omega) (by omega) d_law_220 ?_
    refine lv_aload_n hx hb d_law_221 rfl (lv_at hl 4 rfl) ?_
    refine lv_iload hx hb d_law_222 (lv_at hl 0 rfl) ?_
    refine x_iconst hx hb d_law_224 ?_
    refine x_iadd hx hb d_law_225 ?_
    refine x_sld hx hb hX hbl hbA B.2.2.2.1 (ii + 2) (by omega) (by omega) (by omega) d_law_226 ?_
    refine x_calli B hA (va_runV (As := [.int (iI (ys (ii + 1))), .int (iI (ys (ii + 2)))]) (rest := [.int r211]) ⟨hx, hb, hml, hown, hts⟩ (c_Mo_coefficient_u l D cs _ _ _ (M 0) (M 1) (M 2) (M 3) (M 5) (M 6) (M 7) (M 8) (M 9) (M 10) (M 11) (M 12) (M 13) (M 14) th (I 0) rw_ fu fb (ys (ii + 1)) (ys (ii + 2)) (hMd.fc [0] (by decide) (by decide)) hMC1.1 hhd (by omega) (by omega) (by omega)) (cwV 2 hts (gw_V w_755 w_756 w_757 w_8 w_758) rfl rfl rfl (by decide +kernel) ⟨by rw [hRf]; exact Nat.le_of_ble_eq_true rfl, by rw [hRl]; exact Nat.le_of_ble_eq_true rfl⟩) ⟨K0.blind, B.recv (hMd.1 0 (by decide)) hMC1.1 rfl, B.pre _⟩ rfl rfl hl.1 rfl (lv_room (Nat.le_of_ble_eq_true rfl)) d_law_227 ⟨by rw [hRc]; omega, by rw [hRs]; omega⟩) (fun r227 g227 H locs hw B => ?_)
    obtain ⟨hr2, hg2⟩ := hw
    have hMC2 := MC.m1 hMd hMC1 hg2
    have hC2 := hC1.frame hAd (g := g227) (fun k hk => by rw [hg2]; exact hMd.ad [0] (by decide) rfl hk)
    have hov2 : g227 (M 4) = .inl (cs 1, 1, .inr (.inl (al ov))) := by rw [hg2]; exact (hMd.out (b := 4) (by decide) [0] (by decide) rfl).trans hov1
    have he : r211 = r227 := hr1.trans hr2.symm
    rw [← he]
    obtain ⟨vv, hvv, hvr⟩ := i32_ex r211
    rw [hvv]
    refine x_icmp_eq (tgt := 956) hx hb d_law_230 (by decide) (by omega) (by omega) (fun h230 => ?_) (fun h230 => ?_)
    · exact TAIL _ _ _ _ ⟨I, A, Rf, Zf, _, cv, bl, ro, fr, Z, ov, hC2, hInv1, by rw [show I 0 = I 0 from hsv1.1]; exact ⟨_, _, _, lm, mn, sn, w8, w9, w10, w11, md, w15, hMC2, hRS, hLA, hcv, hhd.1, hhd.2⟩, hov2, fun q hq => by rw [show I 0 = I 0 from hsv1.1] at hq; rw [show A (20 + q) = A (20 + q) from hsv1.2 q (by omega)]; exact hEq q hq⟩ B (lv_sub hl [0, 1, 2, 3, 4] rfl)
    · exfalso; omega
set_option maxHeartbeats 8000000 in
set_option maxRecDepth 100000 in
theorem law_case_4 {p : Program} {l : Launch} {e : Env} {s : State} {m : MethodId} {below : List Frame} {meth : Method} {c : Code} {R : Room} {av : Array Value} {Q : State → Prop} {ad Qm M : Nat → Nat} {ys : Nat → Int} {b n ii CC SS : Nat} {A0 : Nat → Prop} {D : va_G} {cs : Nat → ClassId} {LL : List Nat} {f : Nat → va_E} {H : Heap} {locs : List Loc} {ls : Array Slot} (hx : p.tables.exec = Jvm.exec) (hb : c.code = code) (hml : c.maxLocals = 8) (hown : s.vm.findClass R_law = some m.cls) (hts : ∀ w ∈ gw, w.before av s = true) (hRf : R.frames = 14) (hRl : R.locals = 594) (hRc : R.cells = 601024) (hRs : R.slots = 7293034) (hA : ∀ q, s.heap.size ≤ q → A0 q) (hX : va_X b n (ai ys) s s.heap) (hbl : b < s.heap.size) (hbA : ¬ A0 b) (hyr : ∀ j, -2147483648 ≤ ys j ∧ ys j < 2147483648) (hn : n ≤ 3072) (hi : ii + 6 ≤ n) (hCC : CC ≤ 600000) (hSS : SS ≤ 7000000) (hAd : AdOk LL ad Qm) (hMd : MdOk LL ad M) (hLI : LI cs ad Qm M f) (TAIL : ∀ (f' : Nat → va_E) (H : Heap) (locs : List Loc) (ls : Array Slot), LI cs ad Qm M f' → Wb D vwCl (TY cs) LL f' A0 s H locs → lv_has ls 8 [(4, .int (iI (ii : Int))), (3, .ref (M 4)), (2, .ref (M 0)), (1, .ref (ad 0)), (0, .ref b)] → W p l e R s m av below meth c H locs CC SS Q (F0 m 956 ls [])) (B : Wb D vwCl (TY cs) LL f A0 s H locs) (hl : lv_has ls 8 [(4, .int (iI (ii : Int))), (3, .ref (M 4)), (2, .ref (M 0)), (1, .ref (ad 0)), (0, .ref b)]) : W p l e R s m av below meth c H locs CC SS Q (F0 m 284 ls []) := by
  obtain ⟨I, A, Rf, Zf, th, cv, bl, ro, fr, Z, ov, hC, hInv, hLM, hov, hEq⟩ := hLI
  obtain ⟨rw_, fu, fb, lm, mn, sn, w8, w9, w10, w11, md, w15, hMC, hRS, hLA, hcv, hpn0, hpn12⟩ := hLM
  have hG0 := hInv.1
  have hhd := hG0.1
  have hy1 := hyr (ii + 1)
  have hy2 := hyr (ii + 2)
  have hy3 := hyr (ii + 3)
  have hy4 := hyr (ii + 4)
  have hy5 := hyr (ii + 5)
  refine lv_aload_n hx hb d_law_284 rfl (lv_at hl 3 rfl) ?_
  refine lv_aload_n hx hb d_law_285 rfl (lv_at hl 4 rfl) ?_
  refine lv_iload hx hb d_law_286 (lv_at hl 0 rfl) ?_
  refine x_iconst hx hb d_law_288 ?_
  refine x_iadd hx hb d_law_289 ?_
  refine x_sld hx hb hX hbl hbA B.2.2.2.1 (ii + 1) (by omega) (by omega) (by omega) d_law_290 ?_
  by_cases hk1 : 0 ≤ ys (ii + 1) ∧ ys (ii + 1) < I 0
  · obtain ⟨p0, hp0e⟩ : ∃ p0 : Nat, ys (ii + 1) = (p0 : Int) := ⟨(ys (ii + 1)).toNat, by omega⟩
    have hp0l : (p0 : Int) < I 0 := by omega
    have hp0t : p0 < 12 := by omega
    rw [hp0e]
    refine x_calli B hA (va_runV (As := [.int (iI ((p0 : Int)))]) (rest := []) ⟨hx, hb, hml, hown, hts⟩ (c_RR_degree_c l D cs _ _ _ ad Qm I A Rf Zf p0  hAd hC hInv hp0l ) (cwV 1 hts (gw_V w_362 w_363 w_364 w_1 w_365) rfl rfl rfl (by decide +kernel) ⟨by rw [hRf]; exact Nat.le_of_ble_eq_true rfl, by rw [hRl]; exact Nat.le_of_ble_eq_true rfl⟩) ⟨K0.blind, B.recv (hAd.1 0 (by omega)) hC.x rfl, B.pre _⟩ rfl rfl hl.1 rfl (lv_room (Nat.le_of_ble_eq_true rfl)) d_law_291 ⟨by rw [hRc]; omega, by rw [hRs]; omega⟩) (fun r291 g291 H locs hw B => ?_)
    obtain ⟨I1, A1, R1, Zf1, hC1, hq1, hInv1, hsv1, hans1⟩ := hw
    have hMC1 := hMC.frame (fun k hk => hq1 _ (hMd.2.2 k hk))
    have hov1 := (hq1 _ (hMd.2.2 4 (by decide))).trans hov
    refine lv_aload_n hx hb d_law_294 rfl (lv_at hl 2 rfl) ?_
    refine lv_aload_n hx hb d_law_295 rfl (lv_at hl 4 rfl) ?_
    refine lv_iload hx hb d_law_296 (lv_at hl 0 rfl) ?_
    refine x_iconst hx hb d_law_298 ?_
    refine x_iadd hx hb d_law_299 ?_
    refine x_sld hx hb hX hbl hbA B.2.2.2.1 (ii + 1) (by omega) (by omega) (by omega) d_law_300 ?_
    rw [hp0e]
    refine x_calli B hA (va_runV (As := [.int (iI ((p0 : Int)))]) (rest := [.int r291]) ⟨hx, hb, hml, hown, hts⟩ (c_Mo_degree_k l D cs _ _ _ (M 0) (M 1) (M 2) (M 3) (M 5) (M 6) (M 7) (M 8) (M 9) (M 10) (M 11) (M 12) (M 13) (M 14) th (I 0) rw_ fu fb p0 cv bl (hMd.fc [0, 5, 6] (by decide) (by decide)) hMC1.1 hhd hp0l hMC1.2.2.2.2.1 hMC1.2.2.2.2.2.1 hcv) (cwV 1 hts (gw_V w_759 w_760 w_761 w_8 w_762) rfl rfl rfl (by decide +kernel) ⟨by rw [hRf]; exact Nat.le_of_ble_eq_true rfl, by rw [hRl]; exact Nat.le_of_ble_eq_true rfl⟩) ⟨K0.blind, B.recv (hMd.1 0 (by decide)) hMC1.1 rfl, B.pre _⟩ rfl rfl hl.1 rfl (lv_room (Nat.le_of_ble_eq_true rfl)) d_law_301 ⟨by rw [hRc]; omega, by rw [hRs]; omega⟩) (fun r301 g301 H locs hw B => ?_)
    obtain ⟨kx, hr2, hkx6, hkxz, hkxl, hg2⟩ := hw
    have hMC2 := MC.m1 hMd hMC1 hg2
    have hC2 := hC1.frame hAd (g := g301) (fun k hk => by rw [hg2]; exact hMd.ad [0] (by decide) rfl hk)
    have hov2 : g301 (M 4) = .inl (cs 1, 1, .inr (.inl (al ov))) := by rw [hg2]; exact (hMd.out (b := 4) (by decide) [0] (by decide) rfl).trans hov1
    have he : r291 = r301 := gl_degree (W := fun j => cv (6 * p0 + j)) (hEq p0 hp0l) hans1 hr2 hkx6 hkxz hkxl
    rw [← he]
    obtain ⟨vv, hvv, hvr⟩ := i32_ex r291
    rw [hvv]
    refine x_icmp_eq (tgt := 956) hx hb d_law_304 (by decide) (by omega) (by omega) (fun h304 => ?_) (fun h304 => ?_)
    · exact TAIL _ _ _ _ ⟨I1, A1, R1, Zf1, _, cv, bl, ro, fr, Z, ov, hC2, hInv1, by rw [show I1 0 = I 0 from hsv1.1]; exact ⟨_, _, _, lm, mn, sn, w8, w9, w10, w11, md, w15, hMC2, hRS, hLA, hcv, hhd.1, hhd.2⟩, hov2, fun q hq => by rw [show I1 0 = I 0 from hsv1.1] at hq; rw [show A1 (20 + q) = A (20 + q) from hsv1.2 q (by omega)]; exact hEq q hq⟩ B (lv_sub hl [0, 1, 2, 3, 4] rfl)
    · exfalso; omega
  · refine x_calli B hA (va_runV (As := [.int (iI (ys (ii + 1)))]) (rest := []) ⟨hx, hb, hml, hown, hts⟩ (c_RR_degree_u l D cs _ _ _ (ad 0) (ad 1) (ad 2) (ad 5) (ad 7) (ad 8) (ad 9) (ad 10) (ad 11) (ad 12) (ad 13) (ad 14) (I 0) (I 1) (I 2) (ys (ii + 1)) (hAd.f1 (by omega)) hC.x hhd (by omega) (by omega)) (cwV 1 hts (gw_V w_362 w_363 w_364 w_1 w_365) rfl rfl rfl (by decide +kernel) ⟨by rw [hRf]; exact Nat.le_of_ble_eq_true rfl, by rw [hRl]; exact Nat.le_of_ble_eq_true rfl⟩) ⟨K0.blind, B.recv (hAd.1 0 (by omega)) hC.x rfl, B.pre _⟩ rfl rfl hl.1 rfl (lv_room (Nat.le_of_ble_eq_true rfl)) d_law_291 ⟨by rw [hRc]; omega, by rw [hRs]; omega⟩) (fun r291 g291 H locs hw B => ?_)
    obtain ⟨hr1, hgf⟩ := hw
    rw [hgf] at B
    have hC1 := hC
    have hMC1 := hMC
    have hov1 := hov
    have hInv1 := hInv
    have hsv1 : SameV I A I A := ⟨rfl, fun _ _ => rfl⟩
    refine lv_aload_n hx hb d_law_294 rfl (lv_at hl 2 rfl) ?_
    refine lv_aload_n hx hb d_law_295 rfl (lv_at hl 4 rfl) ?_
    refine lv_iload hx hb d_law_296 (lv_at hl 0 rfl) ?_
    refine x_iconst hx hb d_law_298 ?_
    refine x_iadd hx hb d_law_299 ?_
    refine x_sld hx hb hX hbl hbA B.2.2.2.1 (ii + 1) (by omega) (by omega) (by omega) d_law_300 ?_
    refine x_calli B hA (va_runV (As := [.int (iI (ys (ii + 1)))]) (rest := [.int r291]) ⟨hx, hb, hml, hown, hts⟩ (c_Mo_degree_u l D cs _ _ _ (M 0) (M 1) (M 2) (M 3) (M 5) (M 6) (M 7) (M 8) (M 9) (M 10) (M 11) (M 12) (M 13) (M 14) th (I 0) rw_ fu fb (ys (ii + 1)) (hMd.fc [0] (by decide) (by decide)) hMC1.1 hhd (by omega) (by omega)) (cwV 1 hts (gw_V w_759 w_760 w_761 w_8 w_762) rfl rfl rfl (by decide +kernel) ⟨by rw [hRf]; exact Nat.le_of_ble_eq_true rfl, by rw [hRl]; exact Nat.le_of_ble_eq_true rfl⟩) ⟨K0.blind, B.recv (hMd.1 0 (by decide)) hMC1.1 rfl, B.pre _⟩ rfl rfl hl.1 rfl (lv_room (Nat.le_of_ble_eq_true rfl)) d_law_301 ⟨by rw [hRc]; omega, by rw [hRs]; omega⟩) (fun r301 g301 H locs hw B => ?_)
    obtain ⟨hr2, hg2⟩ := hw
    have hMC2 := MC.m1 hMd hMC1 hg2
    have hC2 := hC1.frame hAd (g := g301) (fun k hk => by rw [hg2]; exact hMd.ad [0] (by decide) rfl hk)
    have hov2 : g301 (M 4) = .inl (cs 1, 1, .inr (.inl (al ov))) := by rw [hg2]; exact (hMd.out (b := 4) (by decide) [0] (by decide) rfl).trans hov1
    have he : r291 = r301 := hr1.trans hr2.symm
    rw [← he]
    obtain ⟨vv, hvv, hvr⟩ := i32_ex r291
    rw [hvv]
    refine x_icmp_eq (tgt := 956) hx hb d_law_304 (by decide) (by omega) (by omega) (fun h304 => ?_) (fun h304 => ?_)
    · exact TAIL _ _ _ _ ⟨I, A, Rf, Zf, _, cv, bl, ro, fr, Z, ov, hC2, hInv1, by rw [show I 0 = I 0 from hsv1.1]; exact ⟨_, _, _, lm, mn, sn, w8, w9, w10, w11, md, w15, hMC2, hRS, hLA, hcv, hhd.1, hhd.2⟩, hov2, fun q hq => by rw [show I 0 = I 0 from hsv1.1] at hq; rw [show A (20 + q) = A (20 + q) from hsv1.2 q (by omega)]; exact hEq q hq⟩ B (lv_sub hl [0, 1, 2, 3, 4] rfl)
    · exfalso; omega
set_option maxHeartbeats 8000000 in
set_option maxRecDepth 100000 in
theorem law_case_6 {p : Program} {l : Launch} {e : Env} {s : State} {m : MethodId} {below : List Frame} {meth : Method} {c : Code} {R : Room} {av : Array Value} {Q : State → Prop} {ad Qm M : Nat → Nat} {ys : Nat → Int} {b n ii CC SS : Nat} {A0 : Nat → Prop} {D : va_G} {cs : Nat → ClassId} {LL : List Nat} {f : Nat → va_E} {H : Heap} {locs : List Loc} {ls : Array Slot} (hx : p.tables.exec = Jvm.exec) (hb : c.code = code) (hml : c.maxLocals = 8) (hown : s.vm.findClass R_law = some m.cls) (hts : ∀ w ∈ gw, w.before av s = true) (hRf : R.frames = 14) (hRl : R.locals = 594) (hRc : R.cells = 601024) (hRs : R.slots = 7293034) (hA : ∀ q, s.heap.size ≤ q → A0 q) (hX : va_X b n (ai ys) s s.heap) (hbl : b < s.heap.size) (hbA : ¬ A0 b) (hyr : ∀ j, -2147483648 ≤ ys j ∧ ys j < 2147483648) (hn : n ≤ 3072) (hi : ii + 6 ≤ n) (hCC : CC ≤ 600000) (hSS : SS ≤ 7000000) (hAd : AdOk LL ad Qm) (hMd : MdOk LL ad M) (hLI : LI cs ad Qm M f) (TAIL : ∀ (f' : Nat → va_E) (H : Heap) (locs : List Loc) (ls : Array Slot), LI cs ad Qm M f' → Wb D vwCl (TY cs) LL f' A0 s H locs → lv_has ls 8 [(4, .int (iI (ii : Int))), (3, .ref (M 4)), (2, .ref (M 0)), (1, .ref (ad 0)), (0, .ref b)] → W p l e R s m av below meth c H locs CC SS Q (F0 m 956 ls [])) (B : Wb D vwCl (TY cs) LL f A0 s H locs) (hl : lv_has ls 8 [(4, .int (iI (ii : Int))), (3, .ref (M 4)), (2, .ref (M 0)), (1, .ref (ad 0)), (0, .ref b)]) : W p l e R s m av below meth c H locs CC SS Q (F0 m 334 ls []) := by
  obtain ⟨I, A, Rf, Zf, th, cv, bl, ro, fr, Z, ov, hC, hInv, hLM, hov, hEq⟩ := hLI
  obtain ⟨rw_, fu, fb, lm, mn, sn, w8, w9, w10, w11, md, w15, hMC, hRS, hLA, hcv, hpn0, hpn12⟩ := hLM
  have hG0 := hInv.1
  have hhd := hG0.1
  have hy1 := hyr (ii + 1)
  have hy2 := hyr (ii + 2)
  have hy3 := hyr (ii + 3)
  have hy4 := hyr (ii + 4)
  have hy5 := hyr (ii + 5)
  refine lv_aload_n hx hb d_law_334 rfl (lv_at hl 3 rfl) ?_
  refine lv_aload_n hx hb d_law_335 rfl (lv_at hl 4 rfl) ?_
  refine lv_iload hx hb d_law_336 (lv_at hl 0 rfl) ?_
  refine x_iconst hx hb d_law_338 ?_
  refine x_iadd hx hb d_law_339 ?_
  refine x_sld hx hb hX hbl hbA B.2.2.2.1 (ii + 1) (by omega) (by omega) (by omega) d_law_340 ?_
  refine lv_aload_n hx hb d_law_341 rfl (lv_at hl 4 rfl) ?_
  refine lv_iload hx hb d_law_342 (lv_at hl 0 rfl) ?_
  refine x_iconst hx hb d_law_344 ?_
  refine x_iadd hx hb d_law_345 ?_
  refine x_sld hx hb hX hbl hbA B.2.2.2.1 (ii + 2) (by omega) (by omega) (by omega) d_law_346 ?_
  by_cases hk1 : 0 ≤ ys (ii + 1) ∧ ys (ii + 1) < I 0
  · obtain ⟨p0, hp0e⟩ : ∃ p0 : Nat, ys (ii + 1) = (p0 : Int) := ⟨(ys (ii + 1)).toNat, by omega⟩
    have hp0l : (p0 : Int) < I 0 := by omega
    have hp0t : p0 < 12 := by omega
    rw [hp0e]
    refine x_calli B hA (va_runV (As := [.int (iI ((p0 : Int))), .int (iI (ys (ii + 2)))]) (rest := []) ⟨hx, hb, hml, hown, hts⟩ (c_RR_times_k l D cs _ _ _ ad Qm I A Rf Zf p0 (ys (ii + 2)) hAd hC hInv hp0l (by omega)) (cwV 2 hts (gw_V w_462 w_463 w_464 w_1 w_465) rfl rfl rfl (by decide +kernel) ⟨by rw [hRf]; exact Nat.le_of_ble_eq_true rfl, by rw [hRl]; exact Nat.le_of_ble_eq_true rfl⟩) ⟨K0.blind, B.recv (hAd.1 0 (by omega)) hC.x rfl, B.pre _⟩ rfl rfl hl.1 rfl (lv_room (Nat.le_of_ble_eq_true rfl)) d_law_347 ⟨by rw [hRc]; omega, by rw [hRs]; omega⟩) (fun r347 g347 H locs hw B => ?_)
    obtain ⟨I1, A1, R1, Zf1, hC1, hq1, hInv1, hsv1, hans1⟩ := hw
    have hMC1 := hMC.frame (fun k hk => hq1 _ (hMd.2.2 k hk))
    have hov1 := (hq1 _ (hMd.2.2 4 (by decide))).trans hov
    refine lv_aload_n hx hb d_law_350 rfl (lv_at hl 2 rfl) ?_
    refine lv_aload_n hx hb d_law_351 rfl (lv_at hl 4 rfl) ?_
    refine lv_iload hx hb d_law_352 (lv_at hl 0 rfl) ?_
    refine x_iconst hx hb d_law_354 ?_
    refine x_iadd hx hb d_law_355 ?_
    refine x_sld hx hb hX hbl hbA B.2.2.2.1 (ii + 1) (by omega) (by omega) (by omega) d_law_356 ?_
    refine lv_aload_n hx hb d_law_357 rfl (lv_at hl 4 rfl) ?_
    refine lv_iload hx hb d_law_358 (lv_at hl 0 rfl) ?_
    refine x_iconst hx hb d_law_360 ?_
    refine x_iadd hx hb d_law_361 ?_
    refine x_sld hx hb hX hbl hbA B.2.2.2.1 (ii + 2) (by omega) (by omega) (by omega) d_law_362 ?_
    rw [hp0e]
    refine x_calli B hA (va_runV (As := [.int (iI ((p0 : Int))), .int (iI (ys (ii + 2)))]) (rest := [.int r347]) ⟨hx, hb, hml, hown, hts⟩ (c_Mo_times_k l D cs _ _ _ (M 0) (M 1) (M 2) (M 3) (M 5) (M 6) (M 7) (M 8) (M 9) (M 10) (M 11) (M 12) (M 13) (M 14) th (I 0) rw_ fu fb lm mn sn Z bl w8 w9 w10 w11 ro fr cv p0 w15 (ys (ii + 2)) (hMd.fc [0, 1, 2, 3, 6, 8, 9, 10, 11, 12, 13, 14, 5] (by decide) (by decide)) hMC1.1 hMC1.2.1 hMC1.2.2.1 hMC1.2.2.2.1 hMC1.2.2.2.2.2.1 hMC1.2.2.2.2.2.2.2.1 hMC1.2.2.2.2.2.2.2.2.1 hMC1.2.2.2.2.2.2.2.2.2.1 hMC1.2.2.2.2.2.2.2.2.2.2.1 hMC1.2.2.2.2.2.2.2.2.2.2.2.1 hMC1.2.2.2.2.2.2.2.2.2.2.2.2.1 hMC1.2.2.2.2.1 hMC1.2.2.2.2.2.2.2.2.2.2.2.2.2 hRS hp0t hcv hLA hhd hp0l (by omega)) (cwV 2 hts (gw_V w_919 w_920 w_921 w_8 w_922) rfl rfl rfl (by decide +kernel) ⟨by rw [hRf]; exact Nat.le_of_ble_eq_true rfl, by rw [hRl]; exact Nat.le_of_ble_eq_true rfl⟩) ⟨K0.blind, B.recv (hMd.1 0 (by decide)) hMC1.1 rfl, B.pre _⟩ rfl rfl hl.1 rfl (lv_room (Nat.le_of_ble_eq_true rfl)) d_law_363 ⟨by rw [hRc]; omega, by rw [hRs]; omega⟩) (fun r363 g363 H locs hw B => ?_)
    obtain ⟨lm2, mn2, sn2, Z2, bl2, w82, w92, w102, w112, ro2, fr2, w152, rw2, hRS2, hLA2, hst2, hans2, hg2⟩ := hw
    have hMC2 := MC.m12 hMd hMC1 hg2
    have hC2 := hC1.frame hAd (g := g363) (fun k hk => by rw [hg2]; exact hMd.ad [0, 1, 2, 3, 6, 8, 9, 10, 11, 12, 13, 14] (by decide) rfl hk)
    have hov2 : g363 (M 4) = .inl (cs 1, 1, .inr (.inl (al ov))) := by rw [hg2]; exact (hMd.out (b := 4) (by decide) [0, 1, 2, 3, 6, 8, 9, 10, 11, 12, 13, 14] (by decide) rfl).trans hov1
    have he : r347 = r363 := gl_times (hG0.2.1 p0 hp0t) (hEq p0 hp0l) (hLA2.1 p0 hp0t) hans1 hans2
    rw [← he]
    obtain ⟨vv, hvv, hvr⟩ := i32_ex r347
    rw [hvv]
    refine x_icmp_eq (tgt := 956) hx hb d_law_366 (by decide) (by omega) (by omega) (fun h366 => ?_) (fun h366 => ?_)
    · exact TAIL _ _ _ _ ⟨I1, A1, R1, Zf1, _, cv, bl2, ro2, fr2, Z2, ov, hC2, hInv1, by rw [show I1 0 = I 0 from hsv1.1]; exact ⟨_, _, _, lm2, mn2, sn2, w82, w92, w102, w112, md, w152, hMC2, hRS2, hLA2, hcv, hhd.1, hhd.2⟩, hov2, fun q hq => by rw [show I1 0 = I 0 from hsv1.1] at hq; rw [show A1 (20 + q) = A (20 + q) from hsv1.2 q (by omega)]; exact hEq q hq⟩ B (lv_sub hl [0, 1, 2, 3, 4] rfl)
    · exfalso; omega
  · refine x_calli B hA (va_runV (As := [.int (iI (ys (ii + 1))), .int (iI (ys (ii + 2)))]) (rest := []) ⟨hx, hb, hml, hown, hts⟩ (c_RR_times_u l D cs _ _ _ (ad 0) (ad 1) (ad 2) (ad 5) (ad 7) (ad 8) (ad 9) (ad 10) (ad 11) (ad 12) (ad 13) (ad 14) (I 0) (I 1) (I 2) (ys (ii + 1)) (ys (ii + 2)) (hAd.f1 (by omega)) hC.x hhd (by omega) (by omega) (by omega)) (cwV 2 hts (gw_V w_462 w_463 w_464 w_1 w_465) rfl rfl rfl (by decide +kernel) ⟨by rw [hRf]; exact Nat.le_of_ble_eq_true rfl, by rw [hRl]; exact Nat.le_of_ble_eq_true rfl⟩) ⟨K0.blind, B.recv (hAd.1 0 (by omega)) hC.x rfl, B.pre _⟩ rfl rfl hl.1 rfl (lv_room (Nat.le_of_ble_eq_true rfl)) d_law_347 ⟨by rw [hRc]; omega, by rw [hRs]; omega⟩) (fun r347 g347 H locs hw B => ?_)
    obtain ⟨hr1, hgf⟩ := hw
    rw [hgf] at B
    have hC1 := hC
    have hMC1 := hMC
    have hov1 := hov
    have hInv1 := hInv
    have hsv1 : SameV I A I A := ⟨rfl, fun _ _ => rfl⟩
    refine lv_aload_n hx hb d_law_350 rfl (lv_at hl 2 rfl) ?_
    refine lv_aload_n hx hb d_law_351 rfl (lv_at hl 4 rfl) ?_
    refine lv_iload hx hb d_law_352 (lv_at hl 0 rfl) ?_
    refine x_iconst hx hb d_law_354 ?_
    refine x_iadd hx hb d_law_355 ?_
    refine x_sld hx hb hX hbl hbA B.2.2.2.1 (ii + 1) (by omega) (by omega) (by omega) d_law_356 ?_
    refine lv_aload_n hx hb d_law_357 rfl (lv_at hl 4 rfl) ?_
    refine lv_iload hx hb d_law_358 (lv_at hl 0 rfl) ?_
    refine x_iconst hx hb d_law_360 ?_
    refine x_iadd hx hb d_law_361 ?_
    refine x_sld hx hb hX hbl hbA B.2.2.2.1 (ii + 2) (by omega) (by omega) (by omega) d_law_362 ?_
    refine x_calli B hA (va_runV (As := [.int (iI (ys (ii + 1))), .int (iI (ys (ii + 2)))]) (rest := [.int r347]) ⟨hx, hb, hml, hown, hts⟩ (c_Mo_times_u l D cs _ _ _ (M 0) (M 1) (M 2) (M 3) (M 5) (M 6) (M 7) (M 8) (M 9) (M 10) (M 11) (M 12) (M 13) (M 14) th (I 0) rw_ fu fb (ys (ii + 1)) (ys (ii + 2)) (hMd.fc [0] (by decide) (by decide)) hMC1.1 hhd (by omega) (by omega) (by omega)) (cwV 2 hts (gw_V w_919 w_920 w_921 w_8 w_922) rfl rfl rfl (by decide +kernel) ⟨by rw [hRf]; exact Nat.le_of_ble_eq_true rfl, by rw [hRl]; exact Nat.le_of_ble_eq_true rfl⟩) ⟨K0.blind, B.recv (hMd.1 0 (by decide)) hMC1.1 rfl, B.pre _⟩ rfl rfl hl.1 rfl (lv_room (Nat.le_of_ble_eq_true rfl)) d_law_363 ⟨by rw [hRc]; omega, by rw [hRs]; omega⟩) (fun r363 g363 H locs hw B => ?_)
    obtain ⟨hr2, hg2⟩ := hw
    have hMC2 := MC.m1 hMd hMC1 hg2
    have hC2 := hC1.frame hAd (g := g363) (fun k hk => by rw [hg2]; exact hMd.ad [0] (by decide) rfl hk)
    have hov2 : g363 (M 4) = .inl (cs 1, 1, .inr (.inl (al ov))) := by rw [hg2]; exact (hMd.out (b := 4) (by decide) [0] (by decide) rfl).trans hov1
    have he : r347 = r363 := hr1.trans hr2.symm
    rw [← he]
    obtain ⟨vv, hvv, hvr⟩ := i32_ex r347
    rw [hvv]
    refine x_icmp_eq (tgt := 956) hx hb d_law_366 (by decide) (by omega) (by omega) (fun h366 => ?_) (fun h366 => ?_)
    · exact TAIL _ _ _ _ ⟨I, A, Rf, Zf, _, cv, bl, ro, fr, Z, ov, hC2, hInv1, by rw [show I 0 = I 0 from hsv1.1]; exact ⟨_, _, _, lm, mn, sn, w8, w9, w10, w11, md, w15, hMC2, hRS, hLA, hcv, hhd.1, hhd.2⟩, hov2, fun q hq => by rw [show I 0 = I 0 from hsv1.1] at hq; rw [show A (20 + q) = A (20 + q) from hsv1.2 q (by omega)]; exact hEq q hq⟩ B (lv_sub hl [0, 1, 2, 3, 4] rfl)
    · exfalso; omega
set_option maxHeartbeats 8000000 in
set_option maxRecDepth 100000 in
theorem law_case_7 {p : Program} {l : Launch} {e : Env} {s : State} {m : MethodId} {below : List Frame} {meth : Method} {c : Code} {R : Room} {av : Array Value} {Q : State → Prop} {ad Qm M : Nat → Nat} {ys : Nat → Int} {b n ii CC SS : Nat} {A0 : Nat → Prop} {D : va_G} {cs : Nat → ClassId} {LL : List Nat} {f : Nat → va_E} {H : Heap} {locs : List Loc} {ls : Array Slot} (hx : p.tables.exec = Jvm.exec) (hb : c.code = code) (hml : c.maxLocals = 8) (hown : s.vm.findClass R_law = some m.cls) (hts : ∀ w ∈ gw, w.before av s = true) (hRf : R.frames = 14) (hRl : R.locals = 594) (hRc : R.cells = 601024) (hRs : R.slots = 7293034) (hA : ∀ q, s.heap.size ≤ q → A0 q) (hX : va_X b n (ai ys) s s.heap) (hbl : b < s.heap.size) (hbA : ¬ A0 b) (hyr : ∀ j, -2147483648 ≤ ys j ∧ ys j < 2147483648) (hn : n ≤ 3072) (hi : ii + 6 ≤ n) (hCC : CC ≤ 600000) (hSS : SS ≤ 7000000) (hAd : AdOk LL ad Qm) (hMd : MdOk LL ad M) (hLI : LI cs ad Qm M f) (TAIL : ∀ (f' : Nat → va_E) (H : Heap) (locs : List Loc) (ls : Array Slot), LI cs ad Qm M f' → Wb D vwCl (TY cs) LL f' A0 s H locs → lv_has ls 8 [(4, .int (iI (ii : Int))), (3, .ref (M 4)), (2, .ref (M 0)), (1, .ref (ad 0)), (0, .ref b)] → W p l e R s m av below meth c H locs CC SS Q (F0 m 956 ls [])) (B : Wb D vwCl (TY cs) LL f A0 s H locs) (hl : lv_has ls 8 [(4, .int (iI (ii : Int))), (3, .ref (M 4)), (2, .ref (M 0)), (1, .ref (ad 0)), (0, .ref b)]) : W p l e R s m av below meth c H locs CC SS Q (F0 m 371 ls []) := by
  obtain ⟨I, A, Rf, Zf, th, cv, bl, ro, fr, Z, ov, hC, hInv, hLM, hov, hEq⟩ := hLI
  obtain ⟨rw_, fu, fb, lm, mn, sn, w8, w9, w10, w11, md, w15, hMC, hRS, hLA, hcv, hpn0, hpn12⟩ := hLM
  have hG0 := hInv.1
  have hhd := hG0.1
  have hy1 := hyr (ii + 1)
  have hy2 := hyr (ii + 2)
  have hy3 := hyr (ii + 3)
  have hy4 := hyr (ii + 4)
  have hy5 := hyr (ii + 5)
  refine lv_aload_n hx hb d_law_371 rfl (lv_at hl 3 rfl) ?_
  refine lv_aload_n hx hb d_law_372 rfl (lv_at hl 4 rfl) ?_
  refine lv_iload hx hb d_law_373 (lv_at hl 0 rfl) ?_
  refine x_iconst hx hb d_law_375 ?_
  refine x_iadd hx hb d_law_376 ?_
  refine x_sld hx hb hX hbl hbA B.2.2.2.1 (ii + 1) (by omega) (by omega) (by omega) d_law_377 ?_
  refine lv_aload_n hx hb d_law_378 rfl (lv_at hl 4 rfl) ?_
  refine lv_iload hx hb d_law_379 (lv_at hl 0 rfl) ?_
  refine x_iconst hx hb d_law_381 ?_
  refine x_iadd hx hb d_law_382 ?_
  refine x_sld hx hb hX hbl hbA B.2.2.2.1 (ii + 2) (by omega) (by omega) (by omega) d_law_383 ?_
  refine lv_aload_n hx hb d_law_384 rfl (lv_at hl 4 rfl) ?_
  refine lv_iload hx hb d_law_385 (lv_at hl 0 rfl) ?_
  refine x_iconst hx hb d_law_387 ?_
  refine x_iadd hx hb d_law_388 ?_
  refine x_sld hx hb hX hbl hbA B.2.2.2.1 (ii + 3) (by omega) (by omega) (by omega) d_law_389 ?_
  by_cases hk1 : 0 ≤ ys (ii + 1) ∧ ys (ii + 1) < I 0
  · obtain ⟨p0, hp0e⟩ : ∃ p0 : Nat, ys (ii + 1) = (p0 : Int) := ⟨(ys (ii + 1)).toNat, by omega⟩
    have hp0l : (p0 : Int) < I 0 := by omega
    have hp0t : p0 < 12 := by omega
    rw [hp0e]
    refine x_calll B hA (va_runV (As := [.int (iI ((p0 : Int))), .int (iI (ys (ii + 2))), .int (iI (ys (ii + 3)))]) (rest := []) ⟨hx, hb, hml, hown, hts⟩ (c_RR_floor_k l D cs _ _ _ ad Qm I A Rf Zf p0 (ys (ii + 2)) (ys (ii + 3)) hAd hC hInv hp0l (by omega) (by omega)) (cwV 3 hts (gw_V w_487 w_488 w_489 w_1 w_490) rfl rfl rfl (by decide +kernel) ⟨by rw [hRf]; exact Nat.le_of_ble_eq_true rfl, by rw [hRl]; exact Nat.le_of_ble_eq_true rfl⟩) ⟨K0.blind, B.recv (hAd.1 0 (by omega)) hC.x rfl, B.pre _⟩ rfl rfl hl.1 rfl (lv_room (Nat.le_of_ble_eq_true rfl)) d_law_390 ⟨by rw [hRc]; omega, by rw [hRs]; omega⟩) (fun r390 g390 H locs hw B => ?_)
    obtain ⟨I1, A1, R1, Zf1, hC1, hq1, hInv1, hsv1, hans1⟩ := hw
    have hMC1 := hMC.frame (fun k hk => hq1 _ (hMd.2.2 k hk))
    have hov1 := (hq1 _ (hMd.2.2 4 (by decide))).trans hov
    refine lv_aload_n hx hb d_law_393 rfl (lv_at hl 2 rfl) ?_
    refine lv_aload_n hx hb d_law_394 rfl (lv_at hl 4 rfl) ?_
    refine lv_iload hx hb d_law_395 (lv_at hl 0 rfl) ?_
    refine x_iconst hx hb d_law_397 ?_
    refine x_iadd hx hb d_law_398 ?_
    refine x_sld hx hb hX hbl hbA B.2.2.2.1 (ii + 1) (by omega) (by omega) (by omega) d_law_399 ?_
    refine lv_aload_n hx hb d_law_400 rfl (lv_at hl 4 rfl) ?_
    refine lv_iload hx hb d_law_401 (lv_at hl 0 rfl) ?_
    refine x_iconst hx hb d_law_403 ?_
    refine x_iadd hx hb d_law_404 ?_
    refine x_sld hx hb hX hbl hbA B.2.2.2.1 (ii + 2) (by omega) (by omega) (by omega) d_law_405 ?_
    refine lv_aload_n hx hb d_law_406 rfl (lv_at hl 4 rfl) ?_
    refine lv_iload hx hb d_law_407 (lv_at hl 0 rfl) ?_
    refine x_iconst hx hb d_law_409 ?_
    refine x_iadd hx hb d_law_410 ?_
    refine x_sld hx hb hX hbl hbA B.2.2.2.1 (ii + 3) (by omega) (by omega) (by omega) d_law_411 ?_
    rw [hp0e]
    refine x_calll B hA (va_runV (As := [.int (iI ((p0 : Int))), .int (iI (ys (ii + 2))), .int (iI (ys (ii + 3)))]) (rest := [.long r390]) ⟨hx, hb, hml, hown, hts⟩ (c_Mo_floor_k l D cs _ _ _ (M 0) (M 1) (M 2) (M 3) (M 5) (M 6) (M 7) (M 8) (M 9) (M 10) (M 11) (M 12) (M 13) (M 14) th (I 0) rw_ fu fb lm mn sn Z bl w8 w9 w10 w11 ro fr cv p0 (ys (ii + 2)) (ys (ii + 3)) (hMd.fc [0, 1, 2, 3, 6, 8, 9, 10, 11, 12, 13, 5] (by decide) (by decide)) hMC1.1 hMC1.2.1 hMC1.2.2.1 hMC1.2.2.2.1 hMC1.2.2.2.2.2.1 hMC1.2.2.2.2.2.2.2.1 hMC1.2.2.2.2.2.2.2.2.1 hMC1.2.2.2.2.2.2.2.2.2.1 hMC1.2.2.2.2.2.2.2.2.2.2.1 hMC1.2.2.2.2.2.2.2.2.2.2.2.1 hMC1.2.2.2.2.2.2.2.2.2.2.2.2.1 hMC1.2.2.2.2.1 hRS hp0t hcv hLA hhd hp0l (by omega) (by omega)) (cwV 3 hts (gw_V w_931 w_932 w_933 w_8 w_934) rfl rfl rfl (by decide +kernel) ⟨by rw [hRf]; exact Nat.le_of_ble_eq_true rfl, by rw [hRl]; exact Nat.le_of_ble_eq_true rfl⟩) ⟨K0.blind, B.recv (hMd.1 0 (by decide)) hMC1.1 rfl, B.pre _⟩ rfl rfl hl.1 rfl (lv_room (Nat.le_of_ble_eq_true rfl)) d_law_412 ⟨by rw [hRc]; omega, by rw [hRs]; omega⟩) (fun r412 g412 H locs hw B => ?_)
    obtain ⟨lm2, mn2, sn2, Z2, bl2, w82, w92, w102, w112, ro2, fr2, rw2, hRS2, hLA2, hst2, hans2, hg2⟩ := hw
    have hMC2 := MC.m11 hMd hMC1 hg2
    have hC2 := hC1.frame hAd (g := g412) (fun k hk => by rw [hg2]; exact hMd.ad [0, 1, 2, 3, 6, 8, 9, 10, 11, 12, 13] (by decide) rfl hk)
    have hov2 : g412 (M 4) = .inl (cs 1, 1, .inr (.inl (al ov))) := by rw [hg2]; exact (hMd.out (b := 4) (by decide) [0, 1, 2, 3, 6, 8, 9, 10, 11, 12, 13] (by decide) rfl).trans hov1
    have he : r390 = r412 := gl_floor (hG0.2.1 p0 hp0t) (hEq p0 hp0l) (hLA2.1 p0 hp0t) hans1 hans2
    rw [← he]
    obtain ⟨vv, hvv, hvr⟩ := i64_ex r390
    rw [hvv]
    refine x_lc_eq (tgt := 956) hx hb d_law_415 rfl d_law_416 (by decide) (by omega) (by omega) (fun h416 => ?_) (fun h416 => ?_)
    · exact TAIL _ _ _ _ ⟨I1, A1, R1, Zf1, _, cv, bl2, ro2, fr2, Z2, ov, hC2, hInv1, by rw [show I1 0 = I 0 from hsv1.1]; exact ⟨_, _, _, lm2, mn2, sn2, w82, w92, w102, w112, md, w15, hMC2, hRS2, hLA2, hcv, hhd.1, hhd.2⟩, hov2, fun q hq => by rw [show I1 0 = I 0 from hsv1.1] at hq; rw [show A1 (20 + q) = A (20 + q) from hsv1.2 q (by omega)]; exact hEq q hq⟩ B (lv_sub hl [0, 1, 2, 3, 4] rfl)
    · exfalso; omega
  · refine x_calll B hA (va_runV (As := [.int (iI (ys (ii + 1))), .int (iI (ys (ii + 2))), .int (iI (ys (ii + 3)))]) (rest := []) ⟨hx, hb, hml, hown, hts⟩ (c_RR_floor_u l D cs _ _ _ (ad 0) (ad 1) (ad 2) (ad 5) (ad 7) (ad 8) (ad 9) (ad 10) (ad 11) (ad 12) (ad 13) (ad 14) (I 0) (I 1) (I 2) (ys (ii + 1)) (ys (ii + 2)) (ys (ii + 3)) (hAd.f1 (by omega)) hC.x hhd (by omega) (by omega) (by omega) (by omega)) (cwV 3 hts (gw_V w_487 w_488 w_489 w_1 w_490) rfl rfl rfl (by decide +kernel) ⟨by rw [hRf]; exact Nat.le_of_ble_eq_true rfl, by rw [hRl]; exact Nat.le_of_ble_eq_true rfl⟩) ⟨K0.blind, B.recv (hAd.1 0 (by omega)) hC.x rfl, B.pre _⟩ rfl rfl hl.1 rfl (lv_room (Nat.le_of_ble_eq_true rfl)) d_law_390 ⟨by rw [hRc]; omega, by rw [hRs]; omega⟩) (fun r390 g390 H locs hw B => ?_)
    obtain ⟨hr1, hgf⟩ := hw
    rw [hgf] at B
    have hC1 := hC
    have hMC1 := hMC
    have hov1 := hov
    have hInv1 := hInv
    have hsv1 : SameV I A I A := ⟨rfl, fun _ _ => rfl⟩
    refine lv_aload_n hx hb d_law_393 rfl (lv_at hl 2 rfl) ?_
    refine lv_aload_n hx hb d_law_394 rfl (lv_at hl 4 rfl) ?_
    refine lv_iload hx hb d_law_395 (lv_at hl 0 rfl) ?_
    refine x_iconst hx hb d_law_397 ?_
    refine x_iadd hx hb d_law_398 ?_
    refine x_sld hx hb hX hbl hbA B.2.2.2.1 (ii + 1) (by omega) (by omega) (by omega) d_law_399 ?_
    refine lv_aload_n hx hb d_law_400 rfl (lv_at hl 4 rfl) ?_
    refine lv_iload hx hb d_law_401 (lv_at hl 0 rfl) ?_
    refine x_iconst hx hb d_law_403 ?_
    refine x_iadd hx hb d_law_404 ?_
    refine x_sld hx hb hX hbl hbA B.2.2.2.1 (ii + 2) (by omega) (by omega) (by omega) d_law_405 ?_
    refine lv_aload_n hx hb d_law_406 rfl (lv_at hl 4 rfl) ?_
    refine lv_iload hx hb d_law_407 (lv_at hl 0 rfl) ?_
    refine x_iconst hx hb d_law_409 ?_
    refine x_iadd hx hb d_law_410 ?_
    refine x_sld hx hb hX hbl hbA B.2.2.2.1 (ii + 3) (by omega) (by omega) (by omega) d_law_411 ?_
    refine x_calll B hA (va_runV (As := [.int (iI (ys (ii + 1))), .int (iI (ys (ii + 2))), .int (iI (ys (ii + 3)))]) (rest := [.long r390]) ⟨hx, hb, hml, hown, hts⟩ (c_Mo_floor_u l D cs _ _ _ (M 0) (M 1) (M 2) (M 3) (M 5) (M 6) (M 7) (M 8) (M 9) (M 10) (M 11) (M 12) (M 13) (M 14) th (I 0) rw_ fu fb (ys (ii + 1)) (ys (ii + 2)) (ys (ii + 3)) (hMd.fc [0] (by decide) (by decide)) hMC1.1 hhd (by omega) (by omega) (by omega) (by omega)) (cwV 3 hts (gw_V w_931 w_932 w_933 w_8 w_934) rfl rfl rfl (by decide +kernel) ⟨by rw [hRf]; exact Nat.le_of_ble_eq_true rfl, by rw [hRl]; exact Nat.le_of_ble_eq_true rfl⟩) ⟨K0.blind, B.recv (hMd.1 0 (by decide)) hMC1.1 rfl, B.pre _⟩ rfl rfl hl.1 rfl (lv_room (Nat.le_of_ble_eq_true rfl)) d_law_412 ⟨by rw [hRc]; omega, by rw [hRs]; omega⟩) (fun r412 g412 H locs hw B => ?_)
    obtain ⟨hr2, hg2⟩ := hw
    have hMC2 := MC.m1 hMd hMC1 hg2
    have hC2 := hC1.frame hAd (g := g412) (fun k hk => by rw [hg2]; exact hMd.ad [0] (by decide) rfl hk)
    have hov2 : g412 (M 4) = .inl (cs 1, 1, .inr (.inl (al ov))) := by rw [hg2]; exact (hMd.out (b := 4) (by decide) [0] (by decide) rfl).trans hov1
    have he : r390 = r412 := hr1.trans hr2.symm
    rw [← he]
    obtain ⟨vv, hvv, hvr⟩ := i64_ex r390
    rw [hvv]
    refine x_lc_eq (tgt := 956) hx hb d_law_415 rfl d_law_416 (by decide) (by omega) (by omega) (fun h416 => ?_) (fun h416 => ?_)
    · exact TAIL _ _ _ _ ⟨I, A, Rf, Zf, _, cv, bl, ro, fr, Z, ov, hC2, hInv1, by rw [show I 0 = I 0 from hsv1.1]; exact ⟨_, _, _, lm, mn, sn, w8, w9, w10, w11, md, w15, hMC2, hRS, hLA, hcv, hhd.1, hhd.2⟩, hov2, fun q hq => by rw [show I 0 = I 0 from hsv1.1] at hq; rw [show A (20 + q) = A (20 + q) from hsv1.2 q (by omega)]; exact hEq q hq⟩ B (lv_sub hl [0, 1, 2, 3, 4] rfl)
    · exfalso; omega
set_option maxHeartbeats 8000000 in
set_option maxRecDepth 100000 in
theorem law_case_9 {p : Program} {l : Launch} {e : Env} {s : State} {m : MethodId} {below : List Frame} {meth : Method} {c : Code} {R : Room} {av : Array Value} {Q : State → Prop} {ad Qm M : Nat → Nat} {ys : Nat → Int} {b n ii CC SS : Nat} {A0 : Nat → Prop} {D : va_G} {cs : Nat → ClassId} {LL : List Nat} {f : Nat → va_E} {H : Heap} {locs : List Loc} {ls : Array Slot} (hx : p.tables.exec = Jvm.exec) (hb : c.code = code) (hml : c.maxLocals = 8) (hown : s.vm.findClass R_law = some m.cls) (hts : ∀ w ∈ gw, w.before av s = true) (hRf : R.frames = 14) (hRl : R.locals = 594) (hRc : R.cells = 601024) (hRs : R.slots = 7293034) (hA : ∀ q, s.heap.size ≤ q → A0 q) (hX : va_X b n (ai ys) s s.heap) (hbl : b < s.heap.size) (hbA : ¬ A0 b) (hyr : ∀ j, -2147483648 ≤ ys j ∧ ys j < 2147483648) (hn : n ≤ 3072) (hi : ii + 6 ≤ n) (hCC : CC ≤ 600000) (hSS : SS ≤ 7000000) (hAd : AdOk LL ad Qm) (hMd : MdOk LL ad M) (hLI : LI cs ad Qm M f) (TAIL : ∀ (f' : Nat → va_E) (H : Heap) (locs : List Loc) (ls : Array Slot), LI cs ad Qm M f' → Wb D vwCl (TY cs) LL f' A0 s H locs → lv_has ls 8 [(4, .int (iI (ii : Int))), (3, .ref (M 4)), (2, .ref (M 0)), (1, .ref (ad 0)), (0, .ref b)] → W p l e R s m av below meth c H locs CC SS Q (F0 m 956 ls [])) (B : Wb D vwCl (TY cs) LL f A0 s H locs) (hl : lv_has ls 8 [(4, .int (iI (ii : Int))), (3, .ref (M 4)), (2, .ref (M 0)), (1, .ref (ad 0)), (0, .ref b)]) : W p l e R s m av below meth c H locs CC SS Q (F0 m 471 ls []) := by
  obtain ⟨I, A, Rf, Zf, th, cv, bl, ro, fr, Z, ov, hC, hInv, hLM, hov, hEq⟩ := hLI
  obtain ⟨rw_, fu, fb, lm, mn, sn, w8, w9, w10, w11, md, w15, hMC, hRS, hLA, hcv, hpn0, hpn12⟩ := hLM
  have hG0 := hInv.1
  have hhd := hG0.1
  have hy1 := hyr (ii + 1)
  have hy2 := hyr (ii + 2)
  have hy3 := hyr (ii + 3)
  have hy4 := hyr (ii + 4)
  have hy5 := hyr (ii + 5)
  refine lv_aload_n hx hb d_law_471 rfl (lv_at hl 3 rfl) ?_
  refine lv_aload_n hx hb d_law_472 rfl (lv_at hl 4 rfl) ?_
  refine lv_iload hx hb d_law_473 (lv_at hl 0 rfl) ?_
  refine x_iconst hx hb d_law_475 ?_
  refine x_iadd hx hb d_law_476 ?_
  refine x_sld hx hb hX hbl hbA B.2.2.2.1 (ii + 1) (by omega) (by omega) (by omega) d_law_477 ?_
  refine lv_aload_n hx hb d_law_478 rfl (lv_at hl 4 rfl) ?_
  refine lv_iload hx hb d_law_479 (lv_at hl 0 rfl) ?_
  refine x_iconst hx hb d_law_481 ?_
  refine x_iadd hx hb d_law_482 ?_
  refine x_sld hx hb hX hbl hbA B.2.2.2.1 (ii + 2) (by omega) (by omega) (by omega) d_law_483 ?_
  refine lv_aload_n hx hb d_law_484 rfl (lv_at hl 4 rfl) ?_
  refine lv_iload hx hb d_law_485 (lv_at hl 0 rfl) ?_
  refine x_iconst hx hb d_law_487 ?_
  refine x_iadd hx hb d_law_488 ?_
  refine x_sld hx hb hX hbl hbA B.2.2.2.1 (ii + 3) (by omega) (by omega) (by omega) d_law_489 ?_
  by_cases hk1 : 0 ≤ ys (ii + 1) ∧ ys (ii + 1) < I 0
  · obtain ⟨p0, hp0e⟩ : ∃ p0 : Nat, ys (ii + 1) = (p0 : Int) := ⟨(ys (ii + 1)).toNat, by omega⟩
    have hp0l : (p0 : Int) < I 0 := by omega
    have hp0t : p0 < 12 := by omega
    rw [hp0e]
    by_cases hk2 : 0 ≤ ys (ii + 2) ∧ ys (ii + 2) < I 0
    · obtain ⟨p1, hp1e⟩ : ∃ p1 : Nat, ys (ii + 2) = (p1 : Int) := ⟨(ys (ii + 2)).toNat, by omega⟩
      have hp1l : (p1 : Int) < I 0 := by omega
      have hp1t : p1 < 12 := by omega
      rw [hp1e]
      refine x_calli B hA (va_runV (As := [.int (iI ((p0 : Int))), .int (iI ((p1 : Int))), .int (iI (ys (ii + 3)))]) (rest := []) ⟨hx, hb, hml, hown, hts⟩ (c_RR_sign_k l D cs _ _ _ ad Qm I A Rf Zf p0 p1 (ys (ii + 3)) hAd hC hInv hp0l hp1l (by omega)) (cwV 3 hts (gw_V w_513 w_514 w_515 w_1 w_516) rfl rfl rfl (by decide +kernel) ⟨by rw [hRf]; exact Nat.le_of_ble_eq_true rfl, by rw [hRl]; exact Nat.le_of_ble_eq_true rfl⟩) ⟨K0.blind, B.recv (hAd.1 0 (by omega)) hC.x rfl, B.pre _⟩ rfl rfl hl.1 rfl (lv_room (Nat.le_of_ble_eq_true rfl)) d_law_490 ⟨by rw [hRc]; omega, by rw [hRs]; omega⟩) (fun r490 g490 H locs hw B => ?_)
      obtain ⟨I1, A1, R1, Zf1, hC1, hq1, hInv1, hsv1, hans1⟩ := hw
      have hMC1 := hMC.frame (fun k hk => hq1 _ (hMd.2.2 k hk))
      have hov1 := (hq1 _ (hMd.2.2 4 (by decide))).trans hov
      refine lv_aload_n hx hb d_law_493 rfl (lv_at hl 2 rfl) ?_
      refine lv_aload_n hx hb d_law_494 rfl (lv_at hl 4 rfl) ?_
      refine lv_iload hx hb d_law_495 (lv_at hl 0 rfl) ?_
      refine x_iconst hx hb d_law_497 ?_
      refine x_iadd hx hb d_law_498 ?_
      refine x_sld hx hb hX hbl hbA B.2.2.2.1 (ii + 1) (by omega) (by omega) (by omega) d_law_499 ?_
      refine lv_aload_n hx hb d_law_500 rfl (lv_at hl 4 rfl) ?_
      refine lv_iload hx hb d_law_501 (lv_at hl 0 rfl) ?_
      refine x_iconst hx hb d_law_503 ?_
      refine x_iadd hx hb d_law_504 ?_
      refine x_sld hx hb hX hbl hbA B.2.2.2.1 (ii + 2) (by omega) (by omega) (by omega) d_law_505 ?_
      refine lv_aload_n hx hb d_law_506 rfl (lv_at hl 4 rfl) ?_
      refine lv_iload hx hb d_law_507 (lv_at hl 0 rfl) ?_
      refine x_iconst hx hb d_law_509 ?_
      refine x_iadd hx hb d_law_510 ?_
      refine x_sld hx hb hX hbl hbA B.2.2.2.1 (ii + 3) (by omega) (by omega) (by omega) d_law_511 ?_
      rw [hp0e]
      rw [hp1e]
      refine x_calli B hA (va_runV (As := [.int (iI ((p0 : Int))), .int (iI ((p1 : Int))), .int (iI (ys (ii + 3)))]) (rest := [.int r490]) ⟨hx, hb, hml, hown, hts⟩ (c_Mo_sign_k l D cs _ _ _ (M 0) (M 1) (M 2) (M 3) (M 5) (M 6) (M 7) (M 8) (M 9) (M 10) (M 11) (M 12) (M 13) (M 14) th (I 0) rw_ fu fb lm mn sn Z bl w8 w9 w10 w11 ro fr cv p0 p1 (ys (ii + 3)) (hMd.fc [0, 1, 2, 3, 6, 8, 9, 10, 11, 12, 13, 5] (by decide) (by decide)) hMC1.1 hMC1.2.1 hMC1.2.2.1 hMC1.2.2.2.1 hMC1.2.2.2.2.2.1 hMC1.2.2.2.2.2.2.2.1 hMC1.2.2.2.2.2.2.2.2.1 hMC1.2.2.2.2.2.2.2.2.2.1 hMC1.2.2.2.2.2.2.2.2.2.2.1 hMC1.2.2.2.2.2.2.2.2.2.2.2.1 hMC1.2.2.2.2.2.2.2.2.2.2.2.2.1 hMC1.2.2.2.2.1 hRS hp0t hcv hLA hhd hp0l hp1t hp1l (by omega)) (cwV 3 hts (gw_V w_954 w_955 w_956 w_8 w_957) rfl rfl rfl (by decide +kernel) ⟨by rw [hRf]; exact Nat.le_of_ble_eq_true rfl, by rw [hRl]; exact Nat.le_of_ble_eq_true rfl⟩) ⟨K0.blind, B.recv (hMd.1 0 (by decide)) hMC1.1 rfl, B.pre _⟩ rfl rfl hl.1 rfl (lv_room (Nat.le_of_ble_eq_true rfl)) d_law_512 ⟨by rw [hRc]; omega, by rw [hRs]; omega⟩) (fun r512 g512 H locs hw B => ?_)
      obtain ⟨lm2, mn2, sn2, Z2, bl2, w82, w92, w102, w112, ro2, fr2, rw2, hRS2, hLA2, hst2, hans2, hg2⟩ := hw
      have hMC2 := MC.m11 hMd hMC1 hg2
      have hC2 := hC1.frame hAd (g := g512) (fun k hk => by rw [hg2]; exact hMd.ad [0, 1, 2, 3, 6, 8, 9, 10, 11, 12, 13] (by decide) rfl hk)
      have hov2 : g512 (M 4) = .inl (cs 1, 1, .inr (.inl (al ov))) := by rw [hg2]; exact (hMd.out (b := 4) (by decide) [0, 1, 2, 3, 6, 8, 9, 10, 11, 12, 13] (by decide) rfl).trans hov1
      have he : r490 = r512 := gl_sign (hG0.2.1 p0 hp0t) (hEq p0 hp0l) (hLA2.1 p0 hp0t) (hG0.2.1 p1 hp1t) (hEq p1 hp1l) (hLA2.1 p1 hp1t) hans1 hans2
      rw [← he]
      obtain ⟨vv, hvv, hvr⟩ := i32_ex r490
      rw [hvv]
      refine x_icmp_eq (tgt := 956) hx hb d_law_515 (by decide) (by omega) (by omega) (fun h515 => ?_) (fun h515 => ?_)
      · exact TAIL _ _ _ _ ⟨I1, A1, R1, Zf1, _, cv, bl2, ro2, fr2, Z2, ov, hC2, hInv1, by rw [show I1 0 = I 0 from hsv1.1]; exact ⟨_, _, _, lm2, mn2, sn2, w82, w92, w102, w112, md, w15, hMC2, hRS2, hLA2, hcv, hhd.1, hhd.2⟩, hov2, fun q hq => by rw [show I1 0 = I 0 from hsv1.1] at hq; rw [show A1 (20 + q) = A (20 + q) from hsv1.2 q (by omega)]; exact hEq q hq⟩ B (lv_sub hl [0, 1, 2, 3, 4] rfl)
      · exfalso; omega
    · refine x_calli B hA (va_runV (As := [.int (iI ((p0 : Int))), .int (iI (ys (ii + 2))), .int (iI (ys (ii + 3)))]) (rest := []) ⟨hx, hb, hml, hown, hts⟩ (c_RR_sign_t l D cs _ _ _ ad Qm I A Rf Zf p0 (ys (ii + 2)) (ys (ii + 3)) hAd hC hInv hp0l (by omega) (by omega) (by omega)) (cwV 3 hts (gw_V w_513 w_514 w_515 w_1 w_516) rfl rfl rfl (by decide +kernel) ⟨by rw [hRf]; exact Nat.le_of_ble_eq_true rfl, by rw [hRl]; exact Nat.le_of_ble_eq_true rfl⟩) ⟨K0.blind, B.recv (hAd.1 0 (by omega)) hC.x rfl, B.pre _⟩ rfl rfl hl.1 rfl (lv_room (Nat.le_of_ble_eq_true rfl)) d_law_490 ⟨by rw [hRc]; omega, by rw [hRs]; omega⟩) (fun r490 g490 H locs hw B => ?_)
      obtain ⟨I1, A1, R1, Zf1, hC1, hq1, hInv1, hsv1, hans1⟩ := hw
      have hMC1 := hMC.frame (fun k hk => hq1 _ (hMd.2.2 k hk))
      have hov1 := (hq1 _ (hMd.2.2 4 (by decide))).trans hov
      refine lv_aload_n hx hb d_law_493 rfl (lv_at hl 2 rfl) ?_
      refine lv_aload_n hx hb d_law_494 rfl (lv_at hl 4 rfl) ?_
      refine lv_iload hx hb d_law_495 (lv_at hl 0 rfl) ?_
      refine x_iconst hx hb d_law_497 ?_
      refine x_iadd hx hb d_law_498 ?_
      refine x_sld hx hb hX hbl hbA B.2.2.2.1 (ii + 1) (by omega) (by omega) (by omega) d_law_499 ?_
      refine lv_aload_n hx hb d_law_500 rfl (lv_at hl 4 rfl) ?_
      refine lv_iload hx hb d_law_501 (lv_at hl 0 rfl) ?_
      refine x_iconst hx hb d_law_503 ?_
      refine x_iadd hx hb d_law_504 ?_
      refine x_sld hx hb hX hbl hbA B.2.2.2.1 (ii + 2) (by omega) (by omega) (by omega) d_law_505 ?_
      refine lv_aload_n hx hb d_law_506 rfl (lv_at hl 4 rfl) ?_
      refine lv_iload hx hb d_law_507 (lv_at hl 0 rfl) ?_
      refine x_iconst hx hb d_law_509 ?_
      refine x_iadd hx hb d_law_510 ?_
      refine x_sld hx hb hX hbl hbA B.2.2.2.1 (ii + 3) (by omega) (by omega) (by omega) d_law_511 ?_
      rw [hp0e]
      refine x_calli B hA (va_runV (As := [.int (iI ((p0 : Int))), .int (iI (ys (ii + 2))), .int (iI (ys (ii + 3)))]) (rest := [.int r490]) ⟨hx, hb, hml, hown, hts⟩ (c_Mo_sign_p l D cs _ _ _ (M 0) (M 1) (M 2) (M 3) (M 5) (M 6) (M 7) (M 8) (M 9) (M 10) (M 11) (M 12) (M 13) (M 14) th (I 0) rw_ fu fb lm mn sn Z bl w8 w9 w10 w11 ro fr cv p0 (ys (ii + 2)) (ys (ii + 3)) (hMd.fc [0, 1, 2, 3, 6, 8, 9, 10, 11, 12, 13, 5] (by decide) (by decide)) hMC1.1 hMC1.2.1 hMC1.2.2.1 hMC1.2.2.2.1 hMC1.2.2.2.2.2.1 hMC1.2.2.2.2.2.2.2.1 hMC1.2.2.2.2.2.2.2.2.1 hMC1.2.2.2.2.2.2.2.2.2.1 hMC1.2.2.2.2.2.2.2.2.2.2.1 hMC1.2.2.2.2.2.2.2.2.2.2.2.1 hMC1.2.2.2.2.2.2.2.2.2.2.2.2.1 hMC1.2.2.2.2.1 hRS hp0t hcv hLA hhd hp0l (by omega) (by omega) (by omega)) (cwV 3 hts (gw_V w_954 w_955 w_956 w_8 w_957) rfl rfl rfl (by decide +kernel) ⟨by rw [hRf]; exact Nat.le_of_ble_eq_true rfl, by rw [hRl]; exact Nat.le_of_ble_eq_true rfl⟩) ⟨K0.blind, B.recv (hMd.1 0 (by decide)) hMC1.1 rfl, B.pre _⟩ rfl rfl hl.1 rfl (lv_room (Nat.le_of_ble_eq_true rfl)) d_law_512 ⟨by rw [hRc]; omega, by rw [hRs]; omega⟩) (fun r512 g512 H locs hw B => ?_)
      obtain ⟨lm2, mn2, sn2, Z2, bl2, w82, w92, w102, w112, ro2, fr2, rw2, hRS2, hLA2, hst2, hans2, hg2⟩ := hw
      have hMC2 := MC.m11 hMd hMC1 hg2
      have hC2 := hC1.frame hAd (g := g512) (fun k hk => by rw [hg2]; exact hMd.ad [0, 1, 2, 3, 6, 8, 9, 10, 11, 12, 13] (by decide) rfl hk)
      have hov2 : g512 (M 4) = .inl (cs 1, 1, .inr (.inl (al ov))) := by rw [hg2]; exact (hMd.out (b := 4) (by decide) [0, 1, 2, 3, 6, 8, 9, 10, 11, 12, 13] (by decide) rfl).trans hov1
      have he : r490 = r512 := hans1.trans hans2.symm
      rw [← he]
      obtain ⟨vv, hvv, hvr⟩ := i32_ex r490
      rw [hvv]
      refine x_icmp_eq (tgt := 956) hx hb d_law_515 (by decide) (by omega) (by omega) (fun h515 => ?_) (fun h515 => ?_)
      · exact TAIL _ _ _ _ ⟨I1, A1, R1, Zf1, _, cv, bl2, ro2, fr2, Z2, ov, hC2, hInv1, by rw [show I1 0 = I 0 from hsv1.1]; exact ⟨_, _, _, lm2, mn2, sn2, w82, w92, w102, w112, md, w15, hMC2, hRS2, hLA2, hcv, hhd.1, hhd.2⟩, hov2, fun q hq => by rw [show I1 0 = I 0 from hsv1.1] at hq; rw [show A1 (20 + q) = A (20 + q) from hsv1.2 q (by omega)]; exact hEq q hq⟩ B (lv_sub hl [0, 1, 2, 3, 4] rfl)
      · exfalso; omega
  · refine x_calli B hA (va_runV (As := [.int (iI (ys (ii + 1))), .int (iI (ys (ii + 2))), .int (iI (ys (ii + 3)))]) (rest := []) ⟨hx, hb, hml, hown, hts⟩ (c_RR_sign_u l D cs _ _ _ (ad 0) (ad 1) (ad 2) (ad 5) (ad 7) (ad 8) (ad 9) (ad 10) (ad 11) (ad 12) (ad 13) (ad 14) (I 0) (I 1) (I 2) (ys (ii + 1)) (ys (ii + 2)) (ys (ii + 3)) (hAd.f1 (by omega)) hC.x hhd (by omega) (by omega) (by omega) (by omega)) (cwV 3 hts (gw_V w_513 w_514 w_515 w_1 w_516) rfl rfl rfl (by decide +kernel) ⟨by rw [hRf]; exact Nat.le_of_ble_eq_true rfl, by rw [hRl]; exact Nat.le_of_ble_eq_true rfl⟩) ⟨K0.blind, B.recv (hAd.1 0 (by omega)) hC.x rfl, B.pre _⟩ rfl rfl hl.1 rfl (lv_room (Nat.le_of_ble_eq_true rfl)) d_law_490 ⟨by rw [hRc]; omega, by rw [hRs]; omega⟩) (fun r490 g490 H locs hw B => ?_)
    obtain ⟨hr1, hgf⟩ := hw
    rw [hgf] at B
    have hC1 := hC
    have hMC1 := hMC
    have hov1 := hov
    have hInv1 := hInv
    have hsv1 : SameV I A I A := ⟨rfl, fun _ _ => rfl⟩
    refine lv_aload_n hx hb d_law_493 rfl (lv_at hl 2 rfl) ?_
    refine lv_aload_n hx hb d_law_494 rfl (lv_at hl 4 rfl) ?_
    refine lv_iload hx hb d_law_495 (lv_at hl 0 rfl) ?_
    refine x_iconst hx hb d_law_497 ?_
    refine x_iadd hx hb d_law_498 ?_
    refine x_sld hx hb hX hbl hbA B.2.2.2.1 (ii + 1) (by omega) (by omega) (by omega) d_law_499 ?_
    refine lv_aload_n hx hb d_law_500 rfl (lv_at hl 4 rfl) ?_
    refine lv_iload hx hb d_law_501 (lv_at hl 0 rfl) ?_
    refine x_iconst hx hb d_law_503 ?_
    refine x_iadd hx hb d_law_504 ?_
    refine x_sld hx hb hX hbl hbA B.2.2.2.1 (ii + 2) (by omega) (by omega) (by omega) d_law_505 ?_
    refine lv_aload_n hx hb d_law_506 rfl (lv_at hl 4 rfl) ?_
    refine lv_iload hx hb d_law_507 (lv_at hl 0 rfl) ?_
    refine x_iconst hx hb d_law_509 ?_
    refine x_iadd hx hb d_law_510 ?_
    refine x_sld hx hb hX hbl hbA B.2.2.2.1 (ii + 3) (by omega) (by omega) (by omega) d_law_511 ?_
    refine x_calli B hA (va_runV (As := [.int (iI (ys (ii + 1))), .int (iI (ys (ii + 2))), .int (iI (ys (ii + 3)))]) (rest := [.int r490]) ⟨hx, hb, hml, hown, hts⟩ (c_Mo_sign_u l D cs _ _ _ (M 0) (M 1) (M 2) (M 3) (M 5) (M 6) (M 7) (M 8) (M 9) (M 10) (M 11) (M 12) (M 13) (M 14) th (I 0) rw_ fu fb (ys (ii + 1)) (ys (ii + 2)) (ys (ii + 3)) (hMd.fc [0] (by decide) (by decide)) hMC1.1 hhd (by omega) (by omega) (by omega) (by omega)) (cwV 3 hts (gw_V w_954 w_955 w_956 w_8 w_957) rfl rfl rfl (by decide +kernel) ⟨by rw [hRf]; exact Nat.le_of_ble_eq_true rfl, by rw [hRl]; exact Nat.le_of_ble_eq_true rfl⟩) ⟨K0.blind, B.recv (hMd.1 0 (by decide)) hMC1.1 rfl, B.pre _⟩ rfl rfl hl.1 rfl (lv_room (Nat.le_of_ble_eq_true rfl)) d_law_512 ⟨by rw [hRc]; omega, by rw [hRs]; omega⟩) (fun r512 g512 H locs hw B => ?_)
    obtain ⟨hr2, hg2⟩ := hw
    have hMC2 := MC.m1 hMd hMC1 hg2
    have hC2 := hC1.frame hAd (g := g512) (fun k hk => by rw [hg2]; exact hMd.ad [0] (by decide) rfl hk)
    have hov2 : g512 (M 4) = .inl (cs 1, 1, .inr (.inl (al ov))) := by rw [hg2]; exact (hMd.out (b := 4) (by decide) [0] (by decide) rfl).trans hov1
    have he : r490 = r512 := hr1.trans hr2.symm
    rw [← he]
    obtain ⟨vv, hvv, hvr⟩ := i32_ex r490
    rw [hvv]
    refine x_icmp_eq (tgt := 956) hx hb d_law_515 (by decide) (by omega) (by omega) (fun h515 => ?_) (fun h515 => ?_)
    · exact TAIL _ _ _ _ ⟨I, A, Rf, Zf, _, cv, bl, ro, fr, Z, ov, hC2, hInv1, by rw [show I 0 = I 0 from hsv1.1]; exact ⟨_, _, _, lm, mn, sn, w8, w9, w10, w11, md, w15, hMC2, hRS, hLA, hcv, hhd.1, hhd.2⟩, hov2, fun q hq => by rw [show I 0 = I 0 from hsv1.1] at hq; rw [show A (20 + q) = A (20 + q) from hsv1.2 q (by omega)]; exact hEq q hq⟩ B (lv_sub hl [0, 1, 2, 3, 4] rfl)
    · exfalso; omega
set_option maxHeartbeats 8000000 in
set_option maxRecDepth 100000 in
theorem law_case_10 {p : Program} {l : Launch} {e : Env} {s : State} {m : MethodId} {below : List Frame} {meth : Method} {c : Code} {R : Room} {av : Array Value} {Q : State → Prop} {ad Qm M : Nat → Nat} {ys : Nat → Int} {b n ii CC SS : Nat} {A0 : Nat → Prop} {D : va_G} {cs : Nat → ClassId} {LL : List Nat} {f : Nat → va_E} {H : Heap} {locs : List Loc} {ls : Array Slot} (hx : p.tables.exec = Jvm.exec) (hb : c.code = code) (hml : c.maxLocals = 8) (hown : s.vm.findClass R_law = some m.cls) (hts : ∀ w ∈ gw, w.before av s = true) (hRf : R.frames = 14) (hRl : R.locals = 594) (hRc : R.cells = 601024) (hRs : R.slots = 7293034) (hA : ∀ q, s.heap.size ≤ q → A0 q) (hX : va_X b n (ai ys) s s.heap) (hbl : b < s.heap.size) (hbA : ¬ A0 b) (hyr : ∀ j, -2147483648 ≤ ys j ∧ ys j < 2147483648) (hn : n ≤ 3072) (hi : ii + 6 ≤ n) (hCC : CC ≤ 600000) (hSS : SS ≤ 7000000) (hAd : AdOk LL ad Qm) (hMd : MdOk LL ad M) (hLI : LI cs ad Qm M f) (TAIL : ∀ (f' : Nat → va_E) (H : Heap) (locs : List Loc) (ls : Array Slot), LI cs ad Qm M f' → Wb D vwCl (TY cs) LL f' A0 s H locs → lv_has ls 8 [(4, .int (iI (ii : Int))), (3, .ref (M 4)), (2, .ref (M 0)), (1, .ref (ad 0)), (0, .ref b)] → W p l e R s m av below meth c H locs CC SS Q (F0 m 956 ls [])) (B : Wb D vwCl (TY cs) LL f A0 s H locs) (hl : lv_has ls 8 [(4, .int (iI (ii : Int))), (3, .ref (M 4)), (2, .ref (M 0)), (1, .ref (ad 0)), (0, .ref b)]) : W p l e R s m av below meth c H locs CC SS Q (F0 m 520 ls []) := by
  obtain ⟨I, A, Rf, Zf, th, cv, bl, ro, fr, Z, ov, hC, hInv, hLM, hov, hEq⟩ := hLI
  obtain ⟨rw_, fu, fb, lm, mn, sn, w8, w9, w10, w11, md, w15, hMC, hRS, hLA, hcv, hpn0, hpn12⟩ := hLM
  have hG0 := hInv.1
  have hhd := hG0.1
  have hy1 := hyr (ii + 1)
  have hy2 := hyr (ii + 2)
  have hy3 := hyr (ii + 3)
  have hy4 := hyr (ii + 4)
  have hy5 := hyr (ii + 5)
  refine lv_aload_n hx hb d_law_520 rfl (lv_at hl 3 rfl) ?_
  refine lv_aload_n hx hb d_law_521 rfl (lv_at hl 4 rfl) ?_
  refine lv_iload hx hb d_law_522 (lv_at hl 0 rfl) ?_
  refine x_iconst hx hb d_law_524 ?_
  refine x_iadd hx hb d_law_525 ?_
  refine x_sld hx hb hX hbl hbA B.2.2.2.1 (ii + 1) (by omega) (by omega) (by omega) d_law_526 ?_
  refine lv_aload_n hx hb d_law_527 rfl (lv_at hl 4 rfl) ?_
  refine lv_iload hx hb d_law_528 (lv_at hl 0 rfl) ?_
  refine x_iconst hx hb d_law_530 ?_
  refine x_iadd hx hb d_law_531 ?_
  refine x_sld hx hb hX hbl hbA B.2.2.2.1 (ii + 2) (by omega) (by omega) (by omega) d_law_532 ?_
  refine lv_aload_n hx hb d_law_533 rfl (lv_at hl 4 rfl) ?_
  refine lv_iload hx hb d_law_534 (lv_at hl 0 rfl) ?_
  refine x_iconst hx hb d_law_536 ?_
  refine x_iadd hx hb d_law_537 ?_
  refine x_sld hx hb hX hbl hbA B.2.2.2.1 (ii + 3) (by omega) (by omega) (by omega) d_law_538 ?_
  refine lv_aload_n hx hb d_law_539 rfl (lv_at hl 4 rfl) ?_
  refine lv_iload hx hb d_law_540 (lv_at hl 0 rfl) ?_
  refine x_iconst hx hb d_law_542 ?_
  refine x_iadd hx hb d_law_543 ?_
  refine x_sld hx hb hX hbl hbA B.2.2.2.1 (ii + 4) (by omega) (by omega) (by omega) d_law_544 ?_
  by_cases hk1 : 0 ≤ ys (ii + 1) ∧ ys (ii + 1) < I 0
  · obtain ⟨p0, hp0e⟩ : ∃ p0 : Nat, ys (ii + 1) = (p0 : Int) := ⟨(ys (ii + 1)).toNat, by omega⟩
    have hp0l : (p0 : Int) < I 0 := by omega
    have hp0t : p0 < 12 := by omega
    rw [hp0e]
    by_cases hk2 : 0 ≤ ys (ii + 3) ∧ ys (ii + 3) < I 0
    · obtain ⟨p1, hp1e⟩ : ∃ p1 : Nat, ys (ii + 3) = (p1 : Int) := ⟨(ys (ii + 3)).toNat, by omega⟩
      have hp1l : (p1 : Int) < I 0 := by omega
      have hp1t : p1 < 12 := by omega
      rw [hp1e]
      refine x_calli B hA (va_runV (As := [.int (iI ((p0 : Int))), .int (iI (ys (ii + 2))), .int (iI ((p1 : Int))), .int (iI (ys (ii + 4)))]) (rest := []) ⟨hx, hb, hml, hown, hts⟩ (c_RR_compare_k l D cs _ _ _ ad Qm I A Rf Zf p0 p1 (ys (ii + 2)) (ys (ii + 4)) hAd hC hInv hp0l hp1l (by omega) (by omega)) (cwV 4 hts (gw_V w_524 w_525 w_526 w_1 w_527) rfl rfl rfl (by decide +kernel) ⟨by rw [hRf]; exact Nat.le_of_ble_eq_true rfl, by rw [hRl]; exact Nat.le_of_ble_eq_true rfl⟩) ⟨K0.blind, B.recv (hAd.1 0 (by omega)) hC.x rfl, B.pre _⟩ rfl rfl hl.1 rfl (lv_room (Nat.le_of_ble_eq_true rfl)) d_law_545 ⟨by rw [hRc]; omega, by rw [hRs]; omega⟩) (fun r545 g545 H locs hw B => ?_)
      obtain ⟨I1, A1, R1, Zf1, hC1, hq1, hInv1, hsv1, hans1⟩ := hw
      have hMC1 := hMC.frame (fun k hk => hq1 _ (hMd.2.2 k hk))
      have hov1 := (hq1 _ (hMd.2.2 4 (by decide))).trans hov
      refine lv_aload_n hx hb d_law_548 rfl (lv_at hl 2 rfl) ?_
      refine lv_aload_n hx hb d_law_549 rfl (lv_at hl 4 rfl) ?_
      refine lv_iload hx hb d_law_550 (lv_at hl 0 rfl) ?_
      refine x_iconst hx hb d_law_552 ?_
      refine x_iadd hx hb d_law_553 ?_
      refine x_sld hx hb hX hbl hbA B.2.2.2.1 (ii + 1) (by omega) (by omega) (by omega) d_law_554 ?_
      refine lv_aload_n hx hb d_law_555 rfl (lv_at hl 4 rfl) ?_
      refine lv_iload hx hb d_law_556 (lv_at hl 0 rfl) ?_
      refine x_iconst hx hb d_law_558 ?_
      refine x_iadd hx hb d_law_559 ?_
      refine x_sld hx hb hX hbl hbA B.2.2.2.1 (ii + 2) (by omega) (by omega) (by omega) d_law_560 ?_
      refine lv_aload_n hx hb d_law_561 rfl (lv_at hl 4 rfl) ?_
      refine lv_iload hx hb d_law_562 (lv_at hl 0 rfl) ?_
      refine x_iconst hx hb d_law_564 ?_
      refine x_iadd hx hb d_law_565 ?_
      refine x_sld hx hb hX hbl hbA B.2.2.2.1 (ii + 3) (by omega) (by omega) (by omega) d_law_566 ?_
      refine lv_aload_n hx hb d_law_567 rfl (lv_at hl 4 rfl) ?_
      refine lv_iload hx hb d_law_568 (lv_at hl 0 rfl) ?_
      refine x_iconst hx hb d_law_570 ?_
      refine x_iadd hx hb d_law_571 ?_
      refine x_sld hx hb hX hbl hbA B.2.2.2.1 (ii + 4) (by omega) (by omega) (by omega) d_law_572 ?_
      rw [hp0e]
      rw [hp1e]
      refine x_calli B hA (va_runV (As := [.int (iI ((p0 : Int))), .int (iI (ys (ii + 2))), .int (iI ((p1 : Int))), .int (iI (ys (ii + 4)))]) (rest := [.int r545]) ⟨hx, hb, hml, hown, hts⟩ (c_Mo_compare_k l D cs _ _ _ (M 0) (M 1) (M 2) (M 3) (M 5) (M 6) (M 7) (M 8) (M 9) (M 10) (M 11) (M 12) (M 13) (M 14) th (I 0) rw_ fu fb lm mn sn Z bl w8 w9 w10 w11 ro fr cv p0 p1 (ys (ii + 2)) (ys (ii + 4)) (hMd.fc [0, 1, 2, 3, 6, 8, 9, 10, 11, 12, 13, 5] (by decide) (by decide)) hMC1.1 hMC1.2.1 hMC1.2.2.1 hMC1.2.2.2.1 hMC1.2.2.2.2.2.1 hMC1.2.2.2.2.2.2.2.1 hMC1.2.2.2.2.2.2.2.2.1 hMC1.2.2.2.2.2.2.2.2.2.1 hMC1.2.2.2.2.2.2.2.2.2.2.1 hMC1.2.2.2.2.2.2.2.2.2.2.2.1 hMC1.2.2.2.2.2.2.2.2.2.2.2.2.1 hMC1.2.2.2.2.1 hRS hp0t hcv hLA hhd hp0l hp1t hp1l (by omega) (by omega)) (cwV 4 hts (gw_V w_958 w_959 w_960 w_8 w_961) rfl rfl rfl (by decide +kernel) ⟨by rw [hRf]; exact Nat.le_of_ble_eq_true rfl, by rw [hRl]; exact Nat.le_of_ble_eq_true rfl⟩) ⟨K0.blind, B.recv (hMd.1 0 (by decide)) hMC1.1 rfl, B.pre _⟩ rfl rfl hl.1 rfl (lv_room (Nat.le_of_ble_eq_true rfl)) d_law_573 ⟨by rw [hRc]; omega, by rw [hRs]; omega⟩) (fun r573 g573 H locs hw B => ?_)
      obtain ⟨lm2, mn2, sn2, Z2, bl2, w82, w92, w102, w112, ro2, fr2, rw2, hRS2, hLA2, hst2, hans2, hg2⟩ := hw
      have hMC2 := MC.m11 hMd hMC1 hg2
      have hC2 := hC1.frame hAd (g := g573) (fun k hk => by rw [hg2]; exact hMd.ad [0, 1, 2, 3, 6, 8, 9, 10, 11, 12, 13] (by decide) rfl hk)
      have hov2 : g573 (M 4) = .inl (cs 1, 1, .inr (.inl (al ov))) := by rw [hg2]; exact (hMd.out (b := 4) (by decide) [0, 1, 2, 3, 6, 8, 9, 10, 11, 12, 13] (by decide) rfl).trans hov1
      have he : r545 = r573 := gl_compare (hG0.2.1 p0 hp0t) (hEq p0 hp0l) (hLA2.1 p0 hp0t) (hG0.2.1 p1 hp1t) (hEq p1 hp1l) (hLA2.1 p1 hp1t) hans1 hans2
      rw [← he]
      obtain ⟨vv, hvv, hvr⟩ := i32_ex r545
      rw [hvv]
      refine x_icmp_eq (tgt := 956) hx hb d_law_576 (by decide) (by omega) (by omega) (fun h576 => ?_) (fun h576 => ?_)
      · exact TAIL _ _ _ _ ⟨I1, A1, R1, Zf1, _, cv, bl2, ro2, fr2, Z2, ov, hC2, hInv1, by rw [show I1 0 = I 0 from hsv1.1]; exact ⟨_, _, _, lm2, mn2, sn2, w82, w92, w102, w112, md, w15, hMC2, hRS2, hLA2, hcv, hhd.1, hhd.2⟩, hov2, fun q hq => by rw [show I1 0 = I 0 from hsv1.1] at hq; rw [show A1 (20 + q) = A (20 + q) from hsv1.2 q (by omega)]; exact hEq q hq⟩ B (lv_sub hl [0, 1, 2, 3, 4] rfl)
      · exfalso; omega
    · refine x_calli B hA (va_runV (As := [.int (iI ((p0 : Int))), .int (iI (ys (ii + 2))), .int (iI (ys (ii + 3))), .int (iI (ys (ii + 4)))]) (rest := []) ⟨hx, hb, hml, hown, hts⟩ (c_RR_compare_t l D cs _ _ _ ad Qm I A Rf Zf p0 (ys (ii + 2)) (ys (ii + 3)) (ys (ii + 4)) hAd hC hInv hp0l (by omega) (by omega) (by omega) (by omega)) (cwV 4 hts (gw_V w_524 w_525 w_526 w_1 w_527) rfl rfl rfl (by decide +kernel) ⟨by rw [hRf]; exact Nat.le_of_ble_eq_true rfl, by rw [hRl]; exact Nat.le_of_ble_eq_true rfl⟩) ⟨K0.blind, B.recv (hAd.1 0 (by omega)) hC.x rfl, B.pre _⟩ rfl rfl hl.1 rfl (lv_room (Nat.le_of_ble_eq_true rfl)) d_law_545 ⟨by rw [hRc]; omega, by rw [hRs]; omega⟩) (fun r545 g545 H locs hw B => ?_)
      obtain ⟨I1, A1, R1, Zf1, hC1, hq1, hInv1, hsv1, hans1⟩ := hw
      have hMC1 := hMC.frame (fun k hk => hq1 _ (hMd.2.2 k hk))
      have hov1 := (hq1 _ (hMd.2.2 4 (by decide))).trans hov
      refine lv_aload_n hx hb d_law_548 rfl (lv_at hl 2 rfl) ?_
      refine lv_aload_n hx hb d_law_549 rfl (lv_at hl 4 rfl) ?_
      refine lv_iload hx hb d_law_550 (lv_at hl 0 rfl) ?_
      refine x_iconst hx hb d_law_552 ?_
      refine x_iadd hx hb d_law_553 ?_
      refine x_sld hx hb hX hbl hbA B.2.2.2.1 (ii + 1) (by omega) (by omega) (by omega) d_law_554 ?_
      refine lv_aload_n hx hb d_law_555 rfl (lv_at hl 4 rfl) ?_
      refine lv_iload hx hb d_law_556 (lv_at hl 0 rfl) ?_
      refine x_iconst hx hb d_law_558 ?_
      refine x_iadd hx hb d_law_559 ?_
      refine x_sld hx hb hX hbl hbA B.2.2.2.1 (ii + 2) (by omega) (by omega) (by omega) d_law_560 ?_
      refine lv_aload_n hx hb d_law_561 rfl (lv_at hl 4 rfl) ?_
      refine lv_iload hx hb d_law_562 (lv_at hl 0 rfl) ?_
      refine x_iconst hx hb d_law_564 ?_
      refine x_iadd hx hb d_law_565 ?_
      refine x_sld hx hb hX hbl hbA B.2.2.2.1 (ii + 3) (by omega) (by omega) (by omega) d_law_566 ?_
      refine lv_aload_n hx hb d_law_567 rfl (lv_at hl 4 rfl) ?_
      refine lv_iload hx hb d_law_568 (lv_at hl 0 rfl) ?_
      refine x_iconst hx hb d_law_570 ?_
      refine x_iadd hx hb d_law_571 ?_
      refine x_sld hx hb hX hbl hbA B.2.2.2.1 (ii + 4) (by omega) (by omega) (by omega) d_law_572 ?_
      rw [hp0e]
      refine x_calli B hA (va_runV (As := [.int (iI ((p0 : Int))), .int (iI (ys (ii + 2))), .int (iI (ys (ii + 3))), .int (iI (ys (ii + 4)))]) (rest := [.int r545]) ⟨hx, hb, hml, hown, hts⟩ (c_Mo_compare_q l D cs _ _ _ (M 0) (M 1) (M 2) (M 3) (M 5) (M 6) (M 7) (M 8) (M 9) (M 10) (M 11) (M 12) (M 13) (M 14) th (I 0) rw_ fu fb lm mn sn Z bl w8 w9 w10 w11 ro fr cv p0 (ys (ii + 2)) (ys (ii + 3)) (ys (ii + 4)) (hMd.fc [0, 1, 2, 3, 6, 8, 9, 10, 11, 12, 13, 5] (by decide) (by decide)) hMC1.1 hMC1.2.1 hMC1.2.2.1 hMC1.2.2.2.1 hMC1.2.2.2.2.2.1 hMC1.2.2.2.2.2.2.2.1 hMC1.2.2.2.2.2.2.2.2.1 hMC1.2.2.2.2.2.2.2.2.2.1 hMC1.2.2.2.2.2.2.2.2.2.2.1 hMC1.2.2.2.2.2.2.2.2.2.2.2.1 hMC1.2.2.2.2.2.2.2.2.2.2.2.2.1 hMC1.2.2.2.2.1 hRS hp0t hcv hLA hhd hp0l (by omega) (by omega) (by omega) (by omega)) (cwV 4 hts (gw_V w_958 w_959 w_960 w_8 w_961) rfl rfl rfl (by decide +kernel) ⟨by rw [hRf]; exact Nat.le_of_ble_eq_true rfl, by rw [hRl]; exact Nat.le_of_ble_eq_true rfl⟩) ⟨K0.blind, B.recv (hMd.1 0 (by decide)) hMC1.1 rfl, B.pre _⟩ rfl rfl hl.1 rfl (lv_room (Nat.le_of_ble_eq_true rfl)) d_law_573 ⟨by rw [hRc]; omega, by rw [hRs]; omega⟩) (fun r573 g573 H locs hw B => ?_)
      obtain ⟨lm2, mn2, sn2, Z2, bl2, w82, w92, w102, w112, ro2, fr2, rw2, hRS2, hLA2, hst2, hans2, hg2⟩ := hw
      have hMC2 := MC.m11 hMd hMC1 hg2
      have hC2 := hC1.frame hAd (g := g573) (fun k hk => by rw [hg2]; exact hMd.ad [0, 1, 2, 3, 6, 8, 9, 10, 11, 12, 13] (by decide) rfl hk)
      have hov2 : g573 (M 4) = .inl (cs 1, 1, .inr (.inl (al ov))) := by rw [hg2]; exact (hMd.out (b := 4) (by decide) [0, 1, 2, 3, 6, 8, 9, 10, 11, 12, 13] (by decide) rfl).trans hov1
      have he : r545 = r573 := hans1.trans hans2.symm
      rw [← he]
      obtain ⟨vv, hvv, hvr⟩ := i32_ex r545
      rw [hvv]
      refine x_icmp_eq (tgt := 956) hx hb d_law_576 (by decide) (by omega) (by omega) (fun h576 => ?_) (fun h576 => ?_)
      · exact TAIL _ _ _ _ ⟨I1, A1, R1, Zf1, _, cv, bl2, ro2, fr2, Z2, ov, hC2, hInv1, by rw [show I1 0 = I 0 from hsv1.1]; exact ⟨_, _, _, lm2, mn2, sn2, w82, w92, w102, w112, md, w15, hMC2, hRS2, hLA2, hcv, hhd.1, hhd.2⟩, hov2, fun q hq => by rw [show I1 0 = I 0 from hsv1.1] at hq; rw [show A1 (20 + q) = A (20 + q) from hsv1.2 q (by omega)]; exact hEq q hq⟩ B (lv_sub hl [0, 1, 2, 3, 4] rfl)
      · exfalso; omega
  · refine x_calli B hA (va_runV (As := [.int (iI (ys (ii + 1))), .int (iI (ys (ii + 2))), .int (iI (ys (ii + 3))), .int (iI (ys (ii + 4)))]) (rest := []) ⟨hx, hb, hml, hown, hts⟩ (c_RR_compare_u l D cs _ _ _ (ad 0) (ad 1) (ad 2) (ad 5) (ad 7) (ad 8) (ad 9) (ad 10) (ad 11) (ad 12) (ad 13) (ad 14) (I 0) (I 1) (I 2) (ys (ii + 1)) (ys (ii + 2)) (ys (ii + 3)) (ys (ii + 4)) (hAd.f1 (by omega)) hC.x hhd (by omega) (by omega) (by omega) (by omega) (by omega)) (cwV 4 hts (gw_V w_524 w_525 w_526 w_1 w_527) rfl rfl rfl (by decide +kernel) ⟨by rw [hRf]; exact Nat.le_of_ble_eq_true rfl, by rw [hRl]; exact Nat.le_of_ble_eq_true rfl⟩) ⟨K0.blind, B.recv (hAd.1 0 (by omega)) hC.x rfl, B.pre _⟩ rfl rfl hl.1 rfl (lv_room (Nat.le_of_ble_eq_true rfl)) d_law_545 ⟨by rw [hRc]; omega, by rw [hRs]; omega⟩) (fun r545 g545 H locs hw B => ?_)
    obtain ⟨hr1, hgf⟩ := hw
    rw [hgf] at B
    have hC1 := hC
    have hMC1 := hMC
    have hov1 := hov
    have hInv1 := hInv
    have hsv1 : SameV I A I A := ⟨rfl, fun _ _ => rfl⟩
    refine lv_aload_n hx hb d_law_548 rfl (lv_at hl 2 rfl) ?_
    refine lv_aload_n hx hb d_law_549 rfl (lv_at hl 4 rfl) ?_
    refine lv_iload hx hb d_law_550 (lv_at hl 0 rfl) ?_
    refine x_iconst hx hb d_law_552 ?_
    refine x_iadd hx hb d_law_553 ?_
    refine x_sld hx hb hX hbl hbA B.2.2.2.1 (ii + 1) (by omega) (by omega) (by omega) d_law_554 ?_
    refine lv_aload_n hx hb d_law_555 rfl (lv_at hl 4 rfl) ?_
    refine lv_iload hx hb d_law_556 (lv_at hl 0 rfl) ?_
    refine x_iconst hx hb d_law_558 ?_
    refine x_iadd hx hb d_law_559 ?_
    refine x_sld hx hb hX hbl hbA B.2.2.2.1 (ii + 2) (by omega) (by omega) (by omega) d_law_560 ?_
    refine lv_aload_n hx hb d_law_561 rfl (lv_at hl 4 rfl) ?_
    refine lv_iload hx hb d_law_562 (lv_at hl 0 rfl) ?_
    refine x_iconst hx hb d_law_564 ?_
    refine x_iadd hx hb d_law_565 ?_
    refine x_sld hx hb hX hbl hbA B.2.2.2.1 (ii + 3) (by omega) (by omega) (by omega) d_law_566 ?_
    refine lv_aload_n hx hb d_law_567 rfl (lv_at hl 4 rfl) ?_
    refine lv_iload hx hb d_law_568 (lv_at hl 0 rfl) ?_
    refine x_iconst hx hb d_law_570 ?_
    refine x_iadd hx hb d_law_571 ?_
    refine x_sld hx hb hX hbl hbA B.2.2.2.1 (ii + 4) (by omega) (by omega) (by omega) d_law_572 ?_
    refine x_calli B hA (va_runV (As := [.int (iI (ys (ii + 1))), .int (iI (ys (ii + 2))), .int (iI (ys (ii + 3))), .int (iI (ys (ii + 4)))]) (rest := [.int r545]) ⟨hx, hb, hml, hown, hts⟩ (c_Mo_compare_u l D cs _ _ _ (M 0) (M 1) (M 2) (M 3) (M 5) (M 6) (M 7) (M 8) (M 9) (M 10) (M 11) (M 12) (M 13) (M 14) th (I 0) rw_ fu fb (ys (ii + 1)) (ys (ii + 2)) (ys (ii + 3)) (ys (ii + 4)) (hMd.fc [0] (by decide) (by decide)) hMC1.1 hhd (by omega) (by omega) (by omega) (by omega) (by omega)) (cwV 4 hts (gw_V w_958 w_959 w_960 w_8 w_961) rfl rfl rfl (by decide +kernel) ⟨by rw [hRf]; exact Nat.le_of_ble_eq_true rfl, by rw [hRl]; exact Nat.le_of_ble_eq_true rfl⟩) ⟨K0.blind, B.recv (hMd.1 0 (by decide)) hMC1.1 rfl, B.pre _⟩ rfl rfl hl.1 rfl (lv_room (Nat.le_of_ble_eq_true rfl)) d_law_573 ⟨by rw [hRc]; omega, by rw [hRs]; omega⟩) (fun r573 g573 H locs hw B => ?_)
    obtain ⟨hr2, hg2⟩ := hw
    have hMC2 := MC.m1 hMd hMC1 hg2
    have hC2 := hC1.frame hAd (g := g573) (fun k hk => by rw [hg2]; exact hMd.ad [0] (by decide) rfl hk)
    have hov2 : g573 (M 4) = .inl (cs 1, 1, .inr (.inl (al ov))) := by rw [hg2]; exact (hMd.out (b := 4) (by decide) [0] (by decide) rfl).trans hov1
    have he : r545 = r573 := hr1.trans hr2.symm
    rw [← he]
    obtain ⟨vv, hvv, hvr⟩ := i32_ex r545
    rw [hvv]
    refine x_icmp_eq (tgt := 956) hx hb d_law_576 (by decide) (by omega) (by omega) (fun h576 => ?_) (fun h576 => ?_)
    · exact TAIL _ _ _ _ ⟨I, A, Rf, Zf, _, cv, bl, ro, fr, Z, ov, hC2, hInv1, by rw [show I 0 = I 0 from hsv1.1]; exact ⟨_, _, _, lm, mn, sn, w8, w9, w10, w11, md, w15, hMC2, hRS, hLA, hcv, hhd.1, hhd.2⟩, hov2, fun q hq => by rw [show I 0 = I 0 from hsv1.1] at hq; rw [show A (20 + q) = A (20 + q) from hsv1.2 q (by omega)]; exact hEq q hq⟩ B (lv_sub hl [0, 1, 2, 3, 4] rfl)
    · exfalso; omega
