set_option maxHeartbeats 8000000 in
set_option maxRecDepth 100000 in
theorem law_case_3 {p : Program} {l : Launch} {e : Env} {s : State} {m : MethodId} {below : List Frame} {meth : Method} {c : Code} {R : Room} {av : Array Value} {Q : State → Prop} {ad Qm M : Nat → Nat} {ys : Nat → Int} {b n ii CC SS : Nat} {A0 : Nat → Prop} {D : va_G} {cs : Nat → ClassId} {LL : List Nat} {f : Nat → va_E} {H : Heap} {locs : List Loc} {ls : Array Slot} (hx : p.tables.exec = Jvm.exec) (hb : c.code = code) (hml : c.maxLocals = 8) (hown : s.vm.findClass R_law = some m.cls) (hts : ∀ w ∈ gw, w.before av s = true) (hRf : R.frames = 14) (hRl : R.locals = 594) (hRc : R.cells = 601024) (hRs : R.slots = 7293034) (hA : ∀ q, s.heap.size ≤ q → A0 q) (hX : va_X b n (ai ys) s s.heap) (hbl : b < s.heap.size) (hbA : ¬ A0 b) (hyr : ∀ j, -2147483648 ≤ ys j ∧ ys j < 2147483648) (hn : n ≤ 3072) (hi : ii + 6 ≤ n) (hCC : CC ≤ 600000) (hSS : SS ≤ 7000000) (hAd : AdOk LL ad Qm) (hMd : MdOk LL ad M) (hLI : LI cs ad Qm M f) (TAIL : ∀ (f' : Nat → va_E) (H : Heap) (locs : List Loc) (ls : Array Slot), LI cs ad Qm M f' → Wb D vwCl (TY cs) LL f' A0 s H locs → lv_has ls 8 [(4, .int (iI (ii : Int))), (3, .ref (M 4)), (2, .ref (M 0)), (1, .ref (ad 0)), (0, .ref b)] → W p l e R s m av below meth c H locs CC SS Q (F0 m 956 ls [])) (B : Wb D vwCl (TY cs) LL f A0 s H locs) (hl : lv_has ls 8 [(4, .int (iI (ii : Int))), (3, .ref (M 4)), (2, .ref (M 0)), (1, .ref (ad 0)), (0, .ref b)]) : W p l e R s m av below meth c H locs CC SS Q (F0 m 235 ls []) := by
  obtain ⟨I, A, Rf, Zf, th, cv, bl, ro, fr, Z, ov, hC, hInv, hLM, hov, hEq⟩ := hLI
  obtain ⟨rw_, fu, fb, lm, mn, sn, w8, w9, w10, w11, md, w15, hMC, hRS, hLA, hcv, hpn0, hpn12⟩ := hLM
  have hG0 := hInv.1
  have hhd := hG0.1
  have hy1 := hyr (ii + 1)
  have hy2 := hyr (ii + 2)
  have hy3 := hyr (ii + 3)
  have hy4 := hyr (ii + 4)
  have hy5 := hyr (ii + 5)
  refine lv_aload_n hx hb d_law_235 rfl (lv_at hl 3 rfl) ?_
  refine lv_aload_n hx hb d_law_236 rfl (lv_at hl 4 rfl) ?_
  refine lv_iload hx hb d_law_237 (lv_at hl 0 rfl) ?_
  refine x_iconst hx hb d_law_239 ?_
  refine x_iadd hx hb d_law_240 ?_
  refine x_sld hx hb hX hbl hbA B.2.2.2.1 (ii + 1) (by omega) (by omega) (by omega) d_law_241 ?_
  refine lv_aload_n hx hb d_law_242 rfl (lv_at hl 4 rfl) ?_
  refine lv_iload hx hb d_law_243 (lv_at hl 0 rfl) ?_
  refine x_iconst hx hb d_law_245 ?_
  refine x_iadd hx hb d_law_246 ?_
  refine x_sld hx hb hX hbl hbA B.2.2.2.1 (ii + 2) (by omega) (by omega) (by omega) d_law_247 ?_
  refine lv_aload_n hx hb d_law_248 rfl (lv_at hl 4 rfl) ?_
  refine lv_iload hx hb d_law_249 (lv_at hl 0 rfl) ?_
  refine x_iconst hx hb d_law_251 ?_
  refine x_iadd hx hb d_law_252 ?_
  refine x_sld hx hb hX hbl hbA B.2.2.2.1 (ii + 3) (by omega) (by omega) (by omega) d_law_253 ?_
  by_cases hk1 : 0 ≤ ys (ii + 2) ∧ ys (ii + 2) < I 0
  · obtain ⟨p0, hp0e⟩ : ∃ p0 : Nat, ys (ii + 2) = (p0 : Int) := ⟨(ys (ii + 2)).toNat, by omega⟩
    have hp0l : (p0 : Int) < I 0 := by omega
    have hp0t : p0 < 12 := by omega
    rw [hp0e]
    rcases (show (ys (ii + 1) < 0 ∨ 9 < ys (ii + 1)) ∨ ys (ii + 1) = 0 ∨ ys (ii + 1) = 1 ∨ ys (ii + 1) = 2 ∨ ys (ii + 1) = 3 ∨ ys (ii + 1) = 4 ∨ ys (ii + 1) = 5 ∨ ys (ii + 1) = 6 ∨ ys (ii + 1) = 7 ∨ ys (ii + 1) = 8 ∨ ys (ii + 1) = 9 by omega) with hkd | hkd | hkd | hkd | hkd | hkd | hkd | hkd | hkd | hkd | hkd
    · refine x_calli B hA (va_runV (As := [.int (iI (ys (ii + 1))), .int (iI ((p0 : Int))), .int (iI (ys (ii + 3)))]) (rest := []) ⟨hx, hb, hml, hown, hts⟩ (c_RR_make_n l D cs _ _ _ ad Qm I A Rf Zf p0 (ys (ii + 3)) (ys (ii + 1)) hAd hC hInv hp0l (by omega) (by omega) (by omega)) (cwV 3 hts (gw_V w_269 w_270 w_271 w_1 w_272) rfl rfl rfl (by decide +kernel) ⟨by rw [hRf]; exact Nat.le_of_ble_eq_true rfl, by rw [hRl]; exact Nat.le_of_ble_eq_true rfl⟩) ⟨K0.blind, B.recv (hAd.1 0 (by omega)) hC.x rfl, B.pre _⟩ rfl rfl hl.1 rfl (lv_room (Nat.le_of_ble_eq_true rfl)) d_law_254 ⟨by rw [hRc]; omega, by rw [hRs]; omega⟩) (fun r254 g254 H locs hw B => ?_)
      obtain ⟨I1, A1, R1, Zf1, hC1, hq1, hInv1, hsv1, hans1⟩ := hw
      have hMC1 := hMC.frame (fun k hk => hq1 _ (hMd.2.2 k hk))
      have hov1 := (hq1 _ (hMd.2.2 4 (by decide))).trans hov
      refine lv_aload_n hx hb d_law_257 rfl (lv_at hl 2 rfl) ?_
      refine lv_aload_n hx hb d_law_258 rfl (lv_at hl 4 rfl) ?_
      refine lv_iload hx hb d_law_259 (lv_at hl 0 rfl) ?_
      refine x_iconst hx hb d_law_261 ?_
      refine x_iadd hx hb d_law_262 ?_
      refine x_sld hx hb hX hbl hbA B.2.2.2.1 (ii + 1) (by omega) (by omega) (by omega) d_law_263 ?_
      refine lv_aload_n hx hb d_law_264 rfl (lv_at hl 4 rfl) ?_
      refine lv_iload hx hb d_law_265 (lv_at hl 0 rfl) ?_
      refine x_iconst hx hb d_law_267 ?_
      refine x_iadd hx hb d_law_268 ?_
      refine x_sld hx hb hX hbl hbA B.2.2.2.1 (ii + 2) (by omega) (by omega) (by omega) d_law_269 ?_
      refine lv_aload_n hx hb d_law_270 rfl (lv_at hl 4 rfl) ?_
      refine lv_iload hx hb d_law_271 (lv_at hl 0 rfl) ?_
      refine x_iconst hx hb d_law_273 ?_
      refine x_iadd hx hb d_law_274 ?_
      refine x_sld hx hb hX hbl hbA B.2.2.2.1 (ii + 3) (by omega) (by omega) (by omega) d_law_275 ?_
      rw [hp0e]
      refine x_calli B hA (va_runV (As := [.int (iI (ys (ii + 1))), .int (iI ((p0 : Int))), .int (iI (ys (ii + 3)))]) (rest := [.int r254]) ⟨hx, hb, hml, hown, hts⟩ (c_Mo_make_n l D cs _ _ _ (M 0) (M 1) (M 2) (M 3) (M 5) (M 6) (M 7) (M 8) (M 9) (M 10) (M 11) (M 12) (M 13) (M 14) th (I 0) rw_ fu fb cv p0 (ys (ii + 1)) (ys (ii + 3)) (hMd.fc [0, 5] (by decide) (by decide)) hMC1.1 hMC1.2.2.2.2.1 hp0t hcv hhd hp0l (by omega) (by omega) (by omega)) (cwV 3 hts (gw_V w_771 w_772 w_773 w_8 w_774) rfl rfl rfl (by decide +kernel) ⟨by rw [hRf]; exact Nat.le_of_ble_eq_true rfl, by rw [hRl]; exact Nat.le_of_ble_eq_true rfl⟩) ⟨K0.blind, B.recv (hMd.1 0 (by decide)) hMC1.1 rfl, B.pre _⟩ rfl rfl hl.1 rfl (lv_room (Nat.le_of_ble_eq_true rfl)) d_law_276 ⟨by rw [hRc]; omega, by rw [hRs]; omega⟩) (fun r276 g276 H locs hw B => ?_)
      obtain ⟨hr2, hg2⟩ := hw
      have hMC2 := MC.m1 hMd hMC1 hg2
      have hC2 := hC1.frame hAd (g := g276) (fun k hk => by rw [hg2]; exact hMd.ad [0] (by decide) rfl hk)
      have hov2 : g276 (M 4) = .inl (cs 1, 1, .inr (.inl (al ov))) := by rw [hg2]; exact (hMd.out (b := 4) (by decide) [0] (by decide) rfl).trans hov1
      have he : r254 = r276 := hans1.trans hr2.symm
      rw [← he]
      obtain ⟨vv, hvv, hvr⟩ := i32_ex r254
      rw [hvv]
      refine x_icmp_eq (tgt := 956) hx hb d_law_279 (by decide) (by omega) (by omega) (fun h279 => ?_) (fun h279 => ?_)
      · exact TAIL _ _ _ _ ⟨I1, A1, R1, Zf1, _, cv, bl, ro, fr, Z, ov, hC2, hInv1, by rw [show I1 0 = I 0 from hsv1.1]; exact ⟨_, _, _, lm, mn, sn, w8, w9, w10, w11, md, w15, hMC2, hRS, hLA, hcv, hhd.1, hhd.2⟩, hov2, fun q hq => by rw [show I1 0 = I 0 from hsv1.1] at hq; rw [show A1 (20 + q) = A (20 + q) from hsv1.2 q (by omega)]; exact hEq q hq⟩ B (lv_sub hl [0, 1, 2, 3, 4] rfl)
      · exfalso; omega
    · rw [hkd]
      by_cases hk2 : 0 ≤ ys (ii + 3) ∧ ys (ii + 3) < I 0
      · obtain ⟨p1, hp1e⟩ : ∃ p1 : Nat, ys (ii + 3) = (p1 : Int) := ⟨(ys (ii + 3)).toNat, by omega⟩
        have hp1l : (p1 : Int) < I 0 := by omega
        have hp1t : p1 < 12 := by omega
        rw [hp1e]
        refine x_calli B hA (va_runV (As := [.int (iI 0), .int (iI ((p0 : Int))), .int (iI ((p1 : Int)))]) (rest := []) ⟨hx, hb, hml, hown, hts⟩ (c_RR_make_0 l D cs _ _ _ ad Qm I A Rf Zf p0 p1 hAd hC hInv hp0l hp1l) (cwV 3 hts (gw_V w_269 w_270 w_271 w_1 w_272) rfl rfl rfl (by decide +kernel) ⟨by rw [hRf]; exact Nat.le_of_ble_eq_true rfl, by rw [hRl]; exact Nat.le_of_ble_eq_true rfl⟩) ⟨K0.blind, B.recv (hAd.1 0 (by omega)) hC.x rfl, B.pre _⟩ rfl rfl hl.1 rfl (lv_room (Nat.le_of_ble_eq_true rfl)) d_law_254 ⟨by rw [hRc]; omega, by rw [hRs]; omega⟩) (fun r254 g254 H locs hw B => ?_)
        obtain ⟨I1, A1, R1, Zf1, hC1, hq1, W, hW, hpp⟩ := hw
        have hMC1 := hMC.frame (fun k hk => hq1 _ (hMd.2.2 k hk))
        have hov1 := (hq1 _ (hMd.2.2 4 (by decide))).trans hov
        refine lv_aload_n hx hb d_law_257 rfl (lv_at hl 2 rfl) ?_
        refine lv_aload_n hx hb d_law_258 rfl (lv_at hl 4 rfl) ?_
        refine lv_iload hx hb d_law_259 (lv_at hl 0 rfl) ?_
        refine x_iconst hx hb d_law_261 ?_
        refine x_iadd hx hb d_law_262 ?_
        refine x_sld hx hb hX hbl hbA B.2.2.2.1 (ii + 1) (by omega) (by omega) (by omega) d_law_263 ?_
        refine lv_aload_n hx hb d_law_264 rfl (lv_at hl 4 rfl) ?_
        refine lv_iload hx hb d_law_265 (lv_at hl 0 rfl) ?_
        refine x_iconst hx hb d_law_267 ?_
        refine x_iadd hx hb d_law_268 ?_
        refine x_sld hx hb hX hbl hbA B.2.2.2.1 (ii + 2) (by omega) (by omega) (by omega) d_law_269 ?_
        refine lv_aload_n hx hb d_law_270 rfl (lv_at hl 4 rfl) ?_
        refine lv_iload hx hb d_law_271 (lv_at hl 0 rfl) ?_
        refine x_iconst hx hb d_law_273 ?_
        refine x_iadd hx hb d_law_274 ?_
        refine x_sld hx hb hX hbl hbA B.2.2.2.1 (ii + 3) (by omega) (by omega) (by omega) d_law_275 ?_
        rw [hkd]
        rw [hp0e]
        rw [hp1e]
        obtain ⟨np, hnp⟩ : ∃ np : Nat, I 0 = (np : Int) := ⟨(I 0).toNat, by omega⟩
        refine x_calli B hA (va_runV (As := [.int (iI 0), .int (iI ((p0 : Int))), .int (iI ((p1 : Int)))]) (rest := [.int r254]) ⟨hx, hb, hml, hown, hts⟩ (c_Mo_make_0 l D cs _ _ _ (M 0) (M 1) (M 2) (M 3) (M 5) (M 6) (M 7) (M 8) (M 9) (M 10) (M 11) (M 12) (M 13) (M 14) th (I 0) rw_ fu fb lm mn sn Z bl w8 w9 w10 w11 ro fr cv p0 md np p1 (hMd.fc [0, 1, 2, 3, 6, 8, 9, 10, 11, 12, 13, 7, 5] (by decide) (by decide)) hMC1.1 hMC1.2.1 hMC1.2.2.1 hMC1.2.2.2.1 hMC1.2.2.2.2.2.1 hMC1.2.2.2.2.2.2.2.1 hMC1.2.2.2.2.2.2.2.2.1 hMC1.2.2.2.2.2.2.2.2.2.1 hMC1.2.2.2.2.2.2.2.2.2.2.1 hMC1.2.2.2.2.2.2.2.2.2.2.2.1 hMC1.2.2.2.2.2.2.2.2.2.2.2.2.1 hMC1.2.2.2.2.1 hMC1.2.2.2.2.2.2.1 hRS hp0t hcv hLA hhd hp0l hnp hp1t hp1l) (cwV 3 hts (gw_V w_771 w_772 w_773 w_8 w_774) rfl rfl rfl (by decide +kernel) ⟨by rw [hRf]; exact Nat.le_of_ble_eq_true rfl, by rw [hRl]; exact Nat.le_of_ble_eq_true rfl⟩) ⟨K0.blind, B.recv (hMd.1 0 (by decide)) hMC1.1 rfl, B.pre _⟩ rfl rfl hl.1 rfl (lv_room (Nat.le_of_ble_eq_true rfl)) d_law_276 ⟨by rw [hRc]; omega, by rw [hRs]; omega⟩) (fun r276 g276 H locs hw B => ?_)
        obtain ⟨lm2, mn2, sn2, Z2, bl2, w82, w92, w102, w112, md2, cv2, pn2, hRS2, hLA2, hcv2, ⟨q, hMk, hq2⟩, hg2⟩ := hw
        have hMC2 := MC.m13 hMd hMC1 hg2
        have hC2 := hC1.frame hAd (g := g276) (fun k hk => by rw [hg2]; exact hMd.ad [0, 1, 2, 3, 6, 8, 9, 10, 11, 12, 13, 7, 5] (by decide) rfl hk)
        have hov2 : g276 (M 4) = .inl (cs 1, 1, .inr (.inl (al ov))) := by rw [hg2]; exact (hMd.out (b := 4) (by decide) [0, 1, 2, 3, 6, 8, 9, 10, 11, 12, 13, 7, 5] (by decide) rfl).trans hov1
        have hqW : ∀ j, j < 12 → q j = W j := mk_0 (hEq p0 hp0l) (hEq p1 hp1l) hW hMk
        have hiff := mk_ok hqW
        clear hMk hW hg2
        rcases hpp with ⟨⟨hfb, hr1⟩, hInv1, hsv1⟩ | ⟨⟨hlt, hok⟩, hr1, hInv1, hI0, hrow, hoth⟩
        · rcases hq2 with ⟨hfb2, hr2, hpn2, hcv2e⟩ | ⟨hnb, hlt2, hr2, hpn2, hc1, hc2⟩
          · have he : r254 = r276 := hr1.trans hr2.symm
            rw [← he]
            obtain ⟨vv, hvv, hvr⟩ := i32_ex r254
            rw [hvv]
            refine x_icmp_eq (tgt := 956) hx hb d_law_279 (by decide) (by omega) (by omega) (fun h279 => ?_) (fun h279 => ?_)
            · exact TAIL _ _ _ _ ⟨I1, A1, R1, Zf1, _, cv2, bl2, ro, fr, Z2, ov, hC2, hInv1, by rw [show I1 0 = pn2 from hsv1.1.trans hpn2.symm]; exact ⟨_, _, _, lm2, mn2, sn2, w82, w92, w102, w112, md2, w15, hMC2, hRS2, hLA2, hcv2, by omega, by omega⟩, hov2, fun q hq => by rw [hcv2e]; rw [show I1 0 = I 0 from hsv1.1] at hq; rw [show A1 (20 + q) = A (20 + q) from hsv1.2 q (by omega)]; exact hEq q hq⟩ B (lv_sub hl [0, 1, 2, 3, 4] rfl)
            · exfalso; omega
          · exact absurd (hiff.mpr (hfb.resolve_left (by omega))) hnb
        · rcases hq2 with ⟨hfb2, hr2, hpn2, hcv2e⟩ | ⟨hnb, hlt2, hr2, hpn2, hc1, hc2⟩
          · exact absurd (hiff.mp (hfb2.resolve_right (by omega))) (fun ⟨j, hj, hjn⟩ => hjn (hok j hj))
          · have hI0n : (I 0).toNat = np := by omega
            rw [hI0n] at hrow hoth
            have he : r254 = r276 := by rw [hr1, hr2, hnp]
            rw [← he]
            obtain ⟨vv, hvv, hvr⟩ := i32_ex r254
            rw [hvv]
            refine x_icmp_eq (tgt := 956) hx hb d_law_279 (by decide) (by omega) (by omega) (fun h279 => ?_) (fun h279 => ?_)
            · exact TAIL _ _ _ _ ⟨I1, A1, R1, Zf1, _, cv2, bl2, ro, fr, Z2, ov, hC2, hInv1, by rw [show I1 0 = pn2 from hI0.trans hpn2.symm]; exact ⟨_, _, _, lm2, mn2, sn2, w82, w92, w102, w112, md2, w15, hMC2, hRS2, hLA2, hcv2, by omega, by omega⟩, hov2, eq_grow (W := W) hnp hlt2 hI0 hrow hoth (fun j hj => (hc1 j hj).trans (hqW j (by omega))) hc2 hEq⟩ B (lv_sub hl [0, 1, 2, 3, 4] rfl)
            · exfalso; omega
      · refine x_calli B hA (va_runV (As := [.int (iI 0), .int (iI ((p0 : Int))), .int (iI (ys (ii + 3)))]) (rest := []) ⟨hx, hb, hml, hown, hts⟩ (c_RR_make_u0 l D cs _ _ _ ad Qm I A Rf Zf p0 (ys (ii + 3)) hAd hC hInv hp0l (by omega) (by omega)) (cwV 3 hts (gw_V w_269 w_270 w_271 w_1 w_272) rfl rfl rfl (by decide +kernel) ⟨by rw [hRf]; exact Nat.le_of_ble_eq_true rfl, by rw [hRl]; exact Nat.le_of_ble_eq_true rfl⟩) ⟨K0.blind, B.recv (hAd.1 0 (by omega)) hC.x rfl, B.pre _⟩ rfl rfl hl.1 rfl (lv_room (Nat.le_of_ble_eq_true rfl)) d_law_254 ⟨by rw [hRc]; omega, by rw [hRs]; omega⟩) (fun r254 g254 H locs hw B => ?_)
        obtain ⟨I1, A1, R1, Zf1, hC1, hq1, hInv1, hsv1, hans1⟩ := hw
        have hMC1 := hMC.frame (fun k hk => hq1 _ (hMd.2.2 k hk))
        have hov1 := (hq1 _ (hMd.2.2 4 (by decide))).trans hov
        refine lv_aload_n hx hb d_law_257 rfl (lv_at hl 2 rfl) ?_
        refine lv_aload_n hx hb d_law_258 rfl (lv_at hl 4 rfl) ?_
        refine lv_iload hx hb d_law_259 (lv_at hl 0 rfl) ?_
        refine x_iconst hx hb d_law_261 ?_
        refine x_iadd hx hb d_law_262 ?_
        refine x_sld hx hb hX hbl hbA B.2.2.2.1 (ii + 1) (by omega) (by omega) (by omega) d_law_263 ?_
        refine lv_aload_n hx hb d_law_264 rfl (lv_at hl 4 rfl) ?_
        refine lv_iload hx hb d_law_265 (lv_at hl 0 rfl) ?_
        refine x_iconst hx hb d_law_267 ?_
        refine x_iadd hx hb d_law_268 ?_
        refine x_sld hx hb hX hbl hbA B.2.2.2.1 (ii + 2) (by omega) (by omega) (by omega) d_law_269 ?_
        refine lv_aload_n hx hb d_law_270 rfl (lv_at hl 4 rfl) ?_
        refine lv_iload hx hb d_law_271 (lv_at hl 0 rfl) ?_
        refine x_iconst hx hb d_law_273 ?_
        refine x_iadd hx hb d_law_274 ?_
        refine x_sld hx hb hX hbl hbA B.2.2.2.1 (ii + 3) (by omega) (by omega) (by omega) d_law_275 ?_
        rw [hkd]
        rw [hp0e]
        refine x_calli B hA (va_runV (As := [.int (iI 0), .int (iI ((p0 : Int))), .int (iI (ys (ii + 3)))]) (rest := [.int r254]) ⟨hx, hb, hml, hown, hts⟩ (c_Mo_make_u0 l D cs _ _ _ (M 0) (M 1) (M 2) (M 3) (M 5) (M 6) (M 7) (M 8) (M 9) (M 10) (M 11) (M 12) (M 13) (M 14) th (I 0) rw_ fu fb cv p0 (ys (ii + 3)) (hMd.fc [0, 5] (by decide) (by decide)) hMC1.1 hMC1.2.2.2.2.1 hp0t hcv hhd hp0l (by omega) (by omega)) (cwV 3 hts (gw_V w_771 w_772 w_773 w_8 w_774) rfl rfl rfl (by decide +kernel) ⟨by rw [hRf]; exact Nat.le_of_ble_eq_true rfl, by rw [hRl]; exact Nat.le_of_ble_eq_true rfl⟩) ⟨K0.blind, B.recv (hMd.1 0 (by decide)) hMC1.1 rfl, B.pre _⟩ rfl rfl hl.1 rfl (lv_room (Nat.le_of_ble_eq_true rfl)) d_law_276 ⟨by rw [hRc]; omega, by rw [hRs]; omega⟩) (fun r276 g276 H locs hw B => ?_)
        obtain ⟨hr2, hg2⟩ := hw
        have hMC2 := MC.m1 hMd hMC1 hg2
        have hC2 := hC1.frame hAd (g := g276) (fun k hk => by rw [hg2]; exact hMd.ad [0] (by decide) rfl hk)
        have hov2 : g276 (M 4) = .inl (cs 1, 1, .inr (.inl (al ov))) := by rw [hg2]; exact (hMd.out (b := 4) (by decide) [0] (by decide) rfl).trans hov1
        have he : r254 = r276 := hans1.trans hr2.symm
        rw [← he]
        obtain ⟨vv, hvv, hvr⟩ := i32_ex r254
        rw [hvv]
        refine x_icmp_eq (tgt := 956) hx hb d_law_279 (by decide) (by omega) (by omega) (fun h279 => ?_) (fun h279 => ?_)
        · exact TAIL _ _ _ _ ⟨I1, A1, R1, Zf1, _, cv, bl, ro, fr, Z, ov, hC2, hInv1, by rw [show I1 0 = I 0 from hsv1.1]; exact ⟨_, _, _, lm, mn, sn, w8, w9, w10, w11, md, w15, hMC2, hRS, hLA, hcv, hhd.1, hhd.2⟩, hov2, fun q hq => by rw [show I1 0 = I 0 from hsv1.1] at hq; rw [show A1 (20 + q) = A (20 + q) from hsv1.2 q (by omega)]; exact hEq q hq⟩ B (lv_sub hl [0, 1, 2, 3, 4] rfl)
        · exfalso; omega
    · rw [hkd]
      by_cases hk2 : 0 ≤ ys (ii + 3) ∧ ys (ii + 3) < I 0
      · obtain ⟨p1, hp1e⟩ : ∃ p1 : Nat, ys (ii + 3) = (p1 : Int) := ⟨(ys (ii + 3)).toNat, by omega⟩
        have hp1l : (p1 : Int) < I 0 := by omega
        have hp1t : p1 < 12 := by omega
        rw [hp1e]
        refine x_calli B hA (va_runV (As := [.int (iI 1), .int (iI ((p0 : Int))), .int (iI ((p1 : Int)))]) (rest := []) ⟨hx, hb, hml, hown, hts⟩ (c_RR_make_1 l D cs _ _ _ ad Qm I A Rf Zf p0 p1 hAd hC hInv hp0l hp1l) (cwV 3 hts (gw_V w_269 w_270 w_271 w_1 w_272) rfl rfl rfl (by decide +kernel) ⟨by rw [hRf]; exact Nat.le_of_ble_eq_true rfl, by rw [hRl]; exact Nat.le_of_ble_eq_true rfl⟩) ⟨K0.blind, B.recv (hAd.1 0 (by omega)) hC.x rfl, B.pre _⟩ rfl rfl hl.1 rfl (lv_room (Nat.le_of_ble_eq_true rfl)) d_law_254 ⟨by rw [hRc]; omega, by rw [hRs]; omega⟩) (fun r254 g254 H locs hw B => ?_)
        obtain ⟨I1, A1, R1, Zf1, hC1, hq1, W, hW, hpp⟩ := hw
        have hMC1 := hMC.frame (fun k hk => hq1 _ (hMd.2.2 k hk))
        have hov1 := (hq1 _ (hMd.2.2 4 (by decide))).trans hov
        refine lv_aload_n hx hb d_law_257 rfl (lv_at hl 2 rfl) ?_
        refine lv_aload_n hx hb d_law_258 rfl (lv_at hl 4 rfl) ?_
        refine lv_iload hx hb d_law_259 (lv_at hl 0 rfl) ?_
        refine x_iconst hx hb d_law_261 ?_
        refine x_iadd hx hb d_law_262 ?_
        refine x_sld hx hb hX hbl hbA B.2.2.2.1 (ii + 1) (by omega) (by omega) (by omega) d_law_263 ?_
        refine lv_aload_n hx hb d_law_264 rfl (lv_at hl 4 rfl) ?_
        refine lv_iload hx hb d_law_265 (lv_at hl 0 rfl) ?_
        refine x_iconst hx hb d_law_267 ?_
        refine x_iadd hx hb d_law_268 ?_
        refine x_sld hx hb hX hbl hbA B.2.2.2.1 (ii + 2) (by omega) (by omega) (by omega) d_law_269 ?_
        refine lv_aload_n hx hb d_law_270 rfl (lv_at hl 4 rfl) ?_
        refine lv_iload hx hb d_law_271 (lv_at hl 0 rfl) ?_
        refine x_iconst hx hb d_law_273 ?_
        refine x_iadd hx hb d_law_274 ?_
        refine x_sld hx hb hX hbl hbA B.2.2.2.1 (ii + 3) (by omega) (by omega) (by omega) d_law_275 ?_
        rw [hkd]
        rw [hp0e]
        rw [hp1e]
        obtain ⟨np, hnp⟩ : ∃ np : Nat, I 0 = (np : Int) := ⟨(I 0).toNat, by omega⟩
        refine x_calli B hA (va_runV (As := [.int (iI 1), .int (iI ((p0 : Int))), .int (iI ((p1 : Int)))]) (rest := [.int r254]) ⟨hx, hb, hml, hown, hts⟩ (c_Mo_make_1 l D cs _ _ _ (M 0) (M 1) (M 2) (M 3) (M 5) (M 6) (M 7) (M 8) (M 9) (M 10) (M 11) (M 12) (M 13) (M 14) th (I 0) rw_ fu fb lm mn sn Z bl w8 w9 w10 w11 ro fr cv p0 md np p1 (hMd.fc [0, 1, 2, 3, 6, 8, 9, 10, 11, 12, 13, 7, 5] (by decide) (by decide)) hMC1.1 hMC1.2.1 hMC1.2.2.1 hMC1.2.2.2.1 hMC1.2.2.2.2.2.1 hMC1.2.2.2.2.2.2.2.1 hMC1.2.2.2.2.2.2.2.2.1 hMC1.2.2.2.2.2.2.2.2.2.1 hMC1.2.2.2.2.2.2.2.2.2.2.1 hMC1.2.2.2.2.2.2.2.2.2.2.2.1 hMC1.2.2.2.2.2.2.2.2.2.2.2.2.1 hMC1.2.2.2.2.1 hMC1.2.2.2.2.2.2.1 hRS hp0t hcv hLA hhd hp0l hnp hp1t hp1l) (cwV 3 hts (gw_V w_771 w_772 w_773 w_8 w_774) rfl rfl rfl (by decide +kernel) ⟨by rw [hRf]; exact Nat.le_of_ble_eq_true rfl, by rw [hRl]; exact Nat.le_of_ble_eq_true rfl⟩) ⟨K0.blind, B.recv (hMd.1 0 (by decide)) hMC1.1 rfl, B.pre _⟩ rfl rfl hl.1 rfl (lv_room (Nat.le_of_ble_eq_true rfl)) d_law_276 ⟨by rw [hRc]; omega, by rw [hRs]; omega⟩) (fun r276 g276 H locs hw B => ?_)
        obtain ⟨lm2, mn2, sn2, Z2, bl2, w82, w92, w102, w112, md2, cv2, pn2, hRS2, hLA2, hcv2, ⟨q, hMk, hq2⟩, hg2⟩ := hw
        have hMC2 := MC.m13 hMd hMC1 hg2
        have hC2 := hC1.frame hAd (g := g276) (fun k hk => by rw [hg2]; exact hMd.ad [0, 1, 2, 3, 6, 8, 9, 10, 11, 12, 13, 7, 5] (by decide) rfl hk)
        have hov2 : g276 (M 4) = .inl (cs 1, 1, .inr (.inl (al ov))) := by rw [hg2]; exact (hMd.out (b := 4) (by decide) [0, 1, 2, 3, 6, 8, 9, 10, 11, 12, 13, 7, 5] (by decide) rfl).trans hov1
        have hqW : ∀ j, j < 12 → q j = W j := mk_1 (hEq p0 hp0l) (hEq p1 hp1l) hW hMk
        have hiff := mk_ok hqW
        clear hMk hW hg2
        rcases hpp with ⟨⟨hfb, hr1⟩, hInv1, hsv1⟩ | ⟨⟨hlt, hok⟩, hr1, hInv1, hI0, hrow, hoth⟩
        · rcases hq2 with ⟨hfb2, hr2, hpn2, hcv2e⟩ | ⟨hnb, hlt2, hr2, hpn2, hc1, hc2⟩
          · have he : r254 = r276 := hr1.trans hr2.symm
            rw [← he]
            obtain ⟨vv, hvv, hvr⟩ := i32_ex r254
            rw [hvv]
            refine x_icmp_eq (tgt := 956) hx hb d_law_279 (by decide) (by omega) (by omega) (fun h279 => ?_) (fun h279 => ?_)
            · exact TAIL _ _ _ _ ⟨I1, A1, R1, Zf1, _, cv2, bl2, ro, fr, Z2, ov, hC2, hInv1, by rw [show I1 0 = pn2 from hsv1.1.trans hpn2.symm]; exact ⟨_, _, _, lm2, mn2, sn2, w82, w92, w102, w112, md2, w15, hMC2, hRS2, hLA2, hcv2, by omega, by omega⟩, hov2, fun q hq => by rw [hcv2e]; rw [show I1 0 = I 0 from hsv1.1] at hq; rw [show A1 (20 + q) = A (20 + q) from hsv1.2 q (by omega)]; exact hEq q hq⟩ B (lv_sub hl [0, 1, 2, 3, 4] rfl)
            · exfalso; omega
          · exact absurd (hiff.mpr (hfb.resolve_left (by omega))) hnb
        · rcases hq2 with ⟨hfb2, hr2, hpn2, hcv2e⟩ | ⟨hnb, hlt2, hr2, hpn2, hc1, hc2⟩
          · exact absurd (hiff.mp (hfb2.resolve_right (by omega))) (fun ⟨j, hj, hjn⟩ => hjn (hok j hj))
          · have hI0n : (I 0).toNat = np := by omega
            rw [hI0n] at hrow hoth
            have he : r254 = r276 := by rw [hr1, hr2, hnp]
            rw [← he]
            obtain ⟨vv, hvv, hvr⟩ := i32_ex r254
            rw [hvv]
            refine x_icmp_eq (tgt := 956) hx hb d_law_279 (by decide) (by omega) (by omega) (fun h279 => ?_) (fun h279 => ?_)
            · exact TAIL _ _ _ _ ⟨I1, A1, R1, Zf1, _, cv2, bl2, ro, fr, Z2, ov, hC2, hInv1, by rw [show I1 0 = pn2 from hI0.trans hpn2.symm]; exact ⟨_, _, _, lm2, mn2, sn2, w82, w92, w102, w112, md2, w15, hMC2, hRS2, hLA2, hcv2, by omega, by omega⟩, hov2, eq_grow (W := W) hnp hlt2 hI0 hrow hoth (fun j hj => (hc1 j hj).trans (hqW j (by omega))) hc2 hEq⟩ B (lv_sub hl [0, 1, 2, 3, 4] rfl)
            · exfalso; omega
      · refine x_calli B hA (va_runV (As := [.int (iI 1), .int (iI ((p0 : Int))), .int (iI (ys (ii + 3)))]) (rest := []) ⟨hx, hb, hml, hown, hts⟩ (c_RR_make_u1 l D cs _ _ _ ad Qm I A Rf Zf p0 (ys (ii + 3)) hAd hC hInv hp0l (by omega) (by omega)) (cwV 3 hts (gw_V w_269 w_270 w_271 w_1 w_272) rfl rfl rfl (by decide +kernel) ⟨by rw [hRf]; exact Nat.le_of_ble_eq_true rfl, by rw [hRl]; exact Nat.le_of_ble_eq_true rfl⟩) ⟨K0.blind, B.recv (hAd.1 0 (by omega)) hC.x rfl, B.pre _⟩ rfl rfl hl.1 rfl (lv_room (Nat.le_of_ble_eq_true rfl)) d_law_254 ⟨by rw [hRc]; omega, by rw [hRs]; omega⟩) (fun r254 g254 H locs hw B => ?_)
        obtain ⟨I1, A1, R1, Zf1, hC1, hq1, hInv1, hsv1, hans1⟩ := hw
        have hMC1 := hMC.frame (fun k hk => hq1 _ (hMd.2.2 k hk))
        have hov1 := (hq1 _ (hMd.2.2 4 (by decide))).trans hov
        refine lv_aload_n hx hb d_law_257 rfl (lv_at hl 2 rfl) ?_
        refine lv_aload_n hx hb d_law_258 rfl (lv_at hl 4 rfl) ?_
        refine lv_iload hx hb d_law_259 (lv_at hl 0 rfl) ?_
        refine x_iconst hx hb d_law_261 ?_
        refine x_iadd hx hb d_law_262 ?_
        refine x_sld hx hb hX hbl hbA B.2.2.2.1 (ii + 1) (by omega) (by omega) (by omega) d_law_263 ?_
        refine lv_aload_n hx hb d_law_264 rfl (lv_at hl 4 rfl) ?_
        refine lv_iload hx hb d_law_265 (lv_at hl 0 rfl) ?_
        refine x_iconst hx hb d_law_267 ?_
        refine x_iadd hx hb d_law_268 ?_
        refine x_sld hx hb hX hbl hbA B.2.2.2.1 (ii + 2) (by omega) (by omega) (by omega) d_law_269 ?_
        refine lv_aload_n hx hb d_law_270 rfl (lv_at hl 4 rfl) ?_
        refine lv_iload hx hb d_law_271 (lv_at hl 0 rfl) ?_
        refine x_iconst hx hb d_law_273 ?_
        refine x_iadd hx hb d_law_274 ?_
        refine x_sld hx hb hX hbl hbA B.2.2.2.1 (ii + 3) (by omega) (by omega) (by omega) d_law_275 ?_
        rw [hkd]
        rw [hp0e]
        refine x_calli B hA (va_runV (As := [.int (iI 1), .int (iI ((p0 : Int))), .int (iI (ys (ii + 3)))]) (rest := [.int r254]) ⟨hx, hb, hml, hown, hts⟩ (c_Mo_make_u1 l D cs _ _ _ (M 0) (M 1) (M 2) (M 3) (M 5) (M 6) (M 7) (M 8) (M 9) (M 10) (M 11) (M 12) (M 13) (M 14) th (I 0) rw_ fu fb cv p0 (ys (ii + 3)) (hMd.fc [0, 5] (by decide) (by decide)) hMC1.1 hMC1.2.2.2.2.1 hp0t hcv hhd hp0l (by omega) (by omega)) (cwV 3 hts (gw_V w_771 w_772 w_773 w_8 w_774) rfl rfl rfl (by decide +kernel) ⟨by rw [hRf]; exact Nat.le_of_ble_eq_true rfl, by rw [hRl]; exact Nat.le_of_ble_eq_true rfl⟩) ⟨K0.blind, B.recv (hMd.1 0 (by decide)) hMC1.1 rfl, B.pre _⟩ rfl rfl hl.1 rfl (lv_room (Nat.le_of_ble_eq_true rfl)) d_law_276 ⟨by rw [hRc]; omega, by rw [hRs]; omega⟩) (fun r276 g276 H locs hw B => ?_)
        obtain ⟨hr2, hg2⟩ := hw
        have hMC2 := MC.m1 hMd hMC1 hg2
        have hC2 := hC1.frame hAd (g := g276) (fun k hk => by rw [hg2]; exact hMd.ad [0] (by decide) rfl hk)
        have hov2 : g276 (M 4) = .inl (cs 1, 1, .inr (.inl (al ov))) := by rw [hg2]; exact (hMd.out (b := 4) (by decide) [0] (by decide) rfl).trans hov1
        have he : r254 = r276 := hans1.trans hr2.symm
        rw [← he]
        obtain ⟨vv, hvv, hvr⟩ := i32_ex r254
        rw [hvv]
        refine x_icmp_eq (tgt := 956) hx hb d_law_279 (by decide) (by omega) (by omega) (fun h279 => ?_) (fun h279 => ?_)
        · exact TAIL _ _ _ _ ⟨I1, A1, R1, Zf1, _, cv, bl, ro, fr, Z, ov, hC2, hInv1, by rw [show I1 0 = I 0 from hsv1.1]; exact ⟨_, _, _, lm, mn, sn, w8, w9, w10, w11, md, w15, hMC2, hRS, hLA, hcv, hhd.1, hhd.2⟩, hov2, fun q hq => by rw [show I1 0 = I 0 from hsv1.1] at hq; rw [show A1 (20 + q) = A (20 + q) from hsv1.2 q (by omega)]; exact hEq q hq⟩ B (lv_sub hl [0, 1, 2, 3, 4] rfl)
        · exfalso; omega
    · rw [hkd]
      by_cases hk2 : 0 ≤ ys (ii + 3) ∧ ys (ii + 3) < I 0
      · obtain ⟨p1, hp1e⟩ : ∃ p1 : Nat, ys (ii + 3) = (p1 : Int) := ⟨(ys (ii + 3)).toNat, by omega⟩
        have hp1l : (p1 : Int) < I 0 := by omega
        have hp1t : p1 < 12 := by omega
        rw [hp1e]
        refine x_calli B hA (va_runV (As := [.int (iI 2), .int (iI ((p0 : Int))), .int (iI ((p1 : Int)))]) (rest := []) ⟨hx, hb, hml, hown, hts⟩ (c_RR_make_2 l D cs _ _ _ ad Qm I A Rf Zf p0 p1 hAd hC hInv hp0l hp1l) (cwV 3 hts (gw_V w_269 w_270 w_271 w_1 w_272) rfl rfl rfl (by decide +kernel) ⟨by rw [hRf]; exact Nat.le_of_ble_eq_true rfl, by rw [hRl]; exact Nat.le_of_ble_eq_true rfl⟩) ⟨K0.blind, B.recv (hAd.1 0 (by omega)) hC.x rfl, B.pre _⟩ rfl rfl hl.1 rfl (lv_room (Nat.le_of_ble_eq_true rfl)) d_law_254 ⟨by rw [hRc]; omega, by rw [hRs]; omega⟩) (fun r254 g254 H locs hw B => ?_)
        obtain ⟨I1, A1, R1, Zf1, hC1, hq1, W, hW, hpp⟩ := hw
        have hMC1 := hMC.frame (fun k hk => hq1 _ (hMd.2.2 k hk))
        have hov1 := (hq1 _ (hMd.2.2 4 (by decide))).trans hov
        refine lv_aload_n hx hb d_law_257 rfl (lv_at hl 2 rfl) ?_
        refine lv_aload_n hx hb d_law_258 rfl (lv_at hl 4 rfl) ?_
        refine lv_iload hx hb d_law_259 (lv_at hl 0 rfl) ?_
        refine x_iconst hx hb d_law_261 ?_
        refine x_iadd hx hb d_law_262 ?_
        refine x_sld hx hb hX hbl hbA B.2.2.2.1 (ii + 1) (by omega) (by omega) (by omega) d_law_263 ?_
        refine lv_aload_n hx hb d_law_264 rfl (lv_at hl 4 rfl) ?_
        refine lv_iload hx hb d_law_265 (lv_at hl 0 rfl) ?_
        refine x_iconst hx hb d_law_267 ?_
        refine x_iadd hx hb d_law_268 ?_
        refine x_sld hx hb hX hbl hbA B.2.2.2.1 (ii + 2) (by omega) (by omega) (by omega) d_law_269 ?_
        refine lv_aload_n hx hb d_law_270 rfl (lv_at hl 4 rfl) ?_
        refine lv_iload hx hb d_law_271 (lv_at hl 0 rfl) ?_
        refine x_iconst hx hb d_law_273 ?_
        refine x_iadd hx hb d_law_274 ?_
        refine x_sld hx hb hX hbl hbA B.2.2.2.1 (ii + 3) (by omega) (by omega) (by omega) d_law_275 ?_
        rw [hkd]
        rw [hp0e]
        rw [hp1e]
        obtain ⟨np, hnp⟩ : ∃ np : Nat, I 0 = (np : Int) := ⟨(I 0).toNat, by omega⟩
        refine x_calli B hA (va_runV (As := [.int (iI 2), .int (iI ((p0 : Int))), .int (iI ((p1 : Int)))]) (rest := [.int r254]) ⟨hx, hb, hml, hown, hts⟩ (c_Mo_make_2 l D cs _ _ _ (M 0) (M 1) (M 2) (M 3) (M 5) (M 6) (M 7) (M 8) (M 9) (M 10) (M 11) (M 12) (M 13) (M 14) th (I 0) rw_ fu fb lm mn sn Z bl w8 w9 w10 w11 ro fr cv p0 md np p1 (hMd.fc [0, 1, 2, 3, 6, 8, 9, 10, 11, 12, 13, 7, 5] (by decide) (by decide)) hMC1.1 hMC1.2.1 hMC1.2.2.1 hMC1.2.2.2.1 hMC1.2.2.2.2.2.1 hMC1.2.2.2.2.2.2.2.1 hMC1.2.2.2.2.2.2.2.2.1 hMC1.2.2.2.2.2.2.2.2.2.1 hMC1.2.2.2.2.2.2.2.2.2.2.1 hMC1.2.2.2.2.2.2.2.2.2.2.2.1 hMC1.2.2.2.2.2.2.2.2.2.2.2.2.1 hMC1.2.2.2.2.1 hMC1.2.2.2.2.2.2.1 hRS hp0t hcv hLA hhd hp0l hnp hp1t hp1l) (cwV 3 hts (gw_V w_771 w_772 w_773 w_8 w_774) rfl rfl rfl (by decide +kernel) ⟨by rw [hRf]; exact Nat.le_of_ble_eq_true rfl, by rw [hRl]; exact Nat.le_of_ble_eq_true rfl⟩) ⟨K0.blind, B.recv (hMd.1 0 (by decide)) hMC1.1 rfl, B.pre _⟩ rfl rfl hl.1 rfl (lv_room (Nat.le_of_ble_eq_true rfl)) d_law_276 ⟨by rw [hRc]; omega, by rw [hRs]; omega⟩) (fun r276 g276 H locs hw B => ?_)
        obtain ⟨lm2, mn2, sn2, Z2, bl2, w82, w92, w102, w112, md2, cv2, pn2, hRS2, hLA2, hcv2, ⟨q, hMk, hq2⟩, hg2⟩ := hw
        have hMC2 := MC.m13 hMd hMC1 hg2
        have hC2 := hC1.frame hAd (g := g276) (fun k hk => by rw [hg2]; exact hMd.ad [0, 1, 2, 3, 6, 8, 9, 10, 11, 12, 13, 7, 5] (by decide) rfl hk)
        have hov2 : g276 (M 4) = .inl (cs 1, 1, .inr (.inl (al ov))) := by rw [hg2]; exact (hMd.out (b := 4) (by decide) [0, 1, 2, 3, 6, 8, 9, 10, 11, 12, 13, 7, 5] (by decide) rfl).trans hov1
        have hqW : ∀ j, j < 12 → q j = W j := mk_2 (hEq p0 hp0l) (hEq p1 hp1l) hW hMk
        have hiff := mk_ok hqW
        clear hMk hW hg2
        rcases hpp with ⟨⟨hfb, hr1⟩, hInv1, hsv1⟩ | ⟨⟨hlt, hok⟩, hr1, hInv1, hI0, hrow, hoth⟩
        · rcases hq2 with ⟨hfb2, hr2, hpn2, hcv2e⟩ | ⟨hnb, hlt2, hr2, hpn2, hc1, hc2⟩
          · have he : r254 = r276 := hr1.trans hr2.symm
            rw [← he]
            obtain ⟨vv, hvv, hvr⟩ := i32_ex r254
            rw [hvv]
            refine x_icmp_eq (tgt := 956) hx hb d_law_279 (by decide) (by omega) (by omega) (fun h279 => ?_) (fun h279 => ?_)
            · exact TAIL _ _ _ _ ⟨I1, A1, R1, Zf1, _, cv2, bl2, ro, fr, Z2, ov, hC2, hInv1, by rw [show I1 0 = pn2 from hsv1.1.trans hpn2.symm]; exact ⟨_, _, _, lm2, mn2, sn2, w82, w92, w102, w112, md2, w15, hMC2, hRS2, hLA2, hcv2, by omega, by omega⟩, hov2, fun q hq => by rw [hcv2e]; rw [show I1 0 = I 0 from hsv1.1] at hq; rw [show A1 (20 + q) = A (20 + q) from hsv1.2 q (by omega)]; exact hEq q hq⟩ B (lv_sub hl [0, 1, 2, 3, 4] rfl)
            · exfalso; omega
          · exact absurd (hiff.mpr (hfb.resolve_left (by omega))) hnb
        · rcases hq2 with ⟨hfb2, hr2, hpn2, hcv2e⟩ | ⟨hnb, hlt2, hr2, hpn2, hc1, hc2⟩
          · exact absurd (hiff.mp (hfb2.resolve_right (by omega))) (fun ⟨j, hj, hjn⟩ => hjn (hok j hj))
          · have hI0n : (I 0).toNat = np := by omega
            rw [hI0n] at hrow hoth
            have he : r254 = r276 := by rw [hr1, hr2, hnp]
            rw [← he]
            obtain ⟨vv, hvv, hvr⟩ := i32_ex r254
            rw [hvv]
            refine x_icmp_eq (tgt := 956) hx hb d_law_279 (by decide) (by omega) (by omega) (fun h279 => ?_) (fun h279 => ?_)
            · exact TAIL _ _ _ _ ⟨I1, A1, R1, Zf1, _, cv2, bl2, ro, fr, Z2, ov, hC2, hInv1, by rw [show I1 0 = pn2 from hI0.trans hpn2.symm]; exact ⟨_, _, _, lm2, mn2, sn2, w82, w92, w102, w112, md2, w15, hMC2, hRS2, hLA2, hcv2, by omega, by omega⟩, hov2, eq_grow (W := W) hnp hlt2 hI0 hrow hoth (fun j hj => (hc1 j hj).trans (hqW j (by omega))) hc2 hEq⟩ B (lv_sub hl [0, 1, 2, 3, 4] rfl)
            · exfalso; omega
      · refine x_calli B hA (va_runV (As := [.int (iI 2), .int (iI ((p0 : Int))), .int (iI (ys (ii + 3)))]) (rest := []) ⟨hx, hb, hml, hown, hts⟩ (c_RR_make_u2 l D cs _ _ _ ad Qm I A Rf Zf p0 (ys (ii + 3)) hAd hC hInv hp0l (by omega) (by omega)) (cwV 3 hts (gw_V w_269 w_270 w_271 w_1 w_272) rfl rfl rfl (by decide +kernel) ⟨by rw [hRf]; exact Nat.le_of_ble_eq_true rfl, by rw [hRl]; exact Nat.le_of_ble_eq_true rfl⟩) ⟨K0.blind, B.recv (hAd.1 0 (by omega)) hC.x rfl, B.pre _⟩ rfl rfl hl.1 rfl (lv_room (Nat.le_of_ble_eq_true rfl)) d_law_254 ⟨by rw [hRc]; omega, by rw [hRs]; omega⟩) (fun r254 g254 H locs hw B => ?_)
        obtain ⟨I1, A1, R1, Zf1, hC1, hq1, hInv1, hsv1, hans1⟩ := hw
        have hMC1 := hMC.frame (fun k hk => hq1 _ (hMd.2.2 k hk))
        have hov1 := (hq1 _ (hMd.2.2 4 (by decide))).trans hov
        refine lv_aload_n hx hb d_law_257 rfl (lv_at hl 2 rfl) ?_
        refine lv_aload_n hx hb d_law_258 rfl (lv_at hl 4 rfl) ?_
        refine lv_iload hx hb d_law_259 (lv_at hl 0 rfl) ?_
        refine x_iconst hx hb d_law_261 ?_
        refine x_iadd hx hb d_law_262 ?_
        refine x_sld hx hb hX hbl hbA B.2.2.2.1 (ii + 1) (by omega) (by omega) (by omega) d_law_263 ?_
        refine lv_aload_n hx hb d_law_264 rfl (lv_at hl 4 rfl) ?_
        refine lv_iload hx hb d_law_265 (lv_at hl 0 rfl) ?_
        refine x_iconst hx hb d_law_267 ?_
        refine x_iadd hx hb d_law_268 ?_
        refine x_sld hx hb hX hbl hbA B.2.2.2.1 (ii + 2) (by omega) (by omega) (by omega) d_law_269 ?_
        refine lv_aload_n hx hb d_law_270 rfl (lv_at hl 4 rfl) ?_
        refine lv_iload hx hb d_law_271 (lv_at hl 0 rfl) ?_
        refine x_iconst hx hb d_law_273 ?_
        refine x_iadd hx hb d_law_274 ?_
        refine x_sld hx hb hX hbl hbA B.2.2.2.1 (ii + 3) (by omega) (by omega) (by omega) d_law_275 ?_
        rw [hkd]
        rw [hp0e]
        refine x_calli B hA (va_runV (As := [.int (iI 2), .int (iI ((p0 : Int))), .int (iI (ys (ii + 3)))]) (rest := [.int r254]) ⟨hx, hb, hml, hown, hts⟩ (c_Mo_make_u2 l D cs _ _ _ (M 0) (M 1) (M 2) (M 3) (M 5) (M 6) (M 7) (M 8) (M 9) (M 10) (M 11) (M 12) (M 13) (M 14) th (I 0) rw_ fu fb cv p0 (ys (ii + 3)) (hMd.fc [0, 5] (by decide) (by decide)) hMC1.1 hMC1.2.2.2.2.1 hp0t hcv hhd hp0l (by omega) (by omega)) (cwV 3 hts (gw_V w_771 w_772 w_773 w_8 w_774) rfl rfl rfl (by decide +kernel) ⟨by rw [hRf]; exact Nat.le_of_ble_eq_true rfl, by rw [hRl]; exact Nat.le_of_ble_eq_true rfl⟩) ⟨K0.blind, B.recv (hMd.1 0 (by decide)) hMC1.1 rfl, B.pre _⟩ rfl rfl hl.1 rfl (lv_room (Nat.le_of_ble_eq_true rfl)) d_law_276 ⟨by rw [hRc]; omega, by rw [hRs]; omega⟩) (fun r276 g276 H locs hw B => ?_)
        obtain ⟨hr2, hg2⟩ := hw
        have hMC2 := MC.m1 hMd hMC1 hg2
        have hC2 := hC1.frame hAd (g := g276) (fun k hk => by rw [hg2]; exact hMd.ad [0] (by decide) rfl hk)
        have hov2 : g276 (M 4) = .inl (cs 1, 1, .inr (.inl (al ov))) := by rw [hg2]; exact (hMd.out (b := 4) (by decide) [0] (by decide) rfl).trans hov1
        have he : r254 = r276 := hans1.trans hr2.symm
        rw [← he]
        obtain ⟨vv, hvv, hvr⟩ := i32_ex r254
        rw [hvv]
        refine x_icmp_eq (tgt := 956) hx hb d_law_279 (by decide) (by omega) (by omega) (fun h279 => ?_) (fun h279 => ?_)
        · exact TAIL _ _ _ _ ⟨I1, A1, R1, Zf1, _, cv, bl, ro, fr, Z, ov, hC2, hInv1, by rw [show I1 0 = I 0 from hsv1.1]; exact ⟨_, _, _, lm, mn, sn, w8, w9, w10, w11, md, w15, hMC2, hRS, hLA, hcv, hhd.1, hhd.2⟩, hov2, fun q hq => by rw [show I1 0 = I 0 from hsv1.1] at hq; rw [show A1 (20 + q) = A (20 + q) from hsv1.2 q (by omega)]; exact hEq q hq⟩ B (lv_sub hl [0, 1, 2, 3, 4] rfl)
        · exfalso; omega
    · rw [hkd]
      refine x_calli B hA (va_runV (As := [.int (iI 3), .int (iI ((p0 : Int))), .int (iI (ys (ii + 3)))]) (rest := []) ⟨hx, hb, hml, hown, hts⟩ (c_RR_make_3 l D cs _ _ _ ad Qm I A Rf Zf p0 (ys (ii + 3)) hAd hC hInv hp0l (by omega)) (cwV 3 hts (gw_V w_269 w_270 w_271 w_1 w_272) rfl rfl rfl (by decide +kernel) ⟨by rw [hRf]; exact Nat.le_of_ble_eq_true rfl, by rw [hRl]; exact Nat.le_of_ble_eq_true rfl⟩) ⟨K0.blind, B.recv (hAd.1 0 (by omega)) hC.x rfl, B.pre _⟩ rfl rfl hl.1 rfl (lv_room (Nat.le_of_ble_eq_true rfl)) d_law_254 ⟨by rw [hRc]; omega, by rw [hRs]; omega⟩) (fun r254 g254 H locs hw B => ?_)
      obtain ⟨I1, A1, R1, Zf1, hC1, hq1, W, hW, hpp⟩ := hw
      have hMC1 := hMC.frame (fun k hk => hq1 _ (hMd.2.2 k hk))
      have hov1 := (hq1 _ (hMd.2.2 4 (by decide))).trans hov
      refine lv_aload_n hx hb d_law_257 rfl (lv_at hl 2 rfl) ?_
      refine lv_aload_n hx hb d_law_258 rfl (lv_at hl 4 rfl) ?_
      refine lv_iload hx hb d_law_259 (lv_at hl 0 rfl) ?_
      refine x_iconst hx hb d_law_261 ?_
      refine x_iadd hx hb d_law_262 ?_
      refine x_sld hx hb hX hbl hbA B.2.2.2.1 (ii + 1) (by omega) (by omega) (by omega) d_law_263 ?_
      refine lv_aload_n hx hb d_law_264 rfl (lv_at hl 4 rfl) ?_
      refine lv_iload hx hb d_law_265 (lv_at hl 0 rfl) ?_
      refine x_iconst hx hb d_law_267 ?_
      refine x_iadd hx hb d_law_268 ?_
      refine x_sld hx hb hX hbl hbA B.2.2.2.1 (ii + 2) (by omega) (by omega) (by omega) d_law_269 ?_
      refine lv_aload_n hx hb d_law_270 rfl (lv_at hl 4 rfl) ?_
      refine lv_iload hx hb d_law_271 (lv_at hl 0 rfl) ?_
      refine x_iconst hx hb d_law_273 ?_
      refine x_iadd hx hb d_law_274 ?_
      refine x_sld hx hb hX hbl hbA B.2.2.2.1 (ii + 3) (by omega) (by omega) (by omega) d_law_275 ?_
      rw [hkd]
      rw [hp0e]
      obtain ⟨np, hnp⟩ : ∃ np : Nat, I 0 = (np : Int) := ⟨(I 0).toNat, by omega⟩
      refine x_calli B hA (va_runV (As := [.int (iI 3), .int (iI ((p0 : Int))), .int (iI (ys (ii + 3)))]) (rest := [.int r254]) ⟨hx, hb, hml, hown, hts⟩ (c_Mo_make_3 l D cs _ _ _ (M 0) (M 1) (M 2) (M 3) (M 5) (M 6) (M 7) (M 8) (M 9) (M 10) (M 11) (M 12) (M 13) (M 14) th (I 0) rw_ fu fb lm mn sn Z bl w8 w9 w10 w11 ro fr cv p0 md np (ys (ii + 3)) (hMd.fc [0, 1, 2, 3, 6, 8, 9, 10, 11, 12, 13, 7, 5] (by decide) (by decide)) hMC1.1 hMC1.2.1 hMC1.2.2.1 hMC1.2.2.2.1 hMC1.2.2.2.2.2.1 hMC1.2.2.2.2.2.2.2.1 hMC1.2.2.2.2.2.2.2.2.1 hMC1.2.2.2.2.2.2.2.2.2.1 hMC1.2.2.2.2.2.2.2.2.2.2.1 hMC1.2.2.2.2.2.2.2.2.2.2.2.1 hMC1.2.2.2.2.2.2.2.2.2.2.2.2.1 hMC1.2.2.2.2.1 hMC1.2.2.2.2.2.2.1 hRS hp0t hcv hLA hhd hp0l hnp (by omega)) (cwV 3 hts (gw_V w_771 w_772 w_773 w_8 w_774) rfl rfl rfl (by decide +kernel) ⟨by rw [hRf]; exact Nat.le_of_ble_eq_true rfl, by rw [hRl]; exact Nat.le_of_ble_eq_true rfl⟩) ⟨K0.blind, B.recv (hMd.1 0 (by decide)) hMC1.1 rfl, B.pre _⟩ rfl rfl hl.1 rfl (lv_room (Nat.le_of_ble_eq_true rfl)) d_law_276 ⟨by rw [hRc]; omega, by rw [hRs]; omega⟩) (fun r276 g276 H locs hw B => ?_)
      obtain ⟨lm2, mn2, sn2, Z2, bl2, w82, w92, w102, w112, md2, cv2, pn2, hRS2, hLA2, hcv2, ⟨q, hMk, hq2⟩, hg2⟩ := hw
      have hMC2 := MC.m13 hMd hMC1 hg2
      have hC2 := hC1.frame hAd (g := g276) (fun k hk => by rw [hg2]; exact hMd.ad [0, 1, 2, 3, 6, 8, 9, 10, 11, 12, 13, 7, 5] (by decide) rfl hk)
      have hov2 : g276 (M 4) = .inl (cs 1, 1, .inr (.inl (al ov))) := by rw [hg2]; exact (hMd.out (b := 4) (by decide) [0, 1, 2, 3, 6, 8, 9, 10, 11, 12, 13, 7, 5] (by decide) rfl).trans hov1
      have hqW : ∀ j, j < 12 → q j = W j := mk_3 (hEq p0 hp0l) hW hMk
      have hiff := mk_ok hqW
      clear hMk hW hg2
      rcases hpp with ⟨⟨hfb, hr1⟩, hInv1, hsv1⟩ | ⟨⟨hlt, hok⟩, hr1, hInv1, hI0, hrow, hoth⟩
      · rcases hq2 with ⟨hfb2, hr2, hpn2, hcv2e⟩ | ⟨hnb, hlt2, hr2, hpn2, hc1, hc2⟩
        · have he : r254 = r276 := hr1.trans hr2.symm
          rw [← he]
          obtain ⟨vv, hvv, hvr⟩ := i32_ex r254
          rw [hvv]
          refine x_icmp_eq (tgt := 956) hx hb d_law_279 (by decide) (by omega) (by omega) (fun h279 => ?_) (fun h279 => ?_)
          · exact TAIL _ _ _ _ ⟨I1, A1, R1, Zf1, _, cv2, bl2, ro, fr, Z2, ov, hC2, hInv1, by rw [show I1 0 = pn2 from hsv1.1.trans hpn2.symm]; exact ⟨_, _, _, lm2, mn2, sn2, w82, w92, w102, w112, md2, w15, hMC2, hRS2, hLA2, hcv2, by omega, by omega⟩, hov2, fun q hq => by rw [hcv2e]; rw [show I1 0 = I 0 from hsv1.1] at hq; rw [show A1 (20 + q) = A (20 + q) from hsv1.2 q (by omega)]; exact hEq q hq⟩ B (lv_sub hl [0, 1, 2, 3, 4] rfl)
          · exfalso; omega
        · exact absurd (hiff.mpr (hfb.resolve_left (by omega))) hnb
      · rcases hq2 with ⟨hfb2, hr2, hpn2, hcv2e⟩ | ⟨hnb, hlt2, hr2, hpn2, hc1, hc2⟩
        · exact absurd (hiff.mp (hfb2.resolve_right (by omega))) (fun ⟨j, hj, hjn⟩ => hjn (hok j hj))
        · have hI0n : (I 0).toNat = np := by omega
          rw [hI0n] at hrow hoth
          have he : r254 = r276 := by rw [hr1, hr2, hnp]
          rw [← he]
          obtain ⟨vv, hvv, hvr⟩ := i32_ex r254
          rw [hvv]
          refine x_icmp_eq (tgt := 956) hx hb d_law_279 (by decide) (by omega) (by omega) (fun h279 => ?_) (fun h279 => ?_)
          · exact TAIL _ _ _ _ ⟨I1, A1, R1, Zf1, _, cv2, bl2, ro, fr, Z2, ov, hC2, hInv1, by rw [show I1 0 = pn2 from hI0.trans hpn2.symm]; exact ⟨_, _, _, lm2, mn2, sn2, w82, w92, w102, w112, md2, w15, hMC2, hRS2, hLA2, hcv2, by omega, by omega⟩, hov2, eq_grow (W := W) hnp hlt2 hI0 hrow hoth (fun j hj => (hc1 j hj).trans (hqW j (by omega))) hc2 hEq⟩ B (lv_sub hl [0, 1, 2, 3, 4] rfl)
          · exfalso; omega
    · rw [hkd]
      by_cases hk2 : 0 ≤ ys (ii + 3) ∧ ys (ii + 3) < I 0
      · obtain ⟨p1, hp1e⟩ : ∃ p1 : Nat, ys (ii + 3) = (p1 : Int) := ⟨(ys (ii + 3)).toNat, by omega⟩
        have hp1l : (p1 : Int) < I 0 := by omega
        have hp1t : p1 < 12 := by omega
        rw [hp1e]
        by_cases h01 : p0 = p1
        · subst h01
          refine x_calli B hA (va_runV (As := [.int (iI 4), .int (iI ((p0 : Int))), .int (iI ((p0 : Int)))]) (rest := []) ⟨hx, hb, hml, hown, hts⟩ (c_RR_make_4s l D cs _ _ _ ad Qm I A Rf Zf p0 hAd hC hInv hp0l) (cwV 3 hts (gw_V w_269 w_270 w_271 w_1 w_272) rfl rfl rfl (by decide +kernel) ⟨by rw [hRf]; exact Nat.le_of_ble_eq_true rfl, by rw [hRl]; exact Nat.le_of_ble_eq_true rfl⟩) ⟨K0.blind, B.recv (hAd.1 0 (by omega)) hC.x rfl, B.pre _⟩ rfl rfl hl.1 rfl (lv_room (Nat.le_of_ble_eq_true rfl)) d_law_254 ⟨by rw [hRc]; omega, by rw [hRs]; omega⟩) (fun r254 g254 H locs hw B => ?_)
          obtain ⟨I1, A1, R1, Zf1, hC1, hq1, W, hW, hpp⟩ := hw
          have hMC1 := hMC.frame (fun k hk => hq1 _ (hMd.2.2 k hk))
          have hov1 := (hq1 _ (hMd.2.2 4 (by decide))).trans hov
          refine lv_aload_n hx hb d_law_257 rfl (lv_at hl 2 rfl) ?_
          refine lv_aload_n hx hb d_law_258 rfl (lv_at hl 4 rfl) ?_
          refine lv_iload hx hb d_law_259 (lv_at hl 0 rfl) ?_
          refine x_iconst hx hb d_law_261 ?_
          refine x_iadd hx hb d_law_262 ?_
          refine x_sld hx hb hX hbl hbA B.2.2.2.1 (ii + 1) (by omega) (by omega) (by omega) d_law_263 ?_
          refine lv_aload_n hx hb d_law_264 rfl (lv_at hl 4 rfl) ?_
          refine lv_iload hx hb d_law_265 (lv_at hl 0 rfl) ?_
          refine x_iconst hx hb d_law_267 ?_
          refine x_iadd hx hb d_law_268 ?_
          refine x_sld hx hb hX hbl hbA B.2.2.2.1 (ii + 2) (by omega) (by omega) (by omega) d_law_269 ?_
          refine lv_aload_n hx hb d_law_270 rfl (lv_at hl 4 rfl) ?_
          refine lv_iload hx hb d_law_271 (lv_at hl 0 rfl) ?_
          refine x_iconst hx hb d_law_273 ?_
          refine x_iadd hx hb d_law_274 ?_
          refine x_sld hx hb hX hbl hbA B.2.2.2.1 (ii + 3) (by omega) (by omega) (by omega) d_law_275 ?_
          rw [hkd]
          rw [hp0e]
          rw [hp1e]
          obtain ⟨np, hnp⟩ : ∃ np : Nat, I 0 = (np : Int) := ⟨(I 0).toNat, by omega⟩
          refine x_calli B hA (va_runV (As := [.int (iI 4), .int (iI ((p0 : Int))), .int (iI ((p0 : Int)))]) (rest := [.int r254]) ⟨hx, hb, hml, hown, hts⟩ (c_Mo_make_4 l D cs _ _ _ (M 0) (M 1) (M 2) (M 3) (M 5) (M 6) (M 7) (M 8) (M 9) (M 10) (M 11) (M 12) (M 13) (M 14) th (I 0) rw_ fu fb lm mn sn Z bl w8 w9 w10 w11 ro fr cv p0 md np p0 (hMd.fc [0, 1, 2, 3, 6, 8, 9, 10, 11, 12, 13, 7, 5] (by decide) (by decide)) hMC1.1 hMC1.2.1 hMC1.2.2.1 hMC1.2.2.2.1 hMC1.2.2.2.2.2.1 hMC1.2.2.2.2.2.2.2.1 hMC1.2.2.2.2.2.2.2.2.1 hMC1.2.2.2.2.2.2.2.2.2.1 hMC1.2.2.2.2.2.2.2.2.2.2.1 hMC1.2.2.2.2.2.2.2.2.2.2.2.1 hMC1.2.2.2.2.2.2.2.2.2.2.2.2.1 hMC1.2.2.2.2.1 hMC1.2.2.2.2.2.2.1 hRS hp0t hcv hLA hhd hp0l hnp hp0t hp0l) (cwV 3 hts (gw_V w_771 w_772 w_773 w_8 w_774) rfl rfl rfl (by decide +kernel) ⟨by rw [hRf]; exact Nat.le_of_ble_eq_true rfl, by rw [hRl]; exact Nat.le_of_ble_eq_true rfl⟩) ⟨K0.blind, B.recv (hMd.1 0 (by decide)) hMC1.1 rfl, B.pre _⟩ rfl rfl hl.1 rfl (lv_room (Nat.le_of_ble_eq_true rfl)) d_law_276 ⟨by rw [hRc]; omega, by rw [hRs]; omega⟩) (fun r276 g276 H locs hw B => ?_)
          obtain ⟨lm2, mn2, sn2, Z2, bl2, w82, w92, w102, w112, md2, cv2, pn2, hRS2, hLA2, hcv2, ⟨q, hMk, hq2⟩, hg2⟩ := hw
          have hMC2 := MC.m13 hMd hMC1 hg2
          have hC2 := hC1.frame hAd (g := g276) (fun k hk => by rw [hg2]; exact hMd.ad [0, 1, 2, 3, 6, 8, 9, 10, 11, 12, 13, 7, 5] (by decide) rfl hk)
          have hov2 : g276 (M 4) = .inl (cs 1, 1, .inr (.inl (al ov))) := by rw [hg2]; exact (hMd.out (b := 4) (by decide) [0, 1, 2, 3, 6, 8, 9, 10, 11, 12, 13, 7, 5] (by decide) rfl).trans hov1
          have hqW : ∀ j, j < 12 → q j = W j := mk_4 (hEq p0 hp0l) (hEq p0 hp0l) hW hMk
          have hiff := mk_ok hqW
          clear hMk hW hg2
          rcases hpp with ⟨⟨hfb, hr1⟩, hInv1, hsv1⟩ | ⟨⟨hlt, hok⟩, hr1, hInv1, hI0, hrow, hoth⟩
          · rcases hq2 with ⟨hfb2, hr2, hpn2, hcv2e⟩ | ⟨hnb, hlt2, hr2, hpn2, hc1, hc2⟩
            · have he : r254 = r276 := hr1.trans hr2.symm
              rw [← he]
              obtain ⟨vv, hvv, hvr⟩ := i32_ex r254
              rw [hvv]
              refine x_icmp_eq (tgt := 956) hx hb d_law_279 (by decide) (by omega) (by omega) (fun h279 => ?_) (fun h279 => ?_)
              · exact TAIL _ _ _ _ ⟨I1, A1, R1, Zf1, _, cv2, bl2, ro, fr, Z2, ov, hC2, hInv1, by rw [show I1 0 = pn2 from hsv1.1.trans hpn2.symm]; exact ⟨_, _, _, lm2, mn2, sn2, w82, w92, w102, w112, md2, w15, hMC2, hRS2, hLA2, hcv2, by omega, by omega⟩, hov2, fun q hq => by rw [hcv2e]; rw [show I1 0 = I 0 from hsv1.1] at hq; rw [show A1 (20 + q) = A (20 + q) from hsv1.2 q (by omega)]; exact hEq q hq⟩ B (lv_sub hl [0, 1, 2, 3, 4] rfl)
              · exfalso; omega
            · exact absurd (hiff.mpr (hfb.resolve_left (by omega))) hnb
          · rcases hq2 with ⟨hfb2, hr2, hpn2, hcv2e⟩ | ⟨hnb, hlt2, hr2, hpn2, hc1, hc2⟩
            · exact absurd (hiff.mp (hfb2.resolve_right (by omega))) (fun ⟨j, hj, hjn⟩ => hjn (hok j hj))
            · have hI0n : (I 0).toNat = np := by omega
              rw [hI0n] at hrow hoth
              have he : r254 = r276 := by rw [hr1, hr2, hnp]
              rw [← he]
              obtain ⟨vv, hvv, hvr⟩ := i32_ex r254
              rw [hvv]
              refine x_icmp_eq (tgt := 956) hx hb d_law_279 (by decide) (by omega) (by omega) (fun h279 => ?_) (fun h279 => ?_)
              · exact TAIL _ _ _ _ ⟨I1, A1, R1, Zf1, _, cv2, bl2, ro, fr, Z2, ov, hC2, hInv1, by rw [show I1 0 = pn2 from hI0.trans hpn2.symm]; exact ⟨_, _, _, lm2, mn2, sn2, w82, w92, w102, w112, md2, w15, hMC2, hRS2, hLA2, hcv2, by omega, by omega⟩, hov2, eq_grow (W := W) hnp hlt2 hI0 hrow hoth (fun j hj => (hc1 j hj).trans (hqW j (by omega))) hc2 hEq⟩ B (lv_sub hl [0, 1, 2, 3, 4] rfl)
              · exfalso; omega
        · refine x_calli B hA (va_runV (As := [.int (iI 4), .int (iI ((p0 : Int))), .int (iI ((p1 : Int)))]) (rest := []) ⟨hx, hb, hml, hown, hts⟩ (c_RR_make_4 l D cs _ _ _ ad Qm I A Rf Zf p0 p1 hAd hC hInv hp0l hp1l h01) (cwV 3 hts (gw_V w_269 w_270 w_271 w_1 w_272) rfl rfl rfl (by decide +kernel) ⟨by rw [hRf]; exact Nat.le_of_ble_eq_true rfl, by rw [hRl]; exact Nat.le_of_ble_eq_true rfl⟩) ⟨K0.blind, B.recv (hAd.1 0 (by omega)) hC.x rfl, B.pre _⟩ rfl rfl hl.1 rfl (lv_room (Nat.le_of_ble_eq_true rfl)) d_law_254 ⟨by rw [hRc]; omega, by rw [hRs]; omega⟩) (fun r254 g254 H locs hw B => ?_)
          obtain ⟨I1, A1, R1, Zf1, hC1, hq1, W, hW, hpp⟩ := hw
          have hMC1 := hMC.frame (fun k hk => hq1 _ (hMd.2.2 k hk))
          have hov1 := (hq1 _ (hMd.2.2 4 (by decide))).trans hov
          refine lv_aload_n hx hb d_law_257 rfl (lv_at hl 2 rfl) ?_
          refine lv_aload_n hx hb d_law_258 rfl (lv_at hl 4 rfl) ?_
          refine lv_iload hx hb d_law_259 (lv_at hl 0 rfl) ?_
          refine x_iconst hx hb d_law_261 ?_
          refine x_iadd hx hb d_law_262 ?_
          refine x_sld hx hb hX hbl hbA B.2.2.2.1 (ii + 1) (by omega) (by omega) (by omega) d_law_263 ?_
          refine lv_aload_n hx hb d_law_264 rfl (lv_at hl 4 rfl) ?_
          refine lv_iload hx hb d_law_265 (lv_at hl 0 rfl) ?_
          refine x_iconst hx hb d_law_267 ?_
          refine x_iadd hx hb d_law_268 ?_
          refine x_sld hx hb hX hbl hbA B.2.2.2.1 (ii + 2) (by omega) (by omega) (by omega) d_law_269 ?_
          refine lv_aload_n hx hb d_law_270 rfl (lv_at hl 4 rfl) ?_
          refine lv_iload hx hb d_law_271 (lv_at hl 0 rfl) ?_
          refine x_iconst hx hb d_law_273 ?_
          refine x_iadd hx hb d_law_274 ?_
          refine x_sld hx hb hX hbl hbA B.2.2.2.1 (ii + 3) (by omega) (by omega) (by omega) d_law_275 ?_
          rw [hkd]
          rw [hp0e]
          rw [hp1e]
          obtain ⟨np, hnp⟩ : ∃ np : Nat, I 0 = (np : Int) := ⟨(I 0).toNat, by omega⟩
          refine x_calli B hA (va_runV (As := [.int (iI 4), .int (iI ((p0 : Int))), .int (iI ((p1 : Int)))]) (rest := [.int r254]) ⟨hx, hb, hml, hown, hts⟩ (c_Mo_make_4 l D cs _ _ _ (M 0) (M 1) (M 2) (M 3) (M 5) (M 6) (M 7) (M 8) (M 9) (M 10) (M 11) (M 12) (M 13) (M 14) th (I 0) rw_ fu fb lm mn sn Z bl w8 w9 w10 w11 ro fr cv p0 md np p1 (hMd.fc [0, 1, 2, 3, 6, 8, 9, 10, 11, 12, 13, 7, 5] (by decide) (by decide)) hMC1.1 hMC1.2.1 hMC1.2.2.1 hMC1.2.2.2.1 hMC1.2.2.2.2.2.1 hMC1.2.2.2.2.2.2.2.1 hMC1.2.2.2.2.2.2.2.2.1 hMC1.2.2.2.2.2.2.2.2.2.1 hMC1.2.2.2.2.2.2.2.2.2.2.1 hMC1.2.2.2.2.2.2.2.2.2.2.2.1 hMC1.2.2.2.2.2.2.2.2.2.2.2.2.1 hMC1.2.2.2.2.1 hMC1.2.2.2.2.2.2.1 hRS hp0t hcv hLA hhd hp0l hnp hp1t hp1l) (cwV 3 hts (gw_V w_771 w_772 w_773 w_8 w_774) rfl rfl rfl (by decide +kernel) ⟨by rw [hRf]; exact Nat.le_of_ble_eq_true rfl, by rw [hRl]; exact Nat.le_of_ble_eq_true rfl⟩) ⟨K0.blind, B.recv (hMd.1 0 (by decide)) hMC1.1 rfl, B.pre _⟩ rfl rfl hl.1 rfl (lv_room (Nat.le_of_ble_eq_true rfl)) d_law_276 ⟨by rw [hRc]; omega, by rw [hRs]; omega⟩) (fun r276 g276 H locs hw B => ?_)
          obtain ⟨lm2, mn2, sn2, Z2, bl2, w82, w92, w102, w112, md2, cv2, pn2, hRS2, hLA2, hcv2, ⟨q, hMk, hq2⟩, hg2⟩ := hw
          have hMC2 := MC.m13 hMd hMC1 hg2
          have hC2 := hC1.frame hAd (g := g276) (fun k hk => by rw [hg2]; exact hMd.ad [0, 1, 2, 3, 6, 8, 9, 10, 11, 12, 13, 7, 5] (by decide) rfl hk)
          have hov2 : g276 (M 4) = .inl (cs 1, 1, .inr (.inl (al ov))) := by rw [hg2]; exact (hMd.out (b := 4) (by decide) [0, 1, 2, 3, 6, 8, 9, 10, 11, 12, 13, 7, 5] (by decide) rfl).trans hov1
          have hqW : ∀ j, j < 12 → q j = W j := mk_4 (hEq p0 hp0l) (hEq p1 hp1l) hW hMk
          have hiff := mk_ok hqW
          clear hMk hW hg2
          rcases hpp with ⟨⟨hfb, hr1⟩, hInv1, hsv1⟩ | ⟨⟨hlt, hok⟩, hr1, hInv1, hI0, hrow, hoth⟩
          · rcases hq2 with ⟨hfb2, hr2, hpn2, hcv2e⟩ | ⟨hnb, hlt2, hr2, hpn2, hc1, hc2⟩
            · have he : r254 = r276 := hr1.trans hr2.symm
              rw [← he]
              obtain ⟨vv, hvv, hvr⟩ := i32_ex r254
              rw [hvv]
              refine x_icmp_eq (tgt := 956) hx hb d_law_279 (by decide) (by omega) (by omega) (fun h279 => ?_) (fun h279 => ?_)
              · exact TAIL _ _ _ _ ⟨I1, A1, R1, Zf1, _, cv2, bl2, ro, fr, Z2, ov, hC2, hInv1, by rw [show I1 0 = pn2 from hsv1.1.trans hpn2.symm]; exact ⟨_, _, _, lm2, mn2, sn2, w82, w92, w102, w112, md2, w15, hMC2, hRS2, hLA2, hcv2, by omega, by omega⟩, hov2, fun q hq => by rw [hcv2e]; rw [show I1 0 = I 0 from hsv1.1] at hq; rw [show A1 (20 + q) = A (20 + q) from hsv1.2 q (by omega)]; exact hEq q hq⟩ B (lv_sub hl [0, 1, 2, 3, 4] rfl)
              · exfalso; omega
            · exact absurd (hiff.mpr (hfb.resolve_left (by omega))) hnb
          · rcases hq2 with ⟨hfb2, hr2, hpn2, hcv2e⟩ | ⟨hnb, hlt2, hr2, hpn2, hc1, hc2⟩
            · exact absurd (hiff.mp (hfb2.resolve_right (by omega))) (fun ⟨j, hj, hjn⟩ => hjn (hok j hj))
            · have hI0n : (I 0).toNat = np := by omega
              rw [hI0n] at hrow hoth
              have he : r254 = r276 := by rw [hr1, hr2, hnp]
              rw [← he]
              obtain ⟨vv, hvv, hvr⟩ := i32_ex r254
              rw [hvv]
              refine x_icmp_eq (tgt := 956) hx hb d_law_279 (by decide) (by omega) (by omega) (fun h279 => ?_) (fun h279 => ?_)
              · exact TAIL _ _ _ _ ⟨I1, A1, R1, Zf1, _, cv2, bl2, ro, fr, Z2, ov, hC2, hInv1, by rw [show I1 0 = pn2 from hI0.trans hpn2.symm]; exact ⟨_, _, _, lm2, mn2, sn2, w82, w92, w102, w112, md2, w15, hMC2, hRS2, hLA2, hcv2, by omega, by omega⟩, hov2, eq_grow (W := W) hnp hlt2 hI0 hrow hoth (fun j hj => (hc1 j hj).trans (hqW j (by omega))) hc2 hEq⟩ B (lv_sub hl [0, 1, 2, 3, 4] rfl)
              · exfalso; omega
      · refine x_calli B hA (va_runV (As := [.int (iI 4), .int (iI ((p0 : Int))), .int (iI (ys (ii + 3)))]) (rest := []) ⟨hx, hb, hml, hown, hts⟩ (c_RR_make_u4 l D cs _ _ _ ad Qm I A Rf Zf p0 (ys (ii + 3)) hAd hC hInv hp0l (by omega) (by omega)) (cwV 3 hts (gw_V w_269 w_270 w_271 w_1 w_272) rfl rfl rfl (by decide +kernel) ⟨by rw [hRf]; exact Nat.le_of_ble_eq_true rfl, by rw [hRl]; exact Nat.le_of_ble_eq_true rfl⟩) ⟨K0.blind, B.recv (hAd.1 0 (by omega)) hC.x rfl, B.pre _⟩ rfl rfl hl.1 rfl (lv_room (Nat.le_of_ble_eq_true rfl)) d_law_254 ⟨by rw [hRc]; omega, by rw [hRs]; omega⟩) (fun r254 g254 H locs hw B => ?_)
        obtain ⟨I1, A1, R1, Zf1, hC1, hq1, hInv1, hsv1, hans1⟩ := hw
        have hMC1 := hMC.frame (fun k hk => hq1 _ (hMd.2.2 k hk))
        have hov1 := (hq1 _ (hMd.2.2 4 (by decide))).trans hov
        refine lv_aload_n hx hb d_law_257 rfl (lv_at hl 2 rfl) ?_
        refine lv_aload_n hx hb d_law_258 rfl (lv_at hl 4 rfl) ?_
        refine lv_iload hx hb d_law_259 (lv_at hl 0 rfl) ?_
        refine x_iconst hx hb d_law_261 ?_
        refine x_iadd hx hb d_law_262 ?_
        refine x_sld hx hb hX hbl hbA B.2.2.2.1 (ii + 1) (by omega) (by omega) (by omega) d_law_263 ?_
        refine lv_aload_n hx hb d_law_264 rfl (lv_at hl 4 rfl) ?_
        refine lv_iload hx hb d_law_265 (lv_at hl 0 rfl) ?_
        refine x_iconst hx hb d_law_267 ?_
        refine x_iadd hx hb d_law_268 ?_
        refine x_sld hx hb hX hbl hbA B.2.2.2.1 (ii + 2) (by omega) (by omega) (by omega) d_law_269 ?_
        refine lv_aload_n hx hb d_law_270 rfl (lv_at hl 4 rfl) ?_
        refine lv_iload hx hb d_law_271 (lv_at hl 0 rfl) ?_
        refine x_iconst hx hb d_law_273 ?_
        refine x_iadd hx hb d_law_274 ?_
        refine x_sld hx hb hX hbl hbA B.2.2.2.1 (ii + 3) (by omega) (by omega) (by omega) d_law_275 ?_
        rw [hkd]
        rw [hp0e]
        refine x_calli B hA (va_runV (As := [.int (iI 4), .int (iI ((p0 : Int))), .int (iI (ys (ii + 3)))]) (rest := [.int r254]) ⟨hx, hb, hml, hown, hts⟩ (c_Mo_make_u4 l D cs _ _ _ (M 0) (M 1) (M 2) (M 3) (M 5) (M 6) (M 7) (M 8) (M 9) (M 10) (M 11) (M 12) (M 13) (M 14) th (I 0) rw_ fu fb cv p0 (ys (ii + 3)) (hMd.fc [0, 5] (by decide) (by decide)) hMC1.1 hMC1.2.2.2.2.1 hp0t hcv hhd hp0l (by omega) (by omega)) (cwV 3 hts (gw_V w_771 w_772 w_773 w_8 w_774) rfl rfl rfl (by decide +kernel) ⟨by rw [hRf]; exact Nat.le_of_ble_eq_true rfl, by rw [hRl]; exact Nat.le_of_ble_eq_true rfl⟩) ⟨K0.blind, B.recv (hMd.1 0 (by decide)) hMC1.1 rfl, B.pre _⟩ rfl rfl hl.1 rfl (lv_room (Nat.le_of_ble_eq_true rfl)) d_law_276 ⟨by rw [hRc]; omega, by rw [hRs]; omega⟩) (fun r276 g276 H locs hw B => ?_)
        obtain ⟨hr2, hg2⟩ := hw
        have hMC2 := MC.m1 hMd hMC1 hg2
        have hC2 := hC1.frame hAd (g := g276) (fun k hk => by rw [hg2]; exact hMd.ad [0] (by decide) rfl hk)
        have hov2 : g276 (M 4) = .inl (cs 1, 1, .inr (.inl (al ov))) := by rw [hg2]; exact (hMd.out (b := 4) (by decide) [0] (by decide) rfl).trans hov1
        have he : r254 = r276 := hans1.trans hr2.symm
        rw [← he]
        obtain ⟨vv, hvv, hvr⟩ := i32_ex r254
        rw [hvv]
        refine x_icmp_eq (tgt := 956) hx hb d_law_279 (by decide) (by omega) (by omega) (fun h279 => ?_) (fun h279 => ?_)
        · exact TAIL _ _ _ _ ⟨I1, A1, R1, Zf1, _, cv, bl, ro, fr, Z, ov, hC2, hInv1, by rw [show I1 0 = I 0 from hsv1.1]; exact ⟨_, _, _, lm, mn, sn, w8, w9, w10, w11, md, w15, hMC2, hRS, hLA, hcv, hhd.1, hhd.2⟩, hov2, fun q hq => by rw [show I1 0 = I 0 from hsv1.1] at hq; rw [show A1 (20 + q) = A (20 + q) from hsv1.2 q (by omega)]; exact hEq q hq⟩ B (lv_sub hl [0, 1, 2, 3, 4] rfl)
        · exfalso; omega
    · rw [hkd]
      by_cases hNz : Nz (A (20 + p0))
      · refine x_calli B hA (va_runV (As := [.int (iI 5), .int (iI ((p0 : Int))), .int (iI (ys (ii + 3)))]) (rest := []) ⟨hx, hb, hml, hown, hts⟩ (c_RR_make_5 l D cs _ _ _ ad Qm I A Rf Zf p0 (ys (ii + 3)) hAd hC hInv hp0l (by omega) hNz) (cwV 3 hts (gw_V w_269 w_270 w_271 w_1 w_272) rfl rfl rfl (by decide +kernel) ⟨by rw [hRf]; exact Nat.le_of_ble_eq_true rfl, by rw [hRl]; exact Nat.le_of_ble_eq_true rfl⟩) ⟨K0.blind, B.recv (hAd.1 0 (by omega)) hC.x rfl, B.pre _⟩ rfl rfl hl.1 rfl (lv_room (Nat.le_of_ble_eq_true rfl)) d_law_254 ⟨by rw [hRc]; omega, by rw [hRs]; omega⟩) (fun r254 g254 H locs hw B => ?_)
        obtain ⟨I1, A1, R1, Zf1, hC1, hq1, W, hW, hpp⟩ := hw
        have hMC1 := hMC.frame (fun k hk => hq1 _ (hMd.2.2 k hk))
        have hov1 := (hq1 _ (hMd.2.2 4 (by decide))).trans hov
        refine lv_aload_n hx hb d_law_257 rfl (lv_at hl 2 rfl) ?_
        refine lv_aload_n hx hb d_law_258 rfl (lv_at hl 4 rfl) ?_
        refine lv_iload hx hb d_law_259 (lv_at hl 0 rfl) ?_
        refine x_iconst hx hb d_law_261 ?_
        refine x_iadd hx hb d_law_262 ?_
        refine x_sld hx hb hX hbl hbA B.2.2.2.1 (ii + 1) (by omega) (by omega) (by omega) d_law_263 ?_
        refine lv_aload_n hx hb d_law_264 rfl (lv_at hl 4 rfl) ?_
        refine lv_iload hx hb d_law_265 (lv_at hl 0 rfl) ?_
        refine x_iconst hx hb d_law_267 ?_
        refine x_iadd hx hb d_law_268 ?_
        refine x_sld hx hb hX hbl hbA B.2.2.2.1 (ii + 2) (by omega) (by omega) (by omega) d_law_269 ?_
        refine lv_aload_n hx hb d_law_270 rfl (lv_at hl 4 rfl) ?_
        refine lv_iload hx hb d_law_271 (lv_at hl 0 rfl) ?_
        refine x_iconst hx hb d_law_273 ?_
        refine x_iadd hx hb d_law_274 ?_
        refine x_sld hx hb hX hbl hbA B.2.2.2.1 (ii + 3) (by omega) (by omega) (by omega) d_law_275 ?_
        rw [hkd]
        rw [hp0e]
        obtain ⟨np, hnp⟩ : ∃ np : Nat, I 0 = (np : Int) := ⟨(I 0).toNat, by omega⟩
        refine x_calli B hA (va_runV (As := [.int (iI 5), .int (iI ((p0 : Int))), .int (iI (ys (ii + 3)))]) (rest := [.int r254]) ⟨hx, hb, hml, hown, hts⟩ (c_Mo_make_5 l D cs _ _ _ (M 0) (M 1) (M 2) (M 3) (M 5) (M 6) (M 7) (M 8) (M 9) (M 10) (M 11) (M 12) (M 13) (M 14) th (I 0) rw_ fu fb lm mn sn Z bl w8 w9 w10 w11 ro fr cv p0 md np (ys (ii + 3)) (hMd.fc [0, 1, 2, 3, 6, 8, 9, 10, 11, 12, 13, 7, 5] (by decide) (by decide)) hMC1.1 hMC1.2.1 hMC1.2.2.1 hMC1.2.2.2.1 hMC1.2.2.2.2.2.1 hMC1.2.2.2.2.2.2.2.1 hMC1.2.2.2.2.2.2.2.2.1 hMC1.2.2.2.2.2.2.2.2.2.1 hMC1.2.2.2.2.2.2.2.2.2.2.1 hMC1.2.2.2.2.2.2.2.2.2.2.2.1 hMC1.2.2.2.2.2.2.2.2.2.2.2.2.1 hMC1.2.2.2.2.1 hMC1.2.2.2.2.2.2.1 hRS hp0t hcv hLA hhd hp0l hnp (by omega) ((hEq p0 hp0l).nz hNz)) (cwV 3 hts (gw_V w_771 w_772 w_773 w_8 w_774) rfl rfl rfl (by decide +kernel) ⟨by rw [hRf]; exact Nat.le_of_ble_eq_true rfl, by rw [hRl]; exact Nat.le_of_ble_eq_true rfl⟩) ⟨K0.blind, B.recv (hMd.1 0 (by decide)) hMC1.1 rfl, B.pre _⟩ rfl rfl hl.1 rfl (lv_room (Nat.le_of_ble_eq_true rfl)) d_law_276 ⟨by rw [hRc]; omega, by rw [hRs]; omega⟩) (fun r276 g276 H locs hw B => ?_)
        obtain ⟨lm2, mn2, sn2, Z2, bl2, w82, w92, w102, w112, md2, cv2, pn2, hRS2, hLA2, hcv2, ⟨q, hMk, hq2⟩, hg2⟩ := hw
        have hMC2 := MC.m13 hMd hMC1 hg2
        have hC2 := hC1.frame hAd (g := g276) (fun k hk => by rw [hg2]; exact hMd.ad [0, 1, 2, 3, 6, 8, 9, 10, 11, 12, 13, 7, 5] (by decide) rfl hk)
        have hov2 : g276 (M 4) = .inl (cs 1, 1, .inr (.inl (al ov))) := by rw [hg2]; exact (hMd.out (b := 4) (by decide) [0, 1, 2, 3, 6, 8, 9, 10, 11, 12, 13, 7, 5] (by decide) rfl).trans hov1
        have hqW : ∀ j, j < 12 → q j = W j := mk_5 hNz (hEq p0 hp0l) hW hMk
        have hiff := mk_ok hqW
        clear hMk hW hg2
        rcases hpp with ⟨⟨hfb, hr1⟩, hInv1, hsv1⟩ | ⟨⟨hlt, hok⟩, hr1, hInv1, hI0, hrow, hoth⟩
        · rcases hq2 with ⟨hfb2, hr2, hpn2, hcv2e⟩ | ⟨hnb, hlt2, hr2, hpn2, hc1, hc2⟩
          · have he : r254 = r276 := hr1.trans hr2.symm
            rw [← he]
            obtain ⟨vv, hvv, hvr⟩ := i32_ex r254
            rw [hvv]
            refine x_icmp_eq (tgt := 956) hx hb d_law_279 (by decide) (by omega) (by omega) (fun h279 => ?_) (fun h279 => ?_)
            · exact TAIL _ _ _ _ ⟨I1, A1, R1, Zf1, _, cv2, bl2, ro, fr, Z2, ov, hC2, hInv1, by rw [show I1 0 = pn2 from hsv1.1.trans hpn2.symm]; exact ⟨_, _, _, lm2, mn2, sn2, w82, w92, w102, w112, md2, w15, hMC2, hRS2, hLA2, hcv2, by omega, by omega⟩, hov2, fun q hq => by rw [hcv2e]; rw [show I1 0 = I 0 from hsv1.1] at hq; rw [show A1 (20 + q) = A (20 + q) from hsv1.2 q (by omega)]; exact hEq q hq⟩ B (lv_sub hl [0, 1, 2, 3, 4] rfl)
            · exfalso; omega
          · exact absurd (hiff.mpr (hfb.resolve_left (by omega))) hnb
        · rcases hq2 with ⟨hfb2, hr2, hpn2, hcv2e⟩ | ⟨hnb, hlt2, hr2, hpn2, hc1, hc2⟩
          · exact absurd (hiff.mp (hfb2.resolve_right (by omega))) (fun ⟨j, hj, hjn⟩ => hjn (hok j hj))
          · have hI0n : (I 0).toNat = np := by omega
            rw [hI0n] at hrow hoth
            have he : r254 = r276 := by rw [hr1, hr2, hnp]
            rw [← he]
            obtain ⟨vv, hvv, hvr⟩ := i32_ex r254
            rw [hvv]
            refine x_icmp_eq (tgt := 956) hx hb d_law_279 (by decide) (by omega) (by omega) (fun h279 => ?_) (fun h279 => ?_)
            · exact TAIL _ _ _ _ ⟨I1, A1, R1, Zf1, _, cv2, bl2, ro, fr, Z2, ov, hC2, hInv1, by rw [show I1 0 = pn2 from hI0.trans hpn2.symm]; exact ⟨_, _, _, lm2, mn2, sn2, w82, w92, w102, w112, md2, w15, hMC2, hRS2, hLA2, hcv2, by omega, by omega⟩, hov2, eq_grow (W := W) hnp hlt2 hI0 hrow hoth (fun j hj => (hc1 j hj).trans (hqW j (by omega))) hc2 hEq⟩ B (lv_sub hl [0, 1, 2, 3, 4] rfl)
            · exfalso; omega
      · have hzr : ∀ j, j < 6 → A (20 + p0) j = 0 := fun j hj => Classical.byContradiction (fun h => hNz ⟨j, hj, h⟩)
        refine x_calli B hA (va_runV (As := [.int (iI 5), .int (iI ((p0 : Int))), .int (iI (ys (ii + 3)))]) (rest := []) ⟨hx, hb, hml, hown, hts⟩ (c_RR_make_z5 l D cs _ _ _ ad Qm I A Rf Zf p0 (ys (ii + 3)) hAd hC hInv hp0l (by omega) hzr) (cwV 3 hts (gw_V w_269 w_270 w_271 w_1 w_272) rfl rfl rfl (by decide +kernel) ⟨by rw [hRf]; exact Nat.le_of_ble_eq_true rfl, by rw [hRl]; exact Nat.le_of_ble_eq_true rfl⟩) ⟨K0.blind, B.recv (hAd.1 0 (by omega)) hC.x rfl, B.pre _⟩ rfl rfl hl.1 rfl (lv_room (Nat.le_of_ble_eq_true rfl)) d_law_254 ⟨by rw [hRc]; omega, by rw [hRs]; omega⟩) (fun r254 g254 H locs hw B => ?_)
        obtain ⟨I1, A1, R1, Zf1, hC1, hq1, hInv1, hsv1, hans1⟩ := hw
        have hMC1 := hMC.frame (fun k hk => hq1 _ (hMd.2.2 k hk))
        have hov1 := (hq1 _ (hMd.2.2 4 (by decide))).trans hov
        refine lv_aload_n hx hb d_law_257 rfl (lv_at hl 2 rfl) ?_
        refine lv_aload_n hx hb d_law_258 rfl (lv_at hl 4 rfl) ?_
        refine lv_iload hx hb d_law_259 (lv_at hl 0 rfl) ?_
        refine x_iconst hx hb d_law_261 ?_
        refine x_iadd hx hb d_law_262 ?_
        refine x_sld hx hb hX hbl hbA B.2.2.2.1 (ii + 1) (by omega) (by omega) (by omega) d_law_263 ?_
        refine lv_aload_n hx hb d_law_264 rfl (lv_at hl 4 rfl) ?_
        refine lv_iload hx hb d_law_265 (lv_at hl 0 rfl) ?_
        refine x_iconst hx hb d_law_267 ?_
        refine x_iadd hx hb d_law_268 ?_
        refine x_sld hx hb hX hbl hbA B.2.2.2.1 (ii + 2) (by omega) (by omega) (by omega) d_law_269 ?_
        refine lv_aload_n hx hb d_law_270 rfl (lv_at hl 4 rfl) ?_
        refine lv_iload hx hb d_law_271 (lv_at hl 0 rfl) ?_
        refine x_iconst hx hb d_law_273 ?_
        refine x_iadd hx hb d_law_274 ?_
        refine x_sld hx hb hX hbl hbA B.2.2.2.1 (ii + 3) (by omega) (by omega) (by omega) d_law_275 ?_
        rw [hkd]
        rw [hp0e]
        refine x_calli B hA (va_runV (As := [.int (iI 5), .int (iI ((p0 : Int))), .int (iI (ys (ii + 3)))]) (rest := [.int r254]) ⟨hx, hb, hml, hown, hts⟩ (c_Mo_make_z5 l D cs _ _ _ (M 0) (M 1) (M 2) (M 3) (M 5) (M 6) (M 7) (M 8) (M 9) (M 10) (M 11) (M 12) (M 13) (M 14) th (I 0) rw_ fu fb cv p0 (ys (ii + 3)) (hMd.fc [0, 5] (by decide) (by decide)) hMC1.1 hMC1.2.2.2.2.1 hp0t hcv hhd hp0l ((hEq p0 hp0l).zr hzr) (by omega)) (cwV 3 hts (gw_V w_771 w_772 w_773 w_8 w_774) rfl rfl rfl (by decide +kernel) ⟨by rw [hRf]; exact Nat.le_of_ble_eq_true rfl, by rw [hRl]; exact Nat.le_of_ble_eq_true rfl⟩) ⟨K0.blind, B.recv (hMd.1 0 (by decide)) hMC1.1 rfl, B.pre _⟩ rfl rfl hl.1 rfl (lv_room (Nat.le_of_ble_eq_true rfl)) d_law_276 ⟨by rw [hRc]; omega, by rw [hRs]; omega⟩) (fun r276 g276 H locs hw B => ?_)
        obtain ⟨hr2, hg2⟩ := hw
        have hMC2 := MC.m1 hMd hMC1 hg2
        have hC2 := hC1.frame hAd (g := g276) (fun k hk => by rw [hg2]; exact hMd.ad [0] (by decide) rfl hk)
        have hov2 : g276 (M 4) = .inl (cs 1, 1, .inr (.inl (al ov))) := by rw [hg2]; exact (hMd.out (b := 4) (by decide) [0] (by decide) rfl).trans hov1
        have he : r254 = r276 := hans1.trans hr2.symm
        rw [← he]
        obtain ⟨vv, hvv, hvr⟩ := i32_ex r254
        rw [hvv]
        refine x_icmp_eq (tgt := 956) hx hb d_law_279 (by decide) (by omega) (by omega) (fun h279 => ?_) (fun h279 => ?_)
        · exact TAIL _ _ _ _ ⟨I1, A1, R1, Zf1, _, cv, bl, ro, fr, Z, ov, hC2, hInv1, by rw [show I1 0 = I 0 from hsv1.1]; exact ⟨_, _, _, lm, mn, sn, w8, w9, w10, w11, md, w15, hMC2, hRS, hLA, hcv, hhd.1, hhd.2⟩, hov2, fun q hq => by rw [show I1 0 = I 0 from hsv1.1] at hq; rw [show A1 (20 + q) = A (20 + q) from hsv1.2 q (by omega)]; exact hEq q hq⟩ B (lv_sub hl [0, 1, 2, 3, 4] rfl)
        · exfalso; omega
    · rw [hkd]
      by_cases hk2 : -1000 ≤ ys (ii + 3) ∧ ys (ii + 3) ≤ 1000
      · refine x_calli B hA (va_runV (As := [.int (iI 6), .int (iI ((p0 : Int))), .int (iI (ys (ii + 3)))]) (rest := []) ⟨hx, hb, hml, hown, hts⟩ (c_RR_make_6 l D cs _ _ _ ad Qm I A Rf Zf p0 (ys (ii + 3)) hAd hC hInv hp0l (by omega) hk2) (cwV 3 hts (gw_V w_269 w_270 w_271 w_1 w_272) rfl rfl rfl (by decide +kernel) ⟨by rw [hRf]; exact Nat.le_of_ble_eq_true rfl, by rw [hRl]; exact Nat.le_of_ble_eq_true rfl⟩) ⟨K0.blind, B.recv (hAd.1 0 (by omega)) hC.x rfl, B.pre _⟩ rfl rfl hl.1 rfl (lv_room (Nat.le_of_ble_eq_true rfl)) d_law_254 ⟨by rw [hRc]; omega, by rw [hRs]; omega⟩) (fun r254 g254 H locs hw B => ?_)
        obtain ⟨I1, A1, R1, Zf1, hC1, hq1, W, hW, hpp⟩ := hw
        have hMC1 := hMC.frame (fun k hk => hq1 _ (hMd.2.2 k hk))
        have hov1 := (hq1 _ (hMd.2.2 4 (by decide))).trans hov
        refine lv_aload_n hx hb d_law_257 rfl (lv_at hl 2 rfl) ?_
        refine lv_aload_n hx hb d_law_258 rfl (lv_at hl 4 rfl) ?_
        refine lv_iload hx hb d_law_259 (lv_at hl 0 rfl) ?_
        refine x_iconst hx hb d_law_261 ?_
        refine x_iadd hx hb d_law_262 ?_
        refine x_sld hx hb hX hbl hbA B.2.2.2.1 (ii + 1) (by omega) (by omega) (by omega) d_law_263 ?_
        refine lv_aload_n hx hb d_law_264 rfl (lv_at hl 4 rfl) ?_
        refine lv_iload hx hb d_law_265 (lv_at hl 0 rfl) ?_
        refine x_iconst hx hb d_law_267 ?_
        refine x_iadd hx hb d_law_268 ?_
        refine x_sld hx hb hX hbl hbA B.2.2.2.1 (ii + 2) (by omega) (by omega) (by omega) d_law_269 ?_
        refine lv_aload_n hx hb d_law_270 rfl (lv_at hl 4 rfl) ?_
        refine lv_iload hx hb d_law_271 (lv_at hl 0 rfl) ?_
        refine x_iconst hx hb d_law_273 ?_
        refine x_iadd hx hb d_law_274 ?_
        refine x_sld hx hb hX hbl hbA B.2.2.2.1 (ii + 3) (by omega) (by omega) (by omega) d_law_275 ?_
        rw [hkd]
        rw [hp0e]
        obtain ⟨np, hnp⟩ : ∃ np : Nat, I 0 = (np : Int) := ⟨(I 0).toNat, by omega⟩
        refine x_calli B hA (va_runV (As := [.int (iI 6), .int (iI ((p0 : Int))), .int (iI (ys (ii + 3)))]) (rest := [.int r254]) ⟨hx, hb, hml, hown, hts⟩ (c_Mo_make_6 l D cs _ _ _ (M 0) (M 1) (M 2) (M 3) (M 5) (M 6) (M 7) (M 8) (M 9) (M 10) (M 11) (M 12) (M 13) (M 14) th (I 0) rw_ fu fb lm mn sn Z bl w8 w9 w10 w11 ro fr cv p0 md np (ys (ii + 3)) (hMd.fc [0, 1, 2, 3, 6, 8, 9, 10, 11, 12, 13, 7, 5] (by decide) (by decide)) hMC1.1 hMC1.2.1 hMC1.2.2.1 hMC1.2.2.2.1 hMC1.2.2.2.2.2.1 hMC1.2.2.2.2.2.2.2.1 hMC1.2.2.2.2.2.2.2.2.1 hMC1.2.2.2.2.2.2.2.2.2.1 hMC1.2.2.2.2.2.2.2.2.2.2.1 hMC1.2.2.2.2.2.2.2.2.2.2.2.1 hMC1.2.2.2.2.2.2.2.2.2.2.2.2.1 hMC1.2.2.2.2.1 hMC1.2.2.2.2.2.2.1 hRS hp0t hcv hLA hhd hp0l hnp hk2) (cwV 3 hts (gw_V w_771 w_772 w_773 w_8 w_774) rfl rfl rfl (by decide +kernel) ⟨by rw [hRf]; exact Nat.le_of_ble_eq_true rfl, by rw [hRl]; exact Nat.le_of_ble_eq_true rfl⟩) ⟨K0.blind, B.recv (hMd.1 0 (by decide)) hMC1.1 rfl, B.pre _⟩ rfl rfl hl.1 rfl (lv_room (Nat.le_of_ble_eq_true rfl)) d_law_276 ⟨by rw [hRc]; omega, by rw [hRs]; omega⟩) (fun r276 g276 H locs hw B => ?_)
        obtain ⟨lm2, mn2, sn2, Z2, bl2, w82, w92, w102, w112, md2, cv2, pn2, hRS2, hLA2, hcv2, ⟨q, hMk, hq2⟩, hg2⟩ := hw
        have hMC2 := MC.m13 hMd hMC1 hg2
        have hC2 := hC1.frame hAd (g := g276) (fun k hk => by rw [hg2]; exact hMd.ad [0, 1, 2, 3, 6, 8, 9, 10, 11, 12, 13, 7, 5] (by decide) rfl hk)
        have hov2 : g276 (M 4) = .inl (cs 1, 1, .inr (.inl (al ov))) := by rw [hg2]; exact (hMd.out (b := 4) (by decide) [0, 1, 2, 3, 6, 8, 9, 10, 11, 12, 13, 7, 5] (by decide) rfl).trans hov1
        have hqW : ∀ j, j < 12 → q j = W j := mk_6 (hEq p0 hp0l) hW hMk
        have hiff := mk_ok hqW
        clear hMk hW hg2
        rcases hpp with ⟨⟨hfb, hr1⟩, hInv1, hsv1⟩ | ⟨⟨hlt, hok⟩, hr1, hInv1, hI0, hrow, hoth⟩
        · rcases hq2 with ⟨hfb2, hr2, hpn2, hcv2e⟩ | ⟨hnb, hlt2, hr2, hpn2, hc1, hc2⟩
          · have he : r254 = r276 := hr1.trans hr2.symm
            rw [← he]
            obtain ⟨vv, hvv, hvr⟩ := i32_ex r254
            rw [hvv]
            refine x_icmp_eq (tgt := 956) hx hb d_law_279 (by decide) (by omega) (by omega) (fun h279 => ?_) (fun h279 => ?_)
            · exact TAIL _ _ _ _ ⟨I1, A1, R1, Zf1, _, cv2, bl2, ro, fr, Z2, ov, hC2, hInv1, by rw [show I1 0 = pn2 from hsv1.1.trans hpn2.symm]; exact ⟨_, _, _, lm2, mn2, sn2, w82, w92, w102, w112, md2, w15, hMC2, hRS2, hLA2, hcv2, by omega, by omega⟩, hov2, fun q hq => by rw [hcv2e]; rw [show I1 0 = I 0 from hsv1.1] at hq; rw [show A1 (20 + q) = A (20 + q) from hsv1.2 q (by omega)]; exact hEq q hq⟩ B (lv_sub hl [0, 1, 2, 3, 4] rfl)
            · exfalso; omega
          · exact absurd (hiff.mpr (hfb.resolve_left (by omega))) hnb
        · rcases hq2 with ⟨hfb2, hr2, hpn2, hcv2e⟩ | ⟨hnb, hlt2, hr2, hpn2, hc1, hc2⟩
          · exact absurd (hiff.mp (hfb2.resolve_right (by omega))) (fun ⟨j, hj, hjn⟩ => hjn (hok j hj))
          · have hI0n : (I 0).toNat = np := by omega
            rw [hI0n] at hrow hoth
            have he : r254 = r276 := by rw [hr1, hr2, hnp]
            rw [← he]
            obtain ⟨vv, hvv, hvr⟩ := i32_ex r254
            rw [hvv]
            refine x_icmp_eq (tgt := 956) hx hb d_law_279 (by decide) (by omega) (by omega) (fun h279 => ?_) (fun h279 => ?_)
            · exact TAIL _ _ _ _ ⟨I1, A1, R1, Zf1, _, cv2, bl2, ro, fr, Z2, ov, hC2, hInv1, by rw [show I1 0 = pn2 from hI0.trans hpn2.symm]; exact ⟨_, _, _, lm2, mn2, sn2, w82, w92, w102, w112, md2, w15, hMC2, hRS2, hLA2, hcv2, by omega, by omega⟩, hov2, eq_grow (W := W) hnp hlt2 hI0 hrow hoth (fun j hj => (hc1 j hj).trans (hqW j (by omega))) hc2 hEq⟩ B (lv_sub hl [0, 1, 2, 3, 4] rfl)
            · exfalso; omega
      · refine x_calli B hA (va_runV (As := [.int (iI 6), .int (iI ((p0 : Int))), .int (iI (ys (ii + 3)))]) (rest := []) ⟨hx, hb, hml, hown, hts⟩ (c_RR_make_b6 l D cs _ _ _ ad Qm I A Rf Zf p0 (ys (ii + 3)) hAd hC hInv hp0l (by omega) (by omega)) (cwV 3 hts (gw_V w_269 w_270 w_271 w_1 w_272) rfl rfl rfl (by decide +kernel) ⟨by rw [hRf]; exact Nat.le_of_ble_eq_true rfl, by rw [hRl]; exact Nat.le_of_ble_eq_true rfl⟩) ⟨K0.blind, B.recv (hAd.1 0 (by omega)) hC.x rfl, B.pre _⟩ rfl rfl hl.1 rfl (lv_room (Nat.le_of_ble_eq_true rfl)) d_law_254 ⟨by rw [hRc]; omega, by rw [hRs]; omega⟩) (fun r254 g254 H locs hw B => ?_)
        obtain ⟨I1, A1, R1, Zf1, hC1, hq1, hInv1, hsv1, hans1⟩ := hw
        have hMC1 := hMC.frame (fun k hk => hq1 _ (hMd.2.2 k hk))
        have hov1 := (hq1 _ (hMd.2.2 4 (by decide))).trans hov
        refine lv_aload_n hx hb d_law_257 rfl (lv_at hl 2 rfl) ?_
        refine lv_aload_n hx hb d_law_258 rfl (lv_at hl 4 rfl) ?_
        refine lv_iload hx hb d_law_259 (lv_at hl 0 rfl) ?_
        refine x_iconst hx hb d_law_261 ?_
        refine x_iadd hx hb d_law_262 ?_
        refine x_sld hx hb hX hbl hbA B.2.2.2.1 (ii + 1) (by omega) (by omega) (by omega) d_law_263 ?_
        refine lv_aload_n hx hb d_law_264 rfl (lv_at hl 4 rfl) ?_
        refine lv_iload hx hb d_law_265 (lv_at hl 0 rfl) ?_
        refine x_iconst hx hb d_law_267 ?_
        refine x_iadd hx hb d_law_268 ?_
        refine x_sld hx hb hX hbl hbA B.2.2.2.1 (ii + 2) (by omega) (by omega) (by omega) d_law_269 ?_
        refine lv_aload_n hx hb d_law_270 rfl (lv_at hl 4 rfl) ?_
        refine lv_iload hx hb d_law_271 (lv_at hl 0 rfl) ?_
        refine x_iconst hx hb d_law_273 ?_
        refine x_iadd hx hb d_law_274 ?_
        refine x_sld hx hb hX hbl hbA B.2.2.2.1 (ii + 3) (by omega) (by omega) (by omega) d_law_275 ?_
        rw [hkd]
        rw [hp0e]
        refine x_calli B hA (va_runV (As := [.int (iI 6), .int (iI ((p0 : Int))), .int (iI (ys (ii + 3)))]) (rest := [.int r254]) ⟨hx, hb, hml, hown, hts⟩ (c_Mo_make_b6 l D cs _ _ _ (M 0) (M 1) (M 2) (M 3) (M 5) (M 6) (M 7) (M 8) (M 9) (M 10) (M 11) (M 12) (M 13) (M 14) th (I 0) rw_ fu fb cv p0 (ys (ii + 3)) (hMd.fc [0, 5] (by decide) (by decide)) hMC1.1 hMC1.2.2.2.2.1 hp0t hcv hhd hp0l (by omega) (by omega)) (cwV 3 hts (gw_V w_771 w_772 w_773 w_8 w_774) rfl rfl rfl (by decide +kernel) ⟨by rw [hRf]; exact Nat.le_of_ble_eq_true rfl, by rw [hRl]; exact Nat.le_of_ble_eq_true rfl⟩) ⟨K0.blind, B.recv (hMd.1 0 (by decide)) hMC1.1 rfl, B.pre _⟩ rfl rfl hl.1 rfl (lv_room (Nat.le_of_ble_eq_true rfl)) d_law_276 ⟨by rw [hRc]; omega, by rw [hRs]; omega⟩) (fun r276 g276 H locs hw B => ?_)
        obtain ⟨hr2, hg2⟩ := hw
        have hMC2 := MC.m1 hMd hMC1 hg2
        have hC2 := hC1.frame hAd (g := g276) (fun k hk => by rw [hg2]; exact hMd.ad [0] (by decide) rfl hk)
        have hov2 : g276 (M 4) = .inl (cs 1, 1, .inr (.inl (al ov))) := by rw [hg2]; exact (hMd.out (b := 4) (by decide) [0] (by decide) rfl).trans hov1
        have he : r254 = r276 := hans1.trans hr2.symm
        rw [← he]
        obtain ⟨vv, hvv, hvr⟩ := i32_ex r254
        rw [hvv]
        refine x_icmp_eq (tgt := 956) hx hb d_law_279 (by decide) (by omega) (by omega) (fun h279 => ?_) (fun h279 => ?_)
        · exact TAIL _ _ _ _ ⟨I1, A1, R1, Zf1, _, cv, bl, ro, fr, Z, ov, hC2, hInv1, by rw [show I1 0 = I 0 from hsv1.1]; exact ⟨_, _, _, lm, mn, sn, w8, w9, w10, w11, md, w15, hMC2, hRS, hLA, hcv, hhd.1, hhd.2⟩, hov2, fun q hq => by rw [show I1 0 = I 0 from hsv1.1] at hq; rw [show A1 (20 + q) = A (20 + q) from hsv1.2 q (by omega)]; exact hEq q hq⟩ B (lv_sub hl [0, 1, 2, 3, 4] rfl)
        · exfalso; omega
    · rw [hkd]
      refine x_calli B hA (va_runV (As := [.int (iI 7), .int (iI ((p0 : Int))), .int (iI (ys (ii + 3)))]) (rest := []) ⟨hx, hb, hml, hown, hts⟩ (c_RR_make_7 l D cs _ _ _ ad Qm I A Rf Zf p0 (ys (ii + 3)) hAd hC hInv hp0l (by omega)) (cwV 3 hts (gw_V w_269 w_270 w_271 w_1 w_272) rfl rfl rfl (by decide +kernel) ⟨by rw [hRf]; exact Nat.le_of_ble_eq_true rfl, by rw [hRl]; exact Nat.le_of_ble_eq_true rfl⟩) ⟨K0.blind, B.recv (hAd.1 0 (by omega)) hC.x rfl, B.pre _⟩ rfl rfl hl.1 rfl (lv_room (Nat.le_of_ble_eq_true rfl)) d_law_254 ⟨by rw [hRc]; omega, by rw [hRs]; omega⟩) (fun r254 g254 H locs hw B => ?_)
      obtain ⟨I1, A1, R1, Zf1, hC1, hq1, W, hW, hpp⟩ := hw
      have hMC1 := hMC.frame (fun k hk => hq1 _ (hMd.2.2 k hk))
      have hov1 := (hq1 _ (hMd.2.2 4 (by decide))).trans hov
      refine lv_aload_n hx hb d_law_257 rfl (lv_at hl 2 rfl) ?_
      refine lv_aload_n hx hb d_law_258 rfl (lv_at hl 4 rfl) ?_
      refine lv_iload hx hb d_law_259 (lv_at hl 0 rfl) ?_
      refine x_iconst hx hb d_law_261 ?_
      refine x_iadd hx hb d_law_262 ?_
      refine x_sld hx hb hX hbl hbA B.2.2.2.1 (ii + 1) (by omega) (by omega) (by omega) d_law_263 ?_
      refine lv_aload_n hx hb d_law_264 rfl (lv_at hl 4 rfl) ?_
      refine lv_iload hx hb d_law_265 (lv_at hl 0 rfl) ?_
      refine x_iconst hx hb d_law_267 ?_
      refine x_iadd hx hb d_law_268 ?_
      refine x_sld hx hb hX hbl hbA B.2.2.2.1 (ii + 2) (by omega) (by omega) (by omega) d_law_269 ?_
      refine lv_aload_n hx hb d_law_270 rfl (lv_at hl 4 rfl) ?_
      refine lv_iload hx hb d_law_271 (lv_at hl 0 rfl) ?_
      refine x_iconst hx hb d_law_273 ?_
      refine x_iadd hx hb d_law_274 ?_
      refine x_sld hx hb hX hbl hbA B.2.2.2.1 (ii + 3) (by omega) (by omega) (by omega) d_law_275 ?_
      rw [hkd]
      rw [hp0e]
      obtain ⟨np, hnp⟩ : ∃ np : Nat, I 0 = (np : Int) := ⟨(I 0).toNat, by omega⟩
      refine x_calli B hA (va_runV (As := [.int (iI 7), .int (iI ((p0 : Int))), .int (iI (ys (ii + 3)))]) (rest := [.int r254]) ⟨hx, hb, hml, hown, hts⟩ (c_Mo_make_7 l D cs _ _ _ (M 0) (M 1) (M 2) (M 3) (M 5) (M 6) (M 7) (M 8) (M 9) (M 10) (M 11) (M 12) (M 13) (M 14) th (I 0) rw_ fu fb lm mn sn Z bl w8 w9 w10 w11 ro fr cv p0 md np (ys (ii + 3)) (hMd.fc [0, 1, 2, 3, 6, 8, 9, 10, 11, 12, 13, 7, 5] (by decide) (by decide)) hMC1.1 hMC1.2.1 hMC1.2.2.1 hMC1.2.2.2.1 hMC1.2.2.2.2.2.1 hMC1.2.2.2.2.2.2.2.1 hMC1.2.2.2.2.2.2.2.2.1 hMC1.2.2.2.2.2.2.2.2.2.1 hMC1.2.2.2.2.2.2.2.2.2.2.1 hMC1.2.2.2.2.2.2.2.2.2.2.2.1 hMC1.2.2.2.2.2.2.2.2.2.2.2.2.1 hMC1.2.2.2.2.1 hMC1.2.2.2.2.2.2.1 hRS hp0t hcv hLA hhd hp0l hnp (by omega)) (cwV 3 hts (gw_V w_771 w_772 w_773 w_8 w_774) rfl rfl rfl (by decide +kernel) ⟨by rw [hRf]; exact Nat.le_of_ble_eq_true rfl, by rw [hRl]; exact Nat.le_of_ble_eq_true rfl⟩) ⟨K0.blind, B.recv (hMd.1 0 (by decide)) hMC1.1 rfl, B.pre _⟩ rfl rfl hl.1 rfl (lv_room (Nat.le_of_ble_eq_true rfl)) d_law_276 ⟨by rw [hRc]; omega, by rw [hRs]; omega⟩) (fun r276 g276 H locs hw B => ?_)
      obtain ⟨lm2, mn2, sn2, Z2, bl2, w82, w92, w102, w112, md2, cv2, pn2, hRS2, hLA2, hcv2, ⟨q, hMk, hq2⟩, hg2⟩ := hw
      have hMC2 := MC.m13 hMd hMC1 hg2
      have hC2 := hC1.frame hAd (g := g276) (fun k hk => by rw [hg2]; exact hMd.ad [0, 1, 2, 3, 6, 8, 9, 10, 11, 12, 13, 7, 5] (by decide) rfl hk)
      have hov2 : g276 (M 4) = .inl (cs 1, 1, .inr (.inl (al ov))) := by rw [hg2]; exact (hMd.out (b := 4) (by decide) [0, 1, 2, 3, 6, 8, 9, 10, 11, 12, 13, 7, 5] (by decide) rfl).trans hov1
      have hqW : ∀ j, j < 12 → q j = W j := mk_7 (hEq p0 hp0l) hW hMk
      have hiff := mk_ok hqW
      clear hMk hW hg2
      rcases hpp with ⟨⟨hfb, hr1⟩, hInv1, hsv1⟩ | ⟨⟨hlt, hok⟩, hr1, hInv1, hI0, hrow, hoth⟩
      · rcases hq2 with ⟨hfb2, hr2, hpn2, hcv2e⟩ | ⟨hnb, hlt2, hr2, hpn2, hc1, hc2⟩
        · have he : r254 = r276 := hr1.trans hr2.symm
          rw [← he]
          obtain ⟨vv, hvv, hvr⟩ := i32_ex r254
          rw [hvv]
          refine x_icmp_eq (tgt := 956) hx hb d_law_279 (by decide) (by omega) (by omega) (fun h279 => ?_) (fun h279 => ?_)
          · exact TAIL _ _ _ _ ⟨I1, A1, R1, Zf1, _, cv2, bl2, ro, fr, Z2, ov, hC2, hInv1, by rw [show I1 0 = pn2 from hsv1.1.trans hpn2.symm]; exact ⟨_, _, _, lm2, mn2, sn2, w82, w92, w102, w112, md2, w15, hMC2, hRS2, hLA2, hcv2, by omega, by omega⟩, hov2, fun q hq => by rw [hcv2e]; rw [show I1 0 = I 0 from hsv1.1] at hq; rw [show A1 (20 + q) = A (20 + q) from hsv1.2 q (by omega)]; exact hEq q hq⟩ B (lv_sub hl [0, 1, 2, 3, 4] rfl)
          · exfalso; omega
        · exact absurd (hiff.mpr (hfb.resolve_left (by omega))) hnb
      · rcases hq2 with ⟨hfb2, hr2, hpn2, hcv2e⟩ | ⟨hnb, hlt2, hr2, hpn2, hc1, hc2⟩
        · exact absurd (hiff.mp (hfb2.resolve_right (by omega))) (fun ⟨j, hj, hjn⟩ => hjn (hok j hj))
        · have hI0n : (I 0).toNat = np := by omega
          rw [hI0n] at hrow hoth
          have he : r254 = r276 := by rw [hr1, hr2, hnp]
          rw [← he]
          obtain ⟨vv, hvv, hvr⟩ := i32_ex r254
          rw [hvv]
          refine x_icmp_eq (tgt := 956) hx hb d_law_279 (by decide) (by omega) (by omega) (fun h279 => ?_) (fun h279 => ?_)
          · exact TAIL _ _ _ _ ⟨I1, A1, R1, Zf1, _, cv2, bl2, ro, fr, Z2, ov, hC2, hInv1, by rw [show I1 0 = pn2 from hI0.trans hpn2.symm]; exact ⟨_, _, _, lm2, mn2, sn2, w82, w92, w102, w112, md2, w15, hMC2, hRS2, hLA2, hcv2, by omega, by omega⟩, hov2, eq_grow (W := W) hnp hlt2 hI0 hrow hoth (fun j hj => (hc1 j hj).trans (hqW j (by omega))) hc2 hEq⟩ B (lv_sub hl [0, 1, 2, 3, 4] rfl)
          · exfalso; omega
    · rw [hkd]
      by_cases hNz : Nz (A (20 + p0))
      · refine x_calli B hA (va_runV (As := [.int (iI 8), .int (iI ((p0 : Int))), .int (iI (ys (ii + 3)))]) (rest := []) ⟨hx, hb, hml, hown, hts⟩ (c_RR_make_8 l D cs _ _ _ ad Qm I A Rf Zf p0 (ys (ii + 3)) hAd hC hInv hp0l (by omega) hNz) (cwV 3 hts (gw_V w_269 w_270 w_271 w_1 w_272) rfl rfl rfl (by decide +kernel) ⟨by rw [hRf]; exact Nat.le_of_ble_eq_true rfl, by rw [hRl]; exact Nat.le_of_ble_eq_true rfl⟩) ⟨K0.blind, B.recv (hAd.1 0 (by omega)) hC.x rfl, B.pre _⟩ rfl rfl hl.1 rfl (lv_room (Nat.le_of_ble_eq_true rfl)) d_law_254 ⟨by rw [hRc]; omega, by rw [hRs]; omega⟩) (fun r254 g254 H locs hw B => ?_)
        obtain ⟨I1, A1, R1, Zf1, hC1, hq1, W, hW, hpp⟩ := hw
        have hMC1 := hMC.frame (fun k hk => hq1 _ (hMd.2.2 k hk))
        have hov1 := (hq1 _ (hMd.2.2 4 (by decide))).trans hov
        refine lv_aload_n hx hb d_law_257 rfl (lv_at hl 2 rfl) ?_
        refine lv_aload_n hx hb d_law_258 rfl (lv_at hl 4 rfl) ?_
        refine lv_iload hx hb d_law_259 (lv_at hl 0 rfl) ?_
        refine x_iconst hx hb d_law_261 ?_
        refine x_iadd hx hb d_law_262 ?_
        refine x_sld hx hb hX hbl hbA B.2.2.2.1 (ii + 1) (by omega) (by omega) (by omega) d_law_263 ?_
        refine lv_aload_n hx hb d_law_264 rfl (lv_at hl 4 rfl) ?_
        refine lv_iload hx hb d_law_265 (lv_at hl 0 rfl) ?_
        refine x_iconst hx hb d_law_267 ?_
        refine x_iadd hx hb d_law_268 ?_
        refine x_sld hx hb hX hbl hbA B.2.2.2.1 (ii + 2) (by omega) (by omega) (by omega) d_law_269 ?_
        refine lv_aload_n hx hb d_law_270 rfl (lv_at hl 4 rfl) ?_
        refine lv_iload hx hb d_law_271 (lv_at hl 0 rfl) ?_
        refine x_iconst hx hb d_law_273 ?_
        refine x_iadd hx hb d_law_274 ?_
        refine x_sld hx hb hX hbl hbA B.2.2.2.1 (ii + 3) (by omega) (by omega) (by omega) d_law_275 ?_
        rw [hkd]
        rw [hp0e]
        obtain ⟨np, hnp⟩ : ∃ np : Nat, I 0 = (np : Int) := ⟨(I 0).toNat, by omega⟩
        refine x_calli B hA (va_runV (As := [.int (iI 8), .int (iI ((p0 : Int))), .int (iI (ys (ii + 3)))]) (rest := [.int r254]) ⟨hx, hb, hml, hown, hts⟩ (c_Mo_make_8 l D cs _ _ _ (M 0) (M 1) (M 2) (M 3) (M 5) (M 6) (M 7) (M 8) (M 9) (M 10) (M 11) (M 12) (M 13) (M 14) th (I 0) rw_ fu fb lm mn sn Z bl w8 w9 w10 w11 ro fr cv p0 md np (ys (ii + 3)) (hMd.fc [0, 1, 2, 3, 6, 8, 9, 10, 11, 12, 13, 7, 5] (by decide) (by decide)) hMC1.1 hMC1.2.1 hMC1.2.2.1 hMC1.2.2.2.1 hMC1.2.2.2.2.2.1 hMC1.2.2.2.2.2.2.2.1 hMC1.2.2.2.2.2.2.2.2.1 hMC1.2.2.2.2.2.2.2.2.2.1 hMC1.2.2.2.2.2.2.2.2.2.2.1 hMC1.2.2.2.2.2.2.2.2.2.2.2.1 hMC1.2.2.2.2.2.2.2.2.2.2.2.2.1 hMC1.2.2.2.2.1 hMC1.2.2.2.2.2.2.1 hRS hp0t hcv hLA hhd hp0l hnp (by omega) ((hEq p0 hp0l).nz hNz)) (cwV 3 hts (gw_V w_771 w_772 w_773 w_8 w_774) rfl rfl rfl (by decide +kernel) ⟨by rw [hRf]; exact Nat.le_of_ble_eq_true rfl, by rw [hRl]; exact Nat.le_of_ble_eq_true rfl⟩) ⟨K0.blind, B.recv (hMd.1 0 (by decide)) hMC1.1 rfl, B.pre _⟩ rfl rfl hl.1 rfl (lv_room (Nat.le_of_ble_eq_true rfl)) d_law_276 ⟨by rw [hRc]; omega, by rw [hRs]; omega⟩) (fun r276 g276 H locs hw B => ?_)
        obtain ⟨lm2, mn2, sn2, Z2, bl2, w82, w92, w102, w112, md2, cv2, pn2, hRS2, hLA2, hcv2, ⟨q, hMk, hq2⟩, hg2⟩ := hw
        have hMC2 := MC.m13 hMd hMC1 hg2
        have hC2 := hC1.frame hAd (g := g276) (fun k hk => by rw [hg2]; exact hMd.ad [0, 1, 2, 3, 6, 8, 9, 10, 11, 12, 13, 7, 5] (by decide) rfl hk)
        have hov2 : g276 (M 4) = .inl (cs 1, 1, .inr (.inl (al ov))) := by rw [hg2]; exact (hMd.out (b := 4) (by decide) [0, 1, 2, 3, 6, 8, 9, 10, 11, 12, 13, 7, 5] (by decide) rfl).trans hov1
        have hqW : ∀ j, j < 12 → q j = W j := mk_8 (hEq p0 hp0l) hW hMk
        have hiff := mk_ok hqW
        clear hMk hW hg2
        rcases hpp with ⟨⟨hfb, hr1⟩, hInv1, hsv1⟩ | ⟨⟨hlt, hok⟩, hr1, hInv1, hI0, hrow, hoth⟩
        · rcases hq2 with ⟨hfb2, hr2, hpn2, hcv2e⟩ | ⟨hnb, hlt2, hr2, hpn2, hc1, hc2⟩
          · have he : r254 = r276 := hr1.trans hr2.symm
            rw [← he]
            obtain ⟨vv, hvv, hvr⟩ := i32_ex r254
            rw [hvv]
            refine x_icmp_eq (tgt := 956) hx hb d_law_279 (by decide) (by omega) (by omega) (fun h279 => ?_) (fun h279 => ?_)
            · exact TAIL _ _ _ _ ⟨I1, A1, R1, Zf1, _, cv2, bl2, ro, fr, Z2, ov, hC2, hInv1, by rw [show I1 0 = pn2 from hsv1.1.trans hpn2.symm]; exact ⟨_, _, _, lm2, mn2, sn2, w82, w92, w102, w112, md2, w15, hMC2, hRS2, hLA2, hcv2, by omega, by omega⟩, hov2, fun q hq => by rw [hcv2e]; rw [show I1 0 = I 0 from hsv1.1] at hq; rw [show A1 (20 + q) = A (20 + q) from hsv1.2 q (by omega)]; exact hEq q hq⟩ B (lv_sub hl [0, 1, 2, 3, 4] rfl)
            · exfalso; omega
          · exact absurd (hiff.mpr (hfb.resolve_left (by omega))) hnb
        · rcases hq2 with ⟨hfb2, hr2, hpn2, hcv2e⟩ | ⟨hnb, hlt2, hr2, hpn2, hc1, hc2⟩
          · exact absurd (hiff.mp (hfb2.resolve_right (by omega))) (fun ⟨j, hj, hjn⟩ => hjn (hok j hj))
          · have hI0n : (I 0).toNat = np := by omega
            rw [hI0n] at hrow hoth
            have he : r254 = r276 := by rw [hr1, hr2, hnp]
            rw [← he]
            obtain ⟨vv, hvv, hvr⟩ := i32_ex r254
            rw [hvv]
            refine x_icmp_eq (tgt := 956) hx hb d_law_279 (by decide) (by omega) (by omega) (fun h279 => ?_) (fun h279 => ?_)
            · exact TAIL _ _ _ _ ⟨I1, A1, R1, Zf1, _, cv2, bl2, ro, fr, Z2, ov, hC2, hInv1, by rw [show I1 0 = pn2 from hI0.trans hpn2.symm]; exact ⟨_, _, _, lm2, mn2, sn2, w82, w92, w102, w112, md2, w15, hMC2, hRS2, hLA2, hcv2, by omega, by omega⟩, hov2, eq_grow (W := W) hnp hlt2 hI0 hrow hoth (fun j hj => (hc1 j hj).trans (hqW j (by omega))) hc2 hEq⟩ B (lv_sub hl [0, 1, 2, 3, 4] rfl)
            · exfalso; omega
      · have hzr : ∀ j, j < 6 → A (20 + p0) j = 0 := fun j hj => Classical.byContradiction (fun h => hNz ⟨j, hj, h⟩)
        refine x_calli B hA (va_runV (As := [.int (iI 8), .int (iI ((p0 : Int))), .int (iI (ys (ii + 3)))]) (rest := []) ⟨hx, hb, hml, hown, hts⟩ (c_RR_make_z8 l D cs _ _ _ ad Qm I A Rf Zf p0 (ys (ii + 3)) hAd hC hInv hp0l (by omega) hzr) (cwV 3 hts (gw_V w_269 w_270 w_271 w_1 w_272) rfl rfl rfl (by decide +kernel) ⟨by rw [hRf]; exact Nat.le_of_ble_eq_true rfl, by rw [hRl]; exact Nat.le_of_ble_eq_true rfl⟩) ⟨K0.blind, B.recv (hAd.1 0 (by omega)) hC.x rfl, B.pre _⟩ rfl rfl hl.1 rfl (lv_room (Nat.le_of_ble_eq_true rfl)) d_law_254 ⟨by rw [hRc]; omega, by rw [hRs]; omega⟩) (fun r254 g254 H locs hw B => ?_)
        obtain ⟨I1, A1, R1, Zf1, hC1, hq1, hInv1, hsv1, hans1⟩ := hw
        have hMC1 := hMC.frame (fun k hk => hq1 _ (hMd.2.2 k hk))
        have hov1 := (hq1 _ (hMd.2.2 4 (by decide))).trans hov
        refine lv_aload_n hx hb d_law_257 rfl (lv_at hl 2 rfl) ?_
        refine lv_aload_n hx hb d_law_258 rfl (lv_at hl 4 rfl) ?_
        refine lv_iload hx hb d_law_259 (lv_at hl 0 rfl) ?_
        refine x_iconst hx hb d_law_261 ?_
        refine x_iadd hx hb d_law_262 ?_
        refine x_sld hx hb hX hbl hbA B.2.2.2.1 (ii + 1) (by omega) (by omega) (by omega) d_law_263 ?_
        refine lv_aload_n hx hb d_law_264 rfl (lv_at hl 4 rfl) ?_
        refine lv_iload hx hb d_law_265 (lv_at hl 0 rfl) ?_
        refine x_iconst hx hb d_law_267 ?_
        refine x_iadd hx hb d_law_268 ?_
        refine x_sld hx hb hX hbl hbA B.2.2.2.1 (ii + 2) (by omega) (by omega) (by omega) d_law_269 ?_
        refine lv_aload_n hx hb d_law_270 rfl (lv_at hl 4 rfl) ?_
        refine lv_iload hx hb d_law_271 (lv_at hl 0 rfl) ?_
        refine x_iconst hx hb d_law_273 ?_
        refine x_iadd hx hb d_law_274 ?_
        refine x_sld hx hb hX hbl hbA B.2.2.2.1 (ii + 3) (by omega) (by omega) (by omega) d_law_275 ?_
        rw [hkd]
        rw [hp0e]
        refine x_calli B hA (va_runV (As := [.int (iI 8), .int (iI ((p0 : Int))), .int (iI (ys (ii + 3)))]) (rest := [.int r254]) ⟨hx, hb, hml, hown, hts⟩ (c_Mo_make_z8 l D cs _ _ _ (M 0) (M 1) (M 2) (M 3) (M 5) (M 6) (M 7) (M 8) (M 9) (M 10) (M 11) (M 12) (M 13) (M 14) th (I 0) rw_ fu fb cv p0 (ys (ii + 3)) (hMd.fc [0, 5] (by decide) (by decide)) hMC1.1 hMC1.2.2.2.2.1 hp0t hcv hhd hp0l ((hEq p0 hp0l).zr hzr) (by omega)) (cwV 3 hts (gw_V w_771 w_772 w_773 w_8 w_774) rfl rfl rfl (by decide +kernel) ⟨by rw [hRf]; exact Nat.le_of_ble_eq_true rfl, by rw [hRl]; exact Nat.le_of_ble_eq_true rfl⟩) ⟨K0.blind, B.recv (hMd.1 0 (by decide)) hMC1.1 rfl, B.pre _⟩ rfl rfl hl.1 rfl (lv_room (Nat.le_of_ble_eq_true rfl)) d_law_276 ⟨by rw [hRc]; omega, by rw [hRs]; omega⟩) (fun r276 g276 H locs hw B => ?_)
        obtain ⟨hr2, hg2⟩ := hw
        have hMC2 := MC.m1 hMd hMC1 hg2
        have hC2 := hC1.frame hAd (g := g276) (fun k hk => by rw [hg2]; exact hMd.ad [0] (by decide) rfl hk)
        have hov2 : g276 (M 4) = .inl (cs 1, 1, .inr (.inl (al ov))) := by rw [hg2]; exact (hMd.out (b := 4) (by decide) [0] (by decide) rfl).trans hov1
        have he : r254 = r276 := hans1.trans hr2.symm
        rw [← he]
        obtain ⟨vv, hvv, hvr⟩ := i32_ex r254
        rw [hvv]
        refine x_icmp_eq (tgt := 956) hx hb d_law_279 (by decide) (by omega) (by omega) (fun h279 => ?_) (fun h279 => ?_)
        · exact TAIL _ _ _ _ ⟨I1, A1, R1, Zf1, _, cv, bl, ro, fr, Z, ov, hC2, hInv1, by rw [show I1 0 = I 0 from hsv1.1]; exact ⟨_, _, _, lm, mn, sn, w8, w9, w10, w11, md, w15, hMC2, hRS, hLA, hcv, hhd.1, hhd.2⟩, hov2, fun q hq => by rw [show I1 0 = I 0 from hsv1.1] at hq; rw [show A1 (20 + q) = A (20 + q) from hsv1.2 q (by omega)]; exact hEq q hq⟩ B (lv_sub hl [0, 1, 2, 3, 4] rfl)
        · exfalso; omega
    · rw [hkd]
      by_cases hk2 : -1000 ≤ ys (ii + 3) ∧ ys (ii + 3) ≤ 1000
      · refine x_calli B hA (va_runV (As := [.int (iI 9), .int (iI ((p0 : Int))), .int (iI (ys (ii + 3)))]) (rest := []) ⟨hx, hb, hml, hown, hts⟩ (c_RR_make_9 l D cs _ _ _ ad Qm I A Rf Zf p0 (ys (ii + 3)) hAd hC hInv hp0l (by omega) hk2) (cwV 3 hts (gw_V w_269 w_270 w_271 w_1 w_272) rfl rfl rfl (by decide +kernel) ⟨by rw [hRf]; exact Nat.le_of_ble_eq_true rfl, by rw [hRl]; exact Nat.le_of_ble_eq_true rfl⟩) ⟨K0.blind, B.recv (hAd.1 0 (by omega)) hC.x rfl, B.pre _⟩ rfl rfl hl.1 rfl (lv_room (Nat.le_of_ble_eq_true rfl)) d_law_254 ⟨by rw [hRc]; omega, by rw [hRs]; omega⟩) (fun r254 g254 H locs hw B => ?_)
        obtain ⟨I1, A1, R1, Zf1, hC1, hq1, W, hW, hpp⟩ := hw
        have hMC1 := hMC.frame (fun k hk => hq1 _ (hMd.2.2 k hk))
        have hov1 := (hq1 _ (hMd.2.2 4 (by decide))).trans hov
        refine lv_aload_n hx hb d_law_257 rfl (lv_at hl 2 rfl) ?_
        refine lv_aload_n hx hb d_law_258 rfl (lv_at hl 4 rfl) ?_
        refine lv_iload hx hb d_law_259 (lv_at hl 0 rfl) ?_
        refine x_iconst hx hb d_law_261 ?_
        refine x_iadd hx hb d_law_262 ?_
        refine x_sld hx hb hX hbl hbA B.2.2.2.1 (ii + 1) (by omega) (by omega) (by omega) d_law_263 ?_
        refine lv_aload_n hx hb d_law_264 rfl (lv_at hl 4 rfl) ?_
        refine lv_iload hx hb d_law_265 (lv_at hl 0 rfl) ?_
        refine x_iconst hx hb d_law_267 ?_
        refine x_iadd hx hb d_law_268 ?_
        refine x_sld hx hb hX hbl hbA B.2.2.2.1 (ii + 2) (by omega) (by omega) (by omega) d_law_269 ?_
        refine lv_aload_n hx hb d_law_270 rfl (lv_at hl 4 rfl) ?_
        refine lv_iload hx hb d_law_271 (lv_at hl 0 rfl) ?_
        refine x_iconst hx hb d_law_273 ?_
        refine x_iadd hx hb d_law_274 ?_
        refine x_sld hx hb hX hbl hbA B.2.2.2.1 (ii + 3) (by omega) (by omega) (by omega) d_law_275 ?_
        rw [hkd]
        rw [hp0e]
        obtain ⟨np, hnp⟩ : ∃ np : Nat, I 0 = (np : Int) := ⟨(I 0).toNat, by omega⟩
        refine x_calli B hA (va_runV (As := [.int (iI 9), .int (iI ((p0 : Int))), .int (iI (ys (ii + 3)))]) (rest := [.int r254]) ⟨hx, hb, hml, hown, hts⟩ (c_Mo_make_9 l D cs _ _ _ (M 0) (M 1) (M 2) (M 3) (M 5) (M 6) (M 7) (M 8) (M 9) (M 10) (M 11) (M 12) (M 13) (M 14) th (I 0) rw_ fu fb lm mn sn Z bl w8 w9 w10 w11 ro fr cv p0 md np (ys (ii + 3)) (hMd.fc [0, 1, 2, 3, 6, 8, 9, 10, 11, 12, 13, 7, 5] (by decide) (by decide)) hMC1.1 hMC1.2.1 hMC1.2.2.1 hMC1.2.2.2.1 hMC1.2.2.2.2.2.1 hMC1.2.2.2.2.2.2.2.1 hMC1.2.2.2.2.2.2.2.2.1 hMC1.2.2.2.2.2.2.2.2.2.1 hMC1.2.2.2.2.2.2.2.2.2.2.1 hMC1.2.2.2.2.2.2.2.2.2.2.2.1 hMC1.2.2.2.2.2.2.2.2.2.2.2.2.1 hMC1.2.2.2.2.1 hMC1.2.2.2.2.2.2.1 hRS hp0t hcv hLA hhd hp0l hnp hk2) (cwV 3 hts (gw_V w_771 w_772 w_773 w_8 w_774) rfl rfl rfl (by decide +kernel) ⟨by rw [hRf]; exact Nat.le_of_ble_eq_true rfl, by rw [hRl]; exact Nat.le_of_ble_eq_true rfl⟩) ⟨K0.blind, B.recv (hMd.1 0 (by decide)) hMC1.1 rfl, B.pre _⟩ rfl rfl hl.1 rfl (lv_room (Nat.le_of_ble_eq_true rfl)) d_law_276 ⟨by rw [hRc]; omega, by rw [hRs]; omega⟩) (fun r276 g276 H locs hw B => ?_)
        obtain ⟨lm2, mn2, sn2, Z2, bl2, w82, w92, w102, w112, md2, cv2, pn2, hRS2, hLA2, hcv2, ⟨q, hMk, hq2⟩, hg2⟩ := hw
        have hMC2 := MC.m13 hMd hMC1 hg2
        have hC2 := hC1.frame hAd (g := g276) (fun k hk => by rw [hg2]; exact hMd.ad [0, 1, 2, 3, 6, 8, 9, 10, 11, 12, 13, 7, 5] (by decide) rfl hk)
        have hov2 : g276 (M 4) = .inl (cs 1, 1, .inr (.inl (al ov))) := by rw [hg2]; exact (hMd.out (b := 4) (by decide) [0, 1, 2, 3, 6, 8, 9, 10, 11, 12, 13, 7, 5] (by decide) rfl).trans hov1
        have hqW : ∀ j, j < 12 → q j = W j := mk_9 (hEq p0 hp0l) hW hMk
        have hiff := mk_ok hqW
        clear hMk hW hg2
        rcases hpp with ⟨⟨hfb, hr1⟩, hInv1, hsv1⟩ | ⟨⟨hlt, hok⟩, hr1, hInv1, hI0, hrow, hoth⟩
        · rcases hq2 with ⟨hfb2, hr2, hpn2, hcv2e⟩ | ⟨hnb, hlt2, hr2, hpn2, hc1, hc2⟩
          · have he : r254 = r276 := hr1.trans hr2.symm
            rw [← he]
            obtain ⟨vv, hvv, hvr⟩ := i32_ex r254
            rw [hvv]
            refine x_icmp_eq (tgt := 956) hx hb d_law_279 (by decide) (by omega) (by omega) (fun h279 => ?_) (fun h279 => ?_)
            · exact TAIL _ _ _ _ ⟨I1, A1, R1, Zf1, _, cv2, bl2, ro, fr, Z2, ov, hC2, hInv1, by rw [show I1 0 = pn2 from hsv1.1.trans hpn2.symm]; exact ⟨_, _, _, lm2, mn2, sn2, w82, w92, w102, w112, md2, w15, hMC2, hRS2, hLA2, hcv2, by omega, by omega⟩, hov2, fun q hq => by rw [hcv2e]; rw [show I1 0 = I 0 from hsv1.1] at hq; rw [show A1 (20 + q) = A (20 + q) from hsv1.2 q (by omega)]; exact hEq q hq⟩ B (lv_sub hl [0, 1, 2, 3, 4] rfl)
            · exfalso; omega
          · exact absurd (hiff.mpr (hfb.resolve_left (by omega))) hnb
        · rcases hq2 with ⟨hfb2, hr2, hpn2, hcv2e⟩ | ⟨hnb, hlt2, hr2, hpn2, hc1, hc2⟩
          · exact absurd (hiff.mp (hfb2.resolve_right (by omega))) (fun ⟨j, hj, hjn⟩ => hjn (hok j hj))
          · have hI0n : (I 0).toNat = np := by omega
            rw [hI0n] at hrow hoth
            have he : r254 = r276 := by rw [hr1, hr2, hnp]
            rw [← he]
            obtain ⟨vv, hvv, hvr⟩ := i32_ex r254
            rw [hvv]
            refine x_icmp_eq (tgt := 956) hx hb d_law_279 (by decide) (by omega) (by omega) (fun h279 => ?_) (fun h279 => ?_)
            · exact TAIL _ _ _ _ ⟨I1, A1, R1, Zf1, _, cv2, bl2, ro, fr, Z2, ov, hC2, hInv1, by rw [show I1 0 = pn2 from hI0.trans hpn2.symm]; exact ⟨_, _, _, lm2, mn2, sn2, w82, w92, w102, w112, md2, w15, hMC2, hRS2, hLA2, hcv2, by omega, by omega⟩, hov2, eq_grow (W := W) hnp hlt2 hI0 hrow hoth (fun j hj => (hc1 j hj).trans (hqW j (by omega))) hc2 hEq⟩ B (lv_sub hl [0, 1, 2, 3, 4] rfl)
            · exfalso; omega
      · refine x_calli B hA (va_runV (As := [.int (iI 9), .int (iI ((p0 : Int))), .int (iI (ys (ii + 3)))]) (rest := []) ⟨hx, hb, hml, hown, hts⟩ (c_RR_make_b9 l D cs _ _ _ ad Qm I A Rf Zf p0 (ys (ii + 3)) hAd hC hInv hp0l (by omega) (by omega)) (cwV 3 hts (gw_V w_269 w_270 w_271 w_1 w_272) rfl rfl rfl (by decide +kernel) ⟨by rw [hRf]; exact Nat.le_of_ble_eq_true rfl, by rw [hRl]; exact Nat.le_of_ble_eq_true rfl⟩) ⟨K0.blind, B.recv (hAd.1 0 (by omega)) hC.x rfl, B.pre _⟩ rfl rfl hl.1 rfl (lv_room (Nat.le_of_ble_eq_true rfl)) d_law_254 ⟨by rw [hRc]; omega, by rw [hRs]; omega⟩) (fun r254 g254 H locs hw B => ?_)
        obtain ⟨I1, A1, R1, Zf1, hC1, hq1, hInv1, hsv1, hans1⟩ := hw
        have hMC1 := hMC.frame (fun k hk => hq1 _ (hMd.2.2 k hk))
        have hov1 := (hq1 _ (hMd.2.2 4 (by decide))).trans hov
        refine lv_aload_n hx hb d_law_257 rfl (lv_at hl 2 rfl) ?_
        refine lv_aload_n hx hb d_law_258 rfl (lv_at hl 4 rfl) ?_
        refine lv_iload hx hb d_law_259 (lv_at hl 0 rfl) ?_
        refine x_iconst hx hb d_law_261 ?_
        refine x_iadd hx hb d_law_262 ?_
        refine x_sld hx hb hX hbl hbA B.2.2.2.1 (ii + 1) (by omega) (by omega) (by omega) d_law_263 ?_
        refine lv_aload_n hx hb d_law_264 rfl (lv_at hl 4 rfl) ?_
        refine lv_iload hx hb d_law_265 (lv_at hl 0 rfl) ?_
        refine x_iconst hx hb d_law_267 ?_
        refine x_iadd hx hb d_law_268 ?_
        refine x_sld hx hb hX hbl hbA B.2.2.2.1 (ii + 2) (by omega) (by omega) (by omega) d_law_269 ?_
        refine lv_aload_n hx hb d_law_270 rfl (lv_at hl 4 rfl) ?_
        refine lv_iload hx hb d_law_271 (lv_at hl 0 rfl) ?_
        refine x_iconst hx hb d_law_273 ?_
        refine x_iadd hx hb d_law_274 ?_
        refine x_sld hx hb hX hbl hbA B.2.2.2.1 (ii + 3) (by omega) (by omega) (by omega) d_law_275 ?_
        rw [hkd]
        rw [hp0e]
        refine x_calli B hA (va_runV (As := [.int (iI 9), .int (iI ((p0 : Int))), .int (iI (ys (ii + 3)))]) (rest := [.int r254]) ⟨hx, hb, hml, hown, hts⟩ (c_Mo_make_b9 l D cs _ _ _ (M 0) (M 1) (M 2) (M 3) (M 5) (M 6) (M 7) (M 8) (M 9) (M 10) (M 11) (M 12) (M 13) (M 14) th (I 0) rw_ fu fb cv p0 (ys (ii + 3)) (hMd.fc [0, 5] (by decide) (by decide)) hMC1.1 hMC1.2.2.2.2.1 hp0t hcv hhd hp0l (by omega) (by omega)) (cwV 3 hts (gw_V w_771 w_772 w_773 w_8 w_774) rfl rfl rfl (by decide +kernel) ⟨by rw [hRf]; exact Nat.le_of_ble_eq_true rfl, by rw [hRl]; exact Nat.le_of_ble_eq_true rfl⟩) ⟨K0.blind, B.recv (hMd.1 0 (by decide)) hMC1.1 rfl, B.pre _⟩ rfl rfl hl.1 rfl (lv_room (Nat.le_of_ble_eq_true rfl)) d_law_276 ⟨by rw [hRc]; omega, by rw [hRs]; omega⟩) (fun r276 g276 H locs hw B => ?_)
        obtain ⟨hr2, hg2⟩ := hw
        have hMC2 := MC.m1 hMd hMC1 hg2
        have hC2 := hC1.frame hAd (g := g276) (fun k hk => by rw [hg2]; exact hMd.ad [0] (by decide) rfl hk)
        have hov2 : g276 (M 4) = .inl (cs 1, 1, .inr (.inl (al ov))) := by rw [hg2]; exact (hMd.out (b := 4) (by decide) [0] (by decide) rfl).trans hov1
        have he : r254 = r276 := hans1.trans hr2.symm
        rw [← he]
        obtain ⟨vv, hvv, hvr⟩ := i32_ex r254
        rw [hvv]
        refine x_icmp_eq (tgt := 956) hx hb d_law_279 (by decide) (by omega) (by omega) (fun h279 => ?_) (fun h279 => ?_)
        · exact TAIL _ _ _ _ ⟨I1, A1, R1, Zf1, _, cv, bl, ro, fr, Z, ov, hC2, hInv1, by rw [show I1 0 = I 0 from hsv1.1]; exact ⟨_, _, _, lm, mn, sn, w8, w9, w10, w11, md, w15, hMC2, hRS, hLA, hcv, hhd.1, hhd.2⟩, hov2, fun q hq => by rw [show I1 0 = I 0 from hsv1.1] at hq; rw [show A1 (20 + q) = A (20 + q) from hsv1.2 q (by omega)]; exact hEq q hq⟩ B (lv_sub hl [0, 1, 2, 3, 4] rfl)
        · exfalso; omega
  · refine x_calli B hA (va_runV (As := [.int (iI (ys (ii + 1))), .int (iI (ys (ii + 2))), .int (iI (ys (ii + 3)))]) (rest := []) ⟨hx, hb, hml, hown, hts⟩ (c_RR_make_u l D cs _ _ _ (ad 0) (ad 1) (ad 2) (ad 5) (ad 7) (ad 8) (ad 9) (ad 10) (ad 11) (ad 12) (ad 13) (ad 14) (I 0) (I 1) (I 2) (ys (ii + 1)) (ys (ii + 2)) (ys (ii + 3)) (hAd.f1 (by omega)) hC.x hhd (by omega) (by omega) (by omega) (by omega)) (cwV 3 hts (gw_V w_269 w_270 w_271 w_1 w_272) rfl rfl rfl (by decide +kernel) ⟨by rw [hRf]; exact Nat.le_of_ble_eq_true rfl, by rw [hRl]; exact Nat.le_of_ble_eq_true rfl⟩) ⟨K0.blind, B.recv (hAd.1 0 (by omega)) hC.x rfl, B.pre _⟩ rfl rfl hl.1 rfl (lv_room (Nat.le_of_ble_eq_true rfl)) d_law_254 ⟨by rw [hRc]; omega, by rw [hRs]; omega⟩) (fun r254 g254 H locs hw B => ?_)
    obtain ⟨hr1, hgf⟩ := hw
    rw [hgf] at B
    have hC1 := hC
    have hMC1 := hMC
    have hov1 := hov
    have hInv1 := hInv
    have hsv1 : SameV I A I A := ⟨rfl, fun _ _ => rfl⟩
    refine lv_aload_n hx hb d_law_257 rfl (lv_at hl 2 rfl) ?_
    refine lv_aload_n hx hb d_law_258 rfl (lv_at hl 4 rfl) ?_
    refine lv_iload hx hb d_law_259 (lv_at hl 0 rfl) ?_
    refine x_iconst hx hb d_law_261 ?_
    refine x_iadd hx hb d_law_262 ?_
    refine x_sld hx hb hX hbl hbA B.2.2.2.1 (ii + 1) (by omega) (by omega) (by omega) d_law_263 ?_
    refine lv_aload_n hx hb d_law_264 rfl (lv_at hl 4 rfl) ?_
    refine lv_iload hx hb d_law_265 (lv_at hl 0 rfl) ?_
    refine x_iconst hx hb d_law_267 ?_
    refine x_iadd hx hb d_law_268 ?_
    refine x_sld hx hb hX hbl hbA B.2.2.2.1 (ii + 2) (by omega) (by omega) (by omega) d_law_269 ?_
    refine lv_aload_n hx hb d_law_270 rfl (lv_at hl 4 rfl) ?_
    refine lv_iload hx hb d_law_271 (lv_at hl 0 rfl) ?_
    refine x_iconst hx hb d_law_273 ?_
    refine x_iadd hx hb d_law_274 ?_
    refine x_sld hx hb hX hbl hbA B.2.2.2.1 (ii + 3) (by omega) (by omega) (by omega) d_law_275 ?_
    refine x_calli B hA (va_runV (As := [.int (iI (ys (ii + 1))), .int (iI (ys (ii + 2))), .int (iI (ys (ii + 3)))]) (rest := [.int r254]) ⟨hx, hb, hml, hown, hts⟩ (c_Mo_make_u l D cs _ _ _ (M 0) (M 1) (M 2) (M 3) (M 5) (M 6) (M 7) (M 8) (M 9) (M 10) (M 11) (M 12) (M 13) (M 14) th (I 0) rw_ fu fb (ys (ii + 1)) (ys (ii + 2)) (ys (ii + 3)) (hMd.fc [0] (by decide) (by decide)) hMC1.1 hhd (by omega) (by omega) (by omega) (by omega)) (cwV 3 hts (gw_V w_771 w_772 w_773 w_8 w_774) rfl rfl rfl (by decide +kernel) ⟨by rw [hRf]; exact Nat.le_of_ble_eq_true rfl, by rw [hRl]; exact Nat.le_of_ble_eq_true rfl⟩) ⟨K0.blind, B.recv (hMd.1 0 (by decide)) hMC1.1 rfl, B.pre _⟩ rfl rfl hl.1 rfl (lv_room (Nat.le_of_ble_eq_true rfl)) d_law_276 ⟨by rw [hRc]; omega, by rw [hRs]; omega⟩) (fun r276 g276 H locs hw B => ?_)
    obtain ⟨hr2, hg2⟩ := hw
    have hMC2 := MC.m1 hMd hMC1 hg2
    have hC2 := hC1.frame hAd (g := g276) (fun k hk => by rw [hg2]; exact hMd.ad [0] (by decide) rfl hk)
    have hov2 : g276 (M 4) = .inl (cs 1, 1, .inr (.inl (al ov))) := by rw [hg2]; exact (hMd.out (b := 4) (by decide) [0] (by decide) rfl).trans hov1
    have he : r254 = r276 := hr1.trans hr2.symm
    rw [← he]
    obtain ⟨vv, hvv, hvr⟩ := i32_ex r254
    rw [hvv]
    refine x_icmp_eq (tgt := 956) hx hb d_law_279 (by decide) (by omega) (by omega) (fun h279 => ?_) (fun h279 => ?_)
    · exact TAIL _ _ _ _ ⟨I, A, Rf, Zf, _, cv, bl, ro, fr, Z, ov, hC2, hInv1, by rw [show I 0 = I 0 from hsv1.1]; exact ⟨_, _, _, lm, mn, sn, w8, w9, w10, w11, md, w15, hMC2, hRS, hLA, hcv, hhd.1, hhd.2⟩, hov2, fun q hq => by rw [show I 0 = I 0 from hsv1.1] at hq; rw [show A (20 + q) = A (20 + q) from hsv1.2 q (by omega)]; exact hEq q hq⟩ B (lv_sub hl [0, 1, 2, 3, 4] rfl)
    · exfalso; omega
