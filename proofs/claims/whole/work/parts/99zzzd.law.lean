theorem MC.frame4 {cs : Nat → ClassId} {M : Nat → Nat} {f g : Nat → va_E} {th pn rw_ fu fb : Int} {lm mn sn bl w8 w9 w10 w11 ro fr cv md w15 : Nat → Int} (h : MC cs M f th pn rw_ fu fb lm mn sn bl w8 w9 w10 w11 ro fr cv md w15) (hg : ∀ k, k < 15 → k ≠ 4 → g (M k) = f (M k)) : MC cs M g th pn rw_ fu fb lm mn sn bl w8 w9 w10 w11 ro fr cv md w15 := by
  obtain ⟨h0, h1, h2, h3, h5, h6, h7, h8, h9, h10, h11, h12, h13, h14⟩ := h
  exact ⟨(hg 0 (by decide) (by decide)).trans h0, (hg 1 (by decide) (by decide)).trans h1, (hg 2 (by decide) (by decide)).trans h2, (hg 3 (by decide) (by decide)).trans h3, (hg 5 (by decide) (by decide)).trans h5, (hg 6 (by decide) (by decide)).trans h6, (hg 7 (by decide) (by decide)).trans h7, (hg 8 (by decide) (by decide)).trans h8, (hg 9 (by decide) (by decide)).trans h9, (hg 10 (by decide) (by decide)).trans h10, (hg 11 (by decide) (by decide)).trans h11, (hg 12 (by decide) (by decide)).trans h12, (hg 13 (by decide) (by decide)).trans h13, (hg 14 (by decide) (by decide)).trans h14⟩
set_option maxHeartbeats 8000000 in
set_option maxRecDepth 100000 in
theorem law_case_16 {p : Program} {l : Launch} {e : Env} {s : State} {m : MethodId} {below : List Frame} {meth : Method} {c : Code} {R : Room} {av : Array Value} {Q : State → Prop} {ad Qm M : Nat → Nat} {ys : Nat → Int} {b n ii CC SS : Nat} {A0 : Nat → Prop} {D : va_G} {cs : Nat → ClassId} {LL : List Nat} {f : Nat → va_E} {H : Heap} {locs : List Loc} {ls : Array Slot} (hx : p.tables.exec = Jvm.exec) (hb : c.code = code) (hml : c.maxLocals = 8) (hown : s.vm.findClass R_law = some m.cls) (hts : ∀ w ∈ gw, w.before av s = true) (hRf : R.frames = 14) (hRl : R.locals = 594) (hRc : R.cells = 601024) (hRs : R.slots = 7293034) (hA : ∀ q, s.heap.size ≤ q → A0 q) (hX : va_X b n (ai ys) s s.heap) (hbl : b < s.heap.size) (hbA : ¬ A0 b) (hyr : ∀ j, -2147483648 ≤ ys j ∧ ys j < 2147483648) (hn : n ≤ 3072) (hi : ii + 6 ≤ n) (hCC : CC ≤ 600000) (hSS : SS ≤ 7000000) (hAd : AdOk LL ad Qm) (hMd : MdOk LL ad M) (hLI : LI cs ad Qm M f) (TAIL : ∀ (f' : Nat → va_E) (H : Heap) (locs : List Loc) (ls : Array Slot), LI cs ad Qm M f' → Wb D vwCl (TY cs) LL f' A0 s H locs → lv_has ls 8 [(4, .int (iI (ii : Int))), (3, .ref (M 4)), (2, .ref (M 0)), (1, .ref (ad 0)), (0, .ref b)] → W p l e R s m av below meth c H locs (CC + 1) (SS + 6) Q (F0 m 956 ls [])) (THR : ∀ (f : Nat → va_E) (H : Heap) (locs : List Loc) (ls : Array Slot) (I : Nat → Int) (A : Nat → Nat → Int) (Rf : Nat → Nat) (Zf : Nat → Int) (p0 : Nat) (a2 a3 a4 : Int) (ov : Nat → Int), CSt cs ad Qm f I A Rf Zf → Inv I A → (p0 : Int) < I 0 → (-2147483648 ≤ a2 ∧ a2 < 2147483648) → (-2147483648 ≤ a3 ∧ a3 < 2147483648) → (-2147483648 ≤ a4 ∧ a4 < 2147483648) → (((-1000000 ≤ a2 ∧ a2 ≤ 1000000) ∧ 1 ≤ a3 ∧ a3 ≤ 1000000) ∧ 0 ≤ a4 ∧ a4 ≤ 1) → sg (es (dva (A (20 + p0))) 6 ((a2 : Rat) / (a3 : Rat))) = 0 → f (M 4) = .inl (cs 1, 1, .inr (.inl (al ov))) → Wb D vwCl (TY cs) LL f A0 s H locs → lv_has ls 8 [(4, .int (iI (ii : Int))), (3, .ref (M 4)), (2, .ref (M 0)), (1, .ref (ad 0)), (0, .ref b)] → (∀ (g : Nat → va_E) (H : Heap) (locs : List Loc) (I' : Nat → Int) (A' : Nat → Nat → Int) (R' : Nat → Nat) (Z' : Nat → Int), CSt cs ad Qm g I' A' R' Z' → (∀ k, Awy ad k → g k = f k) → Inv I' A' → SameV I A I' A' → Wb D vwCl (TY cs) LL g A0 s H locs → W p l e R s m av below meth c H locs (CC + 1) (SS + 6) Q (F0 m 843 ls [.int (iI 1)])) → W p l e R s m av below meth c H locs CC SS Q (F0 m 840 ls [.ref (M 4), .int (iI a4), .int (iI a3), .int (iI a2), .int (iI (p0 : Int)), .ref (ad 0)])) (B : Wb D vwCl (TY cs) LL f A0 s H locs) (hl : lv_has ls 8 [(4, .int (iI (ii : Int))), (3, .ref (M 4)), (2, .ref (M 0)), (1, .ref (ad 0)), (0, .ref b)]) : W p l e R s m av below meth c H locs CC SS Q (F0 m 814 ls []) := by
  obtain ⟨I, A, Rf, Zf, th, cv, bl, ro, fr, Z, ov, hC, hInv, hLM, hov, hEq⟩ := hLI
  obtain ⟨rw_, fu, fb, lm, mn, sn, w8, w9, w10, w11, md, w15, hMC, hRS, hLA, hcv, hpn0, hpn12⟩ := hLM
  have hG0 := hInv.1
  have hhd := hG0.1
  have hy1 := hyr (ii + 1)
  have hy2 := hyr (ii + 2)
  have hy3 := hyr (ii + 3)
  have hy4 := hyr (ii + 4)
  have hy5 := hyr (ii + 5)
  refine lv_aload_n hx hb d_law_814 rfl (lv_at hl 3 rfl) ?_
  refine lv_aload_n hx hb d_law_815 rfl (lv_at hl 4 rfl) ?_
  refine lv_iload hx hb d_law_816 (lv_at hl 0 rfl) ?_
  refine x_iconst hx hb d_law_818 ?_
  refine x_iadd hx hb d_law_819 ?_
  refine x_sld hx hb hX hbl hbA B.2.2.2.1 (ii + 1) (by omega) (by omega) (by omega) d_law_820 ?_
  refine lv_aload_n hx hb d_law_821 rfl (lv_at hl 4 rfl) ?_
  refine lv_iload hx hb d_law_822 (lv_at hl 0 rfl) ?_
  refine x_iconst hx hb d_law_824 ?_
  refine x_iadd hx hb d_law_825 ?_
  refine x_sld hx hb hX hbl hbA B.2.2.2.1 (ii + 2) (by omega) (by omega) (by omega) d_law_826 ?_
  refine lv_aload_n hx hb d_law_827 rfl (lv_at hl 4 rfl) ?_
  refine lv_iload hx hb d_law_828 (lv_at hl 0 rfl) ?_
  refine x_iconst hx hb d_law_830 ?_
  refine x_iadd hx hb d_law_831 ?_
  refine x_sld hx hb hX hbl hbA B.2.2.2.1 (ii + 3) (by omega) (by omega) (by omega) d_law_832 ?_
  refine lv_aload_n hx hb d_law_833 rfl (lv_at hl 4 rfl) ?_
  refine lv_iload hx hb d_law_834 (lv_at hl 0 rfl) ?_
  refine x_iconst hx hb d_law_836 ?_
  refine x_iadd hx hb d_law_837 ?_
  refine x_sld hx hb hX hbl hbA B.2.2.2.1 (ii + 4) (by omega) (by omega) (by omega) d_law_838 ?_
  refine lv_aload_n hx hb d_law_839 rfl (lv_at hl 1 rfl) ?_
  by_cases hk1 : 0 ≤ ys (ii + 1) ∧ ys (ii + 1) < I 0
  · obtain ⟨p0, hp0e⟩ : ∃ p0 : Nat, ys (ii + 1) = (p0 : Int) := ⟨(ys (ii + 1)).toNat, by omega⟩
    have hp0l : (p0 : Int) < I 0 := by omega
    have hp0t : p0 < 12 := by omega
    rw [hp0e]
    by_cases hT : (((-1000000 ≤ ys (ii + 2) ∧ ys (ii + 2) ≤ 1000000) ∧ 1 ≤ ys (ii + 3) ∧ ys (ii + 3) ≤ 1000000) ∧ 0 ≤ ys (ii + 4) ∧ ys (ii + 4) ≤ 1) ∧ sg (es (dva (A (20 + p0))) 6 ((ys (ii + 2) : Rat) / (ys (ii + 3) : Rat))) = 0
    · refine THR _ _ _ _ I A Rf Zf p0 _ _ _ ov hC hInv hp0l (by omega) (by omega) (by omega) hT.1 hT.2 hov B (lv_sub hl [0, 1, 2, 3, 4] rfl) (fun g840 H locs I1 A1 R1 Zf1 hC1 hq1 hInv1 hsv1 B => ?_)
      have hMC1 := hMC.frame (fun k hk => hq1 _ (hMd.2.2 k hk))
      have hov1 := (hq1 _ (hMd.2.2 4 (by decide))).trans hov
      refine lv_istore (lv' := [(5, .int (iI 1)), (4, .int (iI ((ii : Int)))), (3, .ref ((M 4))), (2, .ref ((M 0))), (1, .ref ((ad 0))), (0, .ref b)]) hx hb d_law_843 hl (by decide) rfl (fun ls hl => ?_)
      refine lv_aload_n hx hb d_law_845 rfl (lv_at hl 3 rfl) ?_
      refine lv_aload_n hx hb d_law_846 rfl (lv_at hl 5 rfl) ?_
      refine lv_iload hx hb d_law_847 (lv_at hl 1 rfl) ?_
      refine x_iconst hx hb d_law_849 ?_
      refine x_iadd hx hb d_law_850 ?_
      refine x_sld hx hb hX hbl hbA B.2.2.2.1 (ii + 1) (by omega) (by omega) (by omega) d_law_851 ?_
      refine lv_aload_n hx hb d_law_852 rfl (lv_at hl 5 rfl) ?_
      refine lv_iload hx hb d_law_853 (lv_at hl 1 rfl) ?_
      refine x_iconst hx hb d_law_855 ?_
      refine x_iadd hx hb d_law_856 ?_
      refine x_sld hx hb hX hbl hbA B.2.2.2.1 (ii + 2) (by omega) (by omega) (by omega) d_law_857 ?_
      refine lv_aload_n hx hb d_law_858 rfl (lv_at hl 5 rfl) ?_
      refine lv_iload hx hb d_law_859 (lv_at hl 1 rfl) ?_
      refine x_iconst hx hb d_law_861 ?_
      refine x_iadd hx hb d_law_862 ?_
      refine x_sld hx hb hX hbl hbA B.2.2.2.1 (ii + 3) (by omega) (by omega) (by omega) d_law_863 ?_
      refine lv_aload_n hx hb d_law_864 rfl (lv_at hl 5 rfl) ?_
      refine lv_iload hx hb d_law_865 (lv_at hl 1 rfl) ?_
      refine x_iconst hx hb d_law_867 ?_
      refine x_iadd hx hb d_law_868 ?_
      refine x_sld hx hb hX hbl hbA B.2.2.2.1 (ii + 4) (by omega) (by omega) (by omega) d_law_869 ?_
      rw [hp0e]
      refine x_calll B hA (va_runV (As := [.int (iI ((p0 : Int))), .int (iI (ys (ii + 2))), .int (iI (ys (ii + 3))), .int (iI (ys (ii + 4)))]) (rest := []) ⟨hx, hb, hml, hown, hts⟩ (c_Mo_newton_k l D cs _ _ _ (M 0) (M 1) (M 2) (M 3) (M 5) (M 6) (M 7) (M 8) (M 9) (M 10) (M 11) (M 12) (M 13) (M 14) th (I 0) rw_ fu fb lm mn sn Z bl w8 w9 w10 w11 ro fr cv p0 (ys (ii + 2)) (ys (ii + 3)) (ys (ii + 4)) (hMd.fc [0, 1, 2, 3, 6, 8, 9, 10, 11, 12, 13, 5] (by decide) (by decide)) hMC1.1 hMC1.2.1 hMC1.2.2.1 hMC1.2.2.2.1 hMC1.2.2.2.2.2.1 hMC1.2.2.2.2.2.2.2.1 hMC1.2.2.2.2.2.2.2.2.1 hMC1.2.2.2.2.2.2.2.2.2.1 hMC1.2.2.2.2.2.2.2.2.2.2.1 hMC1.2.2.2.2.2.2.2.2.2.2.2.1 hMC1.2.2.2.2.2.2.2.2.2.2.2.2.1 hMC1.2.2.2.2.1 hRS hp0t hcv hLA hhd hp0l (by omega) (by omega) (by omega)) (cwV 4 hts (gw_V w_1003 w_1004 w_1005 w_8 w_1006) rfl rfl rfl (by decide +kernel) ⟨by rw [hRf]; exact Nat.le_of_ble_eq_true rfl, by rw [hRl]; exact Nat.le_of_ble_eq_true rfl⟩) ⟨K0.blind, B.recv (hMd.1 0 (by decide)) hMC1.1 rfl, B.pre _⟩ rfl rfl hl.1 rfl (lv_room (Nat.le_of_ble_eq_true rfl)) d_law_870 ⟨by rw [hRc]; omega, by rw [hRs]; omega⟩) (fun r870 g870 H locs hw B => ?_)
      obtain ⟨lm2, mn2, sn2, Z2, bl2, w82, w92, w102, w112, ro2, fr2, rw2, th2, hRS2, hLA2, hst2, hans2, hg2⟩ := hw
      have hMC2 := MC.m11 hMd hMC1 hg2
      have hC2 := hC1.frame hAd (g := g870) (fun k hk => by rw [hg2]; exact hMd.ad [0, 1, 2, 3, 6, 8, 9, 10, 11, 12, 13] (by decide) rfl hk)
      have hov2 : g870 (M 4) = .inl (cs 1, 1, .inr (.inl (al ov))) := by rw [hg2]; exact (hMd.out (b := 4) (by decide) [0, 1, 2, 3, 6, 8, 9, 10, 11, 12, 13] (by decide) rfl).trans hov1
      have hth2 : th2 = 1 := by rcases hans2 with ⟨h, _⟩ | ⟨_, _, h⟩ | ⟨_, h, _⟩; exact absurd hT.1 h; exact h; exact absurd (by rw [es_congr (dva_congr (hEq p0 hp0l))]; exact hT.2) h
      subst hth2
      obtain ⟨vb, hvb, hvbr⟩ := i64_ex r870
      rw [hvb]
      refine lv_lstore (lv' := [(6, .long (lI vb)), (5, .int (iI 1)), (4, .int (iI ((ii : Int)))), (3, .ref ((M 4))), (2, .ref ((M 0))), (1, .ref ((ad 0))), (0, .ref b)]) hx hb d_law_873 hl (by decide) rfl (fun ls hl => ?_)
      refine lv_aload_n hx hb d_law_875 rfl (lv_at hl 4 rfl) ?_
      refine x_calli B hA (va_runV (As := []) (rest := []) ⟨hx, hb, hml, hown, hts⟩ (c_Mo_thrown l D cs _ _ _ (M 0) (M 1) (M 2) (M 3) (M 5) (M 6) (M 7) (M 8) (M 9) (M 10) (M 11) (M 12) (M 13) (M 14) 1 (I 0) rw2 fu fb (hMd.fc [0] (by decide) (by decide)) hMC2.1 hhd) (cwV 0 hts (gw_V w_733 w_734 w_735 w_8 w_736) rfl rfl rfl (by decide +kernel) ⟨by rw [hRf]; exact Nat.le_of_ble_eq_true rfl, by rw [hRl]; exact Nat.le_of_ble_eq_true rfl⟩) ⟨K0.blind, B.recv (hMd.1 0 (by decide)) hMC2.1 rfl, B.pre _⟩ rfl rfl hl.1 rfl (lv_room (Nat.le_of_ble_eq_true rfl)) d_law_876 ⟨by rw [hRc]; omega, by rw [hRs]; omega⟩) (fun r876 g876 H locs hw B => ?_)
      obtain ⟨rfl, hgf⟩ := hw
      rw [hgf] at B
      refine lv_iload hx hb d_law_879 (lv_at hl 1 rfl) ?_
      refine x_icmp_eq (tgt := 886) hx hb d_law_881 (by decide) (by omega) (by omega) (fun h881 => ?_) (fun h881 => ?_)
      · refine lv_iload hx hb d_law_886 (lv_at hl 1 rfl) ?_
        refine x_if_ne (tgt := 902) hx hb d_law_888 (by decide) (by omega) (fun h888 => ?_) (fun h888 => ?_)
        · refine lv_goto (tgt := 956) hx hb d_law_902 (by decide) ?_
          exact TAIL _ _ _ _ ⟨I1, A1, R1, Zf1, _, cv, bl2, ro2, fr2, Z2, ov, hC2, hInv1, by rw [show I1 0 = I 0 from hsv1.1]; exact ⟨_, _, _, lm2, mn2, sn2, w82, w92, w102, w112, md, w15, hMC2, hRS2, hLA2, hcv, hhd.1, hhd.2⟩, hov2, fun q hq => by rw [show I1 0 = I 0 from hsv1.1] at hq; rw [show A1 (20 + q) = A (20 + q) from hsv1.2 q (by omega)]; exact hEq q hq⟩ B (lv_sub hl [2, 3, 4, 5, 6] rfl)
        · exfalso; omega
      · exfalso; omega
    · refine W.widen (k := CC + 1) (n := SS + 6) (by omega) (by omega) ?_
      refine x_calli B hA (x_runSW (n := 6) (As := [.ref ((ad 0)), .int (iI ((p0 : Int))), .int (iI (ys (ii + 2))), .int (iI (ys (ii + 3))), .int (iI (ys (ii + 4))), .ref ((M 4))]) (rest := []) ⟨hx, hb, hml, hown, hts⟩ (c_law_newton_k l D cs _ _ _ ad Qm I A Rf Zf p0 (M 4) (ys (ii + 2)) (ys (ii + 3)) (ys (ii + 4)) ov hAd hC hInv hp0l (by omega) (by omega) (by omega) (fun h1 h2 => hT ⟨h1, h2⟩) (hMd.1 4 (by decide)) (hMd.2.2 4 (by decide)) hov) (gw_cons w_575) List.mem_cons_self rfl rfl ⟨by rw [hRf]; exact Nat.le_of_ble_eq_true rfl, by rw [hRl]; exact Nat.le_of_ble_eq_true rfl⟩ (hts _ w_573) (hts _ w_574) (hts _ w_0) (by decide +kernel) ⟨K0.blind, B.pre _⟩ rfl rfl hl.1 rfl (lv_room (Nat.le_of_ble_eq_true rfl)) d_law_840 ⟨by rw [hRc]; omega, by rw [hRs]; omega⟩) (fun r840 g840 H locs hw B => ?_)
      obtain ⟨rfl, I1, A1, R1, Zf1, vn, hC1, hq0, hInv1, hsv1, hov1, hans1⟩ := hw
      have hq1 : ∀ k, k < 15 → k ≠ 4 → g840 (M k) = f (M k) := fun k hk hne => hq0 _ (hMd.2.2 k hk) (fun h => hne (hMd.2.1 k 4 hk (by decide) h))
      have hMC1 := hMC.frame4 hq1
      refine lv_istore (lv' := [(5, .int (iI 0)), (4, .int (iI ((ii : Int)))), (3, .ref ((M 4))), (2, .ref ((M 0))), (1, .ref ((ad 0))), (0, .ref b)]) hx hb d_law_843 hl (by decide) rfl (fun ls hl => ?_)
      refine lv_aload_n hx hb d_law_845 rfl (lv_at hl 3 rfl) ?_
      refine lv_aload_n hx hb d_law_846 rfl (lv_at hl 5 rfl) ?_
      refine lv_iload hx hb d_law_847 (lv_at hl 1 rfl) ?_
      refine x_iconst hx hb d_law_849 ?_
      refine x_iadd hx hb d_law_850 ?_
      refine x_sld hx hb hX hbl hbA B.2.2.2.1 (ii + 1) (by omega) (by omega) (by omega) d_law_851 ?_
      refine lv_aload_n hx hb d_law_852 rfl (lv_at hl 5 rfl) ?_
      refine lv_iload hx hb d_law_853 (lv_at hl 1 rfl) ?_
      refine x_iconst hx hb d_law_855 ?_
      refine x_iadd hx hb d_law_856 ?_
      refine x_sld hx hb hX hbl hbA B.2.2.2.1 (ii + 2) (by omega) (by omega) (by omega) d_law_857 ?_
      refine lv_aload_n hx hb d_law_858 rfl (lv_at hl 5 rfl) ?_
      refine lv_iload hx hb d_law_859 (lv_at hl 1 rfl) ?_
      refine x_iconst hx hb d_law_861 ?_
      refine x_iadd hx hb d_law_862 ?_
      refine x_sld hx hb hX hbl hbA B.2.2.2.1 (ii + 3) (by omega) (by omega) (by omega) d_law_863 ?_
      refine lv_aload_n hx hb d_law_864 rfl (lv_at hl 5 rfl) ?_
      refine lv_iload hx hb d_law_865 (lv_at hl 1 rfl) ?_
      refine x_iconst hx hb d_law_867 ?_
      refine x_iadd hx hb d_law_868 ?_
      refine x_sld hx hb hX hbl hbA B.2.2.2.1 (ii + 4) (by omega) (by omega) (by omega) d_law_869 ?_
      rw [hp0e]
      refine x_calll B hA (va_runV (As := [.int (iI ((p0 : Int))), .int (iI (ys (ii + 2))), .int (iI (ys (ii + 3))), .int (iI (ys (ii + 4)))]) (rest := []) ⟨hx, hb, hml, hown, hts⟩ (c_Mo_newton_k l D cs _ _ _ (M 0) (M 1) (M 2) (M 3) (M 5) (M 6) (M 7) (M 8) (M 9) (M 10) (M 11) (M 12) (M 13) (M 14) th (I 0) rw_ fu fb lm mn sn Z bl w8 w9 w10 w11 ro fr cv p0 (ys (ii + 2)) (ys (ii + 3)) (ys (ii + 4)) (hMd.fc [0, 1, 2, 3, 6, 8, 9, 10, 11, 12, 13, 5] (by decide) (by decide)) hMC1.1 hMC1.2.1 hMC1.2.2.1 hMC1.2.2.2.1 hMC1.2.2.2.2.2.1 hMC1.2.2.2.2.2.2.2.1 hMC1.2.2.2.2.2.2.2.2.1 hMC1.2.2.2.2.2.2.2.2.2.1 hMC1.2.2.2.2.2.2.2.2.2.2.1 hMC1.2.2.2.2.2.2.2.2.2.2.2.1 hMC1.2.2.2.2.2.2.2.2.2.2.2.2.1 hMC1.2.2.2.2.1 hRS hp0t hcv hLA hhd hp0l (by omega) (by omega) (by omega)) (cwV 4 hts (gw_V w_1003 w_1004 w_1005 w_8 w_1006) rfl rfl rfl (by decide +kernel) ⟨by rw [hRf]; exact Nat.le_of_ble_eq_true rfl, by rw [hRl]; exact Nat.le_of_ble_eq_true rfl⟩) ⟨K0.blind, B.recv (hMd.1 0 (by decide)) hMC1.1 rfl, B.pre _⟩ rfl rfl hl.1 rfl (lv_room (Nat.le_of_ble_eq_true rfl)) d_law_870 ⟨by rw [hRc]; omega, by rw [hRs]; omega⟩) (fun r870 g870 H locs hw B => ?_)
      obtain ⟨lm2, mn2, sn2, Z2, bl2, w82, w92, w102, w112, ro2, fr2, rw2, th2, hRS2, hLA2, hst2, hans2, hg2⟩ := hw
      have hMC2 := MC.m11 hMd hMC1 hg2
      have hC2 := hC1.frame hAd (g := g870) (fun k hk => by rw [hg2]; exact hMd.ad [0, 1, 2, 3, 6, 8, 9, 10, 11, 12, 13] (by decide) rfl hk)
      have hov2 : g870 (M 4) = .inl (cs 1, 1, .inr (.inl (al (up ov 0 vn)))) := by rw [hg2]; exact (hMd.out (b := 4) (by decide) [0, 1, 2, 3, 6, 8, 9, 10, 11, 12, 13] (by decide) rfl).trans hov1
      obtain ⟨hth2, hb2⟩ : th2 = 0 ∧ lI vn = r870 := by
        rcases hans2 with ⟨h, h2, h3⟩ | ⟨h, h2, h3⟩ | ⟨h, h2, h3, mb, m1, m2, m3, m4, h4⟩
        · rcases hans1 with ⟨_, e⟩ | ⟨e, _⟩
          · exact ⟨h2, e.trans h3.symm⟩
          · exact absurd e h
        · exact absurd ⟨h, by rw [← es_congr (dva_congr (hEq p0 hp0l))]; exact h2⟩ hT
        · rcases hans1 with ⟨e, _⟩ | ⟨_, ma, k1, k2, k3, k4, e⟩
          · exact absurd h e
          · exact ⟨h3, by rw [e, h4, gl_nwt (hEq p0 hp0l) k2 k3 k4 m2 m3 m4]⟩
      subst hth2
      rw [← hb2]
      obtain ⟨vv, hvv, hvr⟩ := i64_ex (lI vn)
      rw [hvv]
      refine lv_lstore (lv' := [(6, .long (lI vv)), (5, .int (iI 0)), (4, .int (iI ((ii : Int)))), (3, .ref ((M 4))), (2, .ref ((M 0))), (1, .ref ((ad 0))), (0, .ref b)]) hx hb d_law_873 hl (by decide) rfl (fun ls hl => ?_)
      refine lv_aload_n hx hb d_law_875 rfl (lv_at hl 4 rfl) ?_
      refine x_calli B hA (va_runV (As := []) (rest := []) ⟨hx, hb, hml, hown, hts⟩ (c_Mo_thrown l D cs _ _ _ (M 0) (M 1) (M 2) (M 3) (M 5) (M 6) (M 7) (M 8) (M 9) (M 10) (M 11) (M 12) (M 13) (M 14) 0 (I 0) rw2 fu fb (hMd.fc [0] (by decide) (by decide)) hMC2.1 hhd) (cwV 0 hts (gw_V w_733 w_734 w_735 w_8 w_736) rfl rfl rfl (by decide +kernel) ⟨by rw [hRf]; exact Nat.le_of_ble_eq_true rfl, by rw [hRl]; exact Nat.le_of_ble_eq_true rfl⟩) ⟨K0.blind, B.recv (hMd.1 0 (by decide)) hMC2.1 rfl, B.pre _⟩ rfl rfl hl.1 rfl (lv_room (Nat.le_of_ble_eq_true rfl)) d_law_876 ⟨by rw [hRc]; omega, by rw [hRs]; omega⟩) (fun r876 g876 H locs hw B => ?_)
      obtain ⟨rfl, hgf⟩ := hw
      rw [hgf] at B
      refine lv_iload hx hb d_law_879 (lv_at hl 1 rfl) ?_
      refine x_icmp_eq (tgt := 886) hx hb d_law_881 (by decide) (by omega) (by omega) (fun h881 => ?_) (fun h881 => ?_)
      · refine lv_iload hx hb d_law_886 (lv_at hl 1 rfl) ?_
        refine x_if_ne (tgt := 902) hx hb d_law_888 (by decide) (by omega) (fun h888 => ?_) (fun h888 => ?_)
        · exfalso; omega
        · refine lv_aload_n hx hb d_law_891 rfl (lv_at hl 3 rfl) ?_
          refine x_iconst hx hb d_law_892 ?_
          refine x_lald hx hb (B.foc1 hov2) (Fc.one (hMd.1 4 (by decide))) 0 1 rfl rfl 0 (by omega) (by omega) (by decide) d_law_893 ?_
          rw [up_self]
          rw [hvv]
          refine lv_lload hx hb d_law_894 (lv_at hl 0 rfl) ?_
          refine x_lc_eq (tgt := 902) hx hb d_law_896 rfl d_law_897 (by decide) (by omega) (by omega) (fun h897 => ?_) (fun h897 => ?_)
          · refine lv_goto (tgt := 956) hx hb d_law_902 (by decide) ?_
            exact TAIL _ _ _ _ ⟨I1, A1, R1, Zf1, _, cv, bl2, ro2, fr2, Z2, (up ov 0 vn), hC2, hInv1, by rw [show I1 0 = I 0 from hsv1.1]; exact ⟨_, _, _, lm2, mn2, sn2, w82, w92, w102, w112, md, w15, hMC2, hRS2, hLA2, hcv, hhd.1, hhd.2⟩, hov2, fun q hq => by rw [show I1 0 = I 0 from hsv1.1] at hq; rw [show A1 (20 + q) = A (20 + q) from hsv1.2 q (by omega)]; exact hEq q hq⟩ B (lv_sub hl [2, 3, 4, 5, 6] rfl)
          · exfalso; omega
      · exfalso; omega
  · refine W.widen (k := CC + 1) (n := SS + 6) (by omega) (by omega) ?_
    refine x_calli B hA (x_runSW (n := 6) (As := [.ref ((ad 0)), .int (iI (ys (ii + 1))), .int (iI (ys (ii + 2))), .int (iI (ys (ii + 3))), .int (iI (ys (ii + 4))), .ref ((M 4))]) (rest := []) ⟨hx, hb, hml, hown, hts⟩ (c_law_newton_u l D cs _ _ _ (ad 0) (ad 1) (ad 2) (ad 5) (ad 7) (ad 8) (ad 9) (ad 10) (ad 11) (ad 12) (ad 13) (ad 14) (I 0) (I 1) (I 2) (M 4) (ys (ii + 1)) (ys (ii + 2)) (ys (ii + 3)) (ys (ii + 4)) ov ⟨List.nodup_cons.mpr ⟨by simp only [List.mem_cons, List.not_mem_nil, or_false]; exact fun h => hMd.2.2 4 (by decide) 0 (by decide) h.symm, by simp⟩, fun q hq => by simp only [List.mem_cons, List.not_mem_nil, or_false] at hq; rcases hq with h | h <;> rw [h]; exact hAd.1 0 (by decide); exact hMd.1 4 (by decide)⟩ hC.x hhd hov (by omega) (by omega) (by omega) (by omega) (by omega)) (gw_cons w_575) List.mem_cons_self rfl rfl ⟨by rw [hRf]; exact Nat.le_of_ble_eq_true rfl, by rw [hRl]; exact Nat.le_of_ble_eq_true rfl⟩ (hts _ w_573) (hts _ w_574) (hts _ w_0) (by decide +kernel) ⟨K0.blind, B.pre _⟩ rfl rfl hl.1 rfl (lv_room (Nat.le_of_ble_eq_true rfl)) d_law_840 ⟨by rw [hRc]; omega, by rw [hRs]; omega⟩) (fun r840 g840 H locs hw B => ?_)
    obtain ⟨rfl, hgo⟩ := hw
    have hC1 : CSt cs ad Qm g840 I A Rf Zf := hC.frame hAd (fun k hk => by rw [hgo]; exact hMd.ad [4] (by decide) rfl hk)
    have hq1 : ∀ k, k < 15 → k ≠ 4 → g840 (M k) = f (M k) := fun k hk hne => by rw [hgo]; exact hMd.out hk [4] (by simp; omega) rfl
    have hov1 : g840 (M 4) = .inl (cs 1, 1, .inr (.inl (al (up ov 0 (-4000000000000000000))))) := by rw [hgo]; exact hMd.get [4] (by decide) (by decide) rfl 0 rfl
    have hMC1 := hMC.frame4 hq1
    have hInv1 := hInv
    have hsv1 : SameV I A I A := ⟨rfl, fun _ _ => rfl⟩
    refine lv_istore (lv' := [(5, .int (iI 0)), (4, .int (iI ((ii : Int)))), (3, .ref ((M 4))), (2, .ref ((M 0))), (1, .ref ((ad 0))), (0, .ref b)]) hx hb d_law_843 hl (by decide) rfl (fun ls hl => ?_)
    refine lv_aload_n hx hb d_law_845 rfl (lv_at hl 3 rfl) ?_
    refine lv_aload_n hx hb d_law_846 rfl (lv_at hl 5 rfl) ?_
    refine lv_iload hx hb d_law_847 (lv_at hl 1 rfl) ?_
    refine x_iconst hx hb d_law_849 ?_
    refine x_iadd hx hb d_law_850 ?_
    refine x_sld hx hb hX hbl hbA B.2.2.2.1 (ii + 1) (by omega) (by omega) (by omega) d_law_851 ?_
    refine lv_aload_n hx hb d_law_852 rfl (lv_at hl 5 rfl) ?_
    refine lv_iload hx hb d_law_853 (lv_at hl 1 rfl) ?_
    refine x_iconst hx hb d_law_855 ?_
    refine x_iadd hx hb d_law_856 ?_
    refine x_sld hx hb hX hbl hbA B.2.2.2.1 (ii + 2) (by omega) (by omega) (by omega) d_law_857 ?_
    refine lv_aload_n hx hb d_law_858 rfl (lv_at hl 5 rfl) ?_
    refine lv_iload hx hb d_law_859 (lv_at hl 1 rfl) ?_
    refine x_iconst hx hb d_law_861 ?_
    refine x_iadd hx hb d_law_862 ?_
    refine x_sld hx hb hX hbl hbA B.2.2.2.1 (ii + 3) (by omega) (by omega) (by omega) d_law_863 ?_
    refine lv_aload_n hx hb d_law_864 rfl (lv_at hl 5 rfl) ?_
    refine lv_iload hx hb d_law_865 (lv_at hl 1 rfl) ?_
    refine x_iconst hx hb d_law_867 ?_
    refine x_iadd hx hb d_law_868 ?_
    refine x_sld hx hb hX hbl hbA B.2.2.2.1 (ii + 4) (by omega) (by omega) (by omega) d_law_869 ?_
    refine x_calll B hA (va_runV (As := [.int (iI (ys (ii + 1))), .int (iI (ys (ii + 2))), .int (iI (ys (ii + 3))), .int (iI (ys (ii + 4)))]) (rest := []) ⟨hx, hb, hml, hown, hts⟩ (c_Mo_newton_u l D cs _ _ _ (M 0) (M 1) (M 2) (M 3) (M 5) (M 6) (M 7) (M 8) (M 9) (M 10) (M 11) (M 12) (M 13) (M 14) th (I 0) rw_ fu fb (ys (ii + 1)) (ys (ii + 2)) (ys (ii + 3)) (ys (ii + 4)) (hMd.fc [0] (by decide) (by decide)) hMC1.1 hhd (by omega) (by omega) (by omega) (by omega) (by omega)) (cwV 4 hts (gw_V w_1003 w_1004 w_1005 w_8 w_1006) rfl rfl rfl (by decide +kernel) ⟨by rw [hRf]; exact Nat.le_of_ble_eq_true rfl, by rw [hRl]; exact Nat.le_of_ble_eq_true rfl⟩) ⟨K0.blind, B.recv (hMd.1 0 (by decide)) hMC1.1 rfl, B.pre _⟩ rfl rfl hl.1 rfl (lv_room (Nat.le_of_ble_eq_true rfl)) d_law_870 ⟨by rw [hRc]; omega, by rw [hRs]; omega⟩) (fun r870 g870 H locs hw B => ?_)
    obtain ⟨rfl, hg2⟩ := hw
    have hMC2 := MC.m1 hMd hMC1 hg2
    have hC2 := hC1.frame hAd (g := g870) (fun k hk => by rw [hg2]; exact hMd.ad [0] (by decide) rfl hk)
    have hov2 : g870 (M 4) = .inl (cs 1, 1, .inr (.inl (al (up ov 0 (-4000000000000000000))))) := by rw [hg2]; exact (hMd.out (b := 4) (by decide) [0] (by decide) rfl).trans hov1
    refine lv_lstore (lv' := [(6, .long (lI (-4000000000000000000))), (5, .int (iI 0)), (4, .int (iI ((ii : Int)))), (3, .ref ((M 4))), (2, .ref ((M 0))), (1, .ref ((ad 0))), (0, .ref b)]) hx hb d_law_873 hl (by decide) rfl (fun ls hl => ?_)
    refine lv_aload_n hx hb d_law_875 rfl (lv_at hl 4 rfl) ?_
    refine x_calli B hA (va_runV (As := []) (rest := []) ⟨hx, hb, hml, hown, hts⟩ (c_Mo_thrown l D cs _ _ _ (M 0) (M 1) (M 2) (M 3) (M 5) (M 6) (M 7) (M 8) (M 9) (M 10) (M 11) (M 12) (M 13) (M 14) 0 (I 0) rw_ fu fb (hMd.fc [0] (by decide) (by decide)) hMC2.1 hhd) (cwV 0 hts (gw_V w_733 w_734 w_735 w_8 w_736) rfl rfl rfl (by decide +kernel) ⟨by rw [hRf]; exact Nat.le_of_ble_eq_true rfl, by rw [hRl]; exact Nat.le_of_ble_eq_true rfl⟩) ⟨K0.blind, B.recv (hMd.1 0 (by decide)) hMC2.1 rfl, B.pre _⟩ rfl rfl hl.1 rfl (lv_room (Nat.le_of_ble_eq_true rfl)) d_law_876 ⟨by rw [hRc]; omega, by rw [hRs]; omega⟩) (fun r876 g876 H locs hw B => ?_)
    obtain ⟨rfl, hgf⟩ := hw
    rw [hgf] at B
    refine lv_iload hx hb d_law_879 (lv_at hl 1 rfl) ?_
    refine x_icmp_eq (tgt := 886) hx hb d_law_881 (by decide) (by omega) (by omega) (fun h881 => ?_) (fun h881 => ?_)
    · refine lv_iload hx hb d_law_886 (lv_at hl 1 rfl) ?_
      refine x_if_ne (tgt := 902) hx hb d_law_888 (by decide) (by omega) (fun h888 => ?_) (fun h888 => ?_)
      · exfalso; omega
      · refine lv_aload_n hx hb d_law_891 rfl (lv_at hl 3 rfl) ?_
        refine x_iconst hx hb d_law_892 ?_
        refine x_lald hx hb (B.foc1 hov2) (Fc.one (hMd.1 4 (by decide))) 0 1 rfl rfl 0 (by omega) (by omega) (by decide) d_law_893 ?_
        rw [up_self]
        refine lv_lload hx hb d_law_894 (lv_at hl 0 rfl) ?_
        refine x_lc_eq (tgt := 902) hx hb d_law_896 rfl d_law_897 (by decide) (by omega) (by omega) (fun h897 => ?_) (fun h897 => ?_)
        · refine lv_goto (tgt := 956) hx hb d_law_902 (by decide) ?_
          exact TAIL _ _ _ _ ⟨I, A, Rf, Zf, _, cv, bl, ro, fr, Z, (up ov 0 (-4000000000000000000)), hC2, hInv1, by rw [show I 0 = I 0 from hsv1.1]; exact ⟨_, _, _, lm, mn, sn, w8, w9, w10, w11, md, w15, hMC2, hRS, hLA, hcv, hhd.1, hhd.2⟩, hov2, fun q hq => by rw [show I 0 = I 0 from hsv1.1] at hq; rw [show A (20 + q) = A (20 + q) from hsv1.2 q (by omega)]; exact hEq q hq⟩ B (lv_sub hl [2, 3, 4, 5, 6] rfl)
        · exfalso; omega
    · exfalso; omega
