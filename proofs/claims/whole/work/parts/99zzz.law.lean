/-! a new polynomial, or another coefficient, on both sides -/
theorem eq_grow {I1 : Nat → Int} {A A1 : Nat → Nat → Int} {cv cv' W : Nat → Int} {np : Nat} {i0 : Int} (hnp : i0 = (np : Int)) (hnl : np < 12) (hI1 : I1 0 = i0 + 1) (hrow : ∀ j, j < 6 → A1 (20 + np) j = W j) (hoth : ∀ p2, p2 < 12 → p2 ≠ np → A1 (20 + p2) = A (20 + p2)) (hc1 : ∀ j, j < 6 → cv' (6 * np + j) = W j) (hc2 : ∀ v, (v < 6 * np ∨ 6 * np + 5 < v) → cv' v = cv v) (hEq : ∀ q : Nat, (q : Int) < i0 → EqV (A (20 + q)) (fun j => cv (6 * q + j))) : ∀ q : Nat, (q : Int) < I1 0 → EqV (A1 (20 + q)) (fun j => cv' (6 * q + j)) := fun q hq j hj => by
  by_cases c : q = np
  · rw [c, hrow j hj]; exact hc1 j hj
  · rw [hoth q (by omega) c]
    show cv' (6 * q + j) = _
    rw [hc2 _ (by omega)]
    exact hEq q (by omega) j hj
theorem sf_in {np : Nat} {cv : Nat → Int} {i0 : Int} (h : i0 = (np : Int)) : (∀ j, j < 6 → sf (6 * i0) 6 cv (6 * np + j) = 0) ∧ (∀ v, (v < 6 * np ∨ 6 * np + 5 < v) → sf (6 * i0) 6 cv v = cv v) ∧ ((∀ j, j < 72 → -1000 ≤ cv j ∧ cv j ≤ 1000) → ∀ j, j < 72 → -1000 ≤ sf (6 * i0) 6 cv j ∧ sf (6 * i0) 6 cv j ≤ 1000) := by
  unfold sf
  refine ⟨fun j hj => if_pos (by omega), fun v hv => if_neg (by omega), fun hc j hj => ?_⟩
  split
  · omega
  · exact hc j hj
theorem eq_set {I1 : Nat → Int} {A A1 : Nat → Nat → Int} {cv : Nat → Int} {p0 kp : Nat} {i0 v1 : Int} (hI1 : I1 0 = i0) (h12 : i0 ≤ 12) (hk : kp < 6) (hrow : ∀ j, A1 (20 + p0) j = up (A (20 + p0)) kp v1 j) (hoth : ∀ p2, p2 < 12 → p2 ≠ p0 → A1 (20 + p2) = A (20 + p2)) (hEq : ∀ q : Nat, (q : Int) < i0 → EqV (A (20 + q)) (fun j => cv (6 * q + j))) : ∀ q : Nat, (q : Int) < I1 0 → EqV (A1 (20 + q)) (fun j => up cv (6 * p0 + kp) v1 (6 * q + j)) := fun q hq j hj => by
  show up cv (6 * p0 + kp) v1 (6 * q + j) = _
  by_cases c : q = p0
  · rw [c, hrow j]
    by_cases d : j = kp
    · rw [d, up_self, up_self]
    · rw [up_ne _ _ d, up_ne _ _ (by omega)]
      rw [c] at hq
      exact hEq p0 (by omega) j hj
  · rw [hoth q (by omega) c, up_ne _ _ (by omega)]
    exact hEq q (by omega) j hj
theorem up_bd {cv : Nat → Int} {k : Nat} {v1 : Int} (hc : ∀ j, j < 72 → -1000 ≤ cv j ∧ cv j ≤ 1000) (hv : -1000 ≤ v1 ∧ v1 ≤ 1000) : ∀ j, j < 72 → -1000 ≤ up cv k v1 j ∧ up cv k v1 j ≤ 1000 := fun j hj => by
  by_cases c : j = k
  · rw [c, up_self]; exact hv
  · rw [up_ne _ _ c]; exact hc j hj
set_option maxHeartbeats 8000000 in
set_option maxRecDepth 100000 in
theorem law_case_0 {p : Program} {l : Launch} {e : Env} {s : State} {m : MethodId} {below : List Frame} {meth : Method} {c : Code} {R : Room} {av : Array Value} {Q : State → Prop} {ad Qm M : Nat → Nat} {ys : Nat → Int} {b n ii CC SS : Nat} {A0 : Nat → Prop} {D : va_G} {cs : Nat → ClassId} {LL : List Nat} {f : Nat → va_E} {H : Heap} {locs : List Loc} {ls : Array Slot} (hx : p.tables.exec = Jvm.exec) (hb : c.code = code) (hml : c.maxLocals = 8) (hown : s.vm.findClass R_law = some m.cls) (hts : ∀ w ∈ gw, w.before av s = true) (hRf : R.frames = 14) (hRl : R.locals = 594) (hRc : R.cells = 601024) (hRs : R.slots = 7293034) (hA : ∀ q, s.heap.size ≤ q → A0 q) (hX : va_X b n (ai ys) s s.heap) (hbl : b < s.heap.size) (hbA : ¬ A0 b) (hyr : ∀ j, -2147483648 ≤ ys j ∧ ys j < 2147483648) (hn : n ≤ 3072) (hi : ii + 6 ≤ n) (hCC : CC ≤ 600000) (hSS : SS ≤ 7000000) (hAd : AdOk LL ad Qm) (hMd : MdOk LL ad M) (hLI : LI cs ad Qm M f) (TAIL : ∀ (f' : Nat → va_E) (H : Heap) (locs : List Loc) (ls : Array Slot), LI cs ad Qm M f' → Wb D vwCl (TY cs) LL f' A0 s H locs → lv_has ls 8 [(4, .int (iI (ii : Int))), (3, .ref (M 4)), (2, .ref (M 0)), (1, .ref (ad 0)), (0, .ref b)] → W p l e R s m av below meth c H locs CC SS Q (F0 m 956 ls [])) (B : Wb D vwCl (TY cs) LL f A0 s H locs) (hl : lv_has ls 8 [(4, .int (iI (ii : Int))), (3, .ref (M 4)), (2, .ref (M 0)), (1, .ref (ad 0)), (0, .ref b)]) : W p l e R s m av below meth c H locs CC SS Q (F0 m 136 ls []) := by
  obtain ⟨I, A, Rf, Zf, th, cv, bl, ro, fr, Z, ov, hC, hInv, hLM, hov, hEq⟩ := hLI
  obtain ⟨rw_, fu, fb, lm, mn, sn, w8, w9, w10, w11, md, w15, hMC, hRS, hLA, hcv, hpn0, hpn12⟩ := hLM
  have hG0 := hInv.1
  have hhd := hG0.1
  have hy1 := hyr (ii + 1)
  have hy2 := hyr (ii + 2)
  have hy3 := hyr (ii + 3)
  have hy4 := hyr (ii + 4)
  have hy5 := hyr (ii + 5)
  refine lv_aload_n hx hb d_law_136 rfl (lv_at hl 3 rfl) ?_
  refine x_calli B hA (va_runV (As := []) (rest := []) ⟨hx, hb, hml, hown, hts⟩ (c_RR_polynomial_c l D cs _ _ _ ad Qm I A Rf Zf hAd hC hInv) (cwV 0 hts (gw_V w_240 w_241 w_242 w_1 w_243) rfl rfl rfl (by decide +kernel) ⟨by rw [hRf]; exact Nat.le_of_ble_eq_true rfl, by rw [hRl]; exact Nat.le_of_ble_eq_true rfl⟩) ⟨K0.blind, B.recv (hAd.1 0 (by omega)) hC.x rfl, B.pre _⟩ rfl rfl hl.1 rfl (lv_room (Nat.le_of_ble_eq_true rfl)) d_law_137 ⟨by rw [hRc]; omega, by rw [hRs]; omega⟩) (fun r137 g137 H locs hw B => ?_)
  obtain ⟨I1, A1, R1, Zf1, hC1, hq1, hpp⟩ := hw
  have hMC1 := hMC.frame (fun k hk => hq1 _ (hMd.2.2 k hk))
  have hov1 := (hq1 _ (hMd.2.2 4 (by decide))).trans hov
  obtain ⟨np, hnp⟩ : ∃ np : Nat, I 0 = (np : Int) := ⟨(I 0).toNat, by omega⟩
  rcases hpp with ⟨h12, hr1, hInv1, hsv1⟩ | ⟨hlt, hr1, hInv1, hI0, hzr, hoth⟩
  · refine lv_aload_n hx hb d_law_140 rfl (lv_at hl 2 rfl) ?_
    refine x_calli B hA (va_runV (As := []) (rest := [.int r137]) ⟨hx, hb, hml, hown, hts⟩ (c_Mo_polynomial_f l D cs _ _ _ (M 0) (M 1) (M 2) (M 3) (M 5) (M 6) (M 7) (M 8) (M 9) (M 10) (M 11) (M 12) (M 13) (M 14) th rw_ fu fb (hMd.fc [0] (by decide) (by decide)) (by have h9 := hMC1.1; rw [h12] at h9; exact h9)) (cwV 0 hts (gw_V w_737 w_738 w_739 w_8 w_740) rfl rfl rfl (by decide +kernel) ⟨by rw [hRf]; exact Nat.le_of_ble_eq_true rfl, by rw [hRl]; exact Nat.le_of_ble_eq_true rfl⟩) ⟨K0.blind, B.recv (hMd.1 0 (by decide)) hMC1.1 rfl, B.pre _⟩ rfl rfl hl.1 rfl (lv_room (Nat.le_of_ble_eq_true rfl)) d_law_141 ⟨by rw [hRc]; omega, by rw [hRs]; omega⟩) (fun r141 g141 H locs hw B => ?_)
    obtain ⟨hr2, hg2⟩ := hw
    have hMC2 := MC.m1 hMd hMC1 hg2
    have hC2 := hC1.frame hAd (g := g141) (fun k hk => by rw [hg2]; exact hMd.ad [0] (by decide) rfl hk)
    have hov2 : g141 (M 4) = .inl (cs 1, 1, .inr (.inl (al ov))) := by rw [hg2]; exact (hMd.out (b := 4) (by decide) [0] (by decide) rfl).trans hov1
    have he : r137 = r141 := hr1.trans hr2.symm
    rw [← he]
    obtain ⟨vv, hvv, hvr⟩ := i32_ex r137
    rw [hvv]
    refine x_icmp_eq (tgt := 956) hx hb d_law_144 (by decide) (by omega) (by omega) (fun h144 => ?_) (fun h144 => ?_)
    · exact TAIL _ _ _ _ ⟨I1, A1, R1, Zf1, _, cv, bl, ro, fr, Z, ov, hC2, hInv1, by rw [show I1 0 = 12 from hsv1.1.trans h12]; exact ⟨_, _, _, lm, mn, sn, w8, w9, w10, w11, md, w15, hMC2, hRS, hLA, hcv, by decide, by decide⟩, hov2, fun q hq => by rw [show I1 0 = I 0 from hsv1.1] at hq; rw [show A1 (20 + q) = A (20 + q) from hsv1.2 q (by omega)]; exact hEq q hq⟩ B (lv_sub hl [0, 1, 2, 3, 4] rfl)
    · exfalso; omega
  · refine lv_aload_n hx hb d_law_140 rfl (lv_at hl 2 rfl) ?_
    refine x_calli B hA (va_runV (As := []) (rest := [.int r137]) ⟨hx, hb, hml, hown, hts⟩ (c_Mo_polynomial l D cs _ _ _ (M 0) (M 1) (M 2) (M 3) (M 5) (M 6) (M 7) (M 8) (M 9) (M 10) (M 11) (M 12) (M 13) (M 14) th (I 0) rw_ fu fb cv bl (hMd.fc [0, 5, 6] (by decide) (by decide)) hMC1.1 hhd hlt hMC1.2.2.2.2.1 hMC1.2.2.2.2.2.1) (cwV 0 hts (gw_V w_737 w_738 w_739 w_8 w_740) rfl rfl rfl (by decide +kernel) ⟨by rw [hRf]; exact Nat.le_of_ble_eq_true rfl, by rw [hRl]; exact Nat.le_of_ble_eq_true rfl⟩) ⟨K0.blind, B.recv (hMd.1 0 (by decide)) hMC1.1 rfl, B.pre _⟩ rfl rfl hl.1 rfl (lv_room (Nat.le_of_ble_eq_true rfl)) d_law_141 ⟨by rw [hRc]; omega, by rw [hRs]; omega⟩) (fun r141 g141 H locs hw B => ?_)
    obtain ⟨hr2, hg2⟩ := hw
    have hMC2 := MC.m3 hMd hMC1 hg2
    have hC2 := hC1.frame hAd (g := g141) (fun k hk => by rw [hg2]; exact hMd.ad [0, 5, 6] (by decide) rfl hk)
    have hov2 : g141 (M 4) = .inl (cs 1, 1, .inr (.inl (al ov))) := by rw [hg2]; exact (hMd.out (b := 4) (by decide) [0, 5, 6] (by decide) rfl).trans hov1
    obtain ⟨hs1, hs2, hs3⟩ := sf_in (cv := cv) hnp
    have hI0n : (I 0).toNat = np := by omega
    rw [hI0n] at hMC2 hzr hoth
    have he : r137 = r141 := hr1.trans hr2.symm
    rw [← he]
    obtain ⟨vv, hvv, hvr⟩ := i32_ex r137
    rw [hvv]
    refine x_icmp_eq (tgt := 956) hx hb d_law_144 (by decide) (by omega) (by omega) (fun h144 => ?_) (fun h144 => ?_)
    · exact TAIL _ _ _ _ ⟨I1, A1, R1, Zf1, _, (sf (6 * I 0) 6 cv), (up bl np 0), ro, fr, Z, ov, hC2, hInv1, by rw [hI0]; exact ⟨_, _, _, lm, mn, sn, w8, w9, w10, w11, md, w15, hMC2, hRS, hLA.grow hs2, hs3 hcv, by omega, by omega⟩, hov2, eq_grow (W := fun _ => 0) hnp (by omega) hI0 hzr hoth hs1 hs2 hEq⟩ B (lv_sub hl [0, 1, 2, 3, 4] rfl)
    · exfalso; omega
set_option maxHeartbeats 8000000 in
set_option maxRecDepth 100000 in
theorem law_case_1 {p : Program} {l : Launch} {e : Env} {s : State} {m : MethodId} {below : List Frame} {meth : Method} {c : Code} {R : Room} {av : Array Value} {Q : State → Prop} {ad Qm M : Nat → Nat} {ys : Nat → Int} {b n ii CC SS : Nat} {A0 : Nat → Prop} {D : va_G} {cs : Nat → ClassId} {LL : List Nat} {f : Nat → va_E} {H : Heap} {locs : List Loc} {ls : Array Slot} (hx : p.tables.exec = Jvm.exec) (hb : c.code = code) (hml : c.maxLocals = 8) (hown : s.vm.findClass R_law = some m.cls) (hts : ∀ w ∈ gw, w.before av s = true) (hRf : R.frames = 14) (hRl : R.locals = 594) (hRc : R.cells = 601024) (hRs : R.slots = 7293034) (hA : ∀ q, s.heap.size ≤ q → A0 q) (hX : va_X b n (ai ys) s s.heap) (hbl : b < s.heap.size) (hbA : ¬ A0 b) (hyr : ∀ j, -2147483648 ≤ ys j ∧ ys j < 2147483648) (hn : n ≤ 3072) (hi : ii + 6 ≤ n) (hCC : CC ≤ 600000) (hSS : SS ≤ 7000000) (hAd : AdOk LL ad Qm) (hMd : MdOk LL ad M) (hLI : LI cs ad Qm M f) (TAIL : ∀ (f' : Nat → va_E) (H : Heap) (locs : List Loc) (ls : Array Slot), LI cs ad Qm M f' → Wb D vwCl (TY cs) LL f' A0 s H locs → lv_has ls 8 [(4, .int (iI (ii : Int))), (3, .ref (M 4)), (2, .ref (M 0)), (1, .ref (ad 0)), (0, .ref b)] → W p l e R s m av below meth c H locs CC SS Q (F0 m 956 ls [])) (B : Wb D vwCl (TY cs) LL f A0 s H locs) (hl : lv_has ls 8 [(4, .int (iI (ii : Int))), (3, .ref (M 4)), (2, .ref (M 0)), (1, .ref (ad 0)), (0, .ref b)]) : W p l e R s m av below meth c H locs CC SS Q (F0 m 149 ls []) := by
  obtain ⟨I, A, Rf, Zf, th, cv, bl, ro, fr, Z, ov, hC, hInv, hLM, hov, hEq⟩ := hLI
  obtain ⟨rw_, fu, fb, lm, mn, sn, w8, w9, w10, w11, md, w15, hMC, hRS, hLA, hcv, hpn0, hpn12⟩ := hLM
  have hG0 := hInv.1
  have hhd := hG0.1
  have hy1 := hyr (ii + 1)
  have hy2 := hyr (ii + 2)
  have hy3 := hyr (ii + 3)
  have hy4 := hyr (ii + 4)
  have hy5 := hyr (ii + 5)
  refine lv_aload_n hx hb d_law_149 rfl (lv_at hl 3 rfl) ?_
  refine lv_aload_n hx hb d_law_150 rfl (lv_at hl 4 rfl) ?_
  refine lv_iload hx hb d_law_151 (lv_at hl 0 rfl) ?_
  refine x_iconst hx hb d_law_153 ?_
  refine x_iadd hx hb d_law_154 ?_
  refine x_sld hx hb hX hbl hbA B.2.2.2.1 (ii + 1) (by omega) (by omega) (by omega) d_law_155 ?_
  refine lv_aload_n hx hb d_law_156 rfl (lv_at hl 4 rfl) ?_
  refine lv_iload hx hb d_law_157 (lv_at hl 0 rfl) ?_
  refine x_iconst hx hb d_law_159 ?_
  refine x_iadd hx hb d_law_160 ?_
  refine x_sld hx hb hX hbl hbA B.2.2.2.1 (ii + 2) (by omega) (by omega) (by omega) d_law_161 ?_
  refine lv_aload_n hx hb d_law_162 rfl (lv_at hl 4 rfl) ?_
  refine lv_iload hx hb d_law_163 (lv_at hl 0 rfl) ?_
  refine x_iconst hx hb d_law_165 ?_
  refine x_iadd hx hb d_law_166 ?_
  refine x_sld hx hb hX hbl hbA B.2.2.2.1 (ii + 3) (by omega) (by omega) (by omega) d_law_167 ?_
  by_cases hk1 : 0 ≤ ys (ii + 1) ∧ ys (ii + 1) < I 0
  · obtain ⟨p0, hp0e⟩ : ∃ p0 : Nat, ys (ii + 1) = (p0 : Int) := ⟨(ys (ii + 1)).toNat, by omega⟩
    have hp0l : (p0 : Int) < I 0 := by omega
    have hp0t : p0 < 12 := by omega
    rw [hp0e]
    refine x_calli B hA (va_runV (As := [.int (iI ((p0 : Int))), .int (iI (ys (ii + 2))), .int (iI (ys (ii + 3)))]) (rest := []) ⟨hx, hb, hml, hown, hts⟩ (c_RR_set_c l D cs _ _ _ ad Qm I A Rf Zf p0 (ys (ii + 2)) (ys (ii + 3)) hAd hC hInv hp0l (by omega) (by omega)) (cwV 3 hts (gw_V w_257 w_258 w_259 w_1 w_260) rfl rfl rfl (by decide +kernel) ⟨by rw [hRf]; exact Nat.le_of_ble_eq_true rfl, by rw [hRl]; exact Nat.le_of_ble_eq_true rfl⟩) ⟨K0.blind, B.recv (hAd.1 0 (by omega)) hC.x rfl, B.pre _⟩ rfl rfl hl.1 rfl (lv_room (Nat.le_of_ble_eq_true rfl)) d_law_168 ⟨by rw [hRc]; omega, by rw [hRs]; omega⟩) (fun r168 g168 H locs hw B => ?_)
    obtain ⟨I1, A1, R1, Zf1, hC1, hq1, hInv1, hI0, hpp⟩ := hw
    have hMC1 := hMC.frame (fun k hk => hq1 _ (hMd.2.2 k hk))
    have hov1 := (hq1 _ (hMd.2.2 4 (by decide))).trans hov
    rcases hpp with ⟨hbd, hsv1, hr1⟩ | ⟨hgd, hr1, hrow, hoth⟩
    · refine lv_aload_n hx hb d_law_171 rfl (lv_at hl 2 rfl) ?_
      refine lv_aload_n hx hb d_law_172 rfl (lv_at hl 4 rfl) ?_
      refine lv_iload hx hb d_law_173 (lv_at hl 0 rfl) ?_
      refine x_iconst hx hb d_law_175 ?_
      refine x_iadd hx hb d_law_176 ?_
      refine x_sld hx hb hX hbl hbA B.2.2.2.1 (ii + 1) (by omega) (by omega) (by omega) d_law_177 ?_
      refine lv_aload_n hx hb d_law_178 rfl (lv_at hl 4 rfl) ?_
      refine lv_iload hx hb d_law_179 (lv_at hl 0 rfl) ?_
      refine x_iconst hx hb d_law_181 ?_
      refine x_iadd hx hb d_law_182 ?_
      refine x_sld hx hb hX hbl hbA B.2.2.2.1 (ii + 2) (by omega) (by omega) (by omega) d_law_183 ?_
      refine lv_aload_n hx hb d_law_184 rfl (lv_at hl 4 rfl) ?_
      refine lv_iload hx hb d_law_185 (lv_at hl 0 rfl) ?_
      refine x_iconst hx hb d_law_187 ?_
      refine x_iadd hx hb d_law_188 ?_
      refine x_sld hx hb hX hbl hbA B.2.2.2.1 (ii + 3) (by omega) (by omega) (by omega) d_law_189 ?_
      rw [hp0e]
      refine x_calli B hA (va_runV (As := [.int (iI ((p0 : Int))), .int (iI (ys (ii + 2))), .int (iI (ys (ii + 3)))]) (rest := [.int r168]) ⟨hx, hb, hml, hown, hts⟩ (c_Mo_set_b l D cs _ _ _ (M 0) (M 1) (M 2) (M 3) (M 5) (M 6) (M 7) (M 8) (M 9) (M 10) (M 11) (M 12) (M 13) (M 14) th (I 0) rw_ fu fb p0 cv bl (ys (ii + 2)) (ys (ii + 3)) (hMd.fc [0, 5, 6] (by decide) (by decide)) hMC1.1 hhd hp0l hMC1.2.2.2.2.1 hMC1.2.2.2.2.2.1 hcv (by omega) (by omega) (by omega)) (cwV 3 hts (gw_V w_741 w_742 w_743 w_8 w_744) rfl rfl rfl (by decide +kernel) ⟨by rw [hRf]; exact Nat.le_of_ble_eq_true rfl, by rw [hRl]; exact Nat.le_of_ble_eq_true rfl⟩) ⟨K0.blind, B.recv (hMd.1 0 (by decide)) hMC1.1 rfl, B.pre _⟩ rfl rfl hl.1 rfl (lv_room (Nat.le_of_ble_eq_true rfl)) d_law_190 ⟨by rw [hRc]; omega, by rw [hRs]; omega⟩) (fun r190 g190 H locs hw B => ?_)
      obtain ⟨hr2, hg2⟩ := hw
      have hMC2 := MC.m1 hMd hMC1 hg2
      have hC2 := hC1.frame hAd (g := g190) (fun k hk => by rw [hg2]; exact hMd.ad [0] (by decide) rfl hk)
      have hov2 : g190 (M 4) = .inl (cs 1, 1, .inr (.inl (al ov))) := by rw [hg2]; exact (hMd.out (b := 4) (by decide) [0] (by decide) rfl).trans hov1
      have he : r168 = r190 := hr1.trans hr2.symm
      rw [← he]
      obtain ⟨vv, hvv, hvr⟩ := i32_ex r168
      rw [hvv]
      refine x_icmp_eq (tgt := 956) hx hb d_law_193 (by decide) (by omega) (by omega) (fun h193 => ?_) (fun h193 => ?_)
      · exact TAIL _ _ _ _ ⟨I1, A1, R1, Zf1, _, cv, bl, ro, fr, Z, ov, hC2, hInv1, by rw [show I1 0 = I 0 from hsv1.1]; exact ⟨_, _, _, lm, mn, sn, w8, w9, w10, w11, md, w15, hMC2, hRS, hLA, hcv, hhd.1, hhd.2⟩, hov2, fun q hq => by rw [show I1 0 = I 0 from hsv1.1] at hq; rw [show A1 (20 + q) = A (20 + q) from hsv1.2 q (by omega)]; exact hEq q hq⟩ B (lv_sub hl [0, 1, 2, 3, 4] rfl)
      · exfalso; omega
    · refine lv_aload_n hx hb d_law_171 rfl (lv_at hl 2 rfl) ?_
      refine lv_aload_n hx hb d_law_172 rfl (lv_at hl 4 rfl) ?_
      refine lv_iload hx hb d_law_173 (lv_at hl 0 rfl) ?_
      refine x_iconst hx hb d_law_175 ?_
      refine x_iadd hx hb d_law_176 ?_
      refine x_sld hx hb hX hbl hbA B.2.2.2.1 (ii + 1) (by omega) (by omega) (by omega) d_law_177 ?_
      refine lv_aload_n hx hb d_law_178 rfl (lv_at hl 4 rfl) ?_
      refine lv_iload hx hb d_law_179 (lv_at hl 0 rfl) ?_
      refine x_iconst hx hb d_law_181 ?_
      refine x_iadd hx hb d_law_182 ?_
      refine x_sld hx hb hX hbl hbA B.2.2.2.1 (ii + 2) (by omega) (by omega) (by omega) d_law_183 ?_
      refine lv_aload_n hx hb d_law_184 rfl (lv_at hl 4 rfl) ?_
      refine lv_iload hx hb d_law_185 (lv_at hl 0 rfl) ?_
      refine x_iconst hx hb d_law_187 ?_
      refine x_iadd hx hb d_law_188 ?_
      refine x_sld hx hb hX hbl hbA B.2.2.2.1 (ii + 3) (by omega) (by omega) (by omega) d_law_189 ?_
      rw [hp0e]
      obtain ⟨kp, hkp⟩ : ∃ kp : Nat, ys (ii + 2) = (kp : Int) := ⟨(ys (ii + 2)).toNat, by omega⟩
      rw [hkp]
      rw [hkp, Int.toNat_natCast] at hr1 hrow
      refine x_calli B hA (va_runV (As := [.int (iI ((p0 : Int))), .int (iI ((kp : Int))), .int (iI (ys (ii + 3)))]) (rest := [.int r168]) ⟨hx, hb, hml, hown, hts⟩ (c_Mo_set_k l D cs _ _ _ (M 0) (M 1) (M 2) (M 3) (M 5) (M 6) (M 7) (M 8) (M 9) (M 10) (M 11) (M 12) (M 13) (M 14) th (I 0) rw_ fu fb p0 cv bl kp (ys (ii + 3)) (hMd.fc [0, 5, 6] (by decide) (by decide)) hMC1.1 hhd hp0l hMC1.2.2.2.2.1 hMC1.2.2.2.2.2.1 hcv (by omega) (by omega)) (cwV 3 hts (gw_V w_741 w_742 w_743 w_8 w_744) rfl rfl rfl (by decide +kernel) ⟨by rw [hRf]; exact Nat.le_of_ble_eq_true rfl, by rw [hRl]; exact Nat.le_of_ble_eq_true rfl⟩) ⟨K0.blind, B.recv (hMd.1 0 (by decide)) hMC1.1 rfl, B.pre _⟩ rfl rfl hl.1 rfl (lv_room (Nat.le_of_ble_eq_true rfl)) d_law_190 ⟨by rw [hRc]; omega, by rw [hRs]; omega⟩) (fun r190 g190 H locs hw B => ?_)
      obtain ⟨hr2, hg2⟩ := hw
      have hMC2 := MC.m3 hMd hMC1 hg2
      have hC2 := hC1.frame hAd (g := g190) (fun k hk => by rw [hg2]; exact hMd.ad [0, 5, 6] (by decide) rfl hk)
      have hov2 : g190 (M 4) = .inl (cs 1, 1, .inr (.inl (al ov))) := by rw [hg2]; exact (hMd.out (b := 4) (by decide) [0, 5, 6] (by decide) rfl).trans hov1
      have he : r168 = r190 := by rw [hr1, hr2]; exact congrArg (fun z => iI (z + 1000)) (hEq p0 hp0l kp (by omega)).symm
      rw [← he]
      obtain ⟨vv, hvv, hvr⟩ := i32_ex r168
      rw [hvv]
      refine x_icmp_eq (tgt := 956) hx hb d_law_193 (by decide) (by omega) (by omega) (fun h193 => ?_) (fun h193 => ?_)
      · exact TAIL _ _ _ _ ⟨I1, A1, R1, Zf1, _, (up cv (6 * p0 + kp) (ys (ii + 3))), (up bl p0 0), ro, fr, Z, ov, hC2, hInv1, by rw [hI0]; exact ⟨_, _, _, lm, mn, sn, w8, w9, w10, w11, md, w15, hMC2, hRS, hLA.grow (fun v hv => up_ne _ _ (by omega)), up_bd hcv (by omega), hhd.1, hhd.2⟩, hov2, eq_set hI0 (by omega) (by omega) hrow hoth hEq⟩ B (lv_sub hl [0, 1, 2, 3, 4] rfl)
      · exfalso; omega
  · refine x_calli B hA (va_runV (As := [.int (iI (ys (ii + 1))), .int (iI (ys (ii + 2))), .int (iI (ys (ii + 3)))]) (rest := []) ⟨hx, hb, hml, hown, hts⟩ (c_RR_set_u l D cs _ _ _ (ad 0) (ad 1) (ad 2) (ad 5) (ad 7) (ad 8) (ad 9) (ad 10) (ad 11) (ad 12) (ad 13) (ad 14) (I 0) (I 1) (I 2) (ys (ii + 1)) (ys (ii + 2)) (ys (ii + 3)) (hAd.f1 (by omega)) hC.x hhd (by omega) (by omega) (by omega) (by omega)) (cwV 3 hts (gw_V w_257 w_258 w_259 w_1 w_260) rfl rfl rfl (by decide +kernel) ⟨by rw [hRf]; exact Nat.le_of_ble_eq_true rfl, by rw [hRl]; exact Nat.le_of_ble_eq_true rfl⟩) ⟨K0.blind, B.recv (hAd.1 0 (by omega)) hC.x rfl, B.pre _⟩ rfl rfl hl.1 rfl (lv_room (Nat.le_of_ble_eq_true rfl)) d_law_168 ⟨by rw [hRc]; omega, by rw [hRs]; omega⟩) (fun r168 g168 H locs hw B => ?_)
    obtain ⟨hr1, hgf⟩ := hw
    rw [hgf] at B
    have hC1 := hC
    have hMC1 := hMC
    have hov1 := hov
    have hInv1 := hInv
    have hsv1 : SameV I A I A := ⟨rfl, fun _ _ => rfl⟩
    refine lv_aload_n hx hb d_law_171 rfl (lv_at hl 2 rfl) ?_
    refine lv_aload_n hx hb d_law_172 rfl (lv_at hl 4 rfl) ?_
    refine lv_iload hx hb d_law_173 (lv_at hl 0 rfl) ?_
    refine x_iconst hx hb d_law_175 ?_
    refine x_iadd hx hb d_law_176 ?_
    refine x_sld hx hb hX hbl hbA B.2.2.2.1 (ii + 1) (by omega) (by omega) (by omega) d_law_177 ?_
    refine lv_aload_n hx hb d_law_178 rfl (lv_at hl 4 rfl) ?_
    refine lv_iload hx hb d_law_179 (lv_at hl 0 rfl) ?_
    refine x_iconst hx hb d_law_181 ?_
    refine x_iadd hx hb d_law_182 ?_
    refine x_sld hx hb hX hbl hbA B.2.2.2.1 (ii + 2) (by omega) (by omega) (by omega) d_law_183 ?_
    refine lv_aload_n hx hb d_law_184 rfl (lv_at hl 4 rfl) ?_
    refine lv_iload hx hb d_law_185 (lv_at hl 0 rfl) ?_
    refine x_iconst hx hb d_law_187 ?_
    refine x_iadd hx hb d_law_188 ?_
    refine x_sld hx hb hX hbl hbA B.2.2.2.1 (ii + 3) (by omega) (by omega) (by omega) d_law_189 ?_
    refine x_calli B hA (va_runV (As := [.int (iI (ys (ii + 1))), .int (iI (ys (ii + 2))), .int (iI (ys (ii + 3)))]) (rest := [.int r168]) ⟨hx, hb, hml, hown, hts⟩ (c_Mo_set_u l D cs _ _ _ (M 0) (M 1) (M 2) (M 3) (M 5) (M 6) (M 7) (M 8) (M 9) (M 10) (M 11) (M 12) (M 13) (M 14) th (I 0) rw_ fu fb (ys (ii + 1)) (ys (ii + 2)) (ys (ii + 3)) (hMd.fc [0] (by decide) (by decide)) hMC1.1 hhd (by omega) (by omega) (by omega) (by omega)) (cwV 3 hts (gw_V w_741 w_742 w_743 w_8 w_744) rfl rfl rfl (by decide +kernel) ⟨by rw [hRf]; exact Nat.le_of_ble_eq_true rfl, by rw [hRl]; exact Nat.le_of_ble_eq_true rfl⟩) ⟨K0.blind, B.recv (hMd.1 0 (by decide)) hMC1.1 rfl, B.pre _⟩ rfl rfl hl.1 rfl (lv_room (Nat.le_of_ble_eq_true rfl)) d_law_190 ⟨by rw [hRc]; omega, by rw [hRs]; omega⟩) (fun r190 g190 H locs hw B => ?_)
    obtain ⟨hr2, hg2⟩ := hw
    have hMC2 := MC.m1 hMd hMC1 hg2
    have hC2 := hC1.frame hAd (g := g190) (fun k hk => by rw [hg2]; exact hMd.ad [0] (by decide) rfl hk)
    have hov2 : g190 (M 4) = .inl (cs 1, 1, .inr (.inl (al ov))) := by rw [hg2]; exact (hMd.out (b := 4) (by decide) [0] (by decide) rfl).trans hov1
    have he : r168 = r190 := hr1.trans hr2.symm
    rw [← he]
    obtain ⟨vv, hvv, hvr⟩ := i32_ex r168
    rw [hvv]
    refine x_icmp_eq (tgt := 956) hx hb d_law_193 (by decide) (by omega) (by omega) (fun h193 => ?_) (fun h193 => ?_)
    · exact TAIL _ _ _ _ ⟨I, A, Rf, Zf, _, cv, bl, ro, fr, Z, ov, hC2, hInv1, by rw [show I 0 = I 0 from hsv1.1]; exact ⟨_, _, _, lm, mn, sn, w8, w9, w10, w11, md, w15, hMC2, hRS, hLA, hcv, hhd.1, hhd.2⟩, hov2, fun q hq => by rw [show I 0 = I 0 from hsv1.1] at hq; rw [show A (20 + q) = A (20 + q) from hsv1.2 q (by omega)]; exact hEq q hq⟩ B (lv_sub hl [0, 1, 2, 3, 4] rfl)
    · exfalso; omega
