set_option maxHeartbeats 8000000 in
set_option maxRecDepth 100000 in
theorem law_loop {p : Program} {l : Launch} {e : Env} {s : State} {m : MethodId} {below : List Frame} {meth : Method} {c : Code} {R : Room} {av : Array Value} {Q : State → Prop} {ad Qm M : Nat → Nat} {ys : Nat → Int} {b n : Nat} {A0 : Nat → Prop} {D : va_G} {cs : Nat → ClassId} {LL : List Nat} (hx : p.tables.exec = Jvm.exec) (hb : c.code = code) (hr : meth.sig.returnType = ret) (hlocks : meth.locks = false) (hml : c.maxLocals = 8) (hown : s.vm.findClass R_law = some m.cls) (hts : ∀ w ∈ gw, w.before av s = true) (hQ : Q = lw_Z below #[Value.ref b] s) (hR : R = room_1) (hav : av = #[Value.ref b]) (hAz : A0 = fun q => s.heap.size ≤ q) (hA : ∀ q, s.heap.size ≤ q → A0 q) (hX : va_X b n (ai ys) s s.heap) (hbl : b < s.heap.size) (hbA : ¬ A0 b) (hyr : ∀ j, -2147483648 ≤ ys j ∧ ys j < 2147483648) (hn : n ≤ 3072) (hAd : AdOk LL ad Qm) (hMd : MdOk LL ad M) (THR : ∀ (ii CC SS : Nat), CC ≤ 600000 → SS ≤ 7000000 → ∀ (f : Nat → va_E) (H : Heap) (locs : List Loc) (ls : Array Slot) (I : Nat → Int) (A : Nat → Nat → Int) (Rf : Nat → Nat) (Zf : Nat → Int) (p0 : Nat) (a2 a3 a4 : Int) (ov : Nat → Int), CSt cs ad Qm f I A Rf Zf → Inv I A → (p0 : Int) < I 0 → (-2147483648 ≤ a2 ∧ a2 < 2147483648) → (-2147483648 ≤ a3 ∧ a3 < 2147483648) → (-2147483648 ≤ a4 ∧ a4 < 2147483648) → (((-1000000 ≤ a2 ∧ a2 ≤ 1000000) ∧ 1 ≤ a3 ∧ a3 ≤ 1000000) ∧ 0 ≤ a4 ∧ a4 ≤ 1) → sg (es (dva (A (20 + p0))) 6 ((a2 : Rat) / (a3 : Rat))) = 0 → f (M 4) = .inl (cs 1, 1, .inr (.inl (al ov))) → Wb D vwCl (TY cs) LL f A0 s H locs → lv_has ls 8 [(4, .int (iI (ii : Int))), (3, .ref (M 4)), (2, .ref (M 0)), (1, .ref (ad 0)), (0, .ref b)] → (∀ (g : Nat → va_E) (H : Heap) (locs : List Loc) (I' : Nat → Int) (A' : Nat → Nat → Int) (R' : Nat → Nat) (Z' : Nat → Int), CSt cs ad Qm g I' A' R' Z' → (∀ k, Awy ad k → g k = f k) → Inv I' A' → SameV I A I' A' → Wb D vwCl (TY cs) LL g A0 s H locs → W p l e R s m av below meth c H locs (CC + 1) (SS + 6) Q (F0 m 843 ls [.int (iI 1)])) → W p l e R s m av below meth c H locs CC SS Q (F0 m 840 ls [.ref (M 4), .int (iI a4), .int (iI a3), .int (iI a2), .int (iI (p0 : Int)), .ref (ad 0)])) : ∀ (fuel ii CC SS : Nat) (f : Nat → va_E) (H : Heap) (locs : List Loc) (ls : Array Slot), n - ii < fuel → ii ≤ n → CC + (n - ii) ≤ 590000 → SS + 6 * (n - ii) ≤ 6900000 → LI cs ad Qm M f → Wb D vwCl (TY cs) LL f A0 s H locs → lv_has ls 8 [(4, .int (iI (ii : Int))), (3, .ref (M 4)), (2, .ref (M 0)), (1, .ref (ad 0)), (0, .ref b)] → W p l e R s m av below meth c H locs CC SS Q (F0 m 23 ls []) := by
  have hRf : R.frames = 14 := by rw [hR]; rfl
  have hRl : R.locals = 594 := by rw [hR]; rfl
  have hRc : R.cells = 601024 := by rw [hR]; rfl
  have hRs : R.slots = 7293034 := by rw [hR]; rfl
  intro fuel
  induction fuel with
  | zero => intro ii CC SS f H locs ls hfu; exact absurd hfu (Nat.not_lt_zero _)
  | succ fuel ih =>
    intro ii CC SS f H locs ls hfu hin hCC hSS hLI B hl
    have hy0 := hyr ii
    refine lv_iload hx hb d_law_23 (lv_at hl 0 rfl) ?_
    refine lv_aload_n hx hb d_law_25 rfl (lv_at hl 4 rfl) ?_
    refine x_slen hx hb hX hbl hbA B.2.2.2.1 d_law_26 ?_
    refine x_bipush hx hb d_law_27 (by decide) ?_
    refine x_isub hx hb d_law_29 ?_
    refine x_icmp_gt (tgt := 962) hx hb d_law_30 (by decide) (by omega) (by omega) (fun h30 => ?_) (fun h30 => ?_)
    · refine x_iconst hx hb d_law_962 ?_
      rw [show iI 1 = (1 : Int32) by decide]
      subst hQ hR hav
      refine va_forget (fun q hq => by have h := B.2.2.2.1.2.2 q hq; rw [hAz] at h; exact h) ?_
      refine W.widen (k := 601024) (n := 7293034) (by omega) (by omega) ?_
      exact lw_ret hx hb hr hlocks d_law_963
    · have TAIL : ∀ (f' : Nat → va_E) (H : Heap) (locs : List Loc) (ls : Array Slot), LI cs ad Qm M f' → Wb D vwCl (TY cs) LL f' A0 s H locs → lv_has ls 8 [(4, .int (iI (ii : Int))), (3, .ref (M 4)), (2, .ref (M 0)), (1, .ref (ad 0)), (0, .ref b)] → W p l e R s m av below meth c H locs (CC + 1) (SS + 6) Q (F0 m 956 ls []) := by
        intro f' H locs ls hLI B hl
        refine x_iinc (lv' := [(4, .int (iI ((ii : Int) + 6))), (3, .ref (M 4)), (2, .ref (M 0)), (1, .ref (ad 0)), (0, .ref b)]) hx hb d_law_956 hl (q := 0) rfl rfl (by decide) rfl (fun ls hl => ?_)
        refine lv_goto (tgt := 23) hx hb d_law_959 (by decide) ?_
        rw [show (ii : Int) + 6 = ((ii + 6 : Nat) : Int) by omega] at hl
        exact ih (ii + 6) (CC + 1) (SS + 6) f' H locs ls (by omega) (by omega) (by omega) (by omega) hLI B hl
      refine lv_aload_n hx hb d_law_33 rfl (lv_at hl 4 rfl) ?_
      refine lv_iload hx hb d_law_34 (lv_at hl 0 rfl) ?_
      refine x_sld hx hb hX hbl hbA B.2.2.2.1 ii (by omega) (by omega) (by omega) d_law_36 ?_
      refine x_bipush hx hb d_law_37 (by decide) ?_
      refine x_and31 hx hb d_law_39 ?_
      obtain ⟨z, hz⟩ : ∃ z, z = ys ii % 32 := ⟨_, rfl⟩
      rw [← hz]
      rcases (show z = 0 ∨ z = 1 ∨ z = 2 ∨ z = 3 ∨ z = 4 ∨ z = 5 ∨ z = 6 ∨ z = 7 ∨ z = 8 ∨ z = 9 ∨ z = 10 ∨ z = 11 ∨ z = 12 ∨ z = 13 ∨ z = 14 ∨ z = 15 ∨ z = 16 ∨ z = 17 ∨ z = 18 ∨ z = 19 ∨ 20 ≤ z by omega) with hk | hk | hk | hk | hk | hk | hk | hk | hk | hk | hk | hk | hk | hk | hk | hk | hk | hk | hk | hk | hk
      · rw [hk]
        refine lv_tableIn (tgt := 136) hx hb d_law_40 (by decide +kernel) (by decide +kernel) (off := 96) (by decide +kernel) (by decide) ?_
        refine W.widen (k := CC + 1) (n := SS + 6) (by omega) (by omega) ?_
        exact law_case_0 hx hb hml hown hts hRf hRl hRc hRs hA hX hbl hbA hyr hn (by omega) (by omega) (by omega) hAd hMd hLI TAIL B hl
      · rw [hk]
        refine lv_tableIn (tgt := 149) hx hb d_law_40 (by decide +kernel) (by decide +kernel) (off := 109) (by decide +kernel) (by decide) ?_
        refine W.widen (k := CC + 1) (n := SS + 6) (by omega) (by omega) ?_
        exact law_case_1 hx hb hml hown hts hRf hRl hRc hRs hA hX hbl hbA hyr hn (by omega) (by omega) (by omega) hAd hMd hLI TAIL B hl
      · rw [hk]
        refine lv_tableIn (tgt := 198) hx hb d_law_40 (by decide +kernel) (by decide +kernel) (off := 158) (by decide +kernel) (by decide) ?_
        refine W.widen (k := CC + 1) (n := SS + 6) (by omega) (by omega) ?_
        exact law_case_2 hx hb hml hown hts hRf hRl hRc hRs hA hX hbl hbA hyr hn (by omega) (by omega) (by omega) hAd hMd hLI TAIL B hl
      · rw [hk]
        refine lv_tableIn (tgt := 235) hx hb d_law_40 (by decide +kernel) (by decide +kernel) (off := 195) (by decide +kernel) (by decide) ?_
        refine W.widen (k := CC + 1) (n := SS + 6) (by omega) (by omega) ?_
        exact law_case_3 hx hb hml hown hts hRf hRl hRc hRs hA hX hbl hbA hyr hn (by omega) (by omega) (by omega) hAd hMd hLI TAIL B hl
      · rw [hk]
        refine lv_tableIn (tgt := 284) hx hb d_law_40 (by decide +kernel) (by decide +kernel) (off := 244) (by decide +kernel) (by decide) ?_
        refine W.widen (k := CC + 1) (n := SS + 6) (by omega) (by omega) ?_
        exact law_case_4 hx hb hml hown hts hRf hRl hRc hRs hA hX hbl hbA hyr hn (by omega) (by omega) (by omega) hAd hMd hLI TAIL B hl
      · rw [hk]
        refine lv_tableIn (tgt := 309) hx hb d_law_40 (by decide +kernel) (by decide +kernel) (off := 269) (by decide +kernel) (by decide) ?_
        refine W.widen (k := CC + 1) (n := SS + 6) (by omega) (by omega) ?_
        exact law_case_5 hx hb hml hown hts hRf hRl hRc hRs hA hX hbl hbA hyr hn (by omega) (by omega) (by omega) hAd hMd hLI TAIL B hl
      · rw [hk]
        refine lv_tableIn (tgt := 334) hx hb d_law_40 (by decide +kernel) (by decide +kernel) (off := 294) (by decide +kernel) (by decide) ?_
        refine W.widen (k := CC + 1) (n := SS + 6) (by omega) (by omega) ?_
        exact law_case_6 hx hb hml hown hts hRf hRl hRc hRs hA hX hbl hbA hyr hn (by omega) (by omega) (by omega) hAd hMd hLI TAIL B hl
      · rw [hk]
        refine lv_tableIn (tgt := 371) hx hb d_law_40 (by decide +kernel) (by decide +kernel) (off := 331) (by decide +kernel) (by decide) ?_
        refine W.widen (k := CC + 1) (n := SS + 6) (by omega) (by omega) ?_
        exact law_case_7 hx hb hml hown hts hRf hRl hRc hRs hA hX hbl hbA hyr hn (by omega) (by omega) (by omega) hAd hMd hLI TAIL B hl
      · rw [hk]
        refine lv_tableIn (tgt := 421) hx hb d_law_40 (by decide +kernel) (by decide +kernel) (off := 381) (by decide +kernel) (by decide) ?_
        refine W.widen (k := CC + 1) (n := SS + 6) (by omega) (by omega) ?_
        exact law_case_8 hx hb hml hown hts hRf hRl hRc hRs hA hX hbl hbA hyr hn (by omega) (by omega) (by omega) hAd hMd hLI TAIL B hl
      · rw [hk]
        refine lv_tableIn (tgt := 471) hx hb d_law_40 (by decide +kernel) (by decide +kernel) (off := 431) (by decide +kernel) (by decide) ?_
        refine W.widen (k := CC + 1) (n := SS + 6) (by omega) (by omega) ?_
        exact law_case_9 hx hb hml hown hts hRf hRl hRc hRs hA hX hbl hbA hyr hn (by omega) (by omega) (by omega) hAd hMd hLI TAIL B hl
      · rw [hk]
        refine lv_tableIn (tgt := 520) hx hb d_law_40 (by decide +kernel) (by decide +kernel) (off := 480) (by decide +kernel) (by decide) ?_
        refine W.widen (k := CC + 1) (n := SS + 6) (by omega) (by omega) ?_
        exact law_case_10 hx hb hml hown hts hRf hRl hRc hRs hA hX hbl hbA hyr hn (by omega) (by omega) (by omega) hAd hMd hLI TAIL B hl
      · rw [hk]
        refine lv_tableIn (tgt := 581) hx hb d_law_40 (by decide +kernel) (by decide +kernel) (off := 541) (by decide +kernel) (by decide) ?_
        refine W.widen (k := CC + 1) (n := SS + 6) (by omega) (by omega) ?_
        exact law_case_11 hx hb hml hown hts hRf hRl hRc hRs hA hX hbl hbA hyr hn (by omega) (by omega) (by omega) hAd hMd hLI TAIL B hl
      · rw [hk]
        refine lv_tableIn (tgt := 618) hx hb d_law_40 (by decide +kernel) (by decide +kernel) (off := 578) (by decide +kernel) (by decide) ?_
        refine W.widen (k := CC + 1) (n := SS + 6) (by omega) (by omega) ?_
        exact law_case_12 hx hb hml hown hts hRf hRl hRc hRs hA hX hbl hbA hyr hn (by omega) (by omega) (by omega) hAd hMd hLI TAIL B hl
      · rw [hk]
        refine lv_tableIn (tgt := 691) hx hb d_law_40 (by decide +kernel) (by decide +kernel) (off := 651) (by decide +kernel) (by decide) ?_
        refine W.widen (k := CC + 1) (n := SS + 6) (by omega) (by omega) ?_
        exact law_case_13 hx hb hml hown hts hRf hRl hRc hRs hA hX hbl hbA hyr hn (by omega) (by omega) (by omega) hAd hMd hLI TAIL B hl
      · rw [hk]
        refine lv_tableIn (tgt := 740) hx hb d_law_40 (by decide +kernel) (by decide +kernel) (off := 700) (by decide +kernel) (by decide) ?_
        refine W.widen (k := CC + 1) (n := SS + 6) (by omega) (by omega) ?_
        exact law_case_14 hx hb hml hown hts hRf hRl hRc hRs hA hX hbl hbA hyr hn (by omega) (by omega) (by omega) hAd hMd hLI TAIL B hl
      · rw [hk]
        refine lv_tableIn (tgt := 765) hx hb d_law_40 (by decide +kernel) (by decide +kernel) (off := 725) (by decide +kernel) (by decide) ?_
        refine W.widen (k := CC + 1) (n := SS + 6) (by omega) (by omega) ?_
        exact law_case_15 hx hb hml hown hts hRf hRl hRc hRs hA hX hbl hbA hyr hn (by omega) (by omega) (by omega) hAd hMd hLI TAIL B hl
      · rw [hk]
        refine lv_tableIn (tgt := 814) hx hb d_law_40 (by decide +kernel) (by decide +kernel) (off := 774) (by decide +kernel) (by decide) ?_
        exact law_case_16 hx hb hml hown hts hRf hRl hRc hRs hA hX hbl hbA hyr hn (by omega) (by omega) (by omega) hAd hMd hLI TAIL (THR ii CC SS (by omega) (by omega)) B hl
      · rw [hk]
        refine lv_tableIn (tgt := 905) hx hb d_law_40 (by decide +kernel) (by decide +kernel) (off := 865) (by decide +kernel) (by decide) ?_
        refine W.widen (k := CC + 1) (n := SS + 6) (by omega) (by omega) ?_
        exact law_case_17 hx hb hml hown hts hRf hRl hRc hRs hA hX hbl hbA hyr hn (by omega) (by omega) (by omega) hAd hMd hLI TAIL B hl
      · rw [hk]
        refine lv_tableIn (tgt := 930) hx hb d_law_40 (by decide +kernel) (by decide +kernel) (off := 890) (by decide +kernel) (by decide) ?_
        refine W.widen (k := CC + 1) (n := SS + 6) (by omega) (by omega) ?_
        exact law_case_18 hx hb hml hown hts hRf hRl hRc hRs hA hX hbl hbA hyr hn (by omega) (by omega) (by omega) hAd hMd hLI TAIL B hl
      · rw [hk]
        refine lv_tableIn (tgt := 943) hx hb d_law_40 (by decide +kernel) (by decide +kernel) (off := 903) (by decide +kernel) (by decide) ?_
        refine W.widen (k := CC + 1) (n := SS + 6) (by omega) (by omega) ?_
        exact law_case_19 hx hb hml hown hts hRf hRl hRc hRs hA hX hbl hbA hyr hn (by omega) (by omega) (by omega) hAd hMd hLI TAIL B hl
      · refine W.widen (k := CC + 1) (n := SS + 6) (by omega) (by omega) ?_
        refine lv_tableOut (tgt := 956) hx hb d_law_40 (Or.inr (by rw [iI_toInt (by omega)]; omega)) (by decide) ?_
        exact TAIL _ _ _ _ hLI B hl
