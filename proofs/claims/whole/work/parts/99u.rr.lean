theorem d_RR_signRow_0 : decode prog_1_method_39_code 0 = .ok (.aload_n 1, 1) := by decide +kernel
theorem d_RR_signRow_1 : decode prog_1_method_39_code 1 = .ok (.aload_n 0, 1) := by decide +kernel
theorem d_RR_signRow_2 : decode prog_1_method_39_code 2 = .ok (.getfield 44, 3) := by decide +kernel
theorem d_RR_signRow_5 : decode prog_1_method_39_code 5 = .ok (.invokestatic 108, 3) := by decide +kernel
theorem d_RR_signRow_8 : decode prog_1_method_39_code 8 = .ok (.aload_n 0, 1) := by decide +kernel
theorem d_RR_signRow_9 : decode prog_1_method_39_code 9 = .ok (.getfield 22, 3) := by decide +kernel
theorem d_RR_signRow_12 : decode prog_1_method_39_code 12 = .ok (.aload_n 1, 1) := by decide +kernel
theorem d_RR_signRow_13 : decode prog_1_method_39_code 13 = .ok (.aload_n 0, 1) := by decide +kernel
theorem d_RR_signRow_14 : decode prog_1_method_39_code 14 = .ok (.getfield 44, 3) := by decide +kernel
theorem d_RR_signRow_17 : decode prog_1_method_39_code 17 = .ok (.invokevirtual 266, 3) := by decide +kernel
theorem d_RR_signRow_20 : decode prog_1_method_39_code 20 = .ok (.return_, 1) := by decide +kernel
set_option maxHeartbeats 8000000 in
set_option maxRecDepth 100000 in
theorem c_RR_signRow (l : Launch) (D : va_G) (cs : Nat → ClassId) (L : List Nat) (f : Nat → va_E) (sz : Nat) (ad Qm : Nat → Nat) (If : Nat → Int) (Af : Nat → Nat → Int) (Rf : Nat → Nat) (Zf : Nat → Int) (ka qa : Nat) (hAd : AdOk L ad Qm) (hC : CSt cs ad Qm f If Af Rf Zf) (hka : Ar ka qa) (hk9 : ka ≠ 9) (haw : ∀ j, j < 6 → -49000 ≤ Af qa j ∧ Af qa j ≤ 49000) (hAN : Nz (Af qa)) : Met l (⟨"RealRoots", "signRow", "([I)V"⟩ : MethodName) (.code (⟨"RealRoots", "signRow", "([I)V"⟩ : MethodName) prog_1_method_39_code 2 (Option.none : Option Jvm.ClassFile.FieldType) :: gw) ({ frames := 4, cells := 0, slots := 0, locals := 200 }) (va_Pc [.ref ((ad 0)), .ref ((ad ka))] (K0 D vwCl (TY cs) L f sz)) (va_Qv (fun (g : Nat → va_E) => ∃ (I' : Nat → Int) (A' : Nat → Nat → Int) (R' : Nat → Nat) (Z' : Nat → Int), CSt cs ad Qm g I' A' R' Z' ∧ (∀ k, Awy ad k → g k = f k) ∧ (∃ n : Nat, I' 3 = (n : Int) ∧ Sseq (Af qa) (ChRow R' Z') n ∧ TopsC (A' 7) (ChRow R' Z') n ∧ BtC (ChRow R' Z') n) ∧ (∀ i, i ≠ 3 → I' i = If i) ∧ ∀ q, q ≠ 1 → q ≠ 7 → A' q = Af q) (K1 D vwCl (TY cs) (AL L sz) L) (AL L sz)) 0 0 (AL L sz) := by
  refine Met.ofW (cc := prog_1_method_39_code) (maxL := 2) (ret := (Option.none : Option Jvm.ClassFile.FieldType)) (by decide) rfl ?_
  intro p e s m args below meth c s₁ Bd hml hv
  obtain ⟨rfl, hk0⟩ := hv
  obtain ⟨hsz, B⟩ := hk0.start
  subst hsz
  have hx := Bd.exec
  have hb := Bd.bytes
  have hr := Bd.returns
  have hlocks := Bd.notSynchronized
  have hts0 := atoms_spec Bd.pre
  have hown : s.vm.findClass RX6 = some m.cls := findClass_of_methodNamed Bd.named
  have hA : ∀ q, s.heap.size ≤ q → AL L s.heap.size q := fun _ h => Or.inr h
  have hl := lv_entry ([.ref ((ad 0)), .ref ((ad ka))]) (n := 2) (Nat.le_of_ble_eq_true rfl)
  rw [lg_entry_eq]
  generalize (lg_sl ([.ref ((ad 0)), .ref ((ad ka))]) ++ List.replicate (2 - (lg_sl ([.ref ((ad 0)), .ref ((ad ka))])).length) Slot.unset).toArray = ls at hl ⊢
  refine absQ (fun Q R av hQ hR hav => ?_)
  have hts : ∀ w ∈ gw, w.before av s = true := by rw [hav]; exact fun w h => hts0 w (List.mem_cons_of_mem _ h)
  have hRf : R.frames = 4 := by rw [hR]; rfl
  have hRl : R.locals = 200 := by rw [hR]; rfl
  have hRc : R.cells = 0 := by rw [hR]; rfl
  have hRs : R.slots = 0 := by rw [hR]; rfl
  clear hR hts0 Bd
  have hl : lv_has ls 2 [(0, .ref ((ad 0))), (1, .ref ((ad ka)))] := hl
  have hfr : ∀ k, Awy ad k → f k = f k := fun _ _ => rfl
  refine lv_aload_n hx hb d_RR_signRow_0 rfl (lv_at hl 1 rfl) ?_
  refine lv_aload_n hx hb d_RR_signRow_1 rfl (lv_at hl 0 rfl) ?_
  refine x_get (C := RX6) (T := TX6) (N := 14) hx hb hts inX6 hown (B.foc1 (hC.x)) (hAd.f1 (by omega)) 0 rfl rfl 6 (by decide) (hts _ w_203) (fun _ h9 => h9) rfl d_RR_signRow_2 ?_
  refine x_callv B hA (va_runS (As := [.ref ((ad ka)), .ref ((ad 9))]) (rest := []) ⟨hx, hb, hml, hown, hts⟩ (c_RR_derive l D cs _ _ _ (ad 9) (ad ka) (Af 1) (Af qa) (hAd.fc [9, ka] (by simp; omega) (by have := (hka).lt; intro q hq; simp only [List.mem_cons, List.not_mem_nil, or_false] at hq; omega)) (hC.ar Ar.sl) (hC.ar hka)) (va_cwS 2 hts (gw_S w_347 w_348 w_1 w_349) rfl rfl rfl (by decide +kernel) ⟨by rw [hRf]; exact Nat.le_of_ble_eq_true rfl, by rw [hRl]; exact Nat.le_of_ble_eq_true rfl⟩) ⟨K0.blind, B.pre _⟩ rfl rfl hl.1 rfl (lv_room (Nat.le_of_ble_eq_true rfl)) d_RR_signRow_5 ⟨by rw [hRc]; omega, by rw [hRs]; omega⟩) (fun g5 H locs hw B => ?_)
  obtain ⟨xd, hxd1, hxd2, rfl⟩ := hw
  have B : Wb D vwCl (TY cs) L (mw f [((ad 9), .inl (cs 0, 6, .inl (ai xd)))]) (AL L s.heap.size) s H _ := B
  obtain ⟨f_5, hf_5⟩ : ∃ f_5, f_5 = mw f [((ad 9), .inl (cs 0, 6, .inl (ai xd)))] := ⟨_, rfl⟩
  rw [← hf_5] at B
  obtain ⟨A_5, hA_5⟩ : ∃ A_5, A_5 = upA Af 1 xd := ⟨_, rfl⟩
  have hC_5 : CSt cs ad Qm f_5 If A_5 Rf Zf := by rw [hf_5, hA_5]; exact CSt.wAr hAd hC Ar.sl _
  have hfr_5 : ∀ k, Awy ad k → f_5 k = f k := fun k hk => Eq.trans (by rw [hf_5]; exact hk.mw1 (by omega)) (hfr k hk)
  have hA5a : A_5 qa = Af qa := by rw [hA_5, upA_ne _ _ (by unfold Ar at hka; omega)]
  have hxdd : ∀ j, j < 6 → xd j = dva (Af qa) j := fun j hj => by unfold dva; rcases (show j < 5 ∨ j = 5 by omega) with h | h; rw [if_pos h, hxd1 j h, Int.mul_comm]; rw [h, if_neg (by decide), hxd2]
  have hxdb : ∀ j, j < 6 → -262144 < xd j ∧ xd j < 262144 := fun j hj => by rw [hxdd j hj]; have := dva_bd (M := 49000) (by decide) haw j hj; omega
  refine lv_aload_n hx hb d_RR_signRow_8 rfl (lv_at hl 0 rfl) ?_
  refine x_get (C := RX6) (T := TX6) (N := 14) hx hb hts inX6 hown (B.foc1 (hC_5.x)) (hAd.f1 (by omega)) 0 rfl rfl 2 (by decide) (hts _ w_199) (fun _ h9 => h9) rfl d_RR_signRow_9 ?_
  refine lv_aload_n hx hb d_RR_signRow_12 rfl (lv_at hl 1 rfl) ?_
  refine lv_aload_n hx hb d_RR_signRow_13 rfl (lv_at hl 0 rfl) ?_
  refine x_get (C := RX6) (T := TX6) (N := 14) hx hb hts inX6 hown (B.foc1 (hC_5.x)) (hAd.f1 (by omega)) 0 rfl rfl 6 (by decide) (hts _ w_203) (fun _ h9 => h9) rfl d_RR_signRow_14 ?_
  obtain ⟨Gb, hG1b, hG2b⟩ := hC_5.2.1
  refine x_callv B hA (va_runV (As := [.ref ((ad ka)), .ref ((ad 9))]) (rest := []) ⟨hx, hb, hml, hown, hts⟩ (c_Chain_begin l D cs _ _ _ (ad 2) (ad 3) (ad 4) (Rf 42) (ad 226) (ad ka) (ad 9) (If 3) (If 4) (If 5) (A_5 7) (A_5 qa) (A_5 1) Gb Rf (Ckk ad) (Bg ad) Qm Zf (hAd.fc [2, 3, 4, ka, 9] (by have := (hka).lt; have := (Ar.sl).lt; simp only [List.nodup_cons, List.mem_cons, List.not_mem_nil, or_false, not_or, List.nodup_nil, and_true, not_false_eq_true]; omega) (by have := (hka).lt; have := (Ar.sl).lt; intro q hq; simp only [List.mem_cons, List.not_mem_nil, or_false] at hq; omega)) hC_5.ch hG2b hC_5.tq (hC_5.ar hka) (hC_5.ar Ar.sl) hG1b hC_5.2.2.2.1 (fun b hb => Ckk.bg hb) hAd.sp hC_5.2.2.1 (hAd.outs [2, 3, 4, ka, 9] (by have := (hka).lt; have := (Ar.sl).lt; intro q hq; simp only [List.mem_cons, List.not_mem_nil, or_false] at hq; omega)) (fun j hj => by rw [hA5a]; have := haw j hj; omega) (fun j hj => by rw [hA_5, upA_self]; exact hxdb j hj) (fun k1 k2 h1 h2 h3 h4 => by
      rcases Nat.eq_zero_or_pos k2 with h | h
      · omega
      · have h5 := h4 h
        rw [hA_5, upA_self] at h5
        rw [hA5a] at h3
        refine Classical.byContradiction (fun hn => h5 ?_)
        rcases (show k2 - 1 < 5 ∨ k2 - 1 = 5 by omega) with h6 | h6
        · rw [hxd1 _ h6, h3 _ (by omega) (by omega), Int.zero_mul]
        · rw [h6]; exact hxd2) (by rw [hA5a]; exact hAN)) (cwV 2 hts (gw_V w_288 w_289 w_290 w_2 w_291) rfl rfl rfl (by decide +kernel) ⟨by rw [hRf]; exact Nat.le_of_ble_eq_true rfl, by rw [hRl]; exact Nat.le_of_ble_eq_true rfl⟩) ⟨K0.blind, B.recv (hAd.1 _ (by omega)) (hC_5.ch) rfl, B.pre _⟩ rfl rfl hl.1 rfl (lv_room (Nat.le_of_ble_eq_true rfl)) d_RR_signRow_17 ⟨by rw [hRc]; omega, by rw [hRs]; omega⟩) (fun g17 H locs hw B => ?_)
  obtain ⟨nb, kab, kbb, tmb, ggb, clb, Zb, tb, hn1b, hn2b, hkab, hkbb, hCIb, hGGb, hZZb, hSqb, hTpb, hBtb, hBBb, hqb, hchb, httb, htqb, hvab, hvbb⟩ := hw
  obtain ⟨Ib, hIb⟩ : ∃ Ib, Ib = up If 3 (nb : Int) := ⟨_, rfl⟩
  obtain ⟨Ab, hAb⟩ : ∃ Ab, Ab = upA A_5 7 tb := ⟨_, rfl⟩
  obtain ⟨Rb, hRb⟩ : ∃ Rb, Rb = upC Rf tmb clb := ⟨_, rfl⟩
  have hCb : CSt cs ad Qm g17 Ib Ab Rb Zb := by rw [hIb, hAb, hRb]; exact CSt.begin hAd hC_5 [ka, 9] hCIb hGGb hBBb hqb (fun k hk => by simp only [List.mem_cons, List.not_mem_nil, or_false] at hk; rcases hk with hk | hk <;> rw [hk]; exact ⟨by have := (hka).lt; have := (Ar.sl).lt; omega, hvab.trans (hC_5.ar hka).symm⟩; exact ⟨by have := (hka).lt; have := (Ar.sl).lt; omega, hvbb.trans (hC_5.ar Ar.sl).symm⟩) hchb httb htqb
  have hfrb : ∀ k, Awy ad k → g17 k = f k := fun k hk => (hqb k (hk.out hAd) (hk.nin [2, 3, 4, ka, 9] (by have := (hka).lt; have := (Ar.sl).lt; intro q hq; simp only [List.mem_cons, List.not_mem_nil, or_false] at hq; omega))).trans (hfr_5 k hk)
  have hkb6b := hkbb.1
  have hRwb : ∀ k, k < nb → ∀ j, j < 6 → ChRow Rb Zb k j = Zb (tmb (6 * k + j)) := fun k hk j hj => by rw [hRb]; show Zb (upC Rf tmb clb (6 * k + j)) = _; unfold upC; rw [if_pos (by omega)]
  have hSqb := hSqb.congr hRwb
  have hTpb := hTpb.congr (t' := Ab 7) hRwb (fun k _ => by rw [hAb, upA_self])
  have hBtb := hBtb.congr hRwb
  have hI3b : Ib 3 = (nb : Int) := by rw [hIb, up_self]
  have B : Wb D vwCl (TY cs) L g17 (AL L s.heap.size) s H _ := B
  subst hQ hav
  exact x_vret hx hb hr hlocks B d_RR_signRow_20 (⟨Ib, Ab, Rb, Zb, hCb, hfrb, ⟨nb, hI3b, SeqC.sseq (by have := hSqb; rw [hA5a, hA_5, upA_self] at this; exact this) ⟨hn1b, by have h1 := hkbb; rw [hA_5, upA_self] at h1; have h2 := h1.2.2; rcases (show kbb = 6 ∨ kbb ≤ 5 by omega) with h | h; rw [h] at h2; exact absurd hxd2 (h2 (by decide)); omega⟩ hAN hxdd, hTpb, hBtb⟩, fun i hi => by rw [hIb, up_ne _ _ hi], fun q h1 h2 => by rw [hAb, upA_ne _ _ h2, hA_5, upA_ne _ _ h1]⟩)
