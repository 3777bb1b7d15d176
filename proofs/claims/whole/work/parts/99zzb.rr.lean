set_option maxHeartbeats 8000000 in
set_option maxRecDepth 100000 in
theorem c_RR_ofTwo_4 (l : Launch) (D : va_G) (cs : Nat → ClassId) (L : List Nat) (f : Nat → va_E) (sz : Nat) (ad Qm : Nat → Nat) (If : Nat → Int) (Af : Nat → Nat → Int) (Rf : Nat → Nat) (Zf : Nat → Int) (pa pb : Nat) (hAd : AdOk L ad Qm) (hC : CSt cs ad Qm f If Af Rf Zf) (hpa : pa < 12) (hpb : pb < 12) (hpp : pa ≠ pb) (hhd : 0 ≤ If 0 ∧ If 0 ≤ 12) (hVa : ∀ j, j < 6 → -1000 ≤ Af (20 + pa) j ∧ Af (20 + pa) j ≤ 1000) (hVb : ∀ j, j < 6 → -1000 ≤ Af (20 + pb) j ∧ Af (20 + pb) j ≤ 1000) : Met l (⟨"RealRoots", "ofTwo", "(I[I[I)V"⟩ : MethodName) (.code (⟨"RealRoots", "ofTwo", "(I[I[I)V"⟩ : MethodName) prog_1_method_28_code 6 (Option.none : Option Jvm.ClassFile.FieldType) :: gw) ({ frames := 5, cells := 0, slots := 0, locals := 250 }) (va_Pc [.ref ((ad 0)), .int (iI 4), .ref ((ad (27 + pa))), .ref ((ad (27 + pb)))] (K0 D vwCl (TY cs) L f sz)) (va_Qv (fun (g : Nat → va_E) => ∃ (I' : Nat → Int) (A' : Nat → Nat → Int) (R' : Nat → Nat) (Z' : Nat → Int), CSt cs ad Qm g I' A' R' Z' ∧ (∀ k, Awy ad k → g k = f k) ∧ (∀ i, i ≠ 3 → I' i = If i) ∧ (∀ q, q ≠ 0 → q ≠ 2 → q ≠ 7 → A' q = Af q) ∧ ∃ G : Nat → Int, Gcd (Af (20 + pa)) (Af (20 + pb)) G ∧ ∀ j : Nat, j < 12 → A' 0 j = if j < 6 then G j else 0) (K1 D vwCl (TY cs) (AL L sz) L) (AL L sz)) 0 0 (AL L sz) := by
  refine Met.ofW (cc := prog_1_method_28_code) (maxL := 6) (ret := (Option.none : Option Jvm.ClassFile.FieldType)) (by decide) rfl ?_
  intro p e s m args below meth c s₁ Bd hml hv
  obtain ⟨rfl, hk0⟩ := hv
  obtain ⟨hsz, B⟩ := hk0.start
  subst hsz
  have hx := Bd.exec
  have hb := Bd.bytes
  have hr := Bd.returns
  have hlocks := Bd.notSynchronized
  have hts0 := atoms_spec Bd.pre
  have hown : s.vm.findClass RX6 = some m.cls := findClass_of_methodNamed Bd.named
  have hA : ∀ q, s.heap.size ≤ q → AL L s.heap.size q := fun _ h => Or.inr h
  have hl := lv_entry ([.ref ((ad 0)), .int (iI 4), .ref ((ad (27 + pa))), .ref ((ad (27 + pb)))]) (n := 6) (Nat.le_of_ble_eq_true rfl)
  rw [lg_entry_eq]
  generalize (lg_sl ([.ref ((ad 0)), .int (iI 4), .ref ((ad (27 + pa))), .ref ((ad (27 + pb)))]) ++ List.replicate (6 - (lg_sl ([.ref ((ad 0)), .int (iI 4), .ref ((ad (27 + pa))), .ref ((ad (27 + pb)))])).length) Slot.unset).toArray = ls at hl ⊢
  refine absQ (fun Q R av hQ hR hav => ?_)
  have hts : ∀ w ∈ gw, w.before av s = true := by rw [hav]; exact fun w h => hts0 w (List.mem_cons_of_mem _ h)
  have hRf : R.frames = 5 := by rw [hR]; rfl
  have hRl : R.locals = 250 := by rw [hR]; rfl
  have hRc : R.cells = 0 := by rw [hR]; rfl
  have hRs : R.slots = 0 := by rw [hR]; rfl
  clear hR hts0 Bd
  have hl : lv_has ls 6 [(0, .ref ((ad 0))), (1, .int (iI 4)), (2, .ref ((ad (27 + pa)))), (3, .ref ((ad (27 + pb))))] := hl
  have hfr : ∀ k, Awy ad k → f k = f k := fun _ _ => rfl
  refine lv_iload_n hx hb d_RR_ofTwo_0 rfl (lv_at hl 1 rfl) ?_
  refine x_iconst hx hb d_RR_ofTwo_1 ?_
  refine x_icmp_ne (tgt := 20) hx hb d_RR_ofTwo_2 (by decide) (by omega) (by omega) (fun h2 => ?_) (fun h2 => ?_)
  · exfalso; omega
  · refine lv_aload_n hx hb d_RR_ofTwo_5 rfl (lv_at hl 0 rfl) ?_
    refine lv_aload_n hx hb d_RR_ofTwo_6 rfl (lv_at hl 2 rfl) ?_
    refine lv_aload_n hx hb d_RR_ofTwo_7 rfl (lv_at hl 3 rfl) ?_
    refine x_callv B hA (va_runV (As := [.ref ((ad (27 + pa))), .ref ((ad (27 + pb)))]) (rest := []) ⟨hx, hb, hml, hown, hts⟩ (c_RR_common l D cs _ _ _ ad Qm If Af Rf Zf (27 + pa) (20 + pa) (27 + pb) (20 + pb) hAd hC (Ar.va hpa) (Ar.va hpb) (by omega) (by omega) (by omega) (fun j hj => by have := hVa j hj; omega) (fun j hj => by have := hVb j hj; omega) hhd) (cwV 2 hts (gw_V w_280 w_282 s_5 w_1 w_283) rfl rfl rfl (by decide +kernel) ⟨by rw [hRf]; exact Nat.le_of_ble_eq_true rfl, by rw [hRl]; exact Nat.le_of_ble_eq_true rfl⟩) ⟨K0.blind, B.recv (hAd.1 _ (by omega)) (hC.x) rfl, B.pre _⟩ rfl rfl hl.1 rfl (lv_room (Nat.le_of_ble_eq_true rfl)) d_RR_ofTwo_8 ⟨by rw [hRc]; omega, by rw [hRs]; omega⟩) (fun g8 H locs hw B => ?_)
    obtain ⟨I_8, A_8, R_8, Z_8, hC_8, hq_8, hG8, hI8, hA8⟩ := hw
    have hfr_8 : ∀ k, Awy ad k → g8 k = f k := fun k hk => (hq_8 k hk).trans (hfr k hk)
    have B : Wb D vwCl (TY cs) L g8 (AL L s.heap.size) s H _ := B
    have hgr := gcd_bd2 (M := 1000) (by decide) hVa hVb hG8
    have hgr : ∀ j, j < 6 → -2147483648 ≤ A_8 2 j ∧ A_8 2 j < 2147483648 := fun j hj => by have := hgr j hj; omega
    refine lv_aload_n hx hb d_RR_ofTwo_11 rfl (lv_at hl 0 rfl) ?_
    refine lv_aload_n hx hb d_RR_ofTwo_12 rfl (lv_at hl 0 rfl) ?_
    refine x_get (C := RX6) (T := TX6) (N := 14) hx hb hts inX6 hown (B.foc1 (hC_8.x)) (hAd.f1 (by omega)) 0 rfl rfl 7 (by decide) (hts _ w_204) (fun _ h9 => h9) rfl d_RR_ofTwo_13 ?_
    refine x_callv B hA (va_runV (As := [.ref ((ad 10))]) (rest := []) ⟨hx, hb, hml, hown, hts⟩ (c_RR_widen l D cs _ _ _ (ad 0) (ad 1) (ad 2) (ad 5) (ad 7) (ad 8) (ad 9) (ad 10) (ad 11) (ad 12) (ad 13) (ad 14) (I_8 0) (I_8 1) (I_8 2) (ad 10) (A_8 0) (A_8 2) (hAd.fc [0, 8, 10] (by have := (Ar.sh).lt; simp only [List.nodup_cons, List.mem_cons, List.not_mem_nil, or_false, not_or, List.nodup_nil, and_true, not_false_eq_true]; omega) (by have := (Ar.sh).lt; intro q hq; simp only [List.mem_cons, List.not_mem_nil, or_false] at hq; omega)) hC_8.x (by rw [hI8 0 (by decide)]; exact hhd) hC_8.wide (hC_8.ar Ar.sh) (fun j hj => hgr j hj)) (cwV 1 hts (gw_V w_284 w_286 s_6 w_1 w_287) rfl rfl rfl (by decide +kernel) ⟨by rw [hRf]; exact Nat.le_of_ble_eq_true rfl, by rw [hRl]; exact Nat.le_of_ble_eq_true rfl⟩) ⟨K0.blind, B.recv (hAd.1 _ (by omega)) (hC_8.x) rfl, B.pre _⟩ rfl rfl hl.1 rfl (lv_room (Nat.le_of_ble_eq_true rfl)) d_RR_ofTwo_16 ⟨by rw [hRc]; omega, by rw [hRs]; omega⟩) (fun g16 H locs hw B => ?_)
    obtain ⟨wz, hwz, rfl⟩ := hw
    have B : Wb D vwCl (TY cs) L (mw g8 [((ad 8), .inl (cs 1, 12, .inr (.inl (al wz))))]) (AL L s.heap.size) s H _ := B
    obtain ⟨f_16, hf_16⟩ : ∃ f_16, f_16 = mw g8 [((ad 8), .inl (cs 1, 12, .inr (.inl (al wz))))] := ⟨_, rfl⟩
    rw [← hf_16] at B
    obtain ⟨A_16, hA_16⟩ : ∃ A_16, A_16 = upA A_8 0 wz := ⟨_, rfl⟩
    have hC_16 : CSt cs ad Qm f_16 I_8 A_16 R_8 Z_8 := by rw [hf_16, hA_16]; exact CSt.w_wide hAd hC_8 _
    have hfr_16 : ∀ k, Awy ad k → f_16 k = f k := fun k hk => Eq.trans (by rw [hf_16]; exact hk.mw1 (by omega)) (hfr_8 k hk)
    subst hQ hav
    exact x_vret hx hb hr hlocks B d_RR_ofTwo_19 (⟨I_8, A_16, R_8, Z_8, hC_16, hfr_16, hI8, fun q h1 h2 h3 => by rw [hA_16, upA_ne _ _ h1]; exact hA8 q h1 h2 h3, A_8 2, hG8, fun j hj => by rw [hA_16, upA_self]; exact hwz j hj⟩)
set_option maxHeartbeats 8000000 in
set_option maxRecDepth 100000 in
theorem c_RR_ofTwo_4s (l : Launch) (D : va_G) (cs : Nat → ClassId) (L : List Nat) (f : Nat → va_E) (sz : Nat) (ad Qm : Nat → Nat) (If : Nat → Int) (Af : Nat → Nat → Int) (Rf : Nat → Nat) (Zf : Nat → Int) (pa : Nat) (hAd : AdOk L ad Qm) (hC : CSt cs ad Qm f If Af Rf Zf) (hpa : pa < 12) (hhd : 0 ≤ If 0 ∧ If 0 ≤ 12) (hVa : ∀ j, j < 6 → -1000 ≤ Af (20 + pa) j ∧ Af (20 + pa) j ≤ 1000) : Met l (⟨"RealRoots", "ofTwo", "(I[I[I)V"⟩ : MethodName) (.code (⟨"RealRoots", "ofTwo", "(I[I[I)V"⟩ : MethodName) prog_1_method_28_code 6 (Option.none : Option Jvm.ClassFile.FieldType) :: gw) ({ frames := 5, cells := 0, slots := 0, locals := 250 }) (va_Pc [.ref ((ad 0)), .int (iI 4), .ref ((ad (27 + pa))), .ref ((ad (27 + pa)))] (K0 D vwCl (TY cs) L f sz)) (va_Qv (fun (g : Nat → va_E) => ∃ (I' : Nat → Int) (A' : Nat → Nat → Int) (R' : Nat → Nat) (Z' : Nat → Int), CSt cs ad Qm g I' A' R' Z' ∧ (∀ k, Awy ad k → g k = f k) ∧ (∀ i, i ≠ 3 → I' i = If i) ∧ (∀ q, q ≠ 0 → q ≠ 2 → q ≠ 7 → A' q = Af q) ∧ ∃ G : Nat → Int, Gcd (Af (20 + pa)) (Af (20 + pa)) G ∧ ∀ j : Nat, j < 12 → A' 0 j = if j < 6 then G j else 0) (K1 D vwCl (TY cs) (AL L sz) L) (AL L sz)) 0 0 (AL L sz) := by
  refine Met.ofW (cc := prog_1_method_28_code) (maxL := 6) (ret := (Option.none : Option Jvm.ClassFile.FieldType)) (by decide) rfl ?_
  intro p e s m args below meth c s₁ Bd hml hv
  obtain ⟨rfl, hk0⟩ := hv
  obtain ⟨hsz, B⟩ := hk0.start
  subst hsz
  have hx := Bd.exec
  have hb := Bd.bytes
  have hr := Bd.returns
  have hlocks := Bd.notSynchronized
  have hts0 := atoms_spec Bd.pre
  have hown : s.vm.findClass RX6 = some m.cls := findClass_of_methodNamed Bd.named
  have hA : ∀ q, s.heap.size ≤ q → AL L s.heap.size q := fun _ h => Or.inr h
  have hl := lv_entry ([.ref ((ad 0)), .int (iI 4), .ref ((ad (27 + pa))), .ref ((ad (27 + pa)))]) (n := 6) (Nat.le_of_ble_eq_true rfl)
  rw [lg_entry_eq]
  generalize (lg_sl ([.ref ((ad 0)), .int (iI 4), .ref ((ad (27 + pa))), .ref ((ad (27 + pa)))]) ++ List.replicate (6 - (lg_sl ([.ref ((ad 0)), .int (iI 4), .ref ((ad (27 + pa))), .ref ((ad (27 + pa)))])).length) Slot.unset).toArray = ls at hl ⊢
  refine absQ (fun Q R av hQ hR hav => ?_)
  have hts : ∀ w ∈ gw, w.before av s = true := by rw [hav]; exact fun w h => hts0 w (List.mem_cons_of_mem _ h)
  have hRf : R.frames = 5 := by rw [hR]; rfl
  have hRl : R.locals = 250 := by rw [hR]; rfl
  have hRc : R.cells = 0 := by rw [hR]; rfl
  have hRs : R.slots = 0 := by rw [hR]; rfl
  clear hR hts0 Bd
  have hl : lv_has ls 6 [(0, .ref ((ad 0))), (1, .int (iI 4)), (2, .ref ((ad (27 + pa)))), (3, .ref ((ad (27 + pa))))] := hl
  have hfr : ∀ k, Awy ad k → f k = f k := fun _ _ => rfl
  refine lv_iload_n hx hb d_RR_ofTwo_0 rfl (lv_at hl 1 rfl) ?_
  refine x_iconst hx hb d_RR_ofTwo_1 ?_
  refine x_icmp_ne (tgt := 20) hx hb d_RR_ofTwo_2 (by decide) (by omega) (by omega) (fun h2 => ?_) (fun h2 => ?_)
  · exfalso; omega
  · refine lv_aload_n hx hb d_RR_ofTwo_5 rfl (lv_at hl 0 rfl) ?_
    refine lv_aload_n hx hb d_RR_ofTwo_6 rfl (lv_at hl 2 rfl) ?_
    refine lv_aload_n hx hb d_RR_ofTwo_7 rfl (lv_at hl 3 rfl) ?_
    refine x_callv B hA (va_runV (As := [.ref ((ad (27 + pa))), .ref ((ad (27 + pa)))]) (rest := []) ⟨hx, hb, hml, hown, hts⟩ (c_RR_common_s l D cs _ _ _ ad Qm If Af Rf Zf (27 + pa) (20 + pa) hAd hC (Ar.va hpa) (by omega) (fun j hj => by have := hVa j hj; omega) hhd) (cwV 2 hts (gw_V w_280 w_282 s_5 w_1 w_283) rfl rfl rfl (by decide +kernel) ⟨by rw [hRf]; exact Nat.le_of_ble_eq_true rfl, by rw [hRl]; exact Nat.le_of_ble_eq_true rfl⟩) ⟨K0.blind, B.recv (hAd.1 _ (by omega)) (hC.x) rfl, B.pre _⟩ rfl rfl hl.1 rfl (lv_room (Nat.le_of_ble_eq_true rfl)) d_RR_ofTwo_8 ⟨by rw [hRc]; omega, by rw [hRs]; omega⟩) (fun g8 H locs hw B => ?_)
    obtain ⟨I_8, A_8, R_8, Z_8, hC_8, hq_8, hG8, hI8, hA8⟩ := hw
    have hfr_8 : ∀ k, Awy ad k → g8 k = f k := fun k hk => (hq_8 k hk).trans (hfr k hk)
    have B : Wb D vwCl (TY cs) L g8 (AL L s.heap.size) s H _ := B
    have hgr := gcd_bd2 (M := 1000) (by decide) hVa hVa hG8
    have hgr : ∀ j, j < 6 → -2147483648 ≤ A_8 2 j ∧ A_8 2 j < 2147483648 := fun j hj => by have := hgr j hj; omega
    refine lv_aload_n hx hb d_RR_ofTwo_11 rfl (lv_at hl 0 rfl) ?_
    refine lv_aload_n hx hb d_RR_ofTwo_12 rfl (lv_at hl 0 rfl) ?_
    refine x_get (C := RX6) (T := TX6) (N := 14) hx hb hts inX6 hown (B.foc1 (hC_8.x)) (hAd.f1 (by omega)) 0 rfl rfl 7 (by decide) (hts _ w_204) (fun _ h9 => h9) rfl d_RR_ofTwo_13 ?_
    refine x_callv B hA (va_runV (As := [.ref ((ad 10))]) (rest := []) ⟨hx, hb, hml, hown, hts⟩ (c_RR_widen l D cs _ _ _ (ad 0) (ad 1) (ad 2) (ad 5) (ad 7) (ad 8) (ad 9) (ad 10) (ad 11) (ad 12) (ad 13) (ad 14) (I_8 0) (I_8 1) (I_8 2) (ad 10) (A_8 0) (A_8 2) (hAd.fc [0, 8, 10] (by have := (Ar.sh).lt; simp only [List.nodup_cons, List.mem_cons, List.not_mem_nil, or_false, not_or, List.nodup_nil, and_true, not_false_eq_true]; omega) (by have := (Ar.sh).lt; intro q hq; simp only [List.mem_cons, List.not_mem_nil, or_false] at hq; omega)) hC_8.x (by rw [hI8 0 (by decide)]; exact hhd) hC_8.wide (hC_8.ar Ar.sh) (fun j hj => hgr j hj)) (cwV 1 hts (gw_V w_284 w_286 s_6 w_1 w_287) rfl rfl rfl (by decide +kernel) ⟨by rw [hRf]; exact Nat.le_of_ble_eq_true rfl, by rw [hRl]; exact Nat.le_of_ble_eq_true rfl⟩) ⟨K0.blind, B.recv (hAd.1 _ (by omega)) (hC_8.x) rfl, B.pre _⟩ rfl rfl hl.1 rfl (lv_room (Nat.le_of_ble_eq_true rfl)) d_RR_ofTwo_16 ⟨by rw [hRc]; omega, by rw [hRs]; omega⟩) (fun g16 H locs hw B => ?_)
    obtain ⟨wz, hwz, rfl⟩ := hw
    have B : Wb D vwCl (TY cs) L (mw g8 [((ad 8), .inl (cs 1, 12, .inr (.inl (al wz))))]) (AL L s.heap.size) s H _ := B
    obtain ⟨f_16, hf_16⟩ : ∃ f_16, f_16 = mw g8 [((ad 8), .inl (cs 1, 12, .inr (.inl (al wz))))] := ⟨_, rfl⟩
    rw [← hf_16] at B
    obtain ⟨A_16, hA_16⟩ : ∃ A_16, A_16 = upA A_8 0 wz := ⟨_, rfl⟩
    have hC_16 : CSt cs ad Qm f_16 I_8 A_16 R_8 Z_8 := by rw [hf_16, hA_16]; exact CSt.w_wide hAd hC_8 _
    have hfr_16 : ∀ k, Awy ad k → f_16 k = f k := fun k hk => Eq.trans (by rw [hf_16]; exact hk.mw1 (by omega)) (hfr_8 k hk)
    subst hQ hav
    exact x_vret hx hb hr hlocks B d_RR_ofTwo_19 (⟨I_8, A_16, R_8, Z_8, hC_16, hfr_16, hI8, fun q h1 h2 h3 => by rw [hA_16, upA_ne _ _ h1]; exact hA8 q h1 h2 h3, A_8 2, hG8, fun j hj => by rw [hA_16, upA_self]; exact hwz j hj⟩)
/-- the product, so far: rows below kk in full, of row kk the first jj -/
def mulp (a b : Nat → Int) (kk jj : Nat) : Nat → Int := fun t => sm (fun k => if k ≤ t ∧ t - k ≤ 5 then a k * b (t - k) else 0) kk + (if kk ≤ t ∧ t - kk < jj then a kk * b (t - kk) else 0)
theorem mulp_z (a b : Nat → Int) (t : Nat) : mulp a b 0 0 t = 0 := by
  unfold mulp
  rw [if_neg (by omega)]
  rfl
theorem mulp_in {a b : Nat → Int} {kk jj : Nat} {t : Nat} : mulp a b kk (jj + 1) t = if t = kk + jj then mulp a b kk jj t + a kk * b jj else mulp a b kk jj t := by
  unfold mulp
  by_cases c : t = kk + jj
  · rw [if_pos c, if_pos (by omega), if_neg (show ¬ (kk ≤ t ∧ t - kk < jj) by omega), show t - kk = jj by omega]
    omega
  · rw [if_neg c]
    by_cases c2 : kk ≤ t ∧ t - kk < jj
    · rw [if_pos c2, if_pos (by omega)]
    · rw [if_neg c2, if_neg (by omega)]
theorem mulp_row {a b : Nat → Int} {kk : Nat} (t : Nat) : mulp a b kk 6 t = mulp a b (kk + 1) 0 t := by
  unfold mulp
  rw [if_neg (show ¬ (kk + 1 ≤ t ∧ t - (kk + 1) < 0) by omega), sm, Int.add_zero]
  congr 1
  by_cases c : kk ≤ t ∧ t - kk < 6
  · rw [if_pos c, if_pos (by omega)]
  · rw [if_neg c, if_neg (by omega)]
theorem mulp_end (a b : Nat → Int) (t : Nat) : mulp a b 6 0 t = cv a b 5 6 t := by
  unfold mulp
  rw [if_neg (by omega), Int.add_zero]
  rfl
theorem mul_k1000 {x y : Int} (hx : -1000 ≤ x ∧ x ≤ 1000) (hy : -1000 ≤ y ∧ y ≤ 1000) : -1000000 ≤ x * y ∧ x * y ≤ 1000000 := by
  have h1 : ((x * y).natAbs : Int) ≤ 1000000 := by
    rw [Int.natAbs_mul, Int.natCast_mul]
    exact Int.mul_le_mul (show (x.natAbs : Int) ≤ 1000 by omega) (show (y.natAbs : Int) ≤ 1000 by omega) (by omega) (by omega)
  omega
set_option maxHeartbeats 8000000 in
set_option maxRecDepth 100000 in
theorem c_RR_ofTwo_2 (l : Launch) (D : va_G) (cs : Nat → ClassId) (L : List Nat) (f : Nat → va_E) (sz : Nat) (ad Qm : Nat → Nat) (If : Nat → Int) (Af : Nat → Nat → Int) (Rf : Nat → Nat) (Zf : Nat → Int) (pa pb : Nat) (hAd : AdOk L ad Qm) (hC : CSt cs ad Qm f If Af Rf Zf) (hpa : pa < 12) (hpb : pb < 12) (hVa : ∀ j, j < 6 → -1000 ≤ Af (20 + pa) j ∧ Af (20 + pa) j ≤ 1000) (hVb : ∀ j, j < 6 → -1000 ≤ Af (20 + pb) j ∧ Af (20 + pb) j ≤ 1000) (hW0 : ∀ j, j < 12 → Af 0 j = 0) : Met l (⟨"RealRoots", "ofTwo", "(I[I[I)V"⟩ : MethodName) (.code (⟨"RealRoots", "ofTwo", "(I[I[I)V"⟩ : MethodName) prog_1_method_28_code 6 (Option.none : Option Jvm.ClassFile.FieldType) :: gw) ({ frames := 1, cells := 0, slots := 0, locals := 20 }) (va_Pc [.ref ((ad 0)), .int (iI 2), .ref ((ad (27 + pa))), .ref ((ad (27 + pb)))] (K0 D vwCl (TY cs) L f sz)) (va_Qv (fun (g : Nat → va_E) => ∃ (I' : Nat → Int) (A' : Nat → Nat → Int) (R' : Nat → Nat) (Z' : Nat → Int), CSt cs ad Qm g I' A' R' Z' ∧ (∀ k, Awy ad k → g k = f k) ∧ (∀ i, I' i = If i) ∧ (∀ q, q ≠ 0 → A' q = Af q) ∧ (∀ t : Nat, t < 12 → A' 0 t = cv (Af (20 + pa)) (Af (20 + pb)) 5 6 t) ∧ ∀ j : Nat, j < 12 → -36000000 ≤ A' 0 j ∧ A' 0 j ≤ 36000000) (K1 D vwCl (TY cs) (AL L sz) L) (AL L sz)) 0 0 (AL L sz) := by
  refine Met.ofW (cc := prog_1_method_28_code) (maxL := 6) (ret := (Option.none : Option Jvm.ClassFile.FieldType)) (by decide) rfl ?_
  intro p e s m args below meth c s₁ Bd hml hv
  obtain ⟨rfl, hk0⟩ := hv
  obtain ⟨hsz, B⟩ := hk0.start
  subst hsz
  have hx := Bd.exec
  have hb := Bd.bytes
  have hr := Bd.returns
  have hlocks := Bd.notSynchronized
  have hts0 := atoms_spec Bd.pre
  have hown : s.vm.findClass RX6 = some m.cls := findClass_of_methodNamed Bd.named
  have hA : ∀ q, s.heap.size ≤ q → AL L s.heap.size q := fun _ h => Or.inr h
  have hl := lv_entry ([.ref ((ad 0)), .int (iI 2), .ref ((ad (27 + pa))), .ref ((ad (27 + pb)))]) (n := 6) (Nat.le_of_ble_eq_true rfl)
  rw [lg_entry_eq]
  generalize (lg_sl ([.ref ((ad 0)), .int (iI 2), .ref ((ad (27 + pa))), .ref ((ad (27 + pb)))]) ++ List.replicate (6 - (lg_sl ([.ref ((ad 0)), .int (iI 2), .ref ((ad (27 + pa))), .ref ((ad (27 + pb)))])).length) Slot.unset).toArray = ls at hl ⊢
  refine absQ (fun Q R av hQ hR hav => ?_)
  have hts : ∀ w ∈ gw, w.before av s = true := by rw [hav]; exact fun w h => hts0 w (List.mem_cons_of_mem _ h)
  have hRf : R.frames = 1 := by rw [hR]; rfl
  have hRl : R.locals = 20 := by rw [hR]; rfl
  have hRc : R.cells = 0 := by rw [hR]; rfl
  have hRs : R.slots = 0 := by rw [hR]; rfl
  clear hR hts0 Bd
  have hl : lv_has ls 6 [(0, .ref ((ad 0))), (1, .int (iI 2)), (2, .ref ((ad (27 + pa)))), (3, .ref ((ad (27 + pb))))] := hl
  have hfr : ∀ k, Awy ad k → f k = f k := fun _ _ => rfl
  refine lv_iload_n hx hb d_RR_ofTwo_0 rfl (lv_at hl 1 rfl) ?_
  refine x_iconst hx hb d_RR_ofTwo_1 ?_
  refine x_icmp_ne (tgt := 20) hx hb d_RR_ofTwo_2 (by decide) (by omega) (by omega) (fun h2 => ?_) (fun h2 => ?_)
  · refine x_iconst hx hb d_RR_ofTwo_20 ?_
    refine lv_istore (lv' := [(4, .int (iI 0)), (0, .ref ((ad 0))), (1, .int (iI 2)), (2, .ref ((ad (27 + pa)))), (3, .ref ((ad (27 + pb))))]) hx hb d_RR_ofTwo_21 hl (by decide) rfl (fun ls hl => ?_)
    have LA : ∀ (fuel : Nat) (fw : Nat → va_E) (Iw : Nat → Int) (Aw : Nat → Nat → Int) (Rw : Nat → Nat) (Zw : Nat → Int) (kk : Nat), 6 - kk < fuel → (CSt cs ad Qm fw Iw Aw Rw Zw) → (∀ k, Awy ad k → fw k = f k) → (kk ≤ 6) → (∀ i, Iw i = If i) → (∀ q, q ≠ 0 → Aw q = Af q) → (∀ t : Nat, t < 12 → Aw 0 t = mulp (Af (20 + pa)) (Af (20 + pb)) kk 0 t) → (∀ j : Nat, j < 12 → -(6000000 * (kk : Int)) ≤ Aw 0 j ∧ Aw 0 j ≤ 6000000 * (kk : Int)) → ∀ (H : Heap) (locs : List Loc) (ls : Array Slot), Wb D vwCl (TY cs) L fw (AL L s.heap.size) s H locs → lv_has ls 6 [(4, .int (iI ((kk : Int)))), (0, .ref ((ad 0))), (1, .int (iI 2)), (2, .ref ((ad (27 + pa)))), (3, .ref ((ad (27 + pb))))] → W p l e R s m av below meth c H locs (0) (0) Q (F0 m 23 ls []) := by
      intro fuel
      induction fuel with
      | zero => intro fw Iw Aw Rw Zw kk hfu; exact absurd hfu (Nat.not_lt_zero _)
      | succ fuel ih_LA =>
        intro fw Iw Aw Rw Zw kk hfu_LA hCw hfrw hkk hIw hAw hWw hBw H locs ls B hl
        refine lv_iload hx hb d_RR_ofTwo_23 (lv_at hl 0 rfl) ?_
        refine x_bipush hx hb d_RR_ofTwo_25 (by decide) ?_
        refine x_icmp_ge (tgt := 113) hx hb d_RR_ofTwo_27 (by decide) (by omega) (by omega) (fun h27 => ?_) (fun h27 => ?_)
        · subst hQ hav
          exact x_vret hx hb hr hlocks B d_RR_ofTwo_113 (⟨Iw, Aw, Rw, Zw, hCw, hfrw, hIw, hAw, fun t ht => by rw [hWw t ht, show kk = 6 by omega, mulp_end], fun j hj => by have := hBw j hj; omega⟩)
        · refine lv_iload_n hx hb d_RR_ofTwo_30 rfl (lv_at hl 2 rfl) ?_
          refine x_iconst hx hb d_RR_ofTwo_31 ?_
          refine x_icmp_ne (tgt := 78) hx hb d_RR_ofTwo_32 (by decide) (by omega) (by omega) (fun h32 => ?_) (fun h32 => ?_)
          · exfalso; omega
          · refine x_iconst hx hb d_RR_ofTwo_35 ?_
            refine lv_istore (lv' := [(5, .int (iI 0)), (4, .int (iI ((kk : Int)))), (0, .ref ((ad 0))), (1, .int (iI 2)), (2, .ref ((ad (27 + pa)))), (3, .ref ((ad (27 + pb))))]) hx hb d_RR_ofTwo_36 hl (by decide) rfl (fun ls hl => ?_)
            have LB : ∀ (fuel : Nat) (fu : Nat → va_E) (Iu : Nat → Int) (Au : Nat → Nat → Int) (Ru : Nat → Nat) (Zu : Nat → Int) (jj : Nat), 6 - jj < fuel → (CSt cs ad Qm fu Iu Au Ru Zu) → (∀ k, Awy ad k → fu k = f k) → (jj ≤ 6) → (∀ i, Iu i = If i) → (∀ q, q ≠ 0 → Au q = Af q) → (∀ t : Nat, t < 12 → Au 0 t = mulp (Af (20 + pa)) (Af (20 + pb)) kk jj t) → (∀ j : Nat, j < 12 → -(6000000 * (kk : Int) + 1000000 * (jj : Int)) ≤ Au 0 j ∧ Au 0 j ≤ 6000000 * (kk : Int) + 1000000 * (jj : Int)) → ∀ (H : Heap) (locs : List Loc) (ls : Array Slot), Wb D vwCl (TY cs) L fu (AL L s.heap.size) s H locs → lv_has ls 6 [(5, .int (iI ((jj : Int)))), (4, .int (iI ((kk : Int)))), (0, .ref ((ad 0))), (1, .int (iI 2)), (2, .ref ((ad (27 + pa)))), (3, .ref ((ad (27 + pb))))] → W p l e R s m av below meth c H locs (0) (0) Q (F0 m 38 ls []) := by
              intro fuel
              induction fuel with
              | zero => intro fu Iu Au Ru Zu jj hfu; exact absurd hfu (Nat.not_lt_zero _)
              | succ fuel ih_LB =>
                intro fu Iu Au Ru Zu jj hfu_LB hCu hfru hjj hIu hAu hWu hBu H locs ls B hl
                refine lv_iload hx hb d_RR_ofTwo_38 (lv_at hl 0 rfl) ?_
                refine x_bipush hx hb d_RR_ofTwo_40 (by decide) ?_
                refine x_icmp_ge (tgt := 75) hx hb d_RR_ofTwo_42 (by decide) (by omega) (by omega) (fun h42 => ?_) (fun h42 => ?_)
                · refine lv_goto (tgt := 107) hx hb d_RR_ofTwo_75 (by decide) ?_
                  refine x_iinc (lv' := [(4, .int (iI (((kk : Int)) + 1))), (5, .int (iI ((jj : Int)))), (0, .ref ((ad 0))), (1, .int (iI 2)), (2, .ref ((ad (27 + pa)))), (3, .ref ((ad (27 + pb))))]) hx hb d_RR_ofTwo_107 hl (q := 1) rfl rfl (by decide) rfl (fun ls hl => ?_)
                  refine lv_goto (tgt := 23) hx hb d_RR_ofTwo_110 (by decide) ?_
                  exact ih_LA fu Iu Au Ru Zu (kk + 1) (by omega) hCu hfru (by omega) hIu hAu (fun t ht => by rw [hWu t ht, show jj = 6 by omega]; exact mulp_row t) (fun j hj => by have := hBu j hj; omega) _ _ _ B (lv_sub hl [0, 2, 3, 4, 5] rfl)
                · refine lv_aload_n hx hb d_RR_ofTwo_45 rfl (lv_at hl 2 rfl) ?_
                  refine x_get (C := RX6) (T := TX6) (N := 14) hx hb hts inX6 hown (B.foc1 (hCu.x)) (hAd.f1 (by omega)) 0 rfl rfl 5 (by decide) (hts _ w_202) (fun _ h9 => h9) rfl d_RR_ofTwo_46 ?_
                  refine lv_iload hx hb d_RR_ofTwo_49 (lv_at hl 1 rfl) ?_
                  refine lv_iload hx hb d_RR_ofTwo_51 (lv_at hl 0 rfl) ?_
                  refine x_iadd hx hb d_RR_ofTwo_53 ?_
                  refine lv_dup2_11 hx hb d_RR_ofTwo_54 rfl rfl ?_
                  refine x_lald hx hb (B.foc1 (hCu.wide)) (hAd.f1 (by omega)) 0 1 rfl rfl (kk + jj) (by omega) (by omega) (by decide) d_RR_ofTwo_55 ?_
                  refine lv_aload_n hx hb d_RR_ofTwo_56 rfl (lv_at hl 4 rfl) ?_
                  refine lv_iload hx hb d_RR_ofTwo_57 (lv_at hl 1 rfl) ?_
                  refine x_iald hx hb (B.foc1 (hCu.va (p := pa) (by omega))) (hAd.f1 (by omega)) 0 0 rfl rfl kk (by omega) (by omega) (by decide) d_RR_ofTwo_59 ?_
                  have h9pa : -1000 ≤ Au (20 + pa) kk ∧ Au (20 + pa) kk ≤ 1000 := by rw [hAu _ (by omega)]; exact hVa kk (by omega)
                  refine x_i2l hx hb d_RR_ofTwo_60 (by omega) ?_
                  refine lv_aload_n hx hb d_RR_ofTwo_61 rfl (lv_at hl 5 rfl) ?_
                  refine lv_iload hx hb d_RR_ofTwo_62 (lv_at hl 0 rfl) ?_
                  refine x_iald hx hb (B.foc1 (hCu.va (p := pb) (by omega))) (hAd.f1 (by omega)) 0 0 rfl rfl jj (by omega) (by omega) (by decide) d_RR_ofTwo_64 ?_
                  have h9pb : -1000 ≤ Au (20 + pb) jj ∧ Au (20 + pb) jj ≤ 1000 := by rw [hAu _ (by omega)]; exact hVb jj (by omega)
                  refine x_i2l hx hb d_RR_ofTwo_65 (by omega) ?_
                  have hm9 : -1000000 ≤ Au (20 + pa) kk * Au (20 + pb) jj ∧ Au (20 + pa) kk * Au (20 + pb) jj ≤ 1000000 := by
                    rw [hAu _ (by omega), hAu _ (by omega)]
                    exact mul_k1000 (hVa kk (by omega)) (hVb jj (by omega))
                  refine x_lmul hx hb d_RR_ofTwo_66 ?_
                  refine x_ladd hx hb d_RR_ofTwo_67 ?_
                  refine x_last hx hb (B.foc1 (hCu.wide)) (hAd.f1 (by omega)) 0 1 rfl rfl (kk + jj) (by omega) (by omega) (by decide) d_RR_ofTwo_68 (fun H locs B => ?_)
                  have B : Wb D vwCl (TY cs) L (mw fu [((ad 8), .inl (cs 1, 12, .inr (.inl (al (up (Au 0) (kk + jj) ((Au 0 (kk + jj)) + ((Au (20 + pa) kk) * (Au (20 + pb) jj))))))))]) (AL L s.heap.size) s H _ := B
                  obtain ⟨f_68, hf_68⟩ : ∃ f_68, f_68 = mw fu [((ad 8), .inl (cs 1, 12, .inr (.inl (al (up (Au 0) (kk + jj) ((Au 0 (kk + jj)) + ((Au (20 + pa) kk) * (Au (20 + pb) jj))))))))] := ⟨_, rfl⟩
                  rw [← hf_68] at B
                  obtain ⟨A_68, hA_68⟩ : ∃ A_68, A_68 = upA Au 0 (up (Au 0) (kk + jj) ((Au 0 (kk + jj)) + ((Au (20 + pa) kk) * (Au (20 + pb) jj)))) := ⟨_, rfl⟩
                  have hC_68 : CSt cs ad Qm f_68 Iu A_68 Ru Zu := by rw [hf_68, hA_68]; exact CSt.w_wide hAd hCu _
                  have hfr_68 : ∀ k, Awy ad k → f_68 k = f k := fun k hk => Eq.trans (by rw [hf_68]; exact hk.mw1 (by omega)) (hfru k hk)
                  refine x_iinc (lv' := [(5, .int (iI (((jj : Int)) + 1))), (4, .int (iI ((kk : Int)))), (0, .ref ((ad 0))), (1, .int (iI 2)), (2, .ref ((ad (27 + pa)))), (3, .ref ((ad (27 + pb))))]) hx hb d_RR_ofTwo_69 hl (q := 0) rfl rfl (by decide) rfl (fun ls hl => ?_)
                  refine lv_goto (tgt := 38) hx hb d_RR_ofTwo_72 (by decide) ?_
                  exact ih_LB f_68 Iu A_68 Ru Zu (jj + 1) (by omega) hC_68 hfr_68 (by omega) hIu (fun q hq => by rw [hA_68, upA_ne _ _ hq]; exact hAu q hq) (fun t ht => by
            rw [hA_68, upA_self, mulp_in]
            by_cases c : t = kk + jj
            · rw [c, up_self, if_pos rfl, hWu _ (by omega), hAu _ (by omega), hAu _ (by omega)]
            · rw [up_ne _ _ c, if_neg c]; exact hWu t ht) (fun j hj => by
            rw [hA_68, upA_self]
            by_cases c : j = kk + jj
            · rw [c, up_self]; have h9 := hBu (kk + jj) (by omega); omega
            · rw [up_ne _ _ c]; have h9 := hBu j hj; omega) _ _ _ B (lv_sub hl [0, 1, 2, 3, 4, 5] rfl)
            exact LB _ fw Iw Aw Rw Zw 0 (Nat.lt_succ_self _) hCw hfrw (Nat.zero_le _) hIw hAw hWw (fun j hj => by have := hBw j hj; omega) _ _ _ B (lv_sub hl [0, 1, 2, 3, 4, 5] rfl)
    exact LA _ f If Af Rf Zf 0 (Nat.lt_succ_self _) hC hfr (Nat.zero_le _) (fun _ => rfl) (fun _ _ => rfl) (fun t ht => by rw [hW0 t ht, mulp_z]) (fun j hj => by rw [hW0 j hj]; omega) _ _ _ B (lv_sub hl [0, 1, 2, 3, 4] rfl)
  · exfalso; omega
