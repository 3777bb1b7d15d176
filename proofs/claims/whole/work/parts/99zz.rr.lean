set_option maxHeartbeats 8000000 in
set_option maxRecDepth 100000 in
theorem c_RR_polynomial_c (l : Launch) (D : va_G) (cs : Nat → ClassId) (L : List Nat) (f : Nat → va_E) (sz : Nat) (ad Qm : Nat → Nat) (If : Nat → Int) (Af : Nat → Nat → Int) (Rf : Nat → Nat) (Zf : Nat → Int)  (hAd : AdOk L ad Qm) (hC : CSt cs ad Qm f If Af Rf Zf) (hInv : Inv If Af) : Met l (⟨"RealRoots", "polynomial", "()I"⟩ : MethodName) (.code (⟨"RealRoots", "polynomial", "()I"⟩ : MethodName) prog_1_method_2_code 1 (Option.some Jvm.ClassFile.FieldType.int) :: gw) ({ frames := 2, cells := 0, slots := 0, locals := 60 }) (va_Pc [.ref ((ad 0))] (K0 D vwCl (TY cs) L f sz)) (va_Qi (fun (r : Int32) (g : Nat → va_E) => ∃ (I' : Nat → Int) (A' : Nat → Nat → Int) (R' : Nat → Nat) (Z' : Nat → Int), CSt cs ad Qm g I' A' R' Z' ∧ (∀ k, Awy ad k → g k = f k) ∧ ((If 0 = 12 ∧ r = iI (-4) ∧ Inv I' A' ∧ SameV If Af I' A') ∨ (If 0 < 12 ∧ r = iI (If 0) ∧ Inv I' A' ∧ I' 0 = If 0 + 1 ∧ (∀ j, j < 6 → A' (20 + (If 0).toNat) j = 0) ∧ ∀ p2, p2 < 12 → p2 ≠ (If 0).toNat → A' (20 + p2) = Af (20 + p2)))) (K1 D vwCl (TY cs) (AL L sz) L) (AL L sz)) 0 0 (AL L sz) := by
  refine Met.ofW (cc := prog_1_method_2_code) (maxL := 1) (ret := (Option.some Jvm.ClassFile.FieldType.int)) (by decide) rfl ?_
  intro p e s m args below meth c s₁ Bd hml hv
  obtain ⟨rfl, hk0⟩ := hv
  obtain ⟨hsz, B⟩ := hk0.start
  subst hsz
  have hx := Bd.exec
  have hb := Bd.bytes
  have hr := Bd.returns
  have hlocks := Bd.notSynchronized
  have hts0 := atoms_spec Bd.pre
  have hown : s.vm.findClass RX6 = some m.cls := findClass_of_methodNamed Bd.named
  have hA : ∀ q, s.heap.size ≤ q → AL L s.heap.size q := fun _ h => Or.inr h
  have hl := lv_entry ([.ref ((ad 0))]) (n := 1) (Nat.le_of_ble_eq_true rfl)
  rw [lg_entry_eq]
  generalize (lg_sl ([.ref ((ad 0))]) ++ List.replicate (1 - (lg_sl ([.ref ((ad 0))])).length) Slot.unset).toArray = ls at hl ⊢
  refine absQ (fun Q R av hQ hR hav => ?_)
  have hts : ∀ w ∈ gw, w.before av s = true := by rw [hav]; exact fun w h => hts0 w (List.mem_cons_of_mem _ h)
  have hRf : R.frames = 2 := by rw [hR]; rfl
  have hRl : R.locals = 60 := by rw [hR]; rfl
  have hRc : R.cells = 0 := by rw [hR]; rfl
  have hRs : R.slots = 0 := by rw [hR]; rfl
  clear hR hts0 Bd
  have hl : lv_has ls 1 [(0, .ref ((ad 0)))] := hl
  have hfr : ∀ k, Awy ad k → f k = f k := fun _ _ => rfl
  have hhd := hInv.1.1
  refine lv_aload_n hx hb d_RR_polynomial_0 rfl (lv_at hl 0 rfl) ?_
  refine x_callv B hA (va_runV (As := []) (rest := []) ⟨hx, hb, hml, hown, hts⟩ (c_RR_clearWide l D cs _ _ _ (ad 0) (ad 1) (ad 2) (ad 5) (ad 7) (ad 8) (ad 9) (ad 10) (ad 11) (ad 12) (ad 13) (ad 14) (If 0) (If 1) (If 2) (Af 0) (hAd.fc [0, 8] (by simp only [List.nodup_cons, List.mem_cons, List.not_mem_nil, or_false, not_or, List.nodup_nil, and_true, not_false_eq_true]; omega) (by intro q hq; simp only [List.mem_cons, List.not_mem_nil, or_false] at hq; omega)) hC.x (hhd) hC.wide) (cwV 0 hts (gw_V w_244 w_246 s_0 w_1 w_247) rfl rfl rfl (by decide +kernel) ⟨by rw [hRf]; exact Nat.le_of_ble_eq_true rfl, by rw [hRl]; exact Nat.le_of_ble_eq_true rfl⟩) ⟨K0.blind, B.recv (hAd.1 _ (by omega)) (hC.x) rfl, B.pre _⟩ rfl rfl hl.1 rfl (lv_room (Nat.le_of_ble_eq_true rfl)) d_RR_polynomial_1 ⟨by rw [hRc]; omega, by rw [hRs]; omega⟩) (fun g1 H locs hw B => ?_)
  obtain rfl := hw
  have B : Wb D vwCl (TY cs) L (mw f [((ad 8), .inl (cs 1, 12, .inr (.inl (al (cf 12 (fun _ => 0) (Af 0))))))]) (AL L s.heap.size) s H _ := B
  obtain ⟨f_1, hf_1⟩ : ∃ f_1, f_1 = mw f [((ad 8), .inl (cs 1, 12, .inr (.inl (al (cf 12 (fun _ => 0) (Af 0))))))] := ⟨_, rfl⟩
  rw [← hf_1] at B
  obtain ⟨A_1, hA_1⟩ : ∃ A_1, A_1 = upA Af 0 (cf 12 (fun _ => 0) (Af 0)) := ⟨_, rfl⟩
  have hC_1 : CSt cs ad Qm f_1 If A_1 Rf Zf := by rw [hf_1, hA_1]; exact CSt.w_wide hAd hC _
  have hfr_1 : ∀ k, Awy ad k → f_1 k = f k := fun k hk => Eq.trans (by rw [hf_1]; exact hk.mw1 (by omega)) (hfr k hk)
  have hz12 : ∀ j, j < 12 → A_1 0 j = 0 := fun j hj => by rw [hA_1, upA_self]; unfold cf; rw [if_pos (by omega)]
  have hAo1 : ∀ q, q ≠ 0 → A_1 q = Af q := fun q hq => by rw [hA_1, upA_ne _ _ hq]
  have hInv1 : Inv If A_1 := hInv.scr (fun _ _ => rfl) (fun q hq => hAo1 q (by omega))
  refine lv_aload_n hx hb d_RR_polynomial_4 rfl (lv_at hl 0 rfl) ?_
  refine x_calli B hA (va_runV (As := []) (rest := []) ⟨hx, hb, hml, hown, hts⟩ (c_RR_keepWide_c l D cs _ _ _ ad Qm If A_1 Rf Zf hAd hC_1 (hInv1) (fun j hj => by rw [hz12 j hj]; omega)) (cwV 0 hts (gw_V w_248 w_250 s_1 w_1 w_251) rfl rfl rfl (by decide +kernel) ⟨by rw [hRf]; exact Nat.le_of_ble_eq_true rfl, by rw [hRl]; exact Nat.le_of_ble_eq_true rfl⟩) ⟨K0.blind, B.recv (hAd.1 _ (by omega)) (hC_1.x) rfl, B.pre _⟩ rfl rfl hl.1 rfl (lv_room (Nat.le_of_ble_eq_true rfl)) d_RR_polynomial_5 ⟨by rw [hRc]; omega, by rw [hRs]; omega⟩) (fun r5 g5 H locs hw B => ?_)
  obtain ⟨Ik, Ak, Rk, Zk, hCk, hqk, hkw⟩ := hw
  have hfrk : ∀ k, Awy ad k → g5 k = f k := fun k hk => (hqk k hk).trans (hfr_1 k hk)
  have B : Wb D vwCl (TY cs) L g5 (AL L s.heap.size) s H _ := B
  rcases hkw with ⟨⟨hbad, rfl⟩, hIsk, hAsk⟩ | ⟨⟨hlt, hall⟩, rfl, hInvk, hI0k, hnew, hold⟩
  · subst hQ hav
    exact x_iret hx hb hr hlocks B d_RR_polynomial_8 (⟨Ik, Ak, Rk, Zk, hCk, hfrk, Or.inl ⟨by rcases hbad with h | ⟨j, hj, h⟩; exact h; exact absurd ⟨fun _ => by rw [hz12 j hj]; omega, fun _ => hz12 j hj⟩ h, rfl, hInv1.same hIsk hAsk, ⟨hIsk 0, fun p hp => by rw [hAsk]; exact hAo1 _ (by omega)⟩⟩⟩)
  · subst hQ hav
    exact x_iret hx hb hr hlocks B d_RR_polynomial_8 (⟨Ik, Ak, Rk, Zk, hCk, hfrk, Or.inr ⟨hlt, rfl, hInvk, hI0k, fun j hj => (hnew j hj).trans (hz12 j (by omega)), fun p2 h1 h2 => (hold p2 h1 h2).trans (hAo1 _ (by omega))⟩⟩)
set_option maxHeartbeats 8000000 in
set_option maxRecDepth 100000 in
theorem c_RR_count_c (l : Launch) (D : va_G) (cs : Nat → ClassId) (L : List Nat) (f : Nat → va_E) (sz : Nat) (ad Qm : Nat → Nat) (If : Nat → Int) (Af : Nat → Nat → Int) (Rf : Nat → Nat) (Zf : Nat → Int)  (hAd : AdOk L ad Qm) (hC : CSt cs ad Qm f If Af Rf Zf) (hInv : Inv If Af) : Met l (⟨"RealRoots", "count", "()I"⟩ : MethodName) (.code (⟨"RealRoots", "count", "()I"⟩ : MethodName) prog_1_method_21_code 1 (Option.some Jvm.ClassFile.FieldType.int) :: gw) ({ frames := 1, cells := 0, slots := 0, locals := 20 }) (va_Pc [.ref ((ad 0))] (K0 D vwCl (TY cs) L f sz)) (va_Qi (fun (r : Int32) (g : Nat → va_E) => ∃ (I' : Nat → Int) (A' : Nat → Nat → Int) (R' : Nat → Nat) (Z' : Nat → Int), CSt cs ad Qm g I' A' R' Z' ∧ (∀ k, Awy ad k → g k = f k) ∧ Inv I' A' ∧ SameV If Af I' A' ∧ r = iI (If 0)) (K1 D vwCl (TY cs) (AL L sz) L) (AL L sz)) 0 0 (AL L sz) := by
  refine Met.ofW (cc := prog_1_method_21_code) (maxL := 1) (ret := (Option.some Jvm.ClassFile.FieldType.int)) (by decide) rfl ?_
  intro p e s m args below meth c s₁ Bd hml hv
  obtain ⟨rfl, hk0⟩ := hv
  obtain ⟨hsz, B⟩ := hk0.start
  subst hsz
  have hx := Bd.exec
  have hb := Bd.bytes
  have hr := Bd.returns
  have hlocks := Bd.notSynchronized
  have hts0 := atoms_spec Bd.pre
  have hown : s.vm.findClass RX6 = some m.cls := findClass_of_methodNamed Bd.named
  have hA : ∀ q, s.heap.size ≤ q → AL L s.heap.size q := fun _ h => Or.inr h
  have hl := lv_entry ([.ref ((ad 0))]) (n := 1) (Nat.le_of_ble_eq_true rfl)
  rw [lg_entry_eq]
  generalize (lg_sl ([.ref ((ad 0))]) ++ List.replicate (1 - (lg_sl ([.ref ((ad 0))])).length) Slot.unset).toArray = ls at hl ⊢
  refine absQ (fun Q R av hQ hR hav => ?_)
  have hts : ∀ w ∈ gw, w.before av s = true := by rw [hav]; exact fun w h => hts0 w (List.mem_cons_of_mem _ h)
  have hRf : R.frames = 1 := by rw [hR]; rfl
  have hRl : R.locals = 20 := by rw [hR]; rfl
  have hRc : R.cells = 0 := by rw [hR]; rfl
  have hRs : R.slots = 0 := by rw [hR]; rfl
  clear hR hts0 Bd
  have hl : lv_has ls 1 [(0, .ref ((ad 0)))] := hl
  have hfr : ∀ k, Awy ad k → f k = f k := fun _ _ => rfl
  refine lv_aload_n hx hb d_RR_count_0 rfl (lv_at hl 0 rfl) ?_
  refine x_get (C := RX6) (T := TX6) (N := 14) hx hb hts inX6 hown (B.foc1 (hC.x)) (hAd.f1 (by omega)) 0 rfl rfl 1 (by decide) (hts _ w_198) (fun _ h9 => h9) rfl d_RR_count_1 ?_
  subst hQ hav
  exact x_iret hx hb hr hlocks B d_RR_count_4 (⟨If, Af, Rf, Zf, hC, hfr, hInv, ⟨rfl, fun _ _ => rfl⟩, rfl⟩)
