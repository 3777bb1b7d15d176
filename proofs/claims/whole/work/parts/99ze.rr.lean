/-! a settled curve -/
theorem free_total {V F : Nat → Int} {r : Nat → Nat → Int} {n : Nat} {N : Rat → Int} (hV : Nz V) (hM : ∀ j, j < 6 → -1000 ≤ V j ∧ V j ≤ 1000) (hf : FreeOf V F) (hs : Sseq F r n) (hN : NB F N) : 0 ≤ tn (fun k => sgL (r k)) n - tn (fun k => sgR (r k)) n ∧ tn (fun k => sgL (r k)) n - tn (fun k => sgR (r k)) n ≤ 5 ∧ N 2048 = tn (fun k => sgL (r k)) n - tn (fun k => sgR (r k)) n := by
  have hm := hs.many
  have hu := NB.uniq (show NB F (NbF r n) from ⟨r, n, hs, fun _ => rfl⟩) hN 2048
  by_cases hn : n = 1
  · subst hn
    have h1 := (one_const hs).2
    have t1 : ∀ s : Nat → Int, tn s 1 = 0 := fun s => by simp [tn, lst]
    rw [hu, h1, t1, t1]; omega
  · have hn1 := hs.1
    obtain ⟨_, _, q3, q4⟩ := lay_facts hV hM hf hs (by omega)
    exact ⟨q4, by omega, by rw [hu]; exact q3 2048 (by decide)⟩
theorem free_pos {V F : Nat → Int} (hV : Nz V) (hM : ∀ j, j < 6 → -1000 ≤ V j ∧ V j ≤ 1000) (hf : FreeOf V F) : sg (es F 6 2048) = 1 := by
  obtain ⟨⟨p1, hP⟩, _, k, hk, hk2, hk3⟩ := FreeOf.part hV hM hf
  obtain ⟨N, hN⟩ := NB.ex hP.2.2.1.1
  have hB := big_out hV hM (B := 1001) (by decide +kernel)
  obtain ⟨f1, f2, _, H, c, hc, f3⟩ := FreeOf.facts hV hM hf
  have hne : ∀ x : Rat, 1001 ≤ x → sg (es F 6 x) ≠ 0 := fun x hx h0 => by
    have h1 := sg_eq0 h0
    have h2 := f3 x
    rw [h1] at h2
    have h3 : es V 6 x = 0 := by grind
    rcases hB x (Or.inl hx) with h4 | h4 <;> rw [h3] at h4 <;> exact absurd h4 (by decide)
  obtain ⟨R, hR1, hR2, _⟩ := far_sg hP.2.2.1.1
  have hsR : sgR F = 1 := by
    rw [(sgR_top hk (by omega) hk3).1]
    exact Int.sign_eq_one_of_pos hk2
  obtain ⟨o1, o2⟩ := NB.out hP hN
  have hy : (2048 : Rat) < R + 2049 := by grind
  have hp := hN.par hP.2.2.1 hy (hne 2048 (by decide)) (hne _ (by grind))
  rw [hp.mpr (by rw [o2 (R + 2049) 2048 (by grind) (by decide)]; simp), hR2 _ (by grind), hsR]
def CvOk (I : Nat → Int) (A : Nat → Nat → Int) (p : Nat) : Prop := Nz (A (20 + p)) ∧ FreeOf (A (20 + p)) (A (40 + p)) ∧ ∃ (nm : Nat) (N : Rat → Int) (dp : Nat → Nat) (v : Nat → Int), I (40 + p) = (nm : Int) ∧ nm ≤ 5 ∧ NB (A (40 + p)) N ∧ N 2048 = (nm : Int) ∧ Pls I A p nm N dp v ∧ ∀ a, a + 1 < nm → ¬ Mt v dp a (a + 1)
/-- the class's state -/
def GIv (I : Nat → Int) (A : Nat → Nat → Int) : Prop := (0 ≤ I 0 ∧ I 0 ≤ 12) ∧ (∀ p, p < 12 → ∀ j, j < 6 → -1000 ≤ A (20 + p) j ∧ A (20 + p) j ≤ 1000) ∧ ∀ p, p < 12 → I (20 + p) = 0 ∨ (I (20 + p) = 1 ∧ CvOk I A p)
/-- only what belongs to curve p, and what is there to work with, has changed -/
def Oth (p : Nat) (I : Nat → Int) (A : Nat → Nat → Int) (I' : Nat → Int) (A' : Nat → Nat → Int) : Prop := (∀ i, (i < 3 ∨ (20 ≤ i ∧ i ≠ 20 + p ∧ i ≠ 40 + p ∧ (∀ j, j < 5 → i ≠ 100 + (5 * p + j) ∧ i ≠ 200 + (5 * p + j)))) → I' i = I i) ∧ ∀ q, (q = 5 ∨ q = 6 ∨ (20 ≤ q ∧ q ≠ 40 + p ∧ ∀ j, j < 5 → q ≠ 100 + (5 * p + j))) → A' q = A q
theorem CvOk.congr {I I' : Nat → Int} {A A' : Nat → Nat → Int} {p : Nat} (h : CvOk I A p) (hp : p < 12) (h1 : A' (20 + p) = A (20 + p)) (h2 : A' (40 + p) = A (40 + p)) (h3 : I' (40 + p) = I (40 + p)) (h4 : ∀ i, i < 5 → I' (200 + (5 * p + i)) = I (200 + (5 * p + i)) ∧ I' (100 + (5 * p + i)) = I (100 + (5 * p + i)) ∧ A' (100 + (5 * p + i)) = A (100 + (5 * p + i))) : CvOk I' A' p := by
  obtain ⟨g1, g2, nm, N, dp, v, g3, g4, g5, g6, g7, g8⟩ := h
  refine ⟨by rw [h1]; exact g1, by rw [h1, h2]; exact g2, nm, N, dp, v, by rw [h3]; exact g3, g4, by rw [h2]; exact g5, g6, g7.congr (fun i hi => ⟨(h4 i (by omega)).1, (h4 i (by omega)).2.1⟩) (fun i hi => (h4 i (by omega)).2.2), g8⟩
theorem CvOk.oth {I I' : Nat → Int} {A A' : Nat → Nat → Int} {p p0 : Nat} (h : CvOk I A p) (hp : p < 12) (hp0 : p0 < 12) (hn : p ≠ p0) (ho : Oth p0 I A I' A') : CvOk I' A' p := by
  obtain ⟨o1, o2⟩ := ho
  exact h.congr hp (o2 _ (Or.inr (Or.inr ⟨by omega, by omega, fun j hj => by omega⟩))) (o2 _ (Or.inr (Or.inr ⟨by omega, by omega, fun j hj => by omega⟩))) (o1 _ (Or.inr ⟨by omega, by omega, by omega, fun j hj => by omega⟩)) (fun i hi => ⟨o1 _ (Or.inr ⟨by omega, by omega, by omega, fun j hj => by omega⟩), o1 _ (Or.inr ⟨by omega, by omega, by omega, fun j hj => by omega⟩), o2 _ (Or.inr (Or.inr ⟨by omega, by omega, fun j hj => by omega⟩))⟩)
theorem GIv.oth {I I' : Nat → Int} {A A' : Nat → Nat → Int} {p0 : Nat} (h : GIv I A) (hp : p0 < 12) (ho : Oth p0 I A I' A') (hc : I' (20 + p0) = 0 ∨ (I' (20 + p0) = 1 ∧ CvOk I' A' p0)) : GIv I' A' := by
  obtain ⟨h1, h2, h3⟩ := h
  refine ⟨by rw [ho.1 0 (Or.inl (by omega))]; exact h1, fun p hp1 j hj => ?_, fun p hp1 => ?_⟩
  · rw [ho.2 (20 + p) (Or.inr (Or.inr ⟨by omega, by omega, fun j hj => by omega⟩))]; exact h2 p hp1 j hj
  · by_cases c : p = p0
    · rw [c]; exact hc
    · rw [ho.1 (20 + p) (Or.inr ⟨by omega, by omega, by omega, fun j hj => by omega⟩)]
      rcases h3 p hp1 with h4 | ⟨h4, h5⟩
      · exact Or.inl h4
      · exact Or.inr ⟨h4, h5.oth hp1 hp c ho⟩
set_option maxHeartbeats 8000000 in
set_option maxRecDepth 100000 in
theorem c_RR_ready (l : Launch) (D : va_G) (cs : Nat → ClassId) (L : List Nat) (f : Nat → va_E) (sz : Nat) (ad Qm : Nat → Nat) (If : Nat → Int) (Af : Nat → Nat → Int) (Rf : Nat → Nat) (Zf : Nat → Int) (p0 : Nat) (hAd : AdOk L ad Qm) (hC : CSt cs ad Qm f If Af Rf Zf) (hG : GIv If Af) (hpk : (p0 : Int) < If 0) : Met l (⟨"RealRoots", "ready", "(I)I"⟩ : MethodName) (.code (⟨"RealRoots", "ready", "(I)I"⟩ : MethodName) prog_1_method_40_code 3 (Option.some Jvm.ClassFile.FieldType.int) :: gw) ({ frames := 6, cells := 0, slots := 0, locals := 300 }) (va_Pc [.ref ((ad 0)), .int (iI ((p0 : Int)))] (K0 D vwCl (TY cs) L f sz)) (va_Qi (fun (r : Int32) (g : Nat → va_E) => ∃ (I' : Nat → Int) (A' : Nat → Nat → Int) (R' : Nat → Nat) (Z' : Nat → Int), CSt cs ad Qm g I' A' R' Z' ∧ (∀ k, Awy ad k → g k = f k) ∧ GIv I' A' ∧ Oth p0 If Af I' A' ∧ (((∀ j, j < 6 → Af (20 + p0) j = 0) ∧ r = iI (-1)) ∨ (Nz (Af (20 + p0)) ∧ I' (20 + p0) = 1 ∧ r = iI (I' (40 + p0)))) ∧ ((If (20 + p0) = 1 ∨ ∀ j, j < 6 → Af (20 + p0) j = 0) → (∀ i, I' i = If i) ∧ ∀ q, A' q = Af q)) (K1 D vwCl (TY cs) (AL L sz) L) (AL L sz)) 0 0 (AL L sz) := by
  refine Met.ofW (cc := prog_1_method_40_code) (maxL := 3) (ret := (Option.some Jvm.ClassFile.FieldType.int)) (by decide) rfl ?_
  intro p e s m args below meth c s₁ Bd hml hv
  obtain ⟨rfl, hk0⟩ := hv
  obtain ⟨hsz, B⟩ := hk0.start
  subst hsz
  have hx := Bd.exec
  have hb := Bd.bytes
  have hr := Bd.returns
  have hlocks := Bd.notSynchronized
  have hts0 := atoms_spec Bd.pre
  have hown : s.vm.findClass RX6 = some m.cls := findClass_of_methodNamed Bd.named
  have hA : ∀ q, s.heap.size ≤ q → AL L s.heap.size q := fun _ h => Or.inr h
  have hl := lv_entry ([.ref ((ad 0)), .int (iI ((p0 : Int)))]) (n := 3) (Nat.le_of_ble_eq_true rfl)
  rw [lg_entry_eq]
  generalize (lg_sl ([.ref ((ad 0)), .int (iI ((p0 : Int)))]) ++ List.replicate (3 - (lg_sl ([.ref ((ad 0)), .int (iI ((p0 : Int)))])).length) Slot.unset).toArray = ls at hl ⊢
  refine absQ (fun Q R av hQ hR hav => ?_)
  have hts : ∀ w ∈ gw, w.before av s = true := by rw [hav]; exact fun w h => hts0 w (List.mem_cons_of_mem _ h)
  have hRf : R.frames = 6 := by rw [hR]; rfl
  have hRl : R.locals = 300 := by rw [hR]; rfl
  have hRc : R.cells = 0 := by rw [hR]; rfl
  have hRs : R.slots = 0 := by rw [hR]; rfl
  clear hR hts0 Bd
  have hl : lv_has ls 3 [(0, .ref ((ad 0))), (1, .int (iI ((p0 : Int))))] := hl
  have hfr : ∀ k, Awy ad k → f k = f k := fun _ _ => rfl
  have hhd := hG.1
  have hp12 : p0 < 12 := by omega
  have hp0 := hp12
  have hVM := hG.2.1 p0 hp12
  refine lv_aload_n hx hb d_RR_ready_0 rfl (lv_at hl 0 rfl) ?_
  refine lv_iload_n hx hb d_RR_ready_1 rfl (lv_at hl 1 rfl) ?_
  refine x_calli B hA (va_runV (As := [.int (iI ((p0 : Int)))]) (rest := []) ⟨hx, hb, hml, hown, hts⟩ (c_RR_unknown l D cs _ _ _ (ad 0) (ad 1) (ad 2) (ad 5) (ad 7) (ad 8) (ad 9) (ad 10) (ad 11) (ad 12) (ad 13) (ad 14) (If 0) (If 1) (If 2) ((p0 : Int)) (hAd.f1 (by decide)) hC.x (hhd) (by omega)) (cwV 1 hts (gw_V w_261 w_263 s_3 w_1 w_264) rfl rfl rfl (by decide +kernel) ⟨by rw [hRf]; exact Nat.le_of_ble_eq_true rfl, by rw [hRl]; exact Nat.le_of_ble_eq_true rfl⟩) ⟨K0.blind, B.recv (hAd.1 _ (by omega)) (hC.x) rfl, B.pre _⟩ rfl rfl hl.1 rfl (lv_room (Nat.le_of_ble_eq_true rfl)) d_RR_ready_2 ⟨by rw [hRc]; omega, by rw [hRs]; omega⟩) (fun r2 g2 H locs hw B => ?_)
  obtain ⟨rfl, hgf⟩ := hw
  rw [hgf] at B
  rw [if_neg (by omega)]
  refine x_if_ne (tgt := 24) hx hb d_RR_ready_5 (by decide) (by omega) (fun h5 => ?_) (fun h5 => ?_)
  · exfalso; omega
  · refine lv_aload_n hx hb d_RR_ready_8 rfl (lv_at hl 0 rfl) ?_
    refine x_get (C := RX6) (T := TX6) (N := 14) hx hb hts inX6 hown (B.foc1 (hC.x)) (hAd.f1 (by omega)) 0 rfl rfl 0 (by decide) (hts _ w_197) (fun _ h9 => h9) rfl d_RR_ready_9 ?_
    refine lv_iload_n hx hb d_RR_ready_12 rfl (lv_at hl 1 rfl) ?_
    refine x_aald hx hb (B.foc1 (hC.c0)) (hAd.f1 (by omega)) 0 4 rfl rfl p0 (by omega) (by omega) (by decide) (rfs_at (by omega)) d_RR_ready_13 ?_
    refine x_get (C := RX2) (T := TX2) (N := 5) hx hb hts inX2 hown (B.foc1 (hC.cu (p := p0) (by omega))) (hAd.f1 (by omega)) 0 rfl rfl 0 (by decide) (hts _ w_177) (fun _ h9 => h9) rfl d_RR_ready_14 ?_
    refine x_calli B hA (va_runS (As := [.ref ((ad (27 + p0)))]) (rest := []) ⟨hx, hb, hml, hown, hts⟩ (c_RR_topOf l D cs _ _ _ (ad (27 + p0)) (Af (20 + p0)) (hAd.f1 (by have := ((Ar.va hp0)).lt; omega)) (hC.ar (Ar.va hp0)) (fun j hj => by have := hVM j hj; omega)) (va_cwS 1 hts (gw_S w_273 w_274 w_1 w_275) rfl rfl rfl (by decide +kernel) ⟨by rw [hRf]; exact Nat.le_of_ble_eq_true rfl, by rw [hRl]; exact Nat.le_of_ble_eq_true rfl⟩) ⟨K0.blind, B.pre _⟩ rfl rfl hl.1 rfl (lv_room (Nat.le_of_ble_eq_true rfl)) d_RR_ready_17 ⟨by rw [hRc]; omega, by rw [hRs]; omega⟩) (fun r17 g17 H locs hw B => ?_)
    obtain ⟨kt, rfl, hkt6, hktz, hktl, hgf⟩ := hw
    rw [hgf] at B
    refine x_iconst hx hb d_RR_ready_20 ?_
    refine x_icmp_ne (tgt := 26) hx hb d_RR_ready_21 (by decide) (by omega) (by omega) (fun h21 => ?_) (fun h21 => ?_)
    · have hVN : Nz (Af (20 + p0)) := by rcases Nat.eq_zero_or_pos kt with h | h; omega; exact ⟨kt - 1, by omega, hktl h⟩
      have hst := hG.2.2 p0 hp12
      have hst01 : If (20 + p0) = 0 ∨ If (20 + p0) = 1 := by rcases hst with h | ⟨h, _⟩; exact Or.inl h; exact Or.inr h
      refine lv_aload_n hx hb d_RR_ready_26 rfl (lv_at hl 0 rfl) ?_
      refine x_get (C := RX6) (T := TX6) (N := 14) hx hb hts inX6 hown (B.foc1 (hC.x)) (hAd.f1 (by omega)) 0 rfl rfl 0 (by decide) (hts _ w_197) (fun _ h9 => h9) rfl d_RR_ready_27 ?_
      refine lv_iload_n hx hb d_RR_ready_30 rfl (lv_at hl 1 rfl) ?_
      refine x_aald hx hb (B.foc1 (hC.c0)) (hAd.f1 (by omega)) 0 4 rfl rfl p0 (by omega) (by omega) (by decide) (rfs_at (by omega)) d_RR_ready_31 ?_
      refine lv_astore_n (lv' := [(2, .ref ((ad (15 + p0)))), (0, .ref ((ad 0))), (1, .int (iI ((p0 : Int))))]) hx hb d_RR_ready_32 rfl hl (by decide) rfl (fun ls hl => ?_)
      refine lv_aload_n hx hb d_RR_ready_33 rfl (lv_at hl 0 rfl) ?_
      refine x_get (C := RX2) (T := TX2) (N := 5) hx hb hts inX2 hown (B.foc1 (hC.cu (p := p0) (by omega))) (hAd.f1 (by omega)) 0 rfl rfl 3 (by decide) (hts _ w_183) (fun _ h9 => h9) rfl d_RR_ready_34 ?_
      refine x_if_ne (tgt := 108) hx hb d_RR_ready_37 (by decide) (by omega) (fun h37 => ?_) (fun h37 => ?_)
      · refine lv_aload_n hx hb d_RR_ready_108 rfl (lv_at hl 0 rfl) ?_
        refine x_get (C := RX2) (T := TX2) (N := 5) hx hb hts inX2 hown (B.foc1 (hC.cu (p := p0) (by omega))) (hAd.f1 (by omega)) 0 rfl rfl 4 (by decide) (hts _ w_185) (fun _ h9 => h9) rfl d_RR_ready_109 ?_
        subst hQ hav
        exact x_iret hx hb hr hlocks B d_RR_ready_112 (⟨If, Af, Rf, Zf, hC, hfr, hG, ⟨fun i _ => rfl, fun q _ => rfl⟩, Or.inr ⟨hVN, by omega, rfl⟩, fun _ => ⟨fun _ => rfl, fun _ => rfl⟩⟩)
      · refine lv_aload_n hx hb d_RR_ready_40 rfl (lv_at hl 1 rfl) ?_
        refine lv_aload_n hx hb d_RR_ready_41 rfl (lv_at hl 0 rfl) ?_
        refine x_get (C := RX2) (T := TX2) (N := 5) hx hb hts inX2 hown (B.foc1 (hC.cu (p := p0) (by omega))) (hAd.f1 (by omega)) 0 rfl rfl 0 (by decide) (hts _ w_177) (fun _ h9 => h9) rfl d_RR_ready_42 ?_
        refine x_callv B hA (va_runV (As := [.ref ((ad (27 + p0)))]) (rest := []) ⟨hx, hb, hml, hown, hts⟩ (c_RR_withoutRepeats l D cs _ _ _ ad Qm If Af Rf Zf (27 + p0) (20 + p0) hAd hC (Ar.va hp0) (by omega) (by omega) hVM hVN hhd) (cwV 1 hts (gw_V w_350 w_352 s_11 w_1 w_353) rfl rfl rfl (by decide +kernel) ⟨by rw [hRf]; exact Nat.le_of_ble_eq_true rfl, by rw [hRl]; exact Nat.le_of_ble_eq_true rfl⟩) ⟨K0.blind, B.recv (hAd.1 _ (by omega)) (hC.x) rfl, B.pre _⟩ rfl rfl hl.1 rfl (lv_room (Nat.le_of_ble_eq_true rfl)) d_RR_ready_45 ⟨by rw [hRc]; omega, by rw [hRs]; omega⟩) (fun g45 H locs hw B => ?_)
        obtain ⟨Iq, Aq, Rq, Zq, hCq, hqq, hfr0, hz6, hIo1, hAo1⟩ := hw
        have hfrq : ∀ k, Awy ad k → g45 k = f k := fun k hk => (hqq k hk).trans (hfr k hk)
        have B : Wb D vwCl (TY cs) L g45 (AL L s.heap.size) s H _ := B
        have hI0q : Iq 0 = If 0 := hIo1 0 (by decide)
        refine lv_aload_n hx hb d_RR_ready_48 rfl (lv_at hl 1 rfl) ?_
        refine lv_aload_n hx hb d_RR_ready_49 rfl (lv_at hl 0 rfl) ?_
        refine x_get (C := RX2) (T := TX2) (N := 5) hx hb hts inX2 hown (B.foc1 (hCq.cu (p := p0) (by omega))) (hAd.f1 (by omega)) 0 rfl rfl 1 (by decide) (hts _ w_179) (fun _ h9 => h9) rfl d_RR_ready_50 ?_
        refine x_callv B hA (va_runV (As := [.ref ((ad (39 + p0)))]) (rest := []) ⟨hx, hb, hml, hown, hts⟩ (c_RR_narrow l D cs _ _ _ (ad 0) (ad 1) (ad 2) (ad 5) (ad 7) (ad 8) (ad 9) (ad 10) (ad 11) (ad 12) (ad 13) (ad 14) (Iq 0) (Iq 1) (Iq 2) (ad (39 + p0)) (Aq 0) (Aq (40 + p0)) (hAd.fc [0, 8, 39 + p0] (by have := ((Ar.fr hp0)).lt; simp only [List.nodup_cons, List.mem_cons, List.not_mem_nil, or_false, not_or, List.nodup_nil, and_true, not_false_eq_true]; omega) (by have := ((Ar.fr hp0)).lt; intro q hq; simp only [List.mem_cons, List.not_mem_nil, or_false] at hq; omega)) hCq.x (by rw [hI0q]; exact hhd) hCq.wide (hCq.ar (Ar.fr hp0))) (cwV 1 hts (gw_V w_253 w_255 s_2 w_1 w_256) rfl rfl rfl (by decide +kernel) ⟨by rw [hRf]; exact Nat.le_of_ble_eq_true rfl, by rw [hRl]; exact Nat.le_of_ble_eq_true rfl⟩) ⟨K0.blind, B.recv (hAd.1 _ (by omega)) (hCq.x) rfl, B.pre _⟩ rfl rfl hl.1 rfl (lv_room (Nat.le_of_ble_eq_true rfl)) d_RR_ready_53 ⟨by rw [hRc]; omega, by rw [hRs]; omega⟩) (fun g53 H locs hw B => ?_)
        obtain rfl := hw
        have B : Wb D vwCl (TY cs) L (mw g45 [((ad (39 + p0)), .inl (cs 0, 6, .inl (ai (cf 6 (Aq 0) (Aq (40 + p0))))))]) (AL L s.heap.size) s H _ := B
        obtain ⟨f_53, hf_53⟩ : ∃ f_53, f_53 = mw g45 [((ad (39 + p0)), .inl (cs 0, 6, .inl (ai (cf 6 (Aq 0) (Aq (40 + p0))))))] := ⟨_, rfl⟩
        rw [← hf_53] at B
        obtain ⟨A_53, hA_53⟩ : ∃ A_53, A_53 = upA Aq (40 + p0) (cf 6 (Aq 0) (Aq (40 + p0))) := ⟨_, rfl⟩
        have hC_53 : CSt cs ad Qm f_53 Iq A_53 Rq Zq := by rw [hf_53, hA_53]; exact CSt.wAr hAd hCq (Ar.fr hp0) _
        have hfr_53 : ∀ k, Awy ad k → f_53 k = f k := fun k hk => Eq.trans (by rw [hf_53]; exact hk.mw1 (by omega)) (hfrq k hk)
        have hAV : A_53 (20 + p0) = Af (20 + p0) := by rw [hA_53, upA_ne _ _ (by omega), hAo1 _ (by omega) (by omega) (by omega) (by omega)]
        have hfree : FreeOf (Af (20 + p0)) (A_53 (40 + p0)) := hfr0.congr (fun j _ => rfl) (fun j hj => by rw [hA_53, upA_self]; show cf 6 (Aq 0) (Aq (40 + p0)) j = Aq 0 j; unfold cf; rw [if_pos (by omega)])
        obtain ⟨⟨p1, hPart⟩, hcgF, hleadF⟩ := FreeOf.part hVN hVM hfree
        have hFb := fac_all hPart.1 hPart.2.1 hPart.2.2.2.choose_spec
        obtain ⟨N, hNB⟩ := NB.ex hPart.2.2.1.1
        clear hleadF
        refine lv_aload_n hx hb d_RR_ready_56 rfl (lv_at hl 1 rfl) ?_
        refine lv_aload_n hx hb d_RR_ready_57 rfl (lv_at hl 0 rfl) ?_
        refine x_get (C := RX2) (T := TX2) (N := 5) hx hb hts inX2 hown (B.foc1 (hC_53.cu (p := p0) (by omega))) (hAd.f1 (by omega)) 0 rfl rfl 1 (by decide) (hts _ w_179) (fun _ h9 => h9) rfl d_RR_ready_58 ?_
        refine x_callv B hA (va_runV (As := [.ref ((ad (39 + p0)))]) (rest := []) ⟨hx, hb, hml, hown, hts⟩ (c_RR_signRow l D cs _ _ _ ad Qm Iq A_53 Rq Zq (39 + p0) (40 + p0) hAd hC_53 (Ar.fr hp0) (by omega) hFb hPart.2.2.1.1) (cwV 1 hts (gw_V w_374 w_376 s_15 w_1 w_377) rfl rfl rfl (by decide +kernel) ⟨by rw [hRf]; exact Nat.le_of_ble_eq_true rfl, by rw [hRl]; exact Nat.le_of_ble_eq_true rfl⟩) ⟨K0.blind, B.recv (hAd.1 _ (by omega)) (hC_53.x) rfl, B.pre _⟩ rfl rfl hl.1 rfl (lv_room (Nat.le_of_ble_eq_true rfl)) d_RR_ready_61 ⟨by rw [hRc]; omega, by rw [hRs]; omega⟩) (fun g61 H locs hw B => ?_)
        obtain ⟨Is, As, Rs, Zs, hCs, hqs, hchs, hIs3, hAs1⟩ := hw
        have hfrs : ∀ k, Awy ad k → g61 k = f k := fun k hk => (hqs k hk).trans (hfr_53 k hk)
        have B : Wb D vwCl (TY cs) L g61 (AL L s.heap.size) s H _ := B
        have hAFs : As (40 + p0) = A_53 (40 + p0) := hAs1 _ (by omega) (by omega)
        have hAVs : As (20 + p0) = Af (20 + p0) := (hAs1 _ (by omega) (by omega)).trans hAV
        rw [← hAFs] at hfree hPart hFb hNB hchs
        have hch0 : ChF (As (40 + p0)) Is As Rs Zs := hchs
        refine lv_aload_n hx hb d_RR_ready_64 rfl (lv_at hl 0 rfl) ?_
        refine x_iconst hx hb d_RR_ready_65 ?_
        refine x_iconst hx hb d_RR_ready_66 ?_
        refine lv_aload_n hx hb d_RR_ready_67 rfl (lv_at hl 1 rfl) ?_
        refine x_get (C := RX6) (T := TX6) (N := 14) hx hb hts inX6 hown (B.foc1 (hCs.x)) (hAd.f1 (by omega)) 0 rfl rfl 2 (by decide) (hts _ w_199) (fun _ h9 => h9) rfl d_RR_ready_68 ?_
        refine x_iconst hx hb d_RR_ready_71 ?_
        obtain ⟨Gf72, hG1f72, hG2f72⟩ := hCs.2.1
        have hcxf72 := hch0
        obtain ⟨nf72, hI3f72, hSsf72, hTpf72, hBtf72⟩ := hcxf72
        refine x_calli B hA (va_runV (As := [.int (iI (-1))]) (rest := [.int (iI 0), .int (iI 5), .ref ((ad (15 + p0)))]) ⟨hx, hb, hml, hown, hts⟩ (c_Chain_turnsFar_l l D cs _ _ _ (ad 2) (ad 3) (ad 4) (Rs 42) (ad 226) nf72 (Is 4) (Is 5) (As 7) (fun k => (As 7 k).toNat) Gf72 Rs (Bg ad) Qm Zs (hAd.fc [2, 3, 4] (by simp only [List.nodup_cons, List.mem_cons, List.not_mem_nil, or_false, not_or, List.nodup_nil, and_true, not_false_eq_true]; omega) (by intro q hq; simp only [List.mem_cons, List.not_mem_nil, or_false] at hq; omega)) (by rw [← hI3f72]; exact hCs.ch) hG2f72 hCs.tq ⟨hSsf72.1, hSsf72.2.1⟩ (fun k hk => (tops_dg hTpf72 k hk).1) hG1f72 (fun t ht => (hCs.rck ht).bg) (fun k hk => (tops_dg hTpf72 k hk).2) hAd.sp hCs.2.2.1 (hAd.outs [2, 3, 4] (by intro q hq; simp only [List.mem_cons, List.not_mem_nil, or_false] at hq; omega))) (cwV 1 hts (gw_V w_378 w_379 w_380 w_2 w_381) rfl rfl rfl (by decide +kernel) ⟨by rw [hRf]; exact Nat.le_of_ble_eq_true rfl, by rw [hRl]; exact Nat.le_of_ble_eq_true rfl⟩) ⟨K0.blind, B.recv (hAd.1 _ (by omega)) (hCs.ch) rfl, B.pre _⟩ rfl rfl hl.1 rfl (lv_room (Nat.le_of_ble_eq_true rfl)) d_RR_ready_72 ⟨by rw [hRc]; omega, by rw [hRs]; omega⟩) (fun r72 g72 H locs hw B => ?_)
        obtain ⟨rfl, hgf⟩ := hw
        rw [hgf] at B
        obtain ⟨ta, hta⟩ : ∃ ta : Int, ta = tn (fun k => sgL (ChRow Rs Zs k)) nf72 := ⟨_, rfl⟩
        have htae : tn (fun k => sgL (fun j => Zs (Rs (6 * k + j)))) nf72 = ta := hta.symm
        rw [htae]
        have htar : 0 ≤ ta ∧ ta ≤ 6 := by rw [hta]; have h8 := tn_range (fun k => sgL (ChRow Rs Zs k)) nf72; have h9 := hSsf72.2.1; omega
        refine lv_aload_n hx hb d_RR_ready_75 rfl (lv_at hl 1 rfl) ?_
        refine x_get (C := RX6) (T := TX6) (N := 14) hx hb hts inX6 hown (B.foc1 (hCs.x)) (hAd.f1 (by omega)) 0 rfl rfl 2 (by decide) (hts _ w_199) (fun _ h9 => h9) rfl d_RR_ready_76 ?_
        refine x_iconst hx hb d_RR_ready_79 ?_
        obtain ⟨Gf80, hG1f80, hG2f80⟩ := hCs.2.1
        have hcxf80 := hch0
        obtain ⟨nf80, hI3f80, hSsf80, hTpf80, hBtf80⟩ := hcxf80
        refine x_calli B hA (va_runV (As := [.int (iI 1)]) (rest := [.int (iI ta), .int (iI 0), .int (iI 5), .ref ((ad (15 + p0)))]) ⟨hx, hb, hml, hown, hts⟩ (c_Chain_turnsFar_r l D cs _ _ _ (ad 2) (ad 3) (ad 4) (Rs 42) (ad 226) nf80 (Is 4) (Is 5) (As 7) (fun k => (As 7 k).toNat) Gf80 Rs (Bg ad) Qm Zs (hAd.fc [2, 3, 4] (by simp only [List.nodup_cons, List.mem_cons, List.not_mem_nil, or_false, not_or, List.nodup_nil, and_true, not_false_eq_true]; omega) (by intro q hq; simp only [List.mem_cons, List.not_mem_nil, or_false] at hq; omega)) (by rw [← hI3f80]; exact hCs.ch) hG2f80 hCs.tq ⟨hSsf80.1, hSsf80.2.1⟩ (fun k hk => (tops_dg hTpf80 k hk).1) hG1f80 (fun t ht => (hCs.rck ht).bg) (fun k hk => (tops_dg hTpf80 k hk).2) hAd.sp hCs.2.2.1 (hAd.outs [2, 3, 4] (by intro q hq; simp only [List.mem_cons, List.not_mem_nil, or_false] at hq; omega))) (cwV 1 hts (gw_V w_378 w_379 w_380 w_2 w_381) rfl rfl rfl (by decide +kernel) ⟨by rw [hRf]; exact Nat.le_of_ble_eq_true rfl, by rw [hRl]; exact Nat.le_of_ble_eq_true rfl⟩) ⟨K0.blind, B.recv (hAd.1 _ (by omega)) (hCs.ch) rfl, B.pre _⟩ rfl rfl hl.1 rfl (lv_room (Nat.le_of_ble_eq_true rfl)) d_RR_ready_80 ⟨by rw [hRc]; omega, by rw [hRs]; omega⟩) (fun r80 g80 H locs hw B => ?_)
        obtain ⟨rfl, hgf⟩ := hw
        rw [hgf] at B
        obtain ⟨tb, htb⟩ : ∃ tb : Int, tb = tn (fun k => sgR (ChRow Rs Zs k)) nf80 := ⟨_, rfl⟩
        have htbe : tn (fun k => sgR (fun j => Zs (Rs (6 * k + j)))) nf80 = tb := htb.symm
        rw [htbe]
        have htbr : 0 ≤ tb ∧ tb ≤ 6 := by rw [htb]; have h8 := tn_range (fun k => sgR (ChRow Rs Zs k)) nf80; have h9 := hSsf80.2.1; omega
        refine x_isub hx hb d_RR_ready_83 ?_
        refine x_calli B hA (va_runS (As := [.int (iI 0), .int (iI (ta - tb))]) (rest := [.int (iI 5), .ref ((ad (15 + p0)))]) ⟨hx, hb, hml, hown, hts⟩ (c_Math_max l D cs _ _ _ 0 (ta - tb) (by omega) (by omega)) (va_cwS 2 hts (gw_S w_382 w_383 w_9 w_384) rfl rfl rfl (by decide +kernel) ⟨by rw [hRf]; exact Nat.le_of_ble_eq_true rfl, by rw [hRl]; exact Nat.le_of_ble_eq_true rfl⟩) ⟨K0.blind, B.pre _⟩ rfl rfl hl.1 rfl (lv_room (Nat.le_of_ble_eq_true rfl)) d_RR_ready_84 ⟨by rw [hRc]; omega, by rw [hRs]; omega⟩) (fun r84 g84 H locs hw B => ?_)
        obtain ⟨rfl, hgf⟩ := hw
        rw [hgf] at B
        refine x_calli B hA (va_runS (As := [.int (iI 5), .int (iI (max 0 (ta - tb)))]) (rest := [.ref ((ad (15 + p0)))]) ⟨hx, hb, hml, hown, hts⟩ (c_Math_min l D cs _ _ _ 5 (max 0 (ta - tb)) (by omega) (by omega)) (va_cwS 2 hts (gw_S w_385 w_386 w_9 w_387) rfl rfl rfl (by decide +kernel) ⟨by rw [hRf]; exact Nat.le_of_ble_eq_true rfl, by rw [hRl]; exact Nat.le_of_ble_eq_true rfl⟩) ⟨K0.blind, B.pre _⟩ rfl rfl hl.1 rfl (lv_room (Nat.le_of_ble_eq_true rfl)) d_RR_ready_87 ⟨by rw [hRc]; omega, by rw [hRs]; omega⟩) (fun r87 g87 H locs hw B => ?_)
        obtain ⟨rfl, hgf⟩ := hw
        rw [hgf] at B
        obtain ⟨hl1, hl2, hl3⟩ := free_total hVN hVM hfree hSsf72 hNB
        have hnn : nf72 = nf80 := by have h1 := hI3f72; have h2 := hI3f80; omega
        rw [show tn (fun k => sgR (ChRow Rs Zs k)) nf72 = tb by rw [hnn]; exact htb.symm, ← hta] at hl1 hl2 hl3
        obtain ⟨nm, hnm0⟩ : ∃ nm : Nat, ta - tb = (nm : Int) := ⟨(ta - tb).toNat, by omega⟩
        rw [show min 5 (max 0 (ta - tb)) = (nm : Int) by omega]
        refine x_put (C := RX2) (T := TX2) (N := 5) hx hb hts inX2 tyX2 tyX2_ok nmX2 hown (B.foc1 (hCs.cu (p := p0) (by omega))) (hAd.f1 (by omega)) 0 rfl rfl 4 (by decide) (hts _ w_185) (fun _ h9 => h9) rfl (tyX2_ok 4 (by decide)) rfl rfl (Nat.le_of_ble_eq_true rfl) d_RR_ready_90 (fun H locs B => ?_)
        have B : Wb D vwCl (TY cs) L (mw g61 [((ad (15 + p0)), .inr (2, [.ref (ad (27 + p0)), .ref (ad (39 + p0)), .ref (ad (51 + p0)), .int (iI (Is (20 + p0))), .int (iI ((nm : Int)))]))]) (AL L s.heap.size) s H _ := B
        obtain ⟨f_90, hf_90⟩ : ∃ f_90, f_90 = mw g61 [((ad (15 + p0)), .inr (2, [.ref (ad (27 + p0)), .ref (ad (39 + p0)), .ref (ad (51 + p0)), .int (iI (Is (20 + p0))), .int (iI ((nm : Int)))]))] := ⟨_, rfl⟩
        rw [← hf_90] at B
        obtain ⟨I_90, hI_90⟩ : ∃ I_90, I_90 = up Is (40 + p0) ((nm : Int)) := ⟨_, rfl⟩
        have hC_90 : CSt cs ad Qm f_90 I_90 As Rs Zs := by rw [hf_90, hI_90]; exact CSt.w_many hAd hCs (p := p0) (by omega) ((nm : Int))
        have hfr_90 : ∀ k, Awy ad k → f_90 k = f k := fun k hk => Eq.trans (by rw [hf_90]; exact hk.mw1 (by omega)) (hfrs k hk)
        have hIm := hI_90
        refine lv_aload_n hx hb d_RR_ready_93 rfl (lv_at hl 1 rfl) ?_
        refine lv_aload_n hx hb d_RR_ready_94 rfl (lv_at hl 0 rfl) ?_
        refine x_callv B hA (va_runV (As := [.ref ((ad (15 + p0)))]) (rest := []) ⟨hx, hb, hml, hown, hts⟩ (c_RR_findWholes l D cs _ _ _ ad Qm I_90 As Rs Zs p0 nm N hAd hC_90 hp0 (by rw [hI_90, up_self]) (by omega) (by rw [hAVs]; exact hVM) (by rw [hAVs]; exact hVN) (by rw [hAVs]; exact hfree) hPart.2.2.1 hNB (by rw [hl3]; exact hnm0) (hch0.keep (by rw [hI_90, up_ne _ _ (by omega)]) rfl (fun _ _ => rfl))) (cwV 1 hts (gw_V w_388 w_390 s_16 w_1 w_391) rfl rfl rfl (by decide +kernel) ⟨by rw [hRf]; exact Nat.le_of_ble_eq_true rfl, by rw [hRl]; exact Nat.le_of_ble_eq_true rfl⟩) ⟨K0.blind, B.recv (hAd.1 _ (by omega)) (hC_90.x) rfl, B.pre _⟩ rfl rfl hl.1 rfl (lv_room (Nat.le_of_ble_eq_true rfl)) d_RR_ready_95 ⟨by rw [hRc]; omega, by rw [hRs]; omega⟩) (fun g95 H locs hw B => ?_)
        obtain ⟨It, At, Rt, Zt, hCt, hqt, ⟨vf, hPf⟩, hchf, hIfo, hAfo⟩ := hw
        have hfrt : ∀ k, Awy ad k → g95 k = f k := fun k hk => (hqt k hk).trans (hfr_90 k hk)
        have B : Wb D vwCl (TY cs) L g95 (AL L s.heap.size) s H _ := B
        have hAFt : At (40 + p0) = As (40 + p0) := hAfo _ (by omega) (by omega) (fun j hj => by omega)
        refine lv_aload_n hx hb d_RR_ready_98 rfl (lv_at hl 1 rfl) ?_
        refine lv_aload_n hx hb d_RR_ready_99 rfl (lv_at hl 0 rfl) ?_
        refine x_callv B hA (va_runV (As := [.ref ((ad (15 + p0)))]) (rest := []) ⟨hx, hb, hml, hown, hts⟩ (c_RR_tellApart l D cs _ _ _ ad Qm It At Rt Zt p0 nm N (fun _ => 0) vf p1 hAd hCt hp0 (by rw [hIfo _ (by omega) (by omega) (fun j hj => by omega), hIm, up_self]) (by omega) hPf (by rw [hAFt]; exact hNB) (by rw [hAFt]; exact hPart) (by rw [hAFt]; exact hchf)) (cwV 1 hts (gw_V w_425 w_427 s_17 w_1 w_428) rfl rfl rfl (by decide +kernel) ⟨by rw [hRf]; exact Nat.le_of_ble_eq_true rfl, by rw [hRl]; exact Nat.le_of_ble_eq_true rfl⟩) ⟨K0.blind, B.recv (hAd.1 _ (by omega)) (hCt.x) rfl, B.pre _⟩ rfl rfl hl.1 rfl (lv_room (Nat.le_of_ble_eq_true rfl)) d_RR_ready_100 ⟨by rw [hRc]; omega, by rw [hRs]; omega⟩) (fun g100 H locs hw B => ?_)
        obtain ⟨Iz, Az, Rz, Zz, hCz, hqz, ⟨dz, vz, hPz, hMz⟩, hchz, hIzo, hAzo⟩ := hw
        have hfrz : ∀ k, Awy ad k → g100 k = f k := fun k hk => (hqz k hk).trans (hfrt k hk)
        have B : Wb D vwCl (TY cs) L g100 (AL L s.heap.size) s H _ := B
        refine lv_aload_n hx hb d_RR_ready_103 rfl (lv_at hl 0 rfl) ?_
        refine x_iconst hx hb d_RR_ready_104 ?_
        refine x_put (C := RX2) (T := TX2) (N := 5) hx hb hts inX2 tyX2 tyX2_ok nmX2 hown (B.foc1 (hCz.cu (p := p0) (by omega))) (hAd.f1 (by omega)) 0 rfl rfl 3 (by decide) (hts _ w_183) (fun _ h9 => h9) rfl (tyX2_ok 3 (by decide)) rfl rfl (Nat.le_of_ble_eq_true rfl) d_RR_ready_105 (fun H locs B => ?_)
        have B : Wb D vwCl (TY cs) L (mw g100 [((ad (15 + p0)), .inr (2, [.ref (ad (27 + p0)), .ref (ad (39 + p0)), .ref (ad (51 + p0)), .int (iI (1)), .int (iI (Iz (40 + p0)))]))]) (AL L s.heap.size) s H _ := B
        obtain ⟨f_105, hf_105⟩ : ∃ f_105, f_105 = mw g100 [((ad (15 + p0)), .inr (2, [.ref (ad (27 + p0)), .ref (ad (39 + p0)), .ref (ad (51 + p0)), .int (iI (1)), .int (iI (Iz (40 + p0)))]))] := ⟨_, rfl⟩
        rw [← hf_105] at B
        obtain ⟨I_105, hI_105⟩ : ∃ I_105, I_105 = up Iz (20 + p0) (1) := ⟨_, rfl⟩
        have hC_105 : CSt cs ad Qm f_105 I_105 Az Rz Zz := by rw [hf_105, hI_105]; exact CSt.w_settled hAd hCz (p := p0) (by omega) (1)
        have hfr_105 : ∀ k, Awy ad k → f_105 k = f k := fun k hk => Eq.trans (by rw [hf_105]; exact hk.mw1 (by omega)) (hfrz k hk)
        have hset : I_105 (20 + p0) = 1 := by rw [hI_105, up_self]
        have hIset : ∀ i, i ≠ 20 + p0 → I_105 i = Iz i := fun i hi => by rw [hI_105, up_ne _ _ hi]
        have hIm2 : ∀ i, i ≠ 40 + p0 → I_90 i = Is i := fun i hi => by rw [hIm, up_ne _ _ hi]
        have hOth : Oth p0 If Af I_105 Az := by
          refine ⟨fun i hi => ?_, fun q hq => ?_⟩
          · have e1 : i ≠ 3 ∧ i ≠ 4 ∧ i ≠ 5 ∧ i ≠ 20 + p0 ∧ i ≠ 40 + p0 := by rcases hi with h | ⟨h1, h2, h3, _⟩ <;> omega
            have e2 : ∀ j, j < 5 → i ≠ 100 + (5 * p0 + j) ∧ i ≠ 200 + (5 * p0 + j) := fun j hj => by rcases hi with h | ⟨_, _, _, h⟩; omega; exact h j hj
            rw [hIset i e1.2.2.2.1, hIzo i e1.2.1 e1.2.2.1 (fun j hj => (e2 j hj).2), hIfo i e1.2.1 e1.2.2.1 e2, hIm2 i e1.2.2.2.2, hIs3 i e1.1, hIo1 i e1.1]
          · have e1 : q ≠ 0 ∧ q ≠ 1 ∧ q ≠ 2 ∧ q ≠ 3 ∧ q ≠ 4 ∧ q ≠ 7 ∧ q ≠ 40 + p0 := by rcases hq with h | h | ⟨h1, h2, _⟩ <;> omega
            have e2 : ∀ j, j < 5 → q ≠ 100 + (5 * p0 + j) := fun j hj => by rcases hq with h | h | ⟨_, _, h⟩; omega; omega; exact h j hj
            rw [hAzo q e2, hAfo q e1.2.2.2.1 e1.2.2.2.2.1 e2, hAs1 q e1.2.1 e1.2.2.2.2.2.1, hA_53, upA_ne _ _ e1.2.2.2.2.2.2, hAo1 q e1.1 e1.2.1 e1.2.2.1 e1.2.2.2.2.2.1]
        have hAFz : Az (40 + p0) = As (40 + p0) := (hAzo _ (fun j hj => by omega)).trans hAFt
        have hAVz : Az (20 + p0) = Af (20 + p0) := hOth.2 _ (Or.inr (Or.inr ⟨by omega, by omega, fun j hj => by omega⟩))
        have hcv : CvOk I_105 Az p0 := ⟨by rw [hAVz]; exact hVN, by rw [hAVz, hAFz]; exact hfree, nm, N, dz, vz, by rw [hIset _ (by omega), hIzo _ (by omega) (by omega) (fun j hj => by omega), hIfo _ (by omega) (by omega) (fun j hj => by omega), hIm, up_self], by omega, by rw [hAFz]; exact hNB, by rw [hl3]; exact hnm0, hPz.congr (fun i hi => ⟨hIset _ (by omega), hIset _ (by omega)⟩) (fun i hi => rfl), hMz⟩
        refine lv_aload_n hx hb d_RR_ready_108 rfl (lv_at hl 0 rfl) ?_
        refine x_get (C := RX2) (T := TX2) (N := 5) hx hb hts inX2 hown (B.foc1 (hC_105.cu (p := p0) (by omega))) (hAd.f1 (by omega)) 0 rfl rfl 4 (by decide) (hts _ w_185) (fun _ h9 => h9) rfl d_RR_ready_109 ?_
        subst hQ hav
        exact x_iret hx hb hr hlocks B d_RR_ready_112 (⟨I_105, Az, Rz, Zz, hC_105, hfr_105, hG.oth hp12 hOth (Or.inr ⟨hset, hcv⟩), hOth, Or.inr ⟨hVN, hset, rfl⟩, fun h => by exfalso; rcases h with h | h; omega; obtain ⟨j, hj, hn⟩ := hVN; exact hn (h j hj)⟩)
    · refine x_iconst hx hb d_RR_ready_24 ?_
      subst hQ hav
      exact x_iret hx hb hr hlocks B d_RR_ready_25 (⟨If, Af, Rf, Zf, hC, hfr, hG, ⟨fun i _ => rfl, fun q _ => rfl⟩, Or.inl ⟨fun j hj => by first | exact hktz j (by omega) hj | (exfalso; omega), rfl⟩, fun _ => ⟨fun _ => rfl, fun _ => rfl⟩⟩)
