theorem CSt.w_held {cs : Nat → ClassId} {L : List Nat} {ad Qm : Nat → Nat} {f : Nat → va_E} {I : Nat → Int} {A : Nat → Nat → Int} {R : Nat → Nat} {Zf : Nat → Int} (hAd : AdOk L ad Qm) (h : CSt cs ad Qm f I A R Zf) (v : Int) : CSt cs ad Qm (mw f [(ad 0, .inr (6, [.ref (ad 1), .int (iI v), .ref (ad 2), .ref (ad 5), .ref (ad 7), .ref (ad 8), .ref (ad 9), .ref (ad 10), .ref (ad 11), .ref (ad 12), .ref (ad 13), .ref (ad 14), .int (iI (I 1)), .int (iI (I 2))]))]) (up I 0 v) A R Zf := CSt.setI hAd h 0 0 v (by decide) (by unfold depI; omega) (by rw [CE_x]; rfl)
theorem Inv.new {I I' : Nat → Int} {A A' : Nat → Nat → Int} {p0 : Nat} (h : Inv I A) (hp : p0 < 12) (h0 : I' 0 = (p0 : Int) + 1) (hI : ∀ i, i ≠ 0 → i ≠ 2 → i ≠ 20 + p0 → I' i = I i) (h2 : I' 2 = 0) (hs : I' (20 + p0) = 0) (hA : ∀ q, q ≠ 20 + p0 → A' q = A q) (hV : ∀ j, j < 6 → -1000 ≤ A' (20 + p0) j ∧ A' (20 + p0) j ≤ 1000) : Inv I' A' := by
  obtain ⟨⟨g1, g2, g3⟩, _⟩ := h
  refine ⟨⟨by rw [h0]; omega, fun p hp j hj => ?_, fun p hp => ?_⟩, Or.inl h2⟩
  · by_cases c : p = p0
    · rw [c]; exact hV j hj
    · rw [hA _ (by omega)]; exact g2 p hp j hj
  · by_cases c : p = p0
    · rw [c]; exact Or.inl hs
    · rw [hI _ (by omega) (by omega) (by omega)]
      rcases g3 p hp with g | ⟨g, gc⟩
      · exact Or.inl g
      · exact Or.inr ⟨g, gc.congr hp (hA _ (by omega)) (hA _ (by omega)) (hI _ (by omega) (by omega) (by omega)) (fun i hi => ⟨hI _ (by omega) (by omega) (by omega), hI _ (by omega) (by omega) (by omega), hA _ (by omega)⟩)⟩
def WOk (w : Nat → Int) (j : Nat) : Prop := (j < 6 → -1000 ≤ w j ∧ w j ≤ 1000) ∧ (6 ≤ j → w j = 0)
set_option maxHeartbeats 8000000 in
set_option maxRecDepth 100000 in
theorem c_RR_degree_c (l : Launch) (D : va_G) (cs : Nat → ClassId) (L : List Nat) (f : Nat → va_E) (sz : Nat) (ad Qm : Nat → Nat) (If : Nat → Int) (Af : Nat → Nat → Int) (Rf : Nat → Nat) (Zf : Nat → Int) (p0 : Nat) (hAd : AdOk L ad Qm) (hC : CSt cs ad Qm f If Af Rf Zf) (hInv : Inv If Af) (hpk : (p0 : Int) < If 0) : Met l (⟨"RealRoots", "degree", "(I)I"⟩ : MethodName) (.code (⟨"RealRoots", "degree", "(I)I"⟩ : MethodName) prog_1_method_6_code 2 (Option.some Jvm.ClassFile.FieldType.int) :: gw) ({ frames := 2, cells := 0, slots := 0, locals := 60 }) (va_Pc [.ref ((ad 0)), .int (iI ((p0 : Int)))] (K0 D vwCl (TY cs) L f sz)) (va_Qi (fun (r : Int32) (g : Nat → va_E) => ∃ (I' : Nat → Int) (A' : Nat → Nat → Int) (R' : Nat → Nat) (Z' : Nat → Int), CSt cs ad Qm g I' A' R' Z' ∧ (∀ k, Awy ad k → g k = f k) ∧ Inv I' A' ∧ SameV If Af I' A' ∧ ∃ kt : Nat, kt ≤ 6 ∧ (∀ j, kt ≤ j → j < 6 → Af (20 + p0) j = 0) ∧ (0 < kt → Af (20 + p0) (kt - 1) ≠ 0) ∧ r = iI ((kt : Int) - 1)) (K1 D vwCl (TY cs) (AL L sz) L) (AL L sz)) 0 0 (AL L sz) := by
  refine Met.ofW (cc := prog_1_method_6_code) (maxL := 2) (ret := (Option.some Jvm.ClassFile.FieldType.int)) (by decide) rfl ?_
  intro p e s m args below meth c s₁ Bd hml hv
  obtain ⟨rfl, hk0⟩ := hv
  obtain ⟨hsz, B⟩ := hk0.start
  subst hsz
  have hx := Bd.exec
  have hb := Bd.bytes
  have hr := Bd.returns
  have hlocks := Bd.notSynchronized
  have hts0 := atoms_spec Bd.pre
  have hown : s.vm.findClass RX6 = some m.cls := findClass_of_methodNamed Bd.named
  have hA : ∀ q, s.heap.size ≤ q → AL L s.heap.size q := fun _ h => Or.inr h
  have hl := lv_entry ([.ref ((ad 0)), .int (iI ((p0 : Int)))]) (n := 2) (Nat.le_of_ble_eq_true rfl)
  rw [lg_entry_eq]
  generalize (lg_sl ([.ref ((ad 0)), .int (iI ((p0 : Int)))]) ++ List.replicate (2 - (lg_sl ([.ref ((ad 0)), .int (iI ((p0 : Int)))])).length) Slot.unset).toArray = ls at hl ⊢
  refine absQ (fun Q R av hQ hR hav => ?_)
  have hts : ∀ w ∈ gw, w.before av s = true := by rw [hav]; exact fun w h => hts0 w (List.mem_cons_of_mem _ h)
  have hRf : R.frames = 2 := by rw [hR]; rfl
  have hRl : R.locals = 60 := by rw [hR]; rfl
  have hRc : R.cells = 0 := by rw [hR]; rfl
  have hRs : R.slots = 0 := by rw [hR]; rfl
  clear hR hts0 Bd
  have hl : lv_has ls 2 [(0, .ref ((ad 0))), (1, .int (iI ((p0 : Int))))] := hl
  have hfr : ∀ k, Awy ad k → f k = f k := fun _ _ => rfl
  have hG0 := hInv.1
  have hhd := hG0.1
  have hp0 : p0 < 12 := by omega
  have hVM := hG0.2.1 p0 hp0
  refine lv_aload_n hx hb d_RR_degree_0 rfl (lv_at hl 0 rfl) ?_
  refine lv_iload_n hx hb d_RR_degree_1 rfl (lv_at hl 1 rfl) ?_
  refine x_calli B hA (va_runV (As := [.int (iI ((p0 : Int)))]) (rest := []) ⟨hx, hb, hml, hown, hts⟩ (c_RR_unknown l D cs _ _ _ (ad 0) (ad 1) (ad 2) (ad 5) (ad 7) (ad 8) (ad 9) (ad 10) (ad 11) (ad 12) (ad 13) (ad 14) (If 0) (If 1) (If 2) ((p0 : Int)) (hAd.f1 (by decide)) hC.x (hhd) (by omega)) (cwV 1 hts (gw_V w_261 w_263 s_3 w_1 w_264) rfl rfl rfl (by decide +kernel) ⟨by rw [hRf]; exact Nat.le_of_ble_eq_true rfl, by rw [hRl]; exact Nat.le_of_ble_eq_true rfl⟩) ⟨K0.blind, B.recv (hAd.1 _ (by omega)) (hC.x) rfl, B.pre _⟩ rfl rfl hl.1 rfl (lv_room (Nat.le_of_ble_eq_true rfl)) d_RR_degree_2 ⟨by rw [hRc]; omega, by rw [hRs]; omega⟩) (fun r2 g2 H locs hw B => ?_)
  obtain ⟨rfl, hgf⟩ := hw
  rw [hgf] at B
  rw [if_neg (by omega)]
  refine x_if_eq (tgt := 13) hx hb d_RR_degree_5 (by decide) (by omega) (fun h5 => ?_) (fun h5 => ?_)
  · refine lv_aload_n hx hb d_RR_degree_13 rfl (lv_at hl 0 rfl) ?_
    refine x_get (C := RX6) (T := TX6) (N := 14) hx hb hts inX6 hown (B.foc1 (hC.x)) (hAd.f1 (by omega)) 0 rfl rfl 0 (by decide) (hts _ w_197) (fun _ h9 => h9) rfl d_RR_degree_14 ?_
    refine lv_iload_n hx hb d_RR_degree_17 rfl (lv_at hl 1 rfl) ?_
    refine x_aald hx hb (B.foc1 (hC.c0)) (hAd.f1 (by omega)) 0 4 rfl rfl p0 (by omega) (by omega) (by decide) (rfs_at (by omega)) d_RR_degree_18 ?_
    refine x_get (C := RX2) (T := TX2) (N := 5) hx hb hts inX2 hown (B.foc1 (hC.cu (p := p0) (by omega))) (hAd.f1 (by omega)) 0 rfl rfl 0 (by decide) (hts _ w_177) (fun _ h9 => h9) rfl d_RR_degree_19 ?_
    refine x_calli B hA (va_runS (As := [.ref ((ad (27 + p0)))]) (rest := []) ⟨hx, hb, hml, hown, hts⟩ (c_RR_topOf l D cs _ _ _ (ad (27 + p0)) (Af (20 + p0)) (hAd.f1 (by have := ((Ar.va hp0)).lt; omega)) (hC.ar (Ar.va hp0)) (fun j hj => by have := hVM j hj; omega)) (va_cwS 1 hts (gw_S w_273 w_274 w_1 w_275) rfl rfl rfl (by decide +kernel) ⟨by rw [hRf]; exact Nat.le_of_ble_eq_true rfl, by rw [hRl]; exact Nat.le_of_ble_eq_true rfl⟩) ⟨K0.blind, B.pre _⟩ rfl rfl hl.1 rfl (lv_room (Nat.le_of_ble_eq_true rfl)) d_RR_degree_22 ⟨by rw [hRc]; omega, by rw [hRs]; omega⟩) (fun r22 g22 H locs hw B => ?_)
    obtain ⟨kt, rfl, hkt6, hktz, hktl, hgf⟩ := hw
    rw [hgf] at B
    subst hQ hav
    exact x_iret hx hb hr hlocks B d_RR_degree_25 (⟨If, Af, Rf, Zf, hC, hfr, hInv, ⟨rfl, fun _ _ => rfl⟩, kt, hkt6, hktz, hktl, rfl⟩)
  · exfalso; omega
set_option maxHeartbeats 8000000 in
set_option maxRecDepth 100000 in
theorem c_RR_keepWide_c (l : Launch) (D : va_G) (cs : Nat → ClassId) (L : List Nat) (f : Nat → va_E) (sz : Nat) (ad Qm : Nat → Nat) (If : Nat → Int) (Af : Nat → Nat → Int) (Rf : Nat → Nat) (Zf : Nat → Int)  (hAd : AdOk L ad Qm) (hC : CSt cs ad Qm f If Af Rf Zf) (hInv : Inv If Af) (hWr : ∀ j, j < 12 → -9223372036854775808 < Af 0 j ∧ Af 0 j < 9223372036854775808) : Met l (⟨"RealRoots", "keepWide", "()I"⟩ : MethodName) (.code (⟨"RealRoots", "keepWide", "()I"⟩ : MethodName) prog_1_method_25_code 4 (Option.some Jvm.ClassFile.FieldType.int) :: gw) ({ frames := 1, cells := 0, slots := 0, locals := 30 }) (va_Pc [.ref ((ad 0))] (K0 D vwCl (TY cs) L f sz)) (va_Qi (fun (r : Int32) (g : Nat → va_E) => ∃ (I' : Nat → Int) (A' : Nat → Nat → Int) (R' : Nat → Nat) (Z' : Nat → Int), CSt cs ad Qm g I' A' R' Z' ∧ (∀ k, Awy ad k → g k = f k) ∧ ((((If 0 = 12 ∨ ∃ j, j < 12 ∧ ¬ WOk (Af 0) j) ∧ r = iI (-4)) ∧ (∀ i, I' i = If i) ∧ ∀ q, A' q = Af q) ∨ ((If 0 < 12 ∧ ∀ j, j < 12 → WOk (Af 0) j) ∧ r = iI (If 0) ∧ Inv I' A' ∧ I' 0 = If 0 + 1 ∧ (∀ j, j < 6 → A' (20 + (If 0).toNat) j = Af 0 j) ∧ ∀ p2, p2 < 12 → p2 ≠ (If 0).toNat → A' (20 + p2) = Af (20 + p2)))) (K1 D vwCl (TY cs) (AL L sz) L) (AL L sz)) 0 0 (AL L sz) := by
  refine Met.ofW (cc := prog_1_method_25_code) (maxL := 4) (ret := (Option.some Jvm.ClassFile.FieldType.int)) (by decide) rfl ?_
  intro p e s m args below meth c s₁ Bd hml hv
  obtain ⟨rfl, hk0⟩ := hv
  obtain ⟨hsz, B⟩ := hk0.start
  subst hsz
  have hx := Bd.exec
  have hb := Bd.bytes
  have hr := Bd.returns
  have hlocks := Bd.notSynchronized
  have hts0 := atoms_spec Bd.pre
  have hown : s.vm.findClass RX6 = some m.cls := findClass_of_methodNamed Bd.named
  have hA : ∀ q, s.heap.size ≤ q → AL L s.heap.size q := fun _ h => Or.inr h
  have hl := lv_entry ([.ref ((ad 0))]) (n := 4) (Nat.le_of_ble_eq_true rfl)
  rw [lg_entry_eq]
  generalize (lg_sl ([.ref ((ad 0))]) ++ List.replicate (4 - (lg_sl ([.ref ((ad 0))])).length) Slot.unset).toArray = ls at hl ⊢
  refine absQ (fun Q R av hQ hR hav => ?_)
  have hts : ∀ w ∈ gw, w.before av s = true := by rw [hav]; exact fun w h => hts0 w (List.mem_cons_of_mem _ h)
  have hRf : R.frames = 1 := by rw [hR]; rfl
  have hRl : R.locals = 30 := by rw [hR]; rfl
  have hRc : R.cells = 0 := by rw [hR]; rfl
  have hRs : R.slots = 0 := by rw [hR]; rfl
  clear hR hts0 Bd
  have hl : lv_has ls 4 [(0, .ref ((ad 0)))] := hl
  have hfr : ∀ k, Awy ad k → f k = f k := fun _ _ => rfl
  have hhd := hInv.1.1
  refine lv_aload_n hx hb d_RR_keepWide_0 rfl (lv_at hl 0 rfl) ?_
  refine x_get (C := RX6) (T := TX6) (N := 14) hx hb hts inX6 hown (B.foc1 (hC.x)) (hAd.f1 (by omega)) 0 rfl rfl 1 (by decide) (hts _ w_198) (fun _ h9 => h9) rfl d_RR_keepWide_1 ?_
  refine x_bipush hx hb d_RR_keepWide_4 (by decide) ?_
  refine x_icmp_lt (tgt := 12) hx hb d_RR_keepWide_6 (by decide) (by omega) (by omega) (fun h6 => ?_) (fun h6 => ?_)
  · refine x_iconst hx hb d_RR_keepWide_12 ?_
    refine lv_istore_n (lv' := [(1, .int (iI 0)), (0, .ref ((ad 0)))]) hx hb d_RR_keepWide_13 rfl hl (by decide) rfl (fun ls hl => ?_)
    have LA : ∀ (fuel : Nat) (fw : Nat → va_E) (Iw : Nat → Int) (Aw : Nat → Nat → Int) (Rw : Nat → Nat) (Zw : Nat → Int) (kk : Nat), 12 - kk < fuel → (CSt cs ad Qm fw Iw Aw Rw Zw) → (∀ k, Awy ad k → fw k = f k) → (kk ≤ 12) → (∀ i, Iw i = If i) → (∀ q, Aw q = Af q) → (∀ j, j < kk → WOk (Af 0) j) → ∀ (H : Heap) (locs : List Loc) (ls : Array Slot), Wb D vwCl (TY cs) L fw (AL L s.heap.size) s H locs → lv_has ls 4 [(1, .int (iI ((kk : Int)))), (0, .ref ((ad 0)))] → W p l e R s m av below meth c H locs (0) (0) Q (F0 m 14 ls []) := by
      intro fuel
      induction fuel with
      | zero => intro fw Iw Aw Rw Zw kk hfu; exact absurd hfu (Nat.not_lt_zero _)
      | succ fuel ih_LA =>
        intro fw Iw Aw Rw Zw kk hfu_LA hCw hfrw hkk hIw hAw hok H locs ls B hl
        have hI0w := hIw 0
        refine lv_iload_n hx hb d_RR_keepWide_14 rfl (lv_at hl 0 rfl) ?_
        refine lv_aload_n hx hb d_RR_keepWide_15 rfl (lv_at hl 1 rfl) ?_
        refine x_get (C := RX6) (T := TX6) (N := 14) hx hb hts inX6 hown (B.foc1 (hCw.x)) (hAd.f1 (by omega)) 0 rfl rfl 5 (by decide) (hts _ w_202) (fun _ h9 => h9) rfl d_RR_keepWide_16 ?_
        refine x_alen hx hb (B.foc1 (hCw.wide)) (hAd.f1 (by omega)) 0 1 rfl rfl d_RR_keepWide_19 ?_
        refine x_icmp_ge (tgt := 69) hx hb d_RR_keepWide_20 (by decide) (by omega) (by omega) (fun h20 => ?_) (fun h20 => ?_)
        · refine lv_aload_n hx hb d_RR_keepWide_69 rfl (lv_at hl 1 rfl) ?_
          refine x_get (C := RX6) (T := TX6) (N := 14) hx hb hts inX6 hown (B.foc1 (hCw.x)) (hAd.f1 (by omega)) 0 rfl rfl 0 (by decide) (hts _ w_197) (fun _ h9 => h9) rfl d_RR_keepWide_70 ?_
          refine lv_aload_n hx hb d_RR_keepWide_73 rfl (lv_at hl 1 rfl) ?_
          refine x_get (C := RX6) (T := TX6) (N := 14) hx hb hts inX6 hown (B.foc1 (hCw.x)) (hAd.f1 (by omega)) 0 rfl rfl 1 (by decide) (hts _ w_198) (fun _ h9 => h9) rfl d_RR_keepWide_74 ?_
          obtain ⟨hn, hhn⟩ : ∃ hn : Nat, If 0 = (hn : Int) := ⟨(If 0).toNat, by omega⟩
          have hn12 : hn < 12 := by omega
          have hall : ∀ j, j < 12 → WOk (Af 0) j := fun j hj => hok j (by omega)
          rw [hI0w, hhn]
          refine x_aald hx hb (B.foc1 (hCw.c0)) (hAd.f1 (by omega)) 0 4 rfl rfl hn (by omega) (by omega) (by decide) (rfs_at (by omega)) d_RR_keepWide_77 ?_
          refine lv_astore_n (lv' := [(1, .ref ((ad (15 + hn)))), (0, .ref ((ad 0)))]) hx hb d_RR_keepWide_78 rfl hl (by decide) rfl (fun ls hl => ?_)
          refine lv_aload_n hx hb d_RR_keepWide_79 rfl (lv_at hl 1 rfl) ?_
          refine lv_aload_n hx hb d_RR_keepWide_80 rfl (lv_at hl 0 rfl) ?_
          refine x_get (C := RX2) (T := TX2) (N := 5) hx hb hts inX2 hown (B.foc1 (hCw.cu (p := hn) (by omega))) (hAd.f1 (by omega)) 0 rfl rfl 0 (by decide) (hts _ w_177) (fun _ h9 => h9) rfl d_RR_keepWide_81 ?_
          refine x_callv B hA (va_runV (As := [.ref ((ad (27 + hn)))]) (rest := []) ⟨hx, hb, hml, hown, hts⟩ (c_RR_narrow l D cs _ _ _ (ad 0) (ad 1) (ad 2) (ad 5) (ad 7) (ad 8) (ad 9) (ad 10) (ad 11) (ad 12) (ad 13) (ad 14) (Iw 0) (Iw 1) (Iw 2) (ad (27 + hn)) (Aw 0) (Aw (20 + hn)) (hAd.fc [0, 8, 27 + hn] (by have := ((Ar.va hn12)).lt; simp only [List.nodup_cons, List.mem_cons, List.not_mem_nil, or_false, not_or, List.nodup_nil, and_true, not_false_eq_true]; omega) (by have := ((Ar.va hn12)).lt; intro q hq; simp only [List.mem_cons, List.not_mem_nil, or_false] at hq; omega)) hCw.x (by rw [hIw]; exact hhd) hCw.wide (hCw.ar (Ar.va hn12))) (cwV 1 hts (gw_V w_253 w_255 s_2 w_1 w_256) rfl rfl rfl (by decide +kernel) ⟨by rw [hRf]; exact Nat.le_of_ble_eq_true rfl, by rw [hRl]; exact Nat.le_of_ble_eq_true rfl⟩) ⟨K0.blind, B.recv (hAd.1 _ (by omega)) (hCw.x) rfl, B.pre _⟩ rfl rfl hl.1 rfl (lv_room (Nat.le_of_ble_eq_true rfl)) d_RR_keepWide_84 ⟨by rw [hRc]; omega, by rw [hRs]; omega⟩) (fun g84 H locs hw B => ?_)
          obtain rfl := hw
          have B : Wb D vwCl (TY cs) L (mw fw [((ad (27 + hn)), .inl (cs 0, 6, .inl (ai (cf 6 (Aw 0) (Aw (20 + hn))))))]) (AL L s.heap.size) s H _ := B
          obtain ⟨f_84, hf_84⟩ : ∃ f_84, f_84 = mw fw [((ad (27 + hn)), .inl (cs 0, 6, .inl (ai (cf 6 (Aw 0) (Aw (20 + hn))))))] := ⟨_, rfl⟩
          rw [← hf_84] at B
          obtain ⟨A_84, hA_84⟩ : ∃ A_84, A_84 = upA Aw (20 + hn) (cf 6 (Aw 0) (Aw (20 + hn))) := ⟨_, rfl⟩
          have hC_84 : CSt cs ad Qm f_84 Iw A_84 Rw Zw := by rw [hf_84, hA_84]; exact CSt.wAr hAd hCw (Ar.va hn12) _
          have hfr_84 : ∀ k, Awy ad k → f_84 k = f k := fun k hk => Eq.trans (by rw [hf_84]; exact hk.mw1 (by omega)) (hfrw k hk)
          have hAo9 : ∀ q, q ≠ 20 + hn → A_84 q = Af q := fun q hq => by rw [hA_84, upA_ne _ _ hq]; exact hAw q
          have hAn9 : ∀ j, j < 6 → A_84 (20 + hn) j = Af 0 j := fun j hj => by rw [hA_84, upA_self, hAw 0]; unfold cf; rw [if_pos (by omega)]
          refine lv_aload_n hx hb d_RR_keepWide_87 rfl (lv_at hl 0 rfl) ?_
          refine x_iconst hx hb d_RR_keepWide_88 ?_
          refine x_put (C := RX2) (T := TX2) (N := 5) hx hb hts inX2 tyX2 tyX2_ok nmX2 hown (B.foc1 (hC_84.cu (p := hn) (by omega))) (hAd.f1 (by omega)) 0 rfl rfl 3 (by decide) (hts _ w_183) (fun _ h9 => h9) rfl (tyX2_ok 3 (by decide)) rfl rfl (Nat.le_of_ble_eq_true rfl) d_RR_keepWide_89 (fun H locs B => ?_)
          have B : Wb D vwCl (TY cs) L (mw f_84 [((ad (15 + hn)), .inr (2, [.ref (ad (27 + hn)), .ref (ad (39 + hn)), .ref (ad (51 + hn)), .int (iI (0)), .int (iI (Iw (40 + hn)))]))]) (AL L s.heap.size) s H _ := B
          obtain ⟨f_89, hf_89⟩ : ∃ f_89, f_89 = mw f_84 [((ad (15 + hn)), .inr (2, [.ref (ad (27 + hn)), .ref (ad (39 + hn)), .ref (ad (51 + hn)), .int (iI (0)), .int (iI (Iw (40 + hn)))]))] := ⟨_, rfl⟩
          rw [← hf_89] at B
          obtain ⟨I_89, hI_89⟩ : ∃ I_89, I_89 = up Iw (20 + hn) (0) := ⟨_, rfl⟩
          have hC_89 : CSt cs ad Qm f_89 I_89 A_84 Rw Zw := by rw [hf_89, hI_89]; exact CSt.w_settled hAd hC_84 (p := hn) (by omega) (0)
          have hfr_89 : ∀ k, Awy ad k → f_89 k = f k := fun k hk => Eq.trans (by rw [hf_89]; exact hk.mw1 (by omega)) (hfr_84 k hk)
          refine lv_aload_n hx hb d_RR_keepWide_92 rfl (lv_at hl 1 rfl) ?_
          refine x_iconst hx hb d_RR_keepWide_93 ?_
          refine x_put (C := RX6) (T := TX6) (N := 14) hx hb hts inX6 tyX6 tyX6_ok nmX6 hown (B.foc1 (hC_89.x)) (hAd.f1 (by omega)) 0 rfl rfl 13 (by decide) (hts _ w_210) (fun _ h9 => h9) rfl (tyX6_ok 13 (by decide)) rfl rfl (Nat.le_of_ble_eq_true rfl) d_RR_keepWide_94 (fun H locs B => ?_)
          have B : Wb D vwCl (TY cs) L (mw f_89 [((ad 0), .inr (6, [.ref (ad 1), .int (iI (I_89 0)), .ref (ad 2), .ref (ad 5), .ref (ad 7), .ref (ad 8), .ref (ad 9), .ref (ad 10), .ref (ad 11), .ref (ad 12), .ref (ad 13), .ref (ad 14), .int (iI (I_89 1)), .int (iI (0))]))]) (AL L s.heap.size) s H _ := B
          obtain ⟨f_94, hf_94⟩ : ∃ f_94, f_94 = mw f_89 [((ad 0), .inr (6, [.ref (ad 1), .int (iI (I_89 0)), .ref (ad 2), .ref (ad 5), .ref (ad 7), .ref (ad 8), .ref (ad 9), .ref (ad 10), .ref (ad 11), .ref (ad 12), .ref (ad 13), .ref (ad 14), .int (iI (I_89 1)), .int (iI (0))]))] := ⟨_, rfl⟩
          rw [← hf_94] at B
          obtain ⟨I_94, hI_94⟩ : ∃ I_94, I_94 = up I_89 2 (0) := ⟨_, rfl⟩
          have hC_94 : CSt cs ad Qm f_94 I_94 A_84 Rw Zw := by rw [hf_94, hI_94]; exact CSt.w_lined hAd hC_89 (0)
          have hfr_94 : ∀ k, Awy ad k → f_94 k = f k := fun k hk => Eq.trans (by rw [hf_94]; exact hk.mw1 (by omega)) (hfr_89 k hk)
          refine lv_aload_n hx hb d_RR_keepWide_97 rfl (lv_at hl 1 rfl) ?_
          refine lv_dup hx hb d_RR_keepWide_98 rfl ?_
          refine x_get (C := RX6) (T := TX6) (N := 14) hx hb hts inX6 hown (B.foc1 (hC_94.x)) (hAd.f1 (by omega)) 0 rfl rfl 1 (by decide) (hts _ w_198) (fun _ h9 => h9) rfl d_RR_keepWide_99 ?_
          refine x_iconst hx hb d_RR_keepWide_102 ?_
          refine x_iadd hx hb d_RR_keepWide_103 ?_
          refine x_put (C := RX6) (T := TX6) (N := 14) hx hb hts inX6 tyX6 tyX6_ok nmX6 hown (B.foc1 (hC_94.x)) (hAd.f1 (by omega)) 0 rfl rfl 1 (by decide) (hts _ w_198) (fun _ h9 => h9) rfl (tyX6_ok 1 (by decide)) rfl rfl (Nat.le_of_ble_eq_true rfl) d_RR_keepWide_104 (fun H locs B => ?_)
          have B : Wb D vwCl (TY cs) L (mw f_94 [((ad 0), .inr (6, [.ref (ad 1), .int (iI ((I_94 0) + 1)), .ref (ad 2), .ref (ad 5), .ref (ad 7), .ref (ad 8), .ref (ad 9), .ref (ad 10), .ref (ad 11), .ref (ad 12), .ref (ad 13), .ref (ad 14), .int (iI (I_94 1)), .int (iI (I_94 2))]))]) (AL L s.heap.size) s H _ := B
          obtain ⟨f_104, hf_104⟩ : ∃ f_104, f_104 = mw f_94 [((ad 0), .inr (6, [.ref (ad 1), .int (iI ((I_94 0) + 1)), .ref (ad 2), .ref (ad 5), .ref (ad 7), .ref (ad 8), .ref (ad 9), .ref (ad 10), .ref (ad 11), .ref (ad 12), .ref (ad 13), .ref (ad 14), .int (iI (I_94 1)), .int (iI (I_94 2))]))] := ⟨_, rfl⟩
          rw [← hf_104] at B
          obtain ⟨I_104, hI_104⟩ : ∃ I_104, I_104 = up I_94 0 ((I_94 0) + 1) := ⟨_, rfl⟩
          have hC_104 : CSt cs ad Qm f_104 I_104 A_84 Rw Zw := by rw [hf_104, hI_104]; exact CSt.w_held hAd hC_94 ((I_94 0) + 1)
          have hfr_104 : ∀ k, Awy ad k → f_104 k = f k := fun k hk => Eq.trans (by rw [hf_104]; exact hk.mw1 (by omega)) (hfr_94 k hk)
          refine lv_aload_n hx hb d_RR_keepWide_107 rfl (lv_at hl 1 rfl) ?_
          refine x_get (C := RX6) (T := TX6) (N := 14) hx hb hts inX6 hown (B.foc1 (hC_104.x)) (hAd.f1 (by omega)) 0 rfl rfl 1 (by decide) (hts _ w_198) (fun _ h9 => h9) rfl d_RR_keepWide_108 ?_
          refine x_iconst hx hb d_RR_keepWide_111 ?_
          refine x_isub hx hb d_RR_keepWide_112 ?_
          subst hQ hav
          exact x_iret hx hb hr hlocks B d_RR_keepWide_113 (⟨I_104, A_84, Rw, Zw, hC_104, hfr_104, Or.inr ⟨⟨by omega, hall⟩, by rw [hI_104, up_self, hI_94, up_ne _ _ (by decide), hI_89, up_ne _ _ (by omega), hIw]; congr 1; omega, hInv.new (p0 := hn) hn12 (by rw [hI_104, up_self, hI_94, up_ne _ _ (by decide), hI_89, up_ne _ _ (by omega), hIw, hhn]) (fun i h1 h2 h3 => by rw [hI_104, up_ne _ _ h1, hI_94, up_ne _ _ h2, hI_89, up_ne _ _ h3]; exact hIw i) (by rw [hI_104, up_ne _ _ (by decide), hI_94, up_self]) (by rw [hI_104, up_ne _ _ (by omega), hI_94, up_ne _ _ (by omega), hI_89, up_self]) hAo9 (fun j hj => by rw [hAn9 j hj]; exact (hall j (by omega)).1 hj), by rw [hI_104, up_self, hI_94, up_ne _ _ (by decide), hI_89, up_ne _ _ (by omega), hIw], by rw [hhn, Int.toNat_natCast]; exact hAn9, fun p2 h1 h2 => hAo9 _ (by rw [hhn, Int.toNat_natCast] at h2; omega)⟩⟩)
        · refine lv_iload_n hx hb d_RR_keepWide_23 rfl (lv_at hl 0 rfl) ?_
          refine x_bipush hx hb d_RR_keepWide_24 (by decide) ?_
          refine x_icmp_ge (tgt := 35) hx hb d_RR_keepWide_26 (by decide) (by omega) (by omega) (fun h26 => ?_) (fun h26 => ?_)
          · refine x_lconst (z := 0) hx hb d_RR_keepWide_35 (by decide) ?_
            refine lv_lstore_n (lv' := [(2, .long (lI 0)), (1, .int (iI ((kk : Int)))), (0, .ref ((ad 0)))]) hx hb d_RR_keepWide_36 rfl hl (by decide) rfl (fun ls hl => ?_)
            refine lv_aload_n hx hb d_RR_keepWide_37 rfl (lv_at hl 2 rfl) ?_
            refine x_get (C := RX6) (T := TX6) (N := 14) hx hb hts inX6 hown (B.foc1 (hCw.x)) (hAd.f1 (by omega)) 0 rfl rfl 5 (by decide) (hts _ w_202) (fun _ h9 => h9) rfl d_RR_keepWide_38 ?_
            refine lv_iload_n hx hb d_RR_keepWide_41 rfl (lv_at hl 1 rfl) ?_
            refine x_lald hx hb (B.foc1 (hCw.wide)) (hAd.f1 (by omega)) 0 1 rfl rfl kk (by omega) (by omega) (by decide) d_RR_keepWide_42 ?_
            have hwr := hWr kk (by omega)
            rw [hAw 0]
            refine lv_lload_n hx hb d_RR_keepWide_43 rfl (lv_at hl 0 rfl) ?_
            refine x_lneg hx hb d_RR_keepWide_44 ?_
            refine x_lc_lt (tgt := 60) hx hb d_RR_keepWide_45 rfl d_RR_keepWide_46 (by decide) (by omega) (by omega) (fun h46 => ?_) (fun h46 => ?_)
            · refine x_bipush hx hb d_RR_keepWide_60 (by decide) ?_
              subst hQ hav
              exact x_iret hx hb hr hlocks B d_RR_keepWide_62 (⟨Iw, Aw, Rw, Zw, hCw, hfrw, Or.inl ⟨⟨Or.inr ⟨kk, by omega, fun h9 => by unfold WOk at h9; omega⟩, rfl⟩, hIw, hAw⟩⟩)
            · refine lv_aload_n hx hb d_RR_keepWide_49 rfl (lv_at hl 2 rfl) ?_
              refine x_get (C := RX6) (T := TX6) (N := 14) hx hb hts inX6 hown (B.foc1 (hCw.x)) (hAd.f1 (by omega)) 0 rfl rfl 5 (by decide) (hts _ w_202) (fun _ h9 => h9) rfl d_RR_keepWide_50 ?_
              refine lv_iload_n hx hb d_RR_keepWide_53 rfl (lv_at hl 1 rfl) ?_
              refine x_lald hx hb (B.foc1 (hCw.wide)) (hAd.f1 (by omega)) 0 1 rfl rfl kk (by omega) (by omega) (by decide) d_RR_keepWide_54 ?_
              have hwr := hWr kk (by omega)
              rw [hAw 0]
              refine lv_lload_n hx hb d_RR_keepWide_55 rfl (lv_at hl 0 rfl) ?_
              refine x_lc_le (tgt := 63) hx hb d_RR_keepWide_56 rfl d_RR_keepWide_57 (by decide) (by omega) (by omega) (fun h57 => ?_) (fun h57 => ?_)
              · refine x_iinc (lv' := [(1, .int (iI (((kk : Int)) + 1))), (2, .long (lI 0)), (0, .ref ((ad 0)))]) hx hb d_RR_keepWide_63 hl (q := 1) rfl rfl (by decide) rfl (fun ls hl => ?_)
                refine lv_goto (tgt := 14) hx hb d_RR_keepWide_66 (by decide) ?_
                exact ih_LA fw Iw Aw Rw Zw (kk + 1) (by omega) hCw hfrw (by omega) hIw hAw (fun j hj => by
          rcases Nat.lt_or_ge j kk with c | c
          · exact hok j c
          · rw [show j = kk by omega]; exact ⟨fun _ => by omega, fun _ => by omega⟩) _ _ _ B (lv_sub hl [0, 2] rfl)
              · refine x_bipush hx hb d_RR_keepWide_60 (by decide) ?_
                subst hQ hav
                exact x_iret hx hb hr hlocks B d_RR_keepWide_62 (⟨Iw, Aw, Rw, Zw, hCw, hfrw, Or.inl ⟨⟨Or.inr ⟨kk, by omega, fun h9 => by unfold WOk at h9; omega⟩, rfl⟩, hIw, hAw⟩⟩)
          · refine x_ldc2 (z := 1000) hx hb hown (hts _ w_252) (by decide) d_RR_keepWide_29 ?_
            refine lv_goto (tgt := 36) hx hb d_RR_keepWide_32 (by decide) ?_
            refine lv_lstore_n (lv' := [(2, .long (lI 1000)), (1, .int (iI ((kk : Int)))), (0, .ref ((ad 0)))]) hx hb d_RR_keepWide_36 rfl hl (by decide) rfl (fun ls hl => ?_)
            refine lv_aload_n hx hb d_RR_keepWide_37 rfl (lv_at hl 2 rfl) ?_
            refine x_get (C := RX6) (T := TX6) (N := 14) hx hb hts inX6 hown (B.foc1 (hCw.x)) (hAd.f1 (by omega)) 0 rfl rfl 5 (by decide) (hts _ w_202) (fun _ h9 => h9) rfl d_RR_keepWide_38 ?_
            refine lv_iload_n hx hb d_RR_keepWide_41 rfl (lv_at hl 1 rfl) ?_
            refine x_lald hx hb (B.foc1 (hCw.wide)) (hAd.f1 (by omega)) 0 1 rfl rfl kk (by omega) (by omega) (by decide) d_RR_keepWide_42 ?_
            have hwr := hWr kk (by omega)
            rw [hAw 0]
            refine lv_lload_n hx hb d_RR_keepWide_43 rfl (lv_at hl 0 rfl) ?_
            refine x_lneg hx hb d_RR_keepWide_44 ?_
            refine x_lc_lt (tgt := 60) hx hb d_RR_keepWide_45 rfl d_RR_keepWide_46 (by decide) (by omega) (by omega) (fun h46 => ?_) (fun h46 => ?_)
            · refine x_bipush hx hb d_RR_keepWide_60 (by decide) ?_
              subst hQ hav
              exact x_iret hx hb hr hlocks B d_RR_keepWide_62 (⟨Iw, Aw, Rw, Zw, hCw, hfrw, Or.inl ⟨⟨Or.inr ⟨kk, by omega, fun h9 => by unfold WOk at h9; omega⟩, rfl⟩, hIw, hAw⟩⟩)
            · refine lv_aload_n hx hb d_RR_keepWide_49 rfl (lv_at hl 2 rfl) ?_
              refine x_get (C := RX6) (T := TX6) (N := 14) hx hb hts inX6 hown (B.foc1 (hCw.x)) (hAd.f1 (by omega)) 0 rfl rfl 5 (by decide) (hts _ w_202) (fun _ h9 => h9) rfl d_RR_keepWide_50 ?_
              refine lv_iload_n hx hb d_RR_keepWide_53 rfl (lv_at hl 1 rfl) ?_
              refine x_lald hx hb (B.foc1 (hCw.wide)) (hAd.f1 (by omega)) 0 1 rfl rfl kk (by omega) (by omega) (by decide) d_RR_keepWide_54 ?_
              have hwr := hWr kk (by omega)
              rw [hAw 0]
              refine lv_lload_n hx hb d_RR_keepWide_55 rfl (lv_at hl 0 rfl) ?_
              refine x_lc_le (tgt := 63) hx hb d_RR_keepWide_56 rfl d_RR_keepWide_57 (by decide) (by omega) (by omega) (fun h57 => ?_) (fun h57 => ?_)
              · refine x_iinc (lv' := [(1, .int (iI (((kk : Int)) + 1))), (2, .long (lI 1000)), (0, .ref ((ad 0)))]) hx hb d_RR_keepWide_63 hl (q := 1) rfl rfl (by decide) rfl (fun ls hl => ?_)
                refine lv_goto (tgt := 14) hx hb d_RR_keepWide_66 (by decide) ?_
                exact ih_LA fw Iw Aw Rw Zw (kk + 1) (by omega) hCw hfrw (by omega) hIw hAw (fun j hj => by
          rcases Nat.lt_or_ge j kk with c | c
          · exact hok j c
          · rw [show j = kk by omega]; exact ⟨fun _ => by omega, fun _ => by omega⟩) _ _ _ B (lv_sub hl [0, 2] rfl)
              · refine x_bipush hx hb d_RR_keepWide_60 (by decide) ?_
                subst hQ hav
                exact x_iret hx hb hr hlocks B d_RR_keepWide_62 (⟨Iw, Aw, Rw, Zw, hCw, hfrw, Or.inl ⟨⟨Or.inr ⟨kk, by omega, fun h9 => by unfold WOk at h9; omega⟩, rfl⟩, hIw, hAw⟩⟩)
    exact LA _ f If Af Rf Zf 0 (Nat.lt_succ_self _) hC hfr (Nat.zero_le _) (fun _ => rfl) (fun _ => rfl) (fun j h => absurd h (Nat.not_lt_zero _)) _ _ _ B (lv_sub hl [0, 1] rfl)
  · refine x_bipush hx hb d_RR_keepWide_9 (by decide) ?_
    subst hQ hav
    exact x_iret hx hb hr hlocks B d_RR_keepWide_11 (⟨If, Af, Rf, Zf, hC, hfr, Or.inl ⟨⟨Or.inl (by omega), rfl⟩, fun _ => rfl, fun _ => rfl⟩⟩)
