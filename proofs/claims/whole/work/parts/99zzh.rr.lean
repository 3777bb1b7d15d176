set_option maxHeartbeats 8000000 in
set_option maxRecDepth 100000 in
theorem c_RR_derive_c (l : Launch) (D : va_G) (cs : Nat → ClassId) (L : List Nat) (f : Nat → va_E) (sz : Nat) (ad Qm : Nat → Nat) (If : Nat → Int) (Af : Nat → Nat → Int) (Rf : Nat → Nat) (Zf : Nat → Int)  (hAd : AdOk L ad Qm) (hC : CSt cs ad Qm f If Af Rf Zf)  : Met l (⟨"RealRoots", "derive", "([I[I)V"⟩ : MethodName) (.code (⟨"RealRoots", "derive", "([I[I)V"⟩ : MethodName) prog_1_method_34_code 3 (Option.none : Option Jvm.ClassFile.FieldType) :: gw) ({ frames := 1, cells := 0, slots := 0, locals := 20 }) (va_Pc [.ref ((ad 9)), .ref ((ad 9))] (K0 D vwCl (TY cs) L f sz)) (va_Qv (fun (g : Nat → va_E) => ∃ (I' : Nat → Int) (A' : Nat → Nat → Int) (R' : Nat → Nat) (Z' : Nat → Int), CSt cs ad Qm g I' A' R' Z' ∧ (∀ k, Awy ad k → g k = f k) ∧ (∀ i, I' i = If i) ∧ (∀ q, q ≠ 1 → A' q = Af q) ∧ (∀ j : Nat, j < 5 → A' 1 j = Af 1 (j + 1) * ((j + 1 : Nat) : Int)) ∧ A' 1 5 = 0) (K1 D vwCl (TY cs) (AL L sz) L) (AL L sz)) 0 0 (AL L sz) := by
  refine Met.ofW (cc := prog_1_method_34_code) (maxL := 3) (ret := (Option.none : Option Jvm.ClassFile.FieldType)) (by decide) rfl ?_
  intro p e s m args below meth c s₁ Bd hml hv
  obtain ⟨rfl, hk0⟩ := hv
  obtain ⟨hsz, B⟩ := hk0.start
  subst hsz
  have hx := Bd.exec
  have hb := Bd.bytes
  have hr := Bd.returns
  have hlocks := Bd.notSynchronized
  have hts0 := atoms_spec Bd.pre
  have hown : s.vm.findClass RX6 = some m.cls := findClass_of_methodNamed Bd.named
  have hA : ∀ q, s.heap.size ≤ q → AL L s.heap.size q := fun _ h => Or.inr h
  have hl := lv_entry ([.ref ((ad 9)), .ref ((ad 9))]) (n := 3) (Nat.le_of_ble_eq_true rfl)
  rw [lg_entry_eq]
  generalize (lg_sl ([.ref ((ad 9)), .ref ((ad 9))]) ++ List.replicate (3 - (lg_sl ([.ref ((ad 9)), .ref ((ad 9))])).length) Slot.unset).toArray = ls at hl ⊢
  refine absQ (fun Q R av hQ hR hav => ?_)
  have hts : ∀ w ∈ gw, w.before av s = true := by rw [hav]; exact fun w h => hts0 w (List.mem_cons_of_mem _ h)
  have hRf : R.frames = 1 := by rw [hR]; rfl
  have hRl : R.locals = 20 := by rw [hR]; rfl
  have hRc : R.cells = 0 := by rw [hR]; rfl
  have hRs : R.slots = 0 := by rw [hR]; rfl
  clear hR hts0 Bd
  have hl : lv_has ls 3 [(0, .ref ((ad 9))), (1, .ref ((ad 9)))] := hl
  have hfr : ∀ k, Awy ad k → f k = f k := fun _ _ => rfl
  refine x_iconst hx hb d_RR_derive_0 ?_
  refine lv_istore_n (lv' := [(2, .int (iI 1)), (0, .ref ((ad 9))), (1, .ref ((ad 9)))]) hx hb d_RR_derive_1 rfl hl (by decide) rfl (fun ls hl => ?_)
  have LA : ∀ (fuel : Nat) (fw : Nat → va_E) (Iw : Nat → Int) (Aw : Nat → Nat → Int) (Rw : Nat → Nat) (Zw : Nat → Int) (kk : Nat), 6 - kk < fuel → (CSt cs ad Qm fw Iw Aw Rw Zw) → (∀ k, Awy ad k → fw k = f k) → (1 ≤ kk ∧ kk ≤ 6) → (∀ i, Iw i = If i) → (∀ q, q ≠ 1 → Aw q = Af q) → (∀ j : Nat, j < 6 → Aw 1 j = if j + 1 < kk then Af 1 (j + 1) * ((j + 1 : Nat) : Int) else Af 1 j) → ∀ (H : Heap) (locs : List Loc) (ls : Array Slot), Wb D vwCl (TY cs) L fw (AL L s.heap.size) s H locs → lv_has ls 3 [(2, .int (iI ((kk : Int)))), (0, .ref ((ad 9))), (1, .ref ((ad 9)))] → W p l e R s m av below meth c H locs (0) (0) Q (F0 m 2 ls []) := by
    intro fuel
    induction fuel with
    | zero => intro fw Iw Aw Rw Zw kk hfu; exact absurd hfu (Nat.not_lt_zero _)
    | succ fuel ih_LA =>
      intro fw Iw Aw Rw Zw kk hfu_LA hCw hfrw hkk hIw hAw hWw H locs ls B hl
      refine lv_iload_n hx hb d_RR_derive_2 rfl (lv_at hl 0 rfl) ?_
      refine x_bipush hx hb d_RR_derive_3 (by decide) ?_
      refine x_icmp_ge (tgt := 24) hx hb d_RR_derive_5 (by decide) (by omega) (by omega) (fun h5 => ?_) (fun h5 => ?_)
      · refine lv_aload_n hx hb d_RR_derive_24 rfl (lv_at hl 2 rfl) ?_
        refine x_iconst hx hb d_RR_derive_25 ?_
        refine x_iconst hx hb d_RR_derive_26 ?_
        refine x_iast hx hb (B.foc1 (hCw.slope)) (hAd.f1 (by omega)) 0 0 rfl rfl 5 (by omega) (by omega) (by decide) d_RR_derive_27 (fun H locs B => ?_)
        have B : Wb D vwCl (TY cs) L (mw fw [((ad 9), .inl (cs 0, 6, .inl (ai (up (Aw 1) 5 (0)))))]) (AL L s.heap.size) s H _ := B
        obtain ⟨f_27, hf_27⟩ : ∃ f_27, f_27 = mw fw [((ad 9), .inl (cs 0, 6, .inl (ai (up (Aw 1) 5 (0)))))] := ⟨_, rfl⟩
        rw [← hf_27] at B
        obtain ⟨A_27, hA_27⟩ : ∃ A_27, A_27 = upA Aw 1 (up (Aw 1) 5 (0)) := ⟨_, rfl⟩
        have hC_27 : CSt cs ad Qm f_27 Iw A_27 Rw Zw := by rw [hf_27, hA_27]; exact CSt.wAr hAd hCw Ar.sl _
        have hfr_27 : ∀ k, Awy ad k → f_27 k = f k := fun k hk => Eq.trans (by rw [hf_27]; exact hk.mw1 (by omega)) (hfrw k hk)
        subst hQ hav
        exact x_vret hx hb hr hlocks B d_RR_derive_28 (⟨Iw, A_27, Rw, Zw, hC_27, hfr_27, hIw, fun q hq => by rw [hA_27, upA_ne _ _ hq]; exact hAw q hq, fun j hj => by rw [hA_27, upA_self, up_ne _ _ (by omega), hWw j (by omega), if_pos (by omega)], by rw [hA_27, upA_self, up_self]⟩)
      · refine lv_aload_n hx hb d_RR_derive_8 rfl (lv_at hl 2 rfl) ?_
        refine lv_iload_n hx hb d_RR_derive_9 rfl (lv_at hl 0 rfl) ?_
        refine x_iconst hx hb d_RR_derive_10 ?_
        refine x_isub hx hb d_RR_derive_11 ?_
        refine lv_aload_n hx hb d_RR_derive_12 rfl (lv_at hl 1 rfl) ?_
        refine lv_iload_n hx hb d_RR_derive_13 rfl (lv_at hl 0 rfl) ?_
        refine x_iald hx hb (B.foc1 (hCw.slope)) (hAd.f1 (by omega)) 0 0 rfl rfl kk (by omega) (by omega) (by decide) d_RR_derive_14 ?_
        refine lv_iload_n hx hb d_RR_derive_15 rfl (lv_at hl 0 rfl) ?_
        refine x_imul hx hb d_RR_derive_16 ?_
        refine x_iast hx hb (B.foc1 (hCw.slope)) (hAd.f1 (by omega)) 0 0 rfl rfl (kk - 1) (by omega) (by omega) (by decide) d_RR_derive_17 (fun H locs B => ?_)
        have B : Wb D vwCl (TY cs) L (mw fw [((ad 9), .inl (cs 0, 6, .inl (ai (up (Aw 1) (kk - 1) ((Aw 1 kk) * ((kk : Int)))))))]) (AL L s.heap.size) s H _ := B
        obtain ⟨f_17, hf_17⟩ : ∃ f_17, f_17 = mw fw [((ad 9), .inl (cs 0, 6, .inl (ai (up (Aw 1) (kk - 1) ((Aw 1 kk) * ((kk : Int)))))))] := ⟨_, rfl⟩
        rw [← hf_17] at B
        obtain ⟨A_17, hA_17⟩ : ∃ A_17, A_17 = upA Aw 1 (up (Aw 1) (kk - 1) ((Aw 1 kk) * ((kk : Int)))) := ⟨_, rfl⟩
        have hC_17 : CSt cs ad Qm f_17 Iw A_17 Rw Zw := by rw [hf_17, hA_17]; exact CSt.wAr hAd hCw Ar.sl _
        have hfr_17 : ∀ k, Awy ad k → f_17 k = f k := fun k hk => Eq.trans (by rw [hf_17]; exact hk.mw1 (by omega)) (hfrw k hk)
        refine x_iinc (lv' := [(2, .int (iI (((kk : Int)) + 1))), (0, .ref ((ad 9))), (1, .ref ((ad 9)))]) hx hb d_RR_derive_18 hl (q := 0) rfl rfl (by decide) rfl (fun ls hl => ?_)
        refine lv_goto (tgt := 2) hx hb d_RR_derive_21 (by decide) ?_
        exact ih_LA f_17 Iw A_17 Rw Zw (kk + 1) (by omega) hC_17 hfr_17 (⟨by omega, by omega⟩) hIw (fun q hq => by rw [hA_17, upA_ne _ _ hq]; exact hAw q hq) (fun j hj => by
          rw [hA_17, upA_self]
          by_cases c : j = kk - 1
          · rw [c, up_self, if_pos (by omega), hWw kk (by omega), if_neg (by omega), show kk - 1 + 1 = kk by omega]
          · rw [up_ne _ _ c, hWw j hj]
            by_cases c2 : j + 1 < kk
            · rw [if_pos c2, if_pos (by omega)]
            · rw [if_neg c2, if_neg (by omega)]) _ _ _ B (lv_sub hl [0, 1, 2] rfl)
  exact LA _ f If Af Rf Zf 1 (Nat.lt_succ_self _) hC hfr (⟨Nat.le_refl _, by omega⟩) (fun _ => rfl) (fun _ _ => rfl) (fun j _ => by rw [if_neg (by omega)]) _ _ _ B (lv_sub hl [0, 1, 2] rfl)
