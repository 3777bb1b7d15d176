theorem d_RR_insert_0 : decode prog_1_method_52_code 0 = .ok (.iload_n 1, 1) := by decide +kernel
theorem d_RR_insert_1 : decode prog_1_method_52_code 1 = .ok (.ifCond .lt 15, 3) := by decide +kernel
theorem d_RR_insert_4 : decode prog_1_method_52_code 4 = .ok (.aload_n 0, 1) := by decide +kernel
theorem d_RR_insert_5 : decode prog_1_method_52_code 5 = .ok (.getfield 63, 3) := by decide +kernel
theorem d_RR_insert_8 : decode prog_1_method_52_code 8 = .ok (.aload_n 0, 1) := by decide +kernel
theorem d_RR_insert_9 : decode prog_1_method_52_code 9 = .ok (.getfield 57, 3) := by decide +kernel
theorem d_RR_insert_12 : decode prog_1_method_52_code 12 = .ok (.arraylength, 1) := by decide +kernel
theorem d_RR_insert_13 : decode prog_1_method_52_code 13 = .ok (.if_icmp .lt 4, 3) := by decide +kernel
theorem d_RR_insert_16 : decode prog_1_method_52_code 16 = .ok (.return_, 1) := by decide +kernel
theorem d_RR_insert_17 : decode prog_1_method_52_code 17 = .ok (.aload_n 0, 1) := by decide +kernel
theorem d_RR_insert_18 : decode prog_1_method_52_code 18 = .ok (.getfield 63, 3) := by decide +kernel
theorem d_RR_insert_21 : decode prog_1_method_52_code 21 = .ok (.istore_n 3, 1) := by decide +kernel
theorem d_RR_insert_22 : decode prog_1_method_52_code 22 = .ok (.iload_n 3, 1) := by decide +kernel
theorem d_RR_insert_23 : decode prog_1_method_52_code 23 = .ok (.iload_n 1, 1) := by decide +kernel
theorem d_RR_insert_24 : decode prog_1_method_52_code 24 = .ok (.if_icmp .le 23, 3) := by decide +kernel
theorem d_RR_insert_27 : decode prog_1_method_52_code 27 = .ok (.aload_n 0, 1) := by decide +kernel
theorem d_RR_insert_28 : decode prog_1_method_52_code 28 = .ok (.getfield 57, 3) := by decide +kernel
theorem d_RR_insert_31 : decode prog_1_method_52_code 31 = .ok (.iload_n 3, 1) := by decide +kernel
theorem d_RR_insert_32 : decode prog_1_method_52_code 32 = .ok (.aload_n 0, 1) := by decide +kernel
theorem d_RR_insert_33 : decode prog_1_method_52_code 33 = .ok (.getfield 57, 3) := by decide +kernel
theorem d_RR_insert_36 : decode prog_1_method_52_code 36 = .ok (.iload_n 3, 1) := by decide +kernel
theorem d_RR_insert_37 : decode prog_1_method_52_code 37 = .ok (.iconst 1, 1) := by decide +kernel
theorem d_RR_insert_38 : decode prog_1_method_52_code 38 = .ok (.isub, 1) := by decide +kernel
theorem d_RR_insert_39 : decode prog_1_method_52_code 39 = .ok (.iaload, 1) := by decide +kernel
theorem d_RR_insert_40 : decode prog_1_method_52_code 40 = .ok (.iastore, 1) := by decide +kernel
theorem d_RR_insert_41 : decode prog_1_method_52_code 41 = .ok (.iinc 3 (-1), 3) := by decide +kernel
theorem d_RR_insert_44 : decode prog_1_method_52_code 44 = .ok (.goto (-22), 3) := by decide +kernel
theorem d_RR_insert_47 : decode prog_1_method_52_code 47 = .ok (.aload_n 0, 1) := by decide +kernel
theorem d_RR_insert_48 : decode prog_1_method_52_code 48 = .ok (.getfield 57, 3) := by decide +kernel
theorem d_RR_insert_51 : decode prog_1_method_52_code 51 = .ok (.iload_n 1, 1) := by decide +kernel
theorem d_RR_insert_52 : decode prog_1_method_52_code 52 = .ok (.iload_n 2, 1) := by decide +kernel
theorem d_RR_insert_53 : decode prog_1_method_52_code 53 = .ok (.iastore, 1) := by decide +kernel
theorem d_RR_insert_54 : decode prog_1_method_52_code 54 = .ok (.aload_n 0, 1) := by decide +kernel
theorem d_RR_insert_55 : decode prog_1_method_52_code 55 = .ok (.dup, 1) := by decide +kernel
theorem d_RR_insert_56 : decode prog_1_method_52_code 56 = .ok (.getfield 63, 3) := by decide +kernel
theorem d_RR_insert_59 : decode prog_1_method_52_code 59 = .ok (.iconst 1, 1) := by decide +kernel
theorem d_RR_insert_60 : decode prog_1_method_52_code 60 = .ok (.iadd, 1) := by decide +kernel
theorem d_RR_insert_61 : decode prog_1_method_52_code 61 = .ok (.putfield 63, 3) := by decide +kernel
theorem d_RR_insert_64 : decode prog_1_method_52_code 64 = .ok (.return_, 1) := by decide +kernel
set_option maxHeartbeats 8000000 in
set_option maxRecDepth 100000 in
theorem c_RR_insert (l : Launch) (D : va_G) (cs : Nat → ClassId) (L : List Nat) (f : Nat → va_E) (sz : Nat) (ad Qm : Nat → Nat) (If : Nat → Int) (Af : Nat → Nat → Int) (Rf : Nat → Nat) (Zf : Nat → Int) (pl cd n : Nat) (hAd : AdOk L ad Qm) (hC : CSt cs ad Qm f If Af Rf Zf) (hn : If 1 = (n : Int)) (hpl : pl ≤ n) (hn60 : n < 60) : Met l (⟨"RealRoots", "insert", "(II)V"⟩ : MethodName) (.code (⟨"RealRoots", "insert", "(II)V"⟩ : MethodName) prog_1_method_52_code 4 (Option.none : Option Jvm.ClassFile.FieldType) :: gw) ({ frames := 1, cells := 0, slots := 0, locals := 20 }) (va_Pc [.ref ((ad 0)), .int (iI ((pl : Int))), .int (iI ((cd : Int)))] (K0 D vwCl (TY cs) L f sz)) (va_Qv (fun (g : Nat → va_E) => ∃ (I' : Nat → Int) (A' : Nat → Nat → Int) (R' : Nat → Nat) (Z' : Nat → Int), CSt cs ad Qm g I' A' R' Z' ∧ (∀ k, Awy ad k → g k = f k) ∧ (∀ i, i ≠ 1 → I' i = If i) ∧ I' 1 = If 1 + 1 ∧ (∀ q, q ≠ 5 → A' q = Af q) ∧ ∀ j, A' 5 j = insd (Af 5) pl (cd : Int) n j) (K1 D vwCl (TY cs) (AL L sz) L) (AL L sz)) 0 0 (AL L sz) := by
  refine Met.ofW (cc := prog_1_method_52_code) (maxL := 4) (ret := (Option.none : Option Jvm.ClassFile.FieldType)) (by decide) rfl ?_
  intro p e s m args below meth c s₁ Bd hml hv
  obtain ⟨rfl, hk0⟩ := hv
  obtain ⟨hsz, B⟩ := hk0.start
  subst hsz
  have hx := Bd.exec
  have hb := Bd.bytes
  have hr := Bd.returns
  have hlocks := Bd.notSynchronized
  have hts0 := atoms_spec Bd.pre
  have hown : s.vm.findClass RX6 = some m.cls := findClass_of_methodNamed Bd.named
  have hA : ∀ q, s.heap.size ≤ q → AL L s.heap.size q := fun _ h => Or.inr h
  have hl := lv_entry ([.ref ((ad 0)), .int (iI ((pl : Int))), .int (iI ((cd : Int)))]) (n := 4) (Nat.le_of_ble_eq_true rfl)
  rw [lg_entry_eq]
  generalize (lg_sl ([.ref ((ad 0)), .int (iI ((pl : Int))), .int (iI ((cd : Int)))]) ++ List.replicate (4 - (lg_sl ([.ref ((ad 0)), .int (iI ((pl : Int))), .int (iI ((cd : Int)))])).length) Slot.unset).toArray = ls at hl ⊢
  refine absQ (fun Q R av hQ hR hav => ?_)
  have hts : ∀ w ∈ gw, w.before av s = true := by rw [hav]; exact fun w h => hts0 w (List.mem_cons_of_mem _ h)
  have hRf : R.frames = 1 := by rw [hR]; rfl
  have hRl : R.locals = 20 := by rw [hR]; rfl
  have hRc : R.cells = 0 := by rw [hR]; rfl
  have hRs : R.slots = 0 := by rw [hR]; rfl
  clear hR hts0 Bd
  have hl : lv_has ls 4 [(0, .ref ((ad 0))), (1, .int (iI ((pl : Int)))), (2, .int (iI ((cd : Int))))] := hl
  have hfr : ∀ k, Awy ad k → f k = f k := fun _ _ => rfl
  refine lv_iload_n hx hb d_RR_insert_0 rfl (lv_at hl 1 rfl) ?_
  refine x_if_lt (tgt := 16) hx hb d_RR_insert_1 (by decide) (by omega) (fun h1 => ?_) (fun h1 => ?_)
  · exfalso; omega
  · refine lv_aload_n hx hb d_RR_insert_4 rfl (lv_at hl 0 rfl) ?_
    refine x_get (C := RX6) (T := TX6) (N := 14) hx hb hts inX6 hown (B.foc1 (hC.x)) (hAd.f1 (by omega)) 0 rfl rfl 12 (by decide) (hts _ w_209) (fun _ h9 => h9) rfl d_RR_insert_5 ?_
    refine lv_aload_n hx hb d_RR_insert_8 rfl (lv_at hl 0 rfl) ?_
    refine x_get (C := RX6) (T := TX6) (N := 14) hx hb hts inX6 hown (B.foc1 (hC.x)) (hAd.f1 (by omega)) 0 rfl rfl 10 (by decide) (hts _ w_207) (fun _ h9 => h9) rfl d_RR_insert_9 ?_
    refine x_alen hx hb (B.foc1 (hC.line)) (hAd.f1 (by omega)) 0 0 rfl rfl d_RR_insert_12 ?_
    refine x_icmp_lt (tgt := 17) hx hb d_RR_insert_13 (by decide) (by omega) (by omega) (fun h13 => ?_) (fun h13 => ?_)
    · refine lv_aload_n hx hb d_RR_insert_17 rfl (lv_at hl 0 rfl) ?_
      refine x_get (C := RX6) (T := TX6) (N := 14) hx hb hts inX6 hown (B.foc1 (hC.x)) (hAd.f1 (by omega)) 0 rfl rfl 12 (by decide) (hts _ w_209) (fun _ h9 => h9) rfl d_RR_insert_18 ?_
      rw [hn]
      refine lv_istore_n (lv' := [(3, .int (iI ((n : Int)))), (0, .ref ((ad 0))), (1, .int (iI ((pl : Int)))), (2, .int (iI ((cd : Int))))]) hx hb d_RR_insert_21 rfl hl (by decide) rfl (fun ls hl => ?_)
      have LA : ∀ (fuel : Nat) (fw : Nat → va_E) (Iw : Nat → Int) (Aw : Nat → Nat → Int) (Rw : Nat → Nat) (Zw : Nat → Int) (kk : Nat), kk < fuel → (CSt cs ad Qm fw Iw Aw Rw Zw) → (∀ k, Awy ad k → fw k = f k) → (pl ≤ kk ∧ kk ≤ n) → (∀ i, Iw i = If i) → (∀ q, q ≠ 5 → Aw q = Af q) → (∀ j, Aw 5 j = shd (Af 5) kk n j) → ∀ (H : Heap) (locs : List Loc) (ls : Array Slot), Wb D vwCl (TY cs) L fw (AL L s.heap.size) s H locs → lv_has ls 4 [(3, .int (iI ((kk : Int)))), (0, .ref ((ad 0))), (1, .int (iI ((pl : Int)))), (2, .int (iI ((cd : Int))))] → W p l e R s m av below meth c H locs (0) (0) Q (F0 m 22 ls []) := by
        intro fuel
        induction fuel with
        | zero => intro fw Iw Aw Rw Zw kk hfu; exact absurd hfu (Nat.not_lt_zero _)
        | succ fuel ih_LA =>
          intro fw Iw Aw Rw Zw kk hfu_LA hCw hfrw hkk hIw hAw hA5 H locs ls B hl
          refine lv_iload_n hx hb d_RR_insert_22 rfl (lv_at hl 0 rfl) ?_
          refine lv_iload_n hx hb d_RR_insert_23 rfl (lv_at hl 2 rfl) ?_
          refine x_icmp_le (tgt := 47) hx hb d_RR_insert_24 (by decide) (by omega) (by omega) (fun h24 => ?_) (fun h24 => ?_)
          · refine lv_aload_n hx hb d_RR_insert_47 rfl (lv_at hl 1 rfl) ?_
            refine x_get (C := RX6) (T := TX6) (N := 14) hx hb hts inX6 hown (B.foc1 (hCw.x)) (hAd.f1 (by omega)) 0 rfl rfl 10 (by decide) (hts _ w_207) (fun _ h9 => h9) rfl d_RR_insert_48 ?_
            refine lv_iload_n hx hb d_RR_insert_51 rfl (lv_at hl 2 rfl) ?_
            refine lv_iload_n hx hb d_RR_insert_52 rfl (lv_at hl 3 rfl) ?_
            refine x_iast hx hb (B.foc1 (hCw.line)) (hAd.f1 (by omega)) 0 0 rfl rfl pl (by omega) (by omega) (by decide) d_RR_insert_53 (fun H locs B => ?_)
            have B : Wb D vwCl (TY cs) L (mw fw [((ad 13), .inl (cs 0, 60, .inl (ai (up (Aw 5) pl ((cd : Int))))))]) (AL L s.heap.size) s H _ := B
            obtain ⟨f_53, hf_53⟩ : ∃ f_53, f_53 = mw fw [((ad 13), .inl (cs 0, 60, .inl (ai (up (Aw 5) pl ((cd : Int))))))] := ⟨_, rfl⟩
            rw [← hf_53] at B
            obtain ⟨A_53, hA_53⟩ : ∃ A_53, A_53 = upA Aw 5 (up (Aw 5) pl ((cd : Int))) := ⟨_, rfl⟩
            have hC_53 : CSt cs ad Qm f_53 Iw A_53 Rw Zw := by rw [hf_53, hA_53]; exact CSt.w_line hAd hCw _
            have hfr_53 : ∀ k, Awy ad k → f_53 k = f k := fun k hk => Eq.trans (by rw [hf_53]; exact hk.mw1 (by omega)) (hfrw k hk)
            refine lv_aload_n hx hb d_RR_insert_54 rfl (lv_at hl 1 rfl) ?_
            refine lv_dup hx hb d_RR_insert_55 rfl ?_
            refine x_get (C := RX6) (T := TX6) (N := 14) hx hb hts inX6 hown (B.foc1 (hC_53.x)) (hAd.f1 (by omega)) 0 rfl rfl 12 (by decide) (hts _ w_209) (fun _ h9 => h9) rfl d_RR_insert_56 ?_
            refine x_iconst hx hb d_RR_insert_59 ?_
            refine x_iadd hx hb d_RR_insert_60 ?_
            refine x_put (C := RX6) (T := TX6) (N := 14) hx hb hts inX6 tyX6 tyX6_ok nmX6 hown (B.foc1 (hC_53.x)) (hAd.f1 (by omega)) 0 rfl rfl 12 (by decide) (hts _ w_209) (fun _ h9 => h9) rfl (tyX6_ok 12 (by decide)) rfl rfl (Nat.le_of_ble_eq_true rfl) d_RR_insert_61 (fun H locs B => ?_)
            have B : Wb D vwCl (TY cs) L (mw f_53 [((ad 0), .inr (6, [.ref (ad 1), .int (iI (Iw 0)), .ref (ad 2), .ref (ad 5), .ref (ad 7), .ref (ad 8), .ref (ad 9), .ref (ad 10), .ref (ad 11), .ref (ad 12), .ref (ad 13), .ref (ad 14), .int (iI ((Iw 1) + 1)), .int (iI (Iw 2))]))]) (AL L s.heap.size) s H _ := B
            obtain ⟨f_61, hf_61⟩ : ∃ f_61, f_61 = mw f_53 [((ad 0), .inr (6, [.ref (ad 1), .int (iI (Iw 0)), .ref (ad 2), .ref (ad 5), .ref (ad 7), .ref (ad 8), .ref (ad 9), .ref (ad 10), .ref (ad 11), .ref (ad 12), .ref (ad 13), .ref (ad 14), .int (iI ((Iw 1) + 1)), .int (iI (Iw 2))]))] := ⟨_, rfl⟩
            rw [← hf_61] at B
            obtain ⟨I_61, hI_61⟩ : ∃ I_61, I_61 = up Iw 1 ((Iw 1) + 1) := ⟨_, rfl⟩
            have hC_61 : CSt cs ad Qm f_61 I_61 A_53 Rw Zw := by rw [hf_61, hI_61]; exact CSt.w_lineLength hAd hC_53 ((Iw 1) + 1)
            have hfr_61 : ∀ k, Awy ad k → f_61 k = f k := fun k hk => Eq.trans (by rw [hf_61]; exact hk.mw1 (by omega)) (hfr_53 k hk)
            subst hQ hav
            exact x_vret hx hb hr hlocks B d_RR_insert_64 (⟨I_61, A_53, Rw, Zw, hC_61, hfr_61, fun i h => by rw [hI_61, up_ne _ _ h]; exact hIw i, by rw [hI_61, up_self, hIw], fun q hq => by rw [hA_53, upA_ne _ _ hq]; exact hAw q hq, fun j => by rw [hA_53, upA_self, show Aw 5 = shd (Af 5) kk n from funext hA5, show kk = pl by omega]; exact shd_ins j⟩)
          · refine lv_aload_n hx hb d_RR_insert_27 rfl (lv_at hl 1 rfl) ?_
            refine x_get (C := RX6) (T := TX6) (N := 14) hx hb hts inX6 hown (B.foc1 (hCw.x)) (hAd.f1 (by omega)) 0 rfl rfl 10 (by decide) (hts _ w_207) (fun _ h9 => h9) rfl d_RR_insert_28 ?_
            refine lv_iload_n hx hb d_RR_insert_31 rfl (lv_at hl 0 rfl) ?_
            refine lv_aload_n hx hb d_RR_insert_32 rfl (lv_at hl 1 rfl) ?_
            refine x_get (C := RX6) (T := TX6) (N := 14) hx hb hts inX6 hown (B.foc1 (hCw.x)) (hAd.f1 (by omega)) 0 rfl rfl 10 (by decide) (hts _ w_207) (fun _ h9 => h9) rfl d_RR_insert_33 ?_
            refine lv_iload_n hx hb d_RR_insert_36 rfl (lv_at hl 0 rfl) ?_
            refine x_iconst hx hb d_RR_insert_37 ?_
            refine x_isub hx hb d_RR_insert_38 ?_
            refine x_iald hx hb (B.foc1 (hCw.line)) (hAd.f1 (by omega)) 0 0 rfl rfl (kk - 1) (by omega) (by omega) (by decide) d_RR_insert_39 ?_
            refine x_iast hx hb (B.foc1 (hCw.line)) (hAd.f1 (by omega)) 0 0 rfl rfl kk (by omega) (by omega) (by decide) d_RR_insert_40 (fun H locs B => ?_)
            have B : Wb D vwCl (TY cs) L (mw fw [((ad 13), .inl (cs 0, 60, .inl (ai (up (Aw 5) kk (Aw 5 (kk - 1))))))]) (AL L s.heap.size) s H _ := B
            obtain ⟨f_40, hf_40⟩ : ∃ f_40, f_40 = mw fw [((ad 13), .inl (cs 0, 60, .inl (ai (up (Aw 5) kk (Aw 5 (kk - 1))))))] := ⟨_, rfl⟩
            rw [← hf_40] at B
            obtain ⟨A_40, hA_40⟩ : ∃ A_40, A_40 = upA Aw 5 (up (Aw 5) kk (Aw 5 (kk - 1))) := ⟨_, rfl⟩
            have hC_40 : CSt cs ad Qm f_40 Iw A_40 Rw Zw := by rw [hf_40, hA_40]; exact CSt.w_line hAd hCw _
            have hfr_40 : ∀ k, Awy ad k → f_40 k = f k := fun k hk => Eq.trans (by rw [hf_40]; exact hk.mw1 (by omega)) (hfrw k hk)
            refine x_iinc (lv' := [(3, .int (iI (((kk : Int)) + (-1)))), (0, .ref ((ad 0))), (1, .int (iI ((pl : Int)))), (2, .int (iI ((cd : Int))))]) hx hb d_RR_insert_41 hl (q := 0) rfl rfl (by decide) rfl (fun ls hl => ?_)
            refine lv_goto (tgt := 22) hx hb d_RR_insert_44 (by decide) ?_
            rw [show (kk : Int) + (-1) = ((kk - 1 : Nat) : Int) by omega] at hl
            exact ih_LA f_40 Iw A_40 Rw Zw (kk - 1) (by omega) hC_40 hfr_40 (⟨by omega, by omega⟩) hIw (fun q hq => by rw [hA_40, upA_ne _ _ hq]; exact hAw q hq) (fun j => by rw [hA_40, upA_self, show Aw 5 = shd (Af 5) kk n from funext hA5]; exact shd_step (by omega) (by omega) j) _ _ _ B (lv_sub hl [0, 1, 2, 3] rfl)
      exact LA _ f If Af Rf Zf n (Nat.lt_succ_self _) hC hfr (⟨hpl, Nat.le_refl _⟩) (fun _ => rfl) (fun _ _ => rfl) (fun j => by unfold shd; rw [if_neg (by omega)]) _ _ _ B (lv_sub hl [0, 1, 2, 3] rfl)
    · exfalso; omega
