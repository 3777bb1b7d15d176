theorem LnP.row {I : Nat → Int} {A : Nat → Nat → Int} {z : Nat → Int} {pp ii : Nat} (h : LnP I A z (5 * pp + ii)) (h5 : ∀ q i, Vc I A q i → i < 5) (hm : ∀ i, Vc I A pp i → i < ii) : LnP I A z (5 * (pp + 1)) := h.skip (fun q i hv h2 => by
  have h6 := h5 q i hv
  rcases Nat.lt_trichotomy q pp with c | c | c
  · omega
  · subst c
    have := hm i hv
    omega
  · omega)
set_option maxHeartbeats 8000000 in
set_option maxRecDepth 100000 in
theorem c_RR_lineUp (l : Launch) (D : va_G) (cs : Nat → ClassId) (L : List Nat) (f : Nat → va_E) (sz : Nat) (ad Qm : Nat → Nat) (If : Nat → Int) (Af : Nat → Nat → Int) (Rf : Nat → Nat) (Zf : Nat → Int)  (hAd : AdOk L ad Qm) (hC : CSt cs ad Qm f If Af Rf Zf) (hInv : Inv If Af) (hset : ∀ p : Nat, p < 12 → (p : Int) < If 0 → Nz (Af (20 + p)) → If (20 + p) = 1) : Met l (⟨"RealRoots", "lineUp", "()V"⟩ : MethodName) (.code (⟨"RealRoots", "lineUp", "()V"⟩ : MethodName) prog_1_method_51_code 7 (Option.none : Option Jvm.ClassFile.FieldType) :: gw) ({ frames := 7, cells := 0, slots := 0, locals := 360 }) (va_Pc [.ref ((ad 0))] (K0 D vwCl (TY cs) L f sz)) (va_Qv (fun (g : Nat → va_E) => ∃ (I' : Nat → Int) (A' : Nat → Nat → Int) (R' : Nat → Nat) (Z' : Nat → Int), CSt cs ad Qm g I' A' R' Z' ∧ (∀ k, Awy ad k → g k = f k) ∧ Inv I' A' ∧ I' 2 = 1 ∧ Kq If Af I' A') (K1 D vwCl (TY cs) (AL L sz) L) (AL L sz)) 0 0 (AL L sz) := by
  refine Met.ofW (cc := prog_1_method_51_code) (maxL := 7) (ret := (Option.none : Option Jvm.ClassFile.FieldType)) (by decide) rfl ?_
  intro p e s m args below meth c s₁ Bd hml hv
  obtain ⟨rfl, hk0⟩ := hv
  obtain ⟨hsz, B⟩ := hk0.start
  subst hsz
  have hx := Bd.exec
  have hb := Bd.bytes
  have hr := Bd.returns
  have hlocks := Bd.notSynchronized
  have hts0 := atoms_spec Bd.pre
  have hown : s.vm.findClass RX6 = some m.cls := findClass_of_methodNamed Bd.named
  have hA : ∀ q, s.heap.size ≤ q → AL L s.heap.size q := fun _ h => Or.inr h
  have hl := lv_entry ([.ref ((ad 0))]) (n := 7) (Nat.le_of_ble_eq_true rfl)
  rw [lg_entry_eq]
  generalize (lg_sl ([.ref ((ad 0))]) ++ List.replicate (7 - (lg_sl ([.ref ((ad 0))])).length) Slot.unset).toArray = ls at hl ⊢
  refine absQ (fun Q R av hQ hR hav => ?_)
  have hts : ∀ w ∈ gw, w.before av s = true := by rw [hav]; exact fun w h => hts0 w (List.mem_cons_of_mem _ h)
  have hRf : R.frames = 7 := by rw [hR]; rfl
  have hRl : R.locals = 360 := by rw [hR]; rfl
  have hRc : R.cells = 0 := by rw [hR]; rfl
  have hRs : R.slots = 0 := by rw [hR]; rfl
  clear hR hts0 Bd
  have hl : lv_has ls 7 [(0, .ref ((ad 0)))] := hl
  have hfr : ∀ k, Awy ad k → f k = f k := fun _ _ => rfl
  have hhd := hInv.1.1
  have hl2 : If 2 = 0 ∨ If 2 = 1 := by rcases hInv.2 with h | ⟨h, _⟩ <;> omega
  obtain ⟨z, hZ⟩ := AllZ.ex hInv hset
  refine lv_aload_n hx hb d_RR_lineUp_0 rfl (lv_at hl 0 rfl) ?_
  refine x_get (C := RX6) (T := TX6) (N := 14) hx hb hts inX6 hown (B.foc1 (hC.x)) (hAd.f1 (by omega)) 0 rfl rfl 13 (by decide) (hts _ w_210) (fun _ h9 => h9) rfl d_RR_lineUp_1 ?_
  refine x_if_eq (tgt := 8) hx hb d_RR_lineUp_4 (by decide) (by omega) (fun h4 => ?_) (fun h4 => ?_)
  · refine lv_aload_n hx hb d_RR_lineUp_8 rfl (lv_at hl 0 rfl) ?_
    refine x_iconst hx hb d_RR_lineUp_9 ?_
    refine x_put (C := RX6) (T := TX6) (N := 14) hx hb hts inX6 tyX6 tyX6_ok nmX6 hown (B.foc1 (hC.x)) (hAd.f1 (by omega)) 0 rfl rfl 12 (by decide) (hts _ w_209) (fun _ h9 => h9) rfl (tyX6_ok 12 (by decide)) rfl rfl (Nat.le_of_ble_eq_true rfl) d_RR_lineUp_10 (fun H locs B => ?_)
    have B : Wb D vwCl (TY cs) L (mw f [((ad 0), .inr (6, [.ref (ad 1), .int (iI (If 0)), .ref (ad 2), .ref (ad 5), .ref (ad 7), .ref (ad 8), .ref (ad 9), .ref (ad 10), .ref (ad 11), .ref (ad 12), .ref (ad 13), .ref (ad 14), .int (iI (0)), .int (iI (If 2))]))]) (AL L s.heap.size) s H _ := B
    obtain ⟨f_10, hf_10⟩ : ∃ f_10, f_10 = mw f [((ad 0), .inr (6, [.ref (ad 1), .int (iI (If 0)), .ref (ad 2), .ref (ad 5), .ref (ad 7), .ref (ad 8), .ref (ad 9), .ref (ad 10), .ref (ad 11), .ref (ad 12), .ref (ad 13), .ref (ad 14), .int (iI (0)), .int (iI (If 2))]))] := ⟨_, rfl⟩
    rw [← hf_10] at B
    obtain ⟨I_10, hI_10⟩ : ∃ I_10, I_10 = up If 1 (0) := ⟨_, rfl⟩
    have hC_10 : CSt cs ad Qm f_10 I_10 Af Rf Zf := by rw [hf_10, hI_10]; exact CSt.w_lineLength hAd hC (0)
    have hfr_10 : ∀ k, Awy ad k → f_10 k = f k := fun k hk => Eq.trans (by rw [hf_10]; exact hk.mw1 (by omega)) (hfr k hk)
    refine x_iconst hx hb d_RR_lineUp_13 ?_
    refine lv_istore_n (lv' := [(1, .int (iI 0)), (0, .ref ((ad 0)))]) hx hb d_RR_lineUp_14 rfl hl (by decide) rfl (fun ls hl => ?_)
    have LA : ∀ (fuel : Nat) (fw : Nat → va_E) (Iw : Nat → Int) (Aw : Nat → Nat → Int) (Rw : Nat → Nat) (Zw : Nat → Int) (pp : Nat), 13 - pp < fuel → (CSt cs ad Qm fw Iw Aw Rw Zw) → (∀ k, Awy ad k → fw k = f k) → (Inv Iw Aw) → (Iw 2 = 0) → (Kq If Af Iw Aw) → (LnP Iw Aw z (5 * pp)) → (Iw 1 ≤ 5 * (pp : Int)) → ((pp : Int) ≤ If 0) → ∀ (H : Heap) (locs : List Loc) (ls : Array Slot), Wb D vwCl (TY cs) L fw (AL L s.heap.size) s H locs → lv_has ls 7 [(1, .int (iI ((pp : Int)))), (0, .ref ((ad 0)))] → W p l e R s m av below meth c H locs (0) (0) Q (F0 m 15 ls []) := by
      intro fuel
      induction fuel with
      | zero => intro fw Iw Aw Rw Zw pp hfu; exact absurd hfu (Nat.not_lt_zero _)
      | succ fuel ih_LA =>
        intro fw Iw Aw Rw Zw pp hfu_LA hCw hfrw hInvw hl2w hKw hLw hlw hpp H locs ls B hl
        have hZw := hZ.kq hKw
        have hI0w : Iw 0 = If 0 := hKw.1
        have hp12 : pp ≤ 12 := by omega
        refine lv_iload_n hx hb d_RR_lineUp_15 rfl (lv_at hl 0 rfl) ?_
        refine lv_aload_n hx hb d_RR_lineUp_16 rfl (lv_at hl 1 rfl) ?_
        refine x_get (C := RX6) (T := TX6) (N := 14) hx hb hts inX6 hown (B.foc1 (hCw.x)) (hAd.f1 (by omega)) 0 rfl rfl 1 (by decide) (hts _ w_198) (fun _ h9 => h9) rfl d_RR_lineUp_17 ?_
        refine x_icmp_ge (tgt := 161) hx hb d_RR_lineUp_20 (by decide) (by omega) (by omega) (fun h20 => ?_) (fun h20 => ?_)
        · refine lv_aload_n hx hb d_RR_lineUp_161 rfl (lv_at hl 1 rfl) ?_
          refine x_iconst hx hb d_RR_lineUp_162 ?_
          refine x_put (C := RX6) (T := TX6) (N := 14) hx hb hts inX6 tyX6 tyX6_ok nmX6 hown (B.foc1 (hCw.x)) (hAd.f1 (by omega)) 0 rfl rfl 13 (by decide) (hts _ w_210) (fun _ h9 => h9) rfl (tyX6_ok 13 (by decide)) rfl rfl (Nat.le_of_ble_eq_true rfl) d_RR_lineUp_163 (fun H locs B => ?_)
          have B : Wb D vwCl (TY cs) L (mw fw [((ad 0), .inr (6, [.ref (ad 1), .int (iI (Iw 0)), .ref (ad 2), .ref (ad 5), .ref (ad 7), .ref (ad 8), .ref (ad 9), .ref (ad 10), .ref (ad 11), .ref (ad 12), .ref (ad 13), .ref (ad 14), .int (iI (Iw 1)), .int (iI (1))]))]) (AL L s.heap.size) s H _ := B
          obtain ⟨f_163, hf_163⟩ : ∃ f_163, f_163 = mw fw [((ad 0), .inr (6, [.ref (ad 1), .int (iI (Iw 0)), .ref (ad 2), .ref (ad 5), .ref (ad 7), .ref (ad 8), .ref (ad 9), .ref (ad 10), .ref (ad 11), .ref (ad 12), .ref (ad 13), .ref (ad 14), .int (iI (Iw 1)), .int (iI (1))]))] := ⟨_, rfl⟩
          rw [← hf_163] at B
          obtain ⟨I_163, hI_163⟩ : ∃ I_163, I_163 = up Iw 2 (1) := ⟨_, rfl⟩
          have hC_163 : CSt cs ad Qm f_163 I_163 Aw Rw Zw := by rw [hf_163, hI_163]; exact CSt.w_lined hAd hCw (1)
          have hfr_163 : ∀ k, Awy ad k → f_163 k = f k := fun k hk => Eq.trans (by rw [hf_163]; exact hk.mw1 (by omega)) (hfrw k hk)
          subst hQ hav
          exact x_vret hx hb hr hlocks B d_RR_lineUp_166 (⟨I_163, Aw, Rw, Zw, hC_163, hfr_163, hInvw.done hZw (hLw.skip (fun q i hv h2 => by have h5 := AllZ.five hInvw hZw hv; have h6 := hv.2.1; omega)) (by omega) (by rw [hI_163, up_self]) (fun i h => by rw [hI_163, up_ne _ _ h]) (fun _ => rfl), by rw [hI_163, up_self], hKw.trans (Kq.ln (fun i _ h => by rw [hI_163, up_ne _ _ h]) (fun _ _ _ => rfl))⟩)
        · have hppl : pp < 12 := by omega
          have hVMw := hInvw.1.2.1 pp hppl
          have J52 : ∀ (mn : Nat), ((mn = 0 ∧ ¬ Nz (Aw (20 + pp))) ∨ (Nz (Aw (20 + pp)) ∧ Iw (40 + pp) = (mn : Int))) → (mn ≤ 5) → ∀ (H : Heap) (locs : List Loc) (ls : Array Slot), Wb D vwCl (TY cs) L fw (AL L s.heap.size) s H locs → lv_has ls 7 [(1, .int (iI ((pp : Int)))), (0, .ref ((ad 0)))] → W p l e R s m av below meth c H locs (0) (0) Q (F0 m 52 ls [.int (iI ((mn : Int)))]) := by
            intro mn hmn hmn5 H locs ls B hl
            refine lv_istore_n (lv' := [(2, .int (iI ((mn : Int)))), (1, .int (iI ((pp : Int)))), (0, .ref ((ad 0)))]) hx hb d_RR_lineUp_52 rfl hl (by decide) rfl (fun ls hl => ?_)
            refine x_iconst hx hb d_RR_lineUp_53 ?_
            refine lv_istore_n (lv' := [(3, .int (iI 0)), (2, .int (iI ((mn : Int)))), (1, .int (iI ((pp : Int)))), (0, .ref ((ad 0)))]) hx hb d_RR_lineUp_54 rfl hl (by decide) rfl (fun ls hl => ?_)
            refine x_iconst hx hb d_RR_lineUp_55 ?_
            refine lv_istore (lv' := [(4, .int (iI 0)), (3, .int (iI 0)), (2, .int (iI ((mn : Int)))), (1, .int (iI ((pp : Int)))), (0, .ref ((ad 0)))]) hx hb d_RR_lineUp_56 hl (by decide) rfl (fun ls hl => ?_)
            have LM : ∀ (fuel : Nat) (fm : Nat → va_E) (Im : Nat → Int) (Am : Nat → Nat → Int) (Rm : Nat → Nat) (Zm : Nat → Int) (ii : Nat) (pl : Nat), mn - ii < fuel → (CSt cs ad Qm fm Im Am Rm Zm) → (∀ k, Awy ad k → fm k = f k) → (Inv Im Am) → (Im 2 = 0) → (Kq If Af Im Am) → (LnP Im Am z (5 * pp + ii)) → (Im 1 ≤ 5 * (pp : Int) + (ii : Int)) → (ii ≤ mn) → ((pl : Int) ≤ Im 1) → (∀ k : Nat, k < pl → ∀ i2 : Nat, ii ≤ i2 → i2 < mn → z (Am 5 k).toNat < z (5 * pp + i2)) → ∀ (H : Heap) (locs : List Loc) (ls : Array Slot), Wb D vwCl (TY cs) L fm (AL L s.heap.size) s H locs → lv_has ls 7 [(4, .int (iI ((ii : Int)))), (3, .int (iI ((pl : Int)))), (2, .int (iI ((mn : Int)))), (1, .int (iI ((pp : Int)))), (0, .ref ((ad 0)))] → W p l e R s m av below meth c H locs (0) (0) Q (F0 m 58 ls []) := by
              intro fuel
              induction fuel with
              | zero => intro fm Im Am Rm Zm ii pl hfu; exact absurd hfu (Nat.not_lt_zero _)
              | succ fuel ih_LM =>
                intro fm Im Am Rm Zm ii pl hfu_LM hCm hfrm hInvm hl2m hKm hLm hlm him hpm hbm H locs ls B hl
                have hZm := hZ.kq hKm
                refine lv_iload hx hb d_RR_lineUp_58 (lv_at hl 0 rfl) ?_
                refine lv_iload_n hx hb d_RR_lineUp_60 rfl (lv_at hl 2 rfl) ?_
                refine x_icmp_ge (tgt := 155) hx hb d_RR_lineUp_61 (by decide) (by omega) (by omega) (fun h61 => ?_) (fun h61 => ?_)
                · refine x_iinc (lv' := [(1, .int (iI (((pp : Int)) + 1))), (4, .int (iI ((ii : Int)))), (3, .int (iI ((pl : Int)))), (2, .int (iI ((mn : Int)))), (0, .ref ((ad 0)))]) hx hb d_RR_lineUp_155 hl (q := 3) rfl rfl (by decide) rfl (fun ls hl => ?_)
                  refine lv_goto (tgt := 15) hx hb d_RR_lineUp_158 (by decide) ?_
                  exact ih_LA fm Im Am Rm Zm (pp + 1) (by omega) hCm hfrm hInvm hl2m hKm (hLm.row (fun q i hv => AllZ.five hInvm hZm hv) (fun i hv => by
            obtain ⟨_, _, v3, v4⟩ := hv
            rw [(hKm.2.2 _ (by omega) (by omega)).trans (hKw.2.2 _ (by omega) (by omega)).symm] at v3
            rw [(hKm.2.1 _ (by omega) (by omega)).trans (hKw.2.1 _ (by omega) (by omega)).symm] at v4
            rcases hmn with ⟨_, e2⟩ | ⟨_, e2⟩
            · exact absurd v3 e2
            · omega)) (by omega) (by omega) _ _ _ B (lv_sub hl [0, 4] rfl)
                · refine lv_iload_n hx hb d_RR_lineUp_64 rfl (lv_at hl 3 rfl) ?_
                  refine x_iconst hx hb d_RR_lineUp_65 ?_
                  refine x_imul hx hb d_RR_lineUp_66 ?_
                  refine lv_iload hx hb d_RR_lineUp_67 (lv_at hl 0 rfl) ?_
                  refine x_iadd hx hb d_RR_lineUp_69 ?_
                  rw [show (pp : Int) * 5 + (ii : Int) = ((5 * pp + ii : Nat) : Int) by omega]
                  refine lv_istore (lv' := [(5, .int (iI (((5 * pp + ii : Nat) : Int)))), (4, .int (iI ((ii : Int)))), (3, .int (iI ((pl : Int)))), (2, .int (iI ((mn : Int)))), (1, .int (iI ((pp : Int)))), (0, .ref ((ad 0)))]) hx hb d_RR_lineUp_70 hl (by decide) rfl (fun ls hl => ?_)
                  refine x_iconst hx hb d_RR_lineUp_72 ?_
                  refine lv_istore (lv' := [(6, .int (iI 1)), (5, .int (iI (((5 * pp + ii : Nat) : Int)))), (4, .int (iI ((ii : Int)))), (3, .int (iI ((pl : Int)))), (2, .int (iI ((mn : Int)))), (1, .int (iI ((pp : Int)))), (0, .ref ((ad 0)))]) hx hb d_RR_lineUp_73 hl (by decide) rfl (fun ls hl => ?_)
                  have LU : ∀ (fuel : Nat) (fu : Nat → va_E) (Iu : Nat → Int) (Au : Nat → Nat → Int) (Ru : Nat → Nat) (Zu : Nat → Int) (pl2 : Nat) (wy : Int), 60 - pl2 < fuel → (CSt cs ad Qm fu Iu Au Ru Zu) → (∀ k, Awy ad k → fu k = f k) → (Inv Iu Au) → (Iu 2 = 0) → (Kq If Af Iu Au) → (LnP Iu Au z (5 * pp + ii)) → (Iu 1 ≤ 5 * (pp : Int) + (ii : Int)) → ((pl2 : Int) ≤ Iu 1) → (∀ k : Nat, k < pl2 → ∀ i2 : Nat, ii ≤ i2 → i2 < mn → z (Au 5 k).toNat < z (5 * pp + i2)) → (wy = 1) → (ii < mn) → ∀ (H : Heap) (locs : List Loc) (ls : Array Slot), Wb D vwCl (TY cs) L fu (AL L s.heap.size) s H locs → lv_has ls 7 [(6, .int (iI wy)), (5, .int (iI (((5 * pp + ii : Nat) : Int)))), (4, .int (iI ((ii : Int)))), (3, .int (iI ((pl2 : Int)))), (2, .int (iI ((mn : Int)))), (1, .int (iI ((pp : Int)))), (0, .ref ((ad 0)))] → W p l e R s m av below meth c H locs (0) (0) Q (F0 m 75 ls []) := by
                    intro fuel
                    induction fuel with
                    | zero => intro fu Iu Au Ru Zu pl2 wy hfu; exact absurd hfu (Nat.not_lt_zero _)
                    | succ fuel ih_LU =>
                      intro fu Iu Au Ru Zu pl2 wy hfu_LU hCu hfru hInvu hl2u hKu hLu hlu hpu hbu hwy hiu H locs ls B hl
                      have hZu := hZ.kq hKu
                      have hNw2 : Nz (Aw (20 + pp)) ∧ Iw (40 + pp) = (mn : Int) := by rcases hmn with h | h; omega; exact h
                      have eAu : Au (20 + pp) = Aw (20 + pp) := (hKu.2.2 _ (by omega) (by omega)).trans (hKw.2.2 _ (by omega) (by omega)).symm
                      have eIu : Iu (40 + pp) = Iw (40 + pp) := (hKu.2.1 _ (by omega) (by omega)).trans (hKw.2.1 _ (by omega) (by omega)).symm
                      have hvc : ∀ i2 : Nat, i2 < mn → Vc Iu Au pp i2 := fun i2 h2 => ⟨hppl, by rw [hKu.1]; omega, by rw [eAu]; exact hNw2.1, by rw [eIu, hNw2.2]; omega⟩
                      have hlu0 := hLu.1
                      refine lv_iload_n hx hb d_RR_lineUp_75 rfl (lv_at hl 3 rfl) ?_
                      refine lv_aload_n hx hb d_RR_lineUp_76 rfl (lv_at hl 6 rfl) ?_
                      refine x_get (C := RX6) (T := TX6) (N := 14) hx hb hts inX6 hown (B.foc1 (hCu.x)) (hAd.f1 (by omega)) 0 rfl rfl 12 (by decide) (hts _ w_209) (fun _ h9 => h9) rfl d_RR_lineUp_77 ?_
                      refine x_icmp_ge (tgt := 111) hx hb d_RR_lineUp_80 (by decide) (by omega) (by omega) (fun h80 => ?_) (fun h80 => ?_)
                      · refine lv_iload hx hb d_RR_lineUp_111 (lv_at hl 0 rfl) ?_
                        refine x_if_eq (tgt := 123) hx hb d_RR_lineUp_113 (by decide) (by omega) (fun h113 => ?_) (fun h113 => ?_)
                        · exfalso; omega
                        · obtain ⟨nl, hnl⟩ : ∃ nl : Nat, Iu 1 = (nl : Int) := ⟨(Iu 1).toNat, by omega⟩
                          refine lv_aload_n hx hb d_RR_lineUp_116 rfl (lv_at hl 6 rfl) ?_
                          refine lv_iload_n hx hb d_RR_lineUp_117 rfl (lv_at hl 3 rfl) ?_
                          refine lv_iload hx hb d_RR_lineUp_118 (lv_at hl 1 rfl) ?_
                          refine x_callv B hA (va_runV (As := [.int (iI ((pl2 : Int))), .int (iI (((5 * pp + ii : Nat) : Int)))]) (rest := []) ⟨hx, hb, hml, hown, hts⟩ (c_RR_insert l D cs _ _ _ ad Qm Iu Au Ru Zu pl2 (5 * pp + ii) nl hAd hCu hnl (by omega) (by omega)) (cwV 2 hts (gw_V w_536 w_538 s_25 w_1 w_539) rfl rfl rfl (by decide +kernel) ⟨by rw [hRf]; exact Nat.le_of_ble_eq_true rfl, by rw [hRl]; exact Nat.le_of_ble_eq_true rfl⟩) ⟨K0.blind, B.recv (hAd.1 _ (by omega)) (hCu.x) rfl, B.pre _⟩ rfl rfl hl.1 rfl (lv_room (Nat.le_of_ble_eq_true rfl)) d_RR_lineUp_120 ⟨by rw [hRc]; omega, by rw [hRs]; omega⟩) (fun g120 H locs hw B => ?_)
                          obtain ⟨Iv, Av, Rv, Zv, hCv, hqv, hIv, hIv1, hAv, hAv5⟩ := hw
                          have hfrv : ∀ k, Awy ad k → g120 k = f k := fun k hk => (hqv k hk).trans (hfru k hk)
                          have B : Wb D vwCl (TY cs) L g120 (AL L s.heap.size) s H _ := B
                          have hLv := LnP.ins (p := pp) (i := ii) (pl := pl2) hLu hnl (hvc ii hiu) (by omega) (fun k hk => by exact hbu k hk ii (Nat.le_refl _) hiu) (fun h => by omega) (fun j h1 _ => hIv j h1) hIv1 hAv5 hAv
                          have hKv := hKu.trans (Kq.ln (fun j h1 _ => hIv j h1) (fun q h1 _ => hAv q h1))
                          have hl2v : Iv 2 = 0 := (hIv 2 (by decide)).trans hl2u
                          have hInvv := hInvu.ln hl2v (fun j h1 _ => hIv j h1) (fun q h1 _ => hAv q h1)
                          have hev : z (Av 5 pl2).toNat = z (5 * pp + ii) := by rw [hAv5]; unfold insd; rw [if_neg (by omega), if_pos rfl, Int.toNat_natCast]
                          have hplv : (pl2 : Int) < Iv 1 := by omega
                          have hbv : ∀ k : Nat, k < pl2 → ∀ i2 : Nat, ii ≤ i2 → i2 < mn → z (Av 5 k).toNat < z (5 * pp + i2) := fun k hk i2 h1 h2 => by rw [hAv5]; unfold insd; rw [if_pos hk]; exact hbu k hk i2 h1 h2
                          refine lv_aload_n hx hb d_RR_lineUp_123 rfl (lv_at hl 6 rfl) ?_
                          refine x_get (C := RX6) (T := TX6) (N := 14) hx hb hts inX6 hown (B.foc1 (hCv.x)) (hAd.f1 (by omega)) 0 rfl rfl 11 (by decide) (hts _ w_208) (fun _ h9 => h9) rfl d_RR_lineUp_124 ?_
                          refine lv_iload hx hb d_RR_lineUp_127 (lv_at hl 1 rfl) ?_
                          refine lv_iload_n hx hb d_RR_lineUp_129 rfl (lv_at hl 3 rfl) ?_
                          refine lv_aload_n hx hb d_RR_lineUp_130 rfl (lv_at hl 6 rfl) ?_
                          refine x_get (C := RX6) (T := TX6) (N := 14) hx hb hts inX6 hown (B.foc1 (hCv.x)) (hAd.f1 (by omega)) 0 rfl rfl 12 (by decide) (hts _ w_209) (fun _ h9 => h9) rfl d_RR_lineUp_131 ?_
                          refine x_icmp_ge (tgt := 146) hx hb d_RR_lineUp_134 (by decide) (by omega) (by omega) (fun h134 => ?_) (fun h134 => ?_)
                          · exfalso; omega
                          · refine lv_aload_n hx hb d_RR_lineUp_137 rfl (lv_at hl 6 rfl) ?_
                            refine x_get (C := RX6) (T := TX6) (N := 14) hx hb hts inX6 hown (B.foc1 (hCv.x)) (hAd.f1 (by omega)) 0 rfl rfl 10 (by decide) (hts _ w_207) (fun _ h9 => h9) rfl d_RR_lineUp_138 ?_
                            refine lv_iload_n hx hb d_RR_lineUp_141 rfl (lv_at hl 3 rfl) ?_
                            refine x_iald hx hb (B.foc1 (hCv.line)) (hAd.f1 (by omega)) 0 0 rfl rfl pl2 (by omega) (by omega) (by decide) d_RR_lineUp_142 ?_
                            refine lv_goto (tgt := 148) hx hb d_RR_lineUp_143 (by decide) ?_
                            refine x_iast hx hb (B.foc1 (hCv.stf)) (hAd.f1 (by omega)) 0 0 rfl rfl ((5 * pp + ii)) (by omega) (by omega) (by decide) d_RR_lineUp_148 (fun H locs B => ?_)
                            have B : Wb D vwCl (TY cs) L (mw g120 [((ad 14), .inl (cs 0, 60, .inl (ai (up (Av 6) ((5 * pp + ii)) (Av 5 pl2)))))]) (AL L s.heap.size) s H _ := B
                            obtain ⟨f_148, hf_148⟩ : ∃ f_148, f_148 = mw g120 [((ad 14), .inl (cs 0, 60, .inl (ai (up (Av 6) ((5 * pp + ii)) (Av 5 pl2)))))] := ⟨_, rfl⟩
                            rw [← hf_148] at B
                            obtain ⟨A_148, hA_148⟩ : ∃ A_148, A_148 = upA Av 6 (up (Av 6) ((5 * pp + ii)) (Av 5 pl2)) := ⟨_, rfl⟩
                            have hC_148 : CSt cs ad Qm f_148 Iv A_148 Rv Zv := by rw [hf_148, hA_148]; exact CSt.w_stf hAd hCv _
                            have hfr_148 : ∀ k, Awy ad k → f_148 k = f k := fun k hk => Eq.trans (by rw [hf_148]; exact hk.mw1 (by omega)) (hfrv k hk)
                            refine x_iinc (lv' := [(4, .int (iI (((ii : Int)) + 1))), (6, .int (iI wy)), (5, .int (iI (((5 * pp + ii : Nat) : Int)))), (3, .int (iI ((pl2 : Int)))), (2, .int (iI ((mn : Int)))), (1, .int (iI ((pp : Int)))), (0, .ref ((ad 0)))]) hx hb d_RR_lineUp_149 hl (q := 2) rfl rfl (by decide) rfl (fun ls hl => ?_)
                            refine lv_goto (tgt := 58) hx hb d_RR_lineUp_152 (by decide) ?_
                            exact ih_LM f_148 Iv A_148 Rv Zv (ii + 1) pl2 (by omega) hC_148 hfr_148 (hInvv.ln hl2v (fun _ _ _ => rfl) (fun q h1 h2 => by rw [hA_148, upA_ne _ _ h2])) hl2v (hKv.trans (Kq.ln (fun _ _ _ => rfl) (fun q _ h2 => by rw [hA_148, upA_ne _ _ h2]))) (hLv.stf hplv hev (fun _ => rfl) (fun j => by rw [hA_148, upA_self]) (fun q h2 => by rw [hA_148, upA_ne _ _ h2])) (by omega) (by omega) (by omega) (fun k hk i2 h1 h2 => by rw [hA_148, upA_ne _ _ (by decide)]; exact hbv k hk i2 (by omega) h2) _ _ _ B (lv_sub hl [0, 3, 4, 5, 6] rfl)
                      · refine lv_aload_n hx hb d_RR_lineUp_83 rfl (lv_at hl 6 rfl) ?_
                        refine lv_iload hx hb d_RR_lineUp_84 (lv_at hl 1 rfl) ?_
                        refine lv_aload_n hx hb d_RR_lineUp_86 rfl (lv_at hl 6 rfl) ?_
                        refine x_get (C := RX6) (T := TX6) (N := 14) hx hb hts inX6 hown (B.foc1 (hCu.x)) (hAd.f1 (by omega)) 0 rfl rfl 10 (by decide) (hts _ w_207) (fun _ h9 => h9) rfl d_RR_lineUp_87 ?_
                        refine lv_iload_n hx hb d_RR_lineUp_90 rfl (lv_at hl 3 rfl) ?_
                        refine x_iald hx hb (B.foc1 (hCu.line)) (hAd.f1 (by omega)) 0 0 rfl rfl pl2 (by omega) (by omega) (by decide) d_RR_lineUp_91 ?_
                        obtain ⟨pb, ib, hvb, hlb⟩ := hLu.2.1 pl2 (by omega)
                        have hZa := hZu pp hppl (hvc ii hiu).2.1 (hvc ii hiu).2.2.1
                        have hZb := hZu pb hvb.1 hvb.2.1 hvb.2.2.1
                        rw [hlb]
                        refine x_calli B hA (va_runV (As := [.int (iI (((5 * pp + ii : Nat) : Int))), .int (iI (((5 * pb + ib : Nat) : Int)))]) (rest := []) ⟨hx, hb, hml, hown, hts⟩ (c_RR_order_i l D cs _ _ _ ad Qm Iu Au Ru Zu pp ii pb ib (z (5 * pp + ii)) (z (5 * pb + ib)) hAd hCu hInvu hppl hvb.1 hZa.1 hZb.1 (hvc ii hiu).2.2.2 hvb.2.2.2 (hZa.2 ii (hvc ii hiu).2.2.2) (hZb.2 ib hvb.2.2.2)) (cwV 2 hts (gw_V w_517 w_519 s_23 w_1 w_520) rfl rfl rfl (by decide +kernel) ⟨by rw [hRf]; exact Nat.le_of_ble_eq_true rfl, by rw [hRl]; exact Nat.le_of_ble_eq_true rfl⟩) ⟨K0.blind, B.recv (hAd.1 _ (by omega)) (hCu.x) rfl, B.pre _⟩ rfl rfl hl.1 rfl (lv_room (Nat.le_of_ble_eq_true rfl)) d_RR_lineUp_92 ⟨by rw [hRc]; omega, by rw [hRs]; omega⟩) (fun r92 g92 H locs hw B => ?_)
                        obtain ⟨Io, Ao, Ro, Zo, hCo, hqo, orr, rfl, hoi, hok, hor, _, _⟩ := hw
                        have hfro : ∀ k, Awy ad k → g92 k = f k := fun k hk => (hqo k hk).trans (hfru k hk)
                        have B : Wb D vwCl (TY cs) L g92 (AL L s.heap.size) s H _ := B
                        have horr : -1 ≤ orr ∧ orr ≤ 1 := by rw [hor]; unfold cmq; split; omega; split <;> omega
                        have hLo := hLu.kp hok
                        have hKo := hKu.trans hok.kq
                        have hl2o : Io 2 = 0 := (hok.1 2 (Or.inl (by omega))).trans hl2u
                        have hI1o : Io 1 = Iu 1 := hok.1 1 (Or.inl (by omega))
                        have hA5o : Ao 5 = Au 5 := hok.2 5 (Or.inl rfl)
                        refine lv_istore (lv' := [(6, .int (iI orr)), (5, .int (iI (((5 * pp + ii : Nat) : Int)))), (4, .int (iI ((ii : Int)))), (3, .int (iI ((pl2 : Int)))), (2, .int (iI ((mn : Int)))), (1, .int (iI ((pp : Int)))), (0, .ref ((ad 0)))]) hx hb d_RR_lineUp_95 hl (by decide) rfl (fun ls hl => ?_)
                        refine lv_iload hx hb d_RR_lineUp_97 (lv_at hl 0 rfl) ?_
                        refine x_if_gt (tgt := 105) hx hb d_RR_lineUp_99 (by decide) (by omega) (fun h99 => ?_) (fun h99 => ?_)
                        · refine x_iinc (lv' := [(3, .int (iI (((pl2 : Int)) + 1))), (6, .int (iI orr)), (5, .int (iI (((5 * pp + ii : Nat) : Int)))), (4, .int (iI ((ii : Int)))), (2, .int (iI ((mn : Int)))), (1, .int (iI ((pp : Int)))), (0, .ref ((ad 0)))]) hx hb d_RR_lineUp_105 hl (q := 3) rfl rfl (by decide) rfl (fun ls hl => ?_)
                          refine lv_goto (tgt := 75) hx hb d_RR_lineUp_108 (by decide) ?_
                          exact ih_LU g92 Io Ao Ro Zo (pl2 + 1) orr (by omega) hCo hfro hoi hl2o hKo hLo (by omega) (by omega) (fun k hk i2 h1 h2 => by
                  rw [hA5o]
                  rcases Nat.lt_or_ge k pl2 with c | c
                  · exact hbu k c i2 h1 h2
                  · rw [show k = pl2 by omega, hlb, Int.toNat_natCast]
                    have h3 := cmq_pos.mp (show 0 < cmq (z (5 * pp + ii)) (z (5 * pb + ib)) by omega)
                    rcases Nat.eq_or_lt_of_le h1 with c3 | c3
                    · rw [← c3]; exact h3
                    · exact Int.lt_trans h3 (AllZ.mono hInvu hZu (hvc ii hiu) (hvc i2 h2) c3)) (by omega) hiu _ _ _ B (lv_sub hl [1, 2, 3, 0, 4, 5, 6] rfl)
                        · refine lv_goto (tgt := 111) hx hb d_RR_lineUp_102 (by decide) ?_
                          refine lv_iload hx hb d_RR_lineUp_111 (lv_at hl 0 rfl) ?_
                          refine x_if_eq (tgt := 123) hx hb d_RR_lineUp_113 (by decide) (by omega) (fun h113 => ?_) (fun h113 => ?_)
                          · have hec : z (Ao 5 pl2).toNat = z (5 * pp + ii) := by rw [hA5o, hlb, Int.toNat_natCast]; exact (cmq_zero.mp (show cmq (z (5 * pp + ii)) (z (5 * pb + ib)) = 0 by omega)).symm
                            have hplc : (pl2 : Int) < Io 1 := by omega
                            have hbc : ∀ k : Nat, k < pl2 → ∀ i2 : Nat, ii ≤ i2 → i2 < mn → z (Ao 5 k).toNat < z (5 * pp + i2) := fun k hk i2 h1 h2 => by rw [hA5o]; exact hbu k hk i2 h1 h2
                            refine lv_aload_n hx hb d_RR_lineUp_123 rfl (lv_at hl 6 rfl) ?_
                            refine x_get (C := RX6) (T := TX6) (N := 14) hx hb hts inX6 hown (B.foc1 (hCo.x)) (hAd.f1 (by omega)) 0 rfl rfl 11 (by decide) (hts _ w_208) (fun _ h9 => h9) rfl d_RR_lineUp_124 ?_
                            refine lv_iload hx hb d_RR_lineUp_127 (lv_at hl 1 rfl) ?_
                            refine lv_iload_n hx hb d_RR_lineUp_129 rfl (lv_at hl 3 rfl) ?_
                            refine lv_aload_n hx hb d_RR_lineUp_130 rfl (lv_at hl 6 rfl) ?_
                            refine x_get (C := RX6) (T := TX6) (N := 14) hx hb hts inX6 hown (B.foc1 (hCo.x)) (hAd.f1 (by omega)) 0 rfl rfl 12 (by decide) (hts _ w_209) (fun _ h9 => h9) rfl d_RR_lineUp_131 ?_
                            refine x_icmp_ge (tgt := 146) hx hb d_RR_lineUp_134 (by decide) (by omega) (by omega) (fun h134 => ?_) (fun h134 => ?_)
                            · exfalso; omega
                            · refine lv_aload_n hx hb d_RR_lineUp_137 rfl (lv_at hl 6 rfl) ?_
                              refine x_get (C := RX6) (T := TX6) (N := 14) hx hb hts inX6 hown (B.foc1 (hCo.x)) (hAd.f1 (by omega)) 0 rfl rfl 10 (by decide) (hts _ w_207) (fun _ h9 => h9) rfl d_RR_lineUp_138 ?_
                              refine lv_iload_n hx hb d_RR_lineUp_141 rfl (lv_at hl 3 rfl) ?_
                              refine x_iald hx hb (B.foc1 (hCo.line)) (hAd.f1 (by omega)) 0 0 rfl rfl pl2 (by omega) (by omega) (by decide) d_RR_lineUp_142 ?_
                              refine lv_goto (tgt := 148) hx hb d_RR_lineUp_143 (by decide) ?_
                              refine x_iast hx hb (B.foc1 (hCo.stf)) (hAd.f1 (by omega)) 0 0 rfl rfl ((5 * pp + ii)) (by omega) (by omega) (by decide) d_RR_lineUp_148 (fun H locs B => ?_)
                              have B : Wb D vwCl (TY cs) L (mw g92 [((ad 14), .inl (cs 0, 60, .inl (ai (up (Ao 6) ((5 * pp + ii)) (Ao 5 pl2)))))]) (AL L s.heap.size) s H _ := B
                              obtain ⟨f_148, hf_148⟩ : ∃ f_148, f_148 = mw g92 [((ad 14), .inl (cs 0, 60, .inl (ai (up (Ao 6) ((5 * pp + ii)) (Ao 5 pl2)))))] := ⟨_, rfl⟩
                              rw [← hf_148] at B
                              obtain ⟨A_148, hA_148⟩ : ∃ A_148, A_148 = upA Ao 6 (up (Ao 6) ((5 * pp + ii)) (Ao 5 pl2)) := ⟨_, rfl⟩
                              have hC_148 : CSt cs ad Qm f_148 Io A_148 Ro Zo := by rw [hf_148, hA_148]; exact CSt.w_stf hAd hCo _
                              have hfr_148 : ∀ k, Awy ad k → f_148 k = f k := fun k hk => Eq.trans (by rw [hf_148]; exact hk.mw1 (by omega)) (hfro k hk)
                              refine x_iinc (lv' := [(4, .int (iI (((ii : Int)) + 1))), (6, .int (iI orr)), (5, .int (iI (((5 * pp + ii : Nat) : Int)))), (3, .int (iI ((pl2 : Int)))), (2, .int (iI ((mn : Int)))), (1, .int (iI ((pp : Int)))), (0, .ref ((ad 0)))]) hx hb d_RR_lineUp_149 hl (q := 2) rfl rfl (by decide) rfl (fun ls hl => ?_)
                              refine lv_goto (tgt := 58) hx hb d_RR_lineUp_152 (by decide) ?_
                              exact ih_LM f_148 Io A_148 Ro Zo (ii + 1) pl2 (by omega) hC_148 hfr_148 (hoi.ln hl2o (fun _ _ _ => rfl) (fun q h1 h2 => by rw [hA_148, upA_ne _ _ h2])) hl2o (hKo.trans (Kq.ln (fun _ _ _ => rfl) (fun q _ h2 => by rw [hA_148, upA_ne _ _ h2]))) (hLo.stf hplc hec (fun _ => rfl) (fun j => by rw [hA_148, upA_self]) (fun q h2 => by rw [hA_148, upA_ne _ _ h2])) (by omega) (by omega) (by omega) (fun k hk i2 h1 h2 => by rw [hA_148, upA_ne _ _ (by decide)]; exact hbc k hk i2 (by omega) h2) _ _ _ B (lv_sub hl [0, 3, 4, 5, 6] rfl)
                          · obtain ⟨nl, hnl⟩ : ∃ nl : Nat, Io 1 = (nl : Int) := ⟨(Io 1).toNat, by omega⟩
                            refine lv_aload_n hx hb d_RR_lineUp_116 rfl (lv_at hl 6 rfl) ?_
                            refine lv_iload_n hx hb d_RR_lineUp_117 rfl (lv_at hl 3 rfl) ?_
                            refine lv_iload hx hb d_RR_lineUp_118 (lv_at hl 1 rfl) ?_
                            refine x_callv B hA (va_runV (As := [.int (iI ((pl2 : Int))), .int (iI (((5 * pp + ii : Nat) : Int)))]) (rest := []) ⟨hx, hb, hml, hown, hts⟩ (c_RR_insert l D cs _ _ _ ad Qm Io Ao Ro Zo pl2 (5 * pp + ii) nl hAd hCo hnl (by omega) (by omega)) (cwV 2 hts (gw_V w_536 w_538 s_25 w_1 w_539) rfl rfl rfl (by decide +kernel) ⟨by rw [hRf]; exact Nat.le_of_ble_eq_true rfl, by rw [hRl]; exact Nat.le_of_ble_eq_true rfl⟩) ⟨K0.blind, B.recv (hAd.1 _ (by omega)) (hCo.x) rfl, B.pre _⟩ rfl rfl hl.1 rfl (lv_room (Nat.le_of_ble_eq_true rfl)) d_RR_lineUp_120 ⟨by rw [hRc]; omega, by rw [hRs]; omega⟩) (fun g120 H locs hw B => ?_)
                            obtain ⟨Iv, Av, Rv, Zv, hCv, hqv, hIv, hIv1, hAv, hAv5⟩ := hw
                            have hfrv : ∀ k, Awy ad k → g120 k = f k := fun k hk => (hqv k hk).trans (hfro k hk)
                            have B : Wb D vwCl (TY cs) L g120 (AL L s.heap.size) s H _ := B
                            have hLv := LnP.ins (p := pp) (i := ii) (pl := pl2) hLo hnl (hok.kq.vc.mpr (hvc ii hiu)) (by omega) (fun k hk => by rw [hA5o]; exact hbu k hk ii (Nat.le_refl _) hiu) (fun _ => by rw [hA5o, hlb, Int.toNat_natCast]; exact cmq_neg.mp (show cmq (z (5 * pp + ii)) (z (5 * pb + ib)) < 0 by omega)) (fun j h1 _ => hIv j h1) hIv1 hAv5 hAv
                            have hKv := hKo.trans (Kq.ln (fun j h1 _ => hIv j h1) (fun q h1 _ => hAv q h1))
                            have hl2v : Iv 2 = 0 := (hIv 2 (by decide)).trans hl2o
                            have hInvv := hoi.ln hl2v (fun j h1 _ => hIv j h1) (fun q h1 _ => hAv q h1)
                            have hev : z (Av 5 pl2).toNat = z (5 * pp + ii) := by rw [hAv5]; unfold insd; rw [if_neg (by omega), if_pos rfl, Int.toNat_natCast]
                            have hplv : (pl2 : Int) < Iv 1 := by omega
                            have hbv : ∀ k : Nat, k < pl2 → ∀ i2 : Nat, ii ≤ i2 → i2 < mn → z (Av 5 k).toNat < z (5 * pp + i2) := fun k hk i2 h1 h2 => by rw [hAv5]; unfold insd; rw [if_pos hk]; rw [hA5o]; exact hbu k hk i2 h1 h2
                            refine lv_aload_n hx hb d_RR_lineUp_123 rfl (lv_at hl 6 rfl) ?_
                            refine x_get (C := RX6) (T := TX6) (N := 14) hx hb hts inX6 hown (B.foc1 (hCv.x)) (hAd.f1 (by omega)) 0 rfl rfl 11 (by decide) (hts _ w_208) (fun _ h9 => h9) rfl d_RR_lineUp_124 ?_
                            refine lv_iload hx hb d_RR_lineUp_127 (lv_at hl 1 rfl) ?_
                            refine lv_iload_n hx hb d_RR_lineUp_129 rfl (lv_at hl 3 rfl) ?_
                            refine lv_aload_n hx hb d_RR_lineUp_130 rfl (lv_at hl 6 rfl) ?_
                            refine x_get (C := RX6) (T := TX6) (N := 14) hx hb hts inX6 hown (B.foc1 (hCv.x)) (hAd.f1 (by omega)) 0 rfl rfl 12 (by decide) (hts _ w_209) (fun _ h9 => h9) rfl d_RR_lineUp_131 ?_
                            refine x_icmp_ge (tgt := 146) hx hb d_RR_lineUp_134 (by decide) (by omega) (by omega) (fun h134 => ?_) (fun h134 => ?_)
                            · exfalso; omega
                            · refine lv_aload_n hx hb d_RR_lineUp_137 rfl (lv_at hl 6 rfl) ?_
                              refine x_get (C := RX6) (T := TX6) (N := 14) hx hb hts inX6 hown (B.foc1 (hCv.x)) (hAd.f1 (by omega)) 0 rfl rfl 10 (by decide) (hts _ w_207) (fun _ h9 => h9) rfl d_RR_lineUp_138 ?_
                              refine lv_iload_n hx hb d_RR_lineUp_141 rfl (lv_at hl 3 rfl) ?_
                              refine x_iald hx hb (B.foc1 (hCv.line)) (hAd.f1 (by omega)) 0 0 rfl rfl pl2 (by omega) (by omega) (by decide) d_RR_lineUp_142 ?_
                              refine lv_goto (tgt := 148) hx hb d_RR_lineUp_143 (by decide) ?_
                              refine x_iast hx hb (B.foc1 (hCv.stf)) (hAd.f1 (by omega)) 0 0 rfl rfl ((5 * pp + ii)) (by omega) (by omega) (by decide) d_RR_lineUp_148 (fun H locs B => ?_)
                              have B : Wb D vwCl (TY cs) L (mw g120 [((ad 14), .inl (cs 0, 60, .inl (ai (up (Av 6) ((5 * pp + ii)) (Av 5 pl2)))))]) (AL L s.heap.size) s H _ := B
                              obtain ⟨f_148, hf_148⟩ : ∃ f_148, f_148 = mw g120 [((ad 14), .inl (cs 0, 60, .inl (ai (up (Av 6) ((5 * pp + ii)) (Av 5 pl2)))))] := ⟨_, rfl⟩
                              rw [← hf_148] at B
                              obtain ⟨A_148, hA_148⟩ : ∃ A_148, A_148 = upA Av 6 (up (Av 6) ((5 * pp + ii)) (Av 5 pl2)) := ⟨_, rfl⟩
                              have hC_148 : CSt cs ad Qm f_148 Iv A_148 Rv Zv := by rw [hf_148, hA_148]; exact CSt.w_stf hAd hCv _
                              have hfr_148 : ∀ k, Awy ad k → f_148 k = f k := fun k hk => Eq.trans (by rw [hf_148]; exact hk.mw1 (by omega)) (hfrv k hk)
                              refine x_iinc (lv' := [(4, .int (iI (((ii : Int)) + 1))), (6, .int (iI orr)), (5, .int (iI (((5 * pp + ii : Nat) : Int)))), (3, .int (iI ((pl2 : Int)))), (2, .int (iI ((mn : Int)))), (1, .int (iI ((pp : Int)))), (0, .ref ((ad 0)))]) hx hb d_RR_lineUp_149 hl (q := 2) rfl rfl (by decide) rfl (fun ls hl => ?_)
                              refine lv_goto (tgt := 58) hx hb d_RR_lineUp_152 (by decide) ?_
                              exact ih_LM f_148 Iv A_148 Rv Zv (ii + 1) pl2 (by omega) hC_148 hfr_148 (hInvv.ln hl2v (fun _ _ _ => rfl) (fun q h1 h2 => by rw [hA_148, upA_ne _ _ h2])) hl2v (hKv.trans (Kq.ln (fun _ _ _ => rfl) (fun q _ h2 => by rw [hA_148, upA_ne _ _ h2]))) (hLv.stf hplv hev (fun _ => rfl) (fun j => by rw [hA_148, upA_self]) (fun q h2 => by rw [hA_148, upA_ne _ _ h2])) (by omega) (by omega) (by omega) (fun k hk i2 h1 h2 => by rw [hA_148, upA_ne _ _ (by decide)]; exact hbv k hk i2 (by omega) h2) _ _ _ B (lv_sub hl [0, 3, 4, 5, 6] rfl)
                  exact LU _ fm Im Am Rm Zm pl 1 (Nat.lt_succ_self _) hCm hfrm hInvm hl2m hKm hLm hlm hpm hbm rfl (by omega) _ _ _ B (lv_sub hl [0, 1, 2, 3, 4, 5, 6] rfl)
            exact LM _ fw Iw Aw Rw Zw 0 0 (Nat.lt_succ_self _) hCw hfrw hInvw hl2w hKw hLw (by omega) (Nat.zero_le _) (by have := hLw.1; omega) (fun k hk => absurd hk (Nat.not_lt_zero _)) _ _ _ B (lv_sub hl [0, 1, 2, 3, 4] rfl)
          refine lv_aload_n hx hb d_RR_lineUp_23 rfl (lv_at hl 1 rfl) ?_
          refine x_get (C := RX6) (T := TX6) (N := 14) hx hb hts inX6 hown (B.foc1 (hCw.x)) (hAd.f1 (by omega)) 0 rfl rfl 0 (by decide) (hts _ w_197) (fun _ h9 => h9) rfl d_RR_lineUp_24 ?_
          refine lv_iload_n hx hb d_RR_lineUp_27 rfl (lv_at hl 0 rfl) ?_
          refine x_aald hx hb (B.foc1 (hCw.c0)) (hAd.f1 (by omega)) 0 4 rfl rfl pp (by omega) (by omega) (by decide) (rfs_at (by omega)) d_RR_lineUp_28 ?_
          refine x_get (C := RX2) (T := TX2) (N := 5) hx hb hts inX2 hown (B.foc1 (hCw.cu (p := pp) (by omega))) (hAd.f1 (by omega)) 0 rfl rfl 0 (by decide) (hts _ w_177) (fun _ h9 => h9) rfl d_RR_lineUp_29 ?_
          refine x_calli B hA (va_runS (As := [.ref ((ad (27 + pp)))]) (rest := []) ⟨hx, hb, hml, hown, hts⟩ (c_RR_topOf l D cs _ _ _ (ad (27 + pp)) (Aw (20 + pp)) (hAd.f1 (by have := ((Ar.va hppl)).lt; omega)) (hCw.ar (Ar.va hppl)) (fun j hj => by have := hVMw j hj; omega)) (va_cwS 1 hts (gw_S w_273 w_274 w_1 w_275) rfl rfl rfl (by decide +kernel) ⟨by rw [hRf]; exact Nat.le_of_ble_eq_true rfl, by rw [hRl]; exact Nat.le_of_ble_eq_true rfl⟩) ⟨K0.blind, B.pre _⟩ rfl rfl hl.1 rfl (lv_room (Nat.le_of_ble_eq_true rfl)) d_RR_lineUp_32 ⟨by rw [hRc]; omega, by rw [hRs]; omega⟩) (fun r32 g32 H locs hw B => ?_)
          obtain ⟨kt, rfl, hkt6, hktz, hktl, hgf⟩ := hw
          rw [hgf] at B
          refine x_iconst hx hb d_RR_lineUp_35 ?_
          refine x_icmp_ne (tgt := 43) hx hb d_RR_lineUp_36 (by decide) (by omega) (by omega) (fun h36 => ?_) (fun h36 => ?_)
          · refine lv_aload_n hx hb d_RR_lineUp_43 rfl (lv_at hl 1 rfl) ?_
            refine x_get (C := RX6) (T := TX6) (N := 14) hx hb hts inX6 hown (B.foc1 (hCw.x)) (hAd.f1 (by omega)) 0 rfl rfl 0 (by decide) (hts _ w_197) (fun _ h9 => h9) rfl d_RR_lineUp_44 ?_
            refine lv_iload_n hx hb d_RR_lineUp_47 rfl (lv_at hl 0 rfl) ?_
            refine x_aald hx hb (B.foc1 (hCw.c0)) (hAd.f1 (by omega)) 0 4 rfl rfl pp (by omega) (by omega) (by decide) (rfs_at (by omega)) d_RR_lineUp_48 ?_
            refine x_get (C := RX2) (T := TX2) (N := 5) hx hb hts inX2 hown (B.foc1 (hCw.cu (p := pp) (by omega))) (hAd.f1 (by omega)) 0 rfl rfl 4 (by decide) (hts _ w_185) (fun _ h9 => h9) rfl d_RR_lineUp_49 ?_
            have hNzw : Nz (Aw (20 + pp)) := by rcases Nat.eq_zero_or_pos kt with h | h; omega; exact ⟨kt - 1, by omega, hktl h⟩
            obtain ⟨hstw, hcellw⟩ := hZw pp hppl (by omega) hNzw
            obtain ⟨nmw, Nw, dpw, vw, hcrw⟩ := hInvw.crv hppl hstw
            rw [hcrw.2.2.1]
            exact J52 nmw (Or.inr ⟨hNzw, hcrw.2.2.1⟩) hcrw.2.2.2.1 _ _ _ B (lv_sub hl [0, 1] rfl)
          · refine x_iconst hx hb d_RR_lineUp_39 ?_
            refine lv_goto (tgt := 52) hx hb d_RR_lineUp_40 (by decide) ?_
            exact J52 0 (Or.inl ⟨rfl, fun ⟨j, hj, hn⟩ => hn (hktz j (by omega) hj)⟩) (by omega) _ _ _ B (lv_sub hl [0, 1] rfl)
    exact LA _ f_10 I_10 Af Rf Zf 0 (Nat.lt_succ_self _) hC_10 hfr_10 (hInv.ln (by rw [hI_10, up_ne _ _ (by decide)]; omega) (fun i h1 _ => by rw [hI_10, up_ne _ _ h1]) (fun _ _ _ => rfl)) (by rw [hI_10, up_ne _ _ (by decide)]; omega) (Kq.ln (fun i h1 _ => by rw [hI_10, up_ne _ _ h1]) (fun _ _ _ => rfl)) (LnP.start (by rw [hI_10, up_self])) (by rw [hI_10, up_self]; omega) (by omega) _ _ _ B (lv_sub hl [0, 1] rfl)
  · subst hQ hav
    exact x_vret hx hb hr hlocks B d_RR_lineUp_7 (⟨If, Af, Rf, Zf, hC, hfr, hInv, by omega, ⟨rfl, fun _ _ _ => rfl, fun _ _ _ => rfl⟩⟩)
