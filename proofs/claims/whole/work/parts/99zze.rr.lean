theorem str_rng {x b : Int} {j : Nat} (hx : -1000 ≤ x ∧ x ≤ 1000) (hb : -1000 ≤ b ∧ b ≤ 1000) (hj : j < 6) : -9223372036854775808 < x * b ^ j ∧ x * b ^ j < 9223372036854775808 := by
  have h1 := pow_bd9 hb j
  have h2 : (1000 : Int) ^ j ≤ 1000000000000000 := by
    rcases (show j = 0 ∨ j = 1 ∨ j = 2 ∨ j = 3 ∨ j = 4 ∨ j = 5 by omega) with rfl | rfl | rfl | rfl | rfl | rfl <;> decide
  have h3 : ((x * b ^ j).natAbs : Int) ≤ 1000 * 1000000000000000 := by
    rw [Int.natAbs_mul, Int.natCast_mul]
    exact Int.mul_le_mul (show (x.natAbs : Int) ≤ 1000 by omega) (show ((b ^ j).natAbs : Int) ≤ 1000000000000000 by omega) (by omega) (by omega)
  generalize x * b ^ j = t at *
  omega
set_option maxHeartbeats 8000000 in
set_option maxRecDepth 100000 in
theorem c_RR_make_4 (l : Launch) (D : va_G) (cs : Nat → ClassId) (L : List Nat) (f : Nat → va_E) (sz : Nat) (ad Qm : Nat → Nat) (If : Nat → Int) (Af : Nat → Nat → Int) (Rf : Nat → Nat) (Zf : Nat → Int) (p0 p1 : Nat) (hAd : AdOk L ad Qm) (hC : CSt cs ad Qm f If Af Rf Zf) (hInv : Inv If Af) (hpk : (p0 : Int) < If 0) (hpk1 : (p1 : Int) < If 0) (hpp : p0 ≠ p1) : Met l (⟨"RealRoots", "make", "(III)I"⟩ : MethodName) (.code (⟨"RealRoots", "make", "(III)I"⟩ : MethodName) prog_1_method_5_code 5 (Option.some Jvm.ClassFile.FieldType.int) :: gw) ({ frames := 7, cells := 0, slots := 0, locals := 330 }) (va_Pc [.ref ((ad 0)), .int (iI 4), .int (iI ((p0 : Int))), .int (iI ((p1 : Int)))] (K0 D vwCl (TY cs) L f sz)) (va_Qi (fun (r : Int32) (g : Nat → va_E) => ∃ (I' : Nat → Int) (A' : Nat → Nat → Int) (R' : Nat → Nat) (Z' : Nat → Int), CSt cs ad Qm g I' A' R' Z' ∧ (∀ k, Awy ad k → g k = f k) ∧ ∃ W : Nat → Int, (∃ G : Nat → Int, Gcd (Af (20 + p0)) (Af (20 + p1)) G ∧ ∀ j : Nat, j < 12 → W j = if j < 6 then G j else 0) ∧ ((((If 0 = 12 ∨ ∃ j, j < 12 ∧ ¬ WOk W j) ∧ r = iI (-4)) ∧ Inv I' A' ∧ SameV If Af I' A') ∨ ((If 0 < 12 ∧ ∀ j, j < 12 → WOk W j) ∧ r = iI (If 0) ∧ Inv I' A' ∧ I' 0 = If 0 + 1 ∧ (∀ j, j < 6 → A' (20 + (If 0).toNat) j = W j) ∧ ∀ p2, p2 < 12 → p2 ≠ (If 0).toNat → A' (20 + p2) = Af (20 + p2)))) (K1 D vwCl (TY cs) (AL L sz) L) (AL L sz)) 0 0 (AL L sz) := by
  refine Met.ofW (cc := prog_1_method_5_code) (maxL := 5) (ret := (Option.some Jvm.ClassFile.FieldType.int)) (by decide) rfl ?_
  intro p e s m args below meth c s₁ Bd hml hv
  obtain ⟨rfl, hk0⟩ := hv
  obtain ⟨hsz, B⟩ := hk0.start
  subst hsz
  have hx := Bd.exec
  have hb := Bd.bytes
  have hr := Bd.returns
  have hlocks := Bd.notSynchronized
  have hts0 := atoms_spec Bd.pre
  have hown : s.vm.findClass RX6 = some m.cls := findClass_of_methodNamed Bd.named
  have hA : ∀ q, s.heap.size ≤ q → AL L s.heap.size q := fun _ h => Or.inr h
  have hl := lv_entry ([.ref ((ad 0)), .int (iI 4), .int (iI ((p0 : Int))), .int (iI ((p1 : Int)))]) (n := 5) (Nat.le_of_ble_eq_true rfl)
  rw [lg_entry_eq]
  generalize (lg_sl ([.ref ((ad 0)), .int (iI 4), .int (iI ((p0 : Int))), .int (iI ((p1 : Int)))]) ++ List.replicate (5 - (lg_sl ([.ref ((ad 0)), .int (iI 4), .int (iI ((p0 : Int))), .int (iI ((p1 : Int)))])).length) Slot.unset).toArray = ls at hl ⊢
  refine absQ (fun Q R av hQ hR hav => ?_)
  have hts : ∀ w ∈ gw, w.before av s = true := by rw [hav]; exact fun w h => hts0 w (List.mem_cons_of_mem _ h)
  have hRf : R.frames = 7 := by rw [hR]; rfl
  have hRl : R.locals = 330 := by rw [hR]; rfl
  have hRc : R.cells = 0 := by rw [hR]; rfl
  have hRs : R.slots = 0 := by rw [hR]; rfl
  clear hR hts0 Bd
  have hl : lv_has ls 5 [(0, .ref ((ad 0))), (1, .int (iI 4)), (2, .int (iI ((p0 : Int)))), (3, .int (iI ((p1 : Int))))] := hl
  have hfr : ∀ k, Awy ad k → f k = f k := fun _ _ => rfl
  have hG0 := hInv.1
  have hhd := hG0.1
  have hp0 : p0 < 12 := by omega
  have hVM := hG0.2.1 p0 hp0
  have hp1 : p1 < 12 := by omega
  have hVM1 := hG0.2.1 p1 hp1
  refine lv_iload_n hx hb d_RR_make_0 rfl (lv_at hl 1 rfl) ?_
  refine x_if_eq (tgt := 19) hx hb d_RR_make_1 (by decide) (by omega) (fun h1 => ?_) (fun h1 => ?_)
  · exfalso; omega
  · refine lv_iload_n hx hb d_RR_make_4 rfl (lv_at hl 1 rfl) ?_
    refine x_iconst hx hb d_RR_make_5 ?_
    refine x_icmp_eq (tgt := 19) hx hb d_RR_make_6 (by decide) (by omega) (by omega) (fun h6 => ?_) (fun h6 => ?_)
    · exfalso; omega
    · refine lv_iload_n hx hb d_RR_make_9 rfl (lv_at hl 1 rfl) ?_
      refine x_iconst hx hb d_RR_make_10 ?_
      refine x_icmp_eq (tgt := 19) hx hb d_RR_make_11 (by decide) (by omega) (by omega) (fun h11 => ?_) (fun h11 => ?_)
      · exfalso; omega
      · refine lv_iload_n hx hb d_RR_make_14 rfl (lv_at hl 1 rfl) ?_
        refine x_iconst hx hb d_RR_make_15 ?_
        refine x_icmp_ne (tgt := 23) hx hb d_RR_make_16 (by decide) (by omega) (by omega) (fun h16 => ?_) (fun h16 => ?_)
        · exfalso; omega
        · refine x_iconst hx hb d_RR_make_19 ?_
          refine lv_goto (tgt := 24) hx hb d_RR_make_20 (by decide) ?_
          refine lv_istore (lv' := [(4, .int (iI 1)), (0, .ref ((ad 0))), (1, .int (iI 4)), (2, .int (iI ((p0 : Int)))), (3, .int (iI ((p1 : Int))))]) hx hb d_RR_make_24 hl (by decide) rfl (fun ls hl => ?_)
          refine lv_iload_n hx hb d_RR_make_26 rfl (lv_at hl 2 rfl) ?_
          refine x_if_lt (tgt := 57) hx hb d_RR_make_27 (by decide) (by omega) (fun h27 => ?_) (fun h27 => ?_)
          · exfalso; omega
          · refine lv_iload_n hx hb d_RR_make_30 rfl (lv_at hl 2 rfl) ?_
            refine x_bipush hx hb d_RR_make_31 (by decide) ?_
            refine x_icmp_gt (tgt := 57) hx hb d_RR_make_33 (by decide) (by omega) (by omega) (fun h33 => ?_) (fun h33 => ?_)
            · exfalso; omega
            · refine lv_aload_n hx hb d_RR_make_36 rfl (lv_at hl 1 rfl) ?_
              refine lv_iload_n hx hb d_RR_make_37 rfl (lv_at hl 3 rfl) ?_
              refine x_calli B hA (va_runV (As := [.int (iI ((p0 : Int)))]) (rest := []) ⟨hx, hb, hml, hown, hts⟩ (c_RR_unknown l D cs _ _ _ (ad 0) (ad 1) (ad 2) (ad 5) (ad 7) (ad 8) (ad 9) (ad 10) (ad 11) (ad 12) (ad 13) (ad 14) (If 0) (If 1) (If 2) ((p0 : Int)) (hAd.f1 (by decide)) hC.x (hhd) (by omega)) (cwV 1 hts (gw_V w_261 w_263 s_3 w_1 w_264) rfl rfl rfl (by decide +kernel) ⟨by rw [hRf]; exact Nat.le_of_ble_eq_true rfl, by rw [hRl]; exact Nat.le_of_ble_eq_true rfl⟩) ⟨K0.blind, B.recv (hAd.1 _ (by omega)) (hC.x) rfl, B.pre _⟩ rfl rfl hl.1 rfl (lv_room (Nat.le_of_ble_eq_true rfl)) d_RR_make_38 ⟨by rw [hRc]; omega, by rw [hRs]; omega⟩) (fun r38 g38 H locs hw B => ?_)
              obtain ⟨rfl, hgf⟩ := hw
              rw [hgf] at B
              rw [if_neg (by omega)]
              refine x_if_ne (tgt := 57) hx hb d_RR_make_41 (by decide) (by omega) (fun h41 => ?_) (fun h41 => ?_)
              · exfalso; omega
              · refine lv_iload hx hb d_RR_make_44 (lv_at hl 0 rfl) ?_
                refine x_if_eq (tgt := 59) hx hb d_RR_make_46 (by decide) (by omega) (fun h46 => ?_) (fun h46 => ?_)
                · exfalso; omega
                · refine lv_aload_n hx hb d_RR_make_49 rfl (lv_at hl 1 rfl) ?_
                  refine lv_iload_n hx hb d_RR_make_50 rfl (lv_at hl 4 rfl) ?_
                  refine x_calli B hA (va_runV (As := [.int (iI ((p1 : Int)))]) (rest := []) ⟨hx, hb, hml, hown, hts⟩ (c_RR_unknown l D cs _ _ _ (ad 0) (ad 1) (ad 2) (ad 5) (ad 7) (ad 8) (ad 9) (ad 10) (ad 11) (ad 12) (ad 13) (ad 14) (If 0) (If 1) (If 2) ((p1 : Int)) (hAd.f1 (by decide)) hC.x (hhd) (by omega)) (cwV 1 hts (gw_V w_261 w_263 s_3 w_1 w_264) rfl rfl rfl (by decide +kernel) ⟨by rw [hRf]; exact Nat.le_of_ble_eq_true rfl, by rw [hRl]; exact Nat.le_of_ble_eq_true rfl⟩) ⟨K0.blind, B.recv (hAd.1 _ (by omega)) (hC.x) rfl, B.pre _⟩ rfl rfl hl.1 rfl (lv_room (Nat.le_of_ble_eq_true rfl)) d_RR_make_51 ⟨by rw [hRc]; omega, by rw [hRs]; omega⟩) (fun r51 g51 H locs hw B => ?_)
                  obtain ⟨rfl, hgf⟩ := hw
                  rw [hgf] at B
                  rw [if_neg (by omega)]
                  refine x_if_eq (tgt := 59) hx hb d_RR_make_54 (by decide) (by omega) (fun h54 => ?_) (fun h54 => ?_)
                  · refine lv_iload_n hx hb d_RR_make_59 rfl (lv_at hl 2 rfl) ?_
                    refine x_bipush hx hb d_RR_make_60 (by decide) ?_
                    refine x_icmp_eq (tgt := 71) hx hb d_RR_make_62 (by decide) (by omega) (by omega) (fun h62 => ?_) (fun h62 => ?_)
                    · exfalso; omega
                    · refine lv_iload_n hx hb d_RR_make_65 rfl (lv_at hl 2 rfl) ?_
                      refine x_bipush hx hb d_RR_make_66 (by decide) ?_
                      refine x_icmp_ne (tgt := 88) hx hb d_RR_make_68 (by decide) (by omega) (by omega) (fun h68 => ?_) (fun h68 => ?_)
                      · refine lv_iload_n hx hb d_RR_make_88 rfl (lv_at hl 2 rfl) ?_
                        refine x_iconst hx hb d_RR_make_89 ?_
                        refine x_icmp_eq (tgt := 99) hx hb d_RR_make_90 (by decide) (by omega) (by omega) (fun h90 => ?_) (fun h90 => ?_)
                        · exfalso; omega
                        · refine lv_iload_n hx hb d_RR_make_93 rfl (lv_at hl 2 rfl) ?_
                          refine x_bipush hx hb d_RR_make_94 (by decide) ?_
                          refine x_icmp_ne (tgt := 118) hx hb d_RR_make_96 (by decide) (by omega) (by omega) (fun h96 => ?_) (fun h96 => ?_)
                          · refine lv_aload_n hx hb d_RR_make_118 rfl (lv_at hl 1 rfl) ?_
                            refine x_callv B hA (va_runV (As := []) (rest := []) ⟨hx, hb, hml, hown, hts⟩ (c_RR_clearWide l D cs _ _ _ (ad 0) (ad 1) (ad 2) (ad 5) (ad 7) (ad 8) (ad 9) (ad 10) (ad 11) (ad 12) (ad 13) (ad 14) (If 0) (If 1) (If 2) (Af 0) (hAd.fc [0, 8] (by simp only [List.nodup_cons, List.mem_cons, List.not_mem_nil, or_false, not_or, List.nodup_nil, and_true, not_false_eq_true]; omega) (by intro q hq; simp only [List.mem_cons, List.not_mem_nil, or_false] at hq; omega)) hC.x (hhd) hC.wide) (cwV 0 hts (gw_V w_244 w_246 s_0 w_1 w_247) rfl rfl rfl (by decide +kernel) ⟨by rw [hRf]; exact Nat.le_of_ble_eq_true rfl, by rw [hRl]; exact Nat.le_of_ble_eq_true rfl⟩) ⟨K0.blind, B.recv (hAd.1 _ (by omega)) (hC.x) rfl, B.pre _⟩ rfl rfl hl.1 rfl (lv_room (Nat.le_of_ble_eq_true rfl)) d_RR_make_119 ⟨by rw [hRc]; omega, by rw [hRs]; omega⟩) (fun g119 H locs hw B => ?_)
                            obtain rfl := hw
                            have B : Wb D vwCl (TY cs) L (mw f [((ad 8), .inl (cs 1, 12, .inr (.inl (al (cf 12 (fun _ => 0) (Af 0))))))]) (AL L s.heap.size) s H _ := B
                            obtain ⟨f_119, hf_119⟩ : ∃ f_119, f_119 = mw f [((ad 8), .inl (cs 1, 12, .inr (.inl (al (cf 12 (fun _ => 0) (Af 0))))))] := ⟨_, rfl⟩
                            rw [← hf_119] at B
                            obtain ⟨A_119, hA_119⟩ : ∃ A_119, A_119 = upA Af 0 (cf 12 (fun _ => 0) (Af 0)) := ⟨_, rfl⟩
                            have hC_119 : CSt cs ad Qm f_119 If A_119 Rf Zf := by rw [hf_119, hA_119]; exact CSt.w_wide hAd hC _
                            have hfr_119 : ∀ k, Awy ad k → f_119 k = f k := fun k hk => Eq.trans (by rw [hf_119]; exact hk.mw1 (by omega)) (hfr k hk)
                            have hz12 : ∀ j, j < 12 → A_119 0 j = 0 := fun j hj => by rw [hA_119, upA_self]; unfold cf; rw [if_pos (by omega)]
                            have hAc : ∀ q, q ≠ 0 → A_119 q = Af q := fun q hq => by rw [hA_119, upA_ne _ _ hq]
                            refine lv_iload hx hb d_RR_make_122 (lv_at hl 0 rfl) ?_
                            refine x_if_eq (tgt := 153) hx hb d_RR_make_124 (by decide) (by omega) (fun h124 => ?_) (fun h124 => ?_)
                            · exfalso; omega
                            · refine lv_aload_n hx hb d_RR_make_127 rfl (lv_at hl 1 rfl) ?_
                              refine lv_iload_n hx hb d_RR_make_128 rfl (lv_at hl 2 rfl) ?_
                              refine lv_aload_n hx hb d_RR_make_129 rfl (lv_at hl 1 rfl) ?_
                              refine x_get (C := RX6) (T := TX6) (N := 14) hx hb hts inX6 hown (B.foc1 (hC_119.x)) (hAd.f1 (by omega)) 0 rfl rfl 0 (by decide) (hts _ w_197) (fun _ h9 => h9) rfl d_RR_make_130 ?_
                              refine lv_iload_n hx hb d_RR_make_133 rfl (lv_at hl 3 rfl) ?_
                              refine x_aald hx hb (B.foc1 (hC_119.c0)) (hAd.f1 (by omega)) 0 4 rfl rfl p0 (by omega) (by omega) (by decide) (rfs_at (by omega)) d_RR_make_134 ?_
                              refine x_get (C := RX2) (T := TX2) (N := 5) hx hb hts inX2 hown (B.foc1 (hC_119.cu (p := p0) (by omega))) (hAd.f1 (by omega)) 0 rfl rfl 0 (by decide) (hts _ w_177) (fun _ h9 => h9) rfl d_RR_make_135 ?_
                              refine lv_aload_n hx hb d_RR_make_138 rfl (lv_at hl 1 rfl) ?_
                              refine x_get (C := RX6) (T := TX6) (N := 14) hx hb hts inX6 hown (B.foc1 (hC_119.x)) (hAd.f1 (by omega)) 0 rfl rfl 0 (by decide) (hts _ w_197) (fun _ h9 => h9) rfl d_RR_make_139 ?_
                              refine lv_iload_n hx hb d_RR_make_142 rfl (lv_at hl 4 rfl) ?_
                              refine x_aald hx hb (B.foc1 (hC_119.c0)) (hAd.f1 (by omega)) 0 4 rfl rfl p1 (by omega) (by omega) (by decide) (rfs_at (by omega)) d_RR_make_143 ?_
                              refine x_get (C := RX2) (T := TX2) (N := 5) hx hb hts inX2 hown (B.foc1 (hC_119.cu (p := p1) (by omega))) (hAd.f1 (by omega)) 0 rfl rfl 0 (by decide) (hts _ w_177) (fun _ h9 => h9) rfl d_RR_make_144 ?_
                              refine x_callv B hA (va_runV (As := [.int (iI 4), .ref ((ad (27 + p0))), .ref ((ad (27 + p1)))]) (rest := []) ⟨hx, hb, hml, hown, hts⟩ (c_RR_ofTwo_4 l D cs _ _ _ ad Qm If A_119 Rf Zf p0 p1 hAd hC_119 hp0 hp1 hpp hhd (by rw [hAc _ (by omega)]; exact hVM) (by rw [hAc _ (by omega)]; exact hVM1)) (cwV 3 hts (gw_V w_276 w_278 s_4 w_1 w_279) rfl rfl rfl (by decide +kernel) ⟨by rw [hRf]; exact Nat.le_of_ble_eq_true rfl, by rw [hRl]; exact Nat.le_of_ble_eq_true rfl⟩) ⟨K0.blind, B.recv (hAd.1 _ (by omega)) (hC_119.x) rfl, B.pre _⟩ rfl rfl hl.1 rfl (lv_room (Nat.le_of_ble_eq_true rfl)) d_RR_make_147 ⟨by rw [hRc]; omega, by rw [hRs]; omega⟩) (fun g147 H locs hw B => ?_)
                              obtain ⟨It, At, Rt, Zt, hCt, hqt, hIt, hAt, G, hWa, hWb⟩ := hw
                              have hfrt : ∀ k, Awy ad k → g147 k = f k := fun k hk => (hqt k hk).trans (hfr_119 k hk)
                              have B : Wb D vwCl (TY cs) L g147 (AL L s.heap.size) s H _ := B
                              simp only [hAc (20 + p0) (by omega), hAc (20 + p1) (by omega)] at hWa
                              have hIt3 : ∀ i, i ≠ 3 → It i = If i := hIt
                              have hAt4 : ∀ q, q ≠ 0 → q ≠ 1 → q ≠ 2 → q ≠ 7 → At q = Af q := fun q h1 _ h2 h3 => (hAt q h1 h2 h3).trans (hAc q h1)
                              have hInvt : Inv It At := hInv.scr (fun i hi => hIt3 i (by omega)) (fun q hq => hAt4 q (by omega) (by omega) (by omega) (by omega))
                              have hI0t : It 0 = If 0 := hIt3 0 (by decide)
                              refine lv_goto (tgt := 168) hx hb d_RR_make_150 (by decide) ?_
                              refine lv_aload_n hx hb d_RR_make_168 rfl (lv_at hl 1 rfl) ?_
                              refine x_calli B hA (va_runV (As := []) (rest := []) ⟨hx, hb, hml, hown, hts⟩ (c_RR_keepWide_c l D cs _ _ _ ad Qm It At Rt Zt hAd hCt (hInvt) (fun j hj => by rw [hWb j hj]; rcases Nat.lt_or_ge j 6 with c | c; rw [if_pos c]; have := gcd_bd2 (M := 1000) (by decide) hVM hVM1 hWa j c; omega; rw [if_neg (by omega)]; omega)) (cwV 0 hts (gw_V w_248 w_250 s_1 w_1 w_251) rfl rfl rfl (by decide +kernel) ⟨by rw [hRf]; exact Nat.le_of_ble_eq_true rfl, by rw [hRl]; exact Nat.le_of_ble_eq_true rfl⟩) ⟨K0.blind, B.recv (hAd.1 _ (by omega)) (hCt.x) rfl, B.pre _⟩ rfl rfl hl.1 rfl (lv_room (Nat.le_of_ble_eq_true rfl)) d_RR_make_169 ⟨by rw [hRc]; omega, by rw [hRs]; omega⟩) (fun r169 g169 H locs hw B => ?_)
                              obtain ⟨Ik, Ak, Rk, Zk, hCk, hqk, hkw⟩ := hw
                              have hfrk : ∀ k, Awy ad k → g169 k = f k := fun k hk => (hqk k hk).trans (hfrt k hk)
                              have B : Wb D vwCl (TY cs) L g169 (AL L s.heap.size) s H _ := B
                              rcases hkw with ⟨⟨hbad, rfl⟩, hIsk, hAsk⟩ | ⟨⟨hlt, hall⟩, rfl, hInvk, hI0k, hnew, hold⟩
                              · subst hQ hav
                                exact x_iret hx hb hr hlocks B d_RR_make_172 (⟨Ik, Ak, Rk, Zk, hCk, hfrk, At 0, ⟨G, hWa, hWb⟩, Or.inl ⟨⟨by rw [← hI0t]; exact hbad, rfl⟩, hInvt.same hIsk hAsk, ⟨(hIsk 0).trans hI0t, fun p hp => by rw [hAsk]; exact hAt4 _ (by omega) (by omega) (by omega) (by omega)⟩⟩⟩)
                              · subst hQ hav
                                exact x_iret hx hb hr hlocks B d_RR_make_172 (⟨Ik, Ak, Rk, Zk, hCk, hfrk, At 0, ⟨G, hWa, hWb⟩, Or.inr ⟨⟨by omega, hall⟩, by rw [hI0t], hInvk, by rw [hI0k, hI0t], by rw [← hI0t]; exact hnew, fun p2 h1 h2 => (hold p2 h1 (by rw [hI0t]; exact h2)).trans (hAt4 _ (by omega) (by omega) (by omega) (by omega))⟩⟩)
                          · exfalso; omega
                      · exfalso; omega
                  · exfalso; omega
set_option maxHeartbeats 8000000 in
set_option maxRecDepth 100000 in
theorem c_RR_make_4s (l : Launch) (D : va_G) (cs : Nat → ClassId) (L : List Nat) (f : Nat → va_E) (sz : Nat) (ad Qm : Nat → Nat) (If : Nat → Int) (Af : Nat → Nat → Int) (Rf : Nat → Nat) (Zf : Nat → Int) (p0 : Nat) (hAd : AdOk L ad Qm) (hC : CSt cs ad Qm f If Af Rf Zf) (hInv : Inv If Af) (hpk : (p0 : Int) < If 0) : Met l (⟨"RealRoots", "make", "(III)I"⟩ : MethodName) (.code (⟨"RealRoots", "make", "(III)I"⟩ : MethodName) prog_1_method_5_code 5 (Option.some Jvm.ClassFile.FieldType.int) :: gw) ({ frames := 7, cells := 0, slots := 0, locals := 330 }) (va_Pc [.ref ((ad 0)), .int (iI 4), .int (iI ((p0 : Int))), .int (iI ((p0 : Int)))] (K0 D vwCl (TY cs) L f sz)) (va_Qi (fun (r : Int32) (g : Nat → va_E) => ∃ (I' : Nat → Int) (A' : Nat → Nat → Int) (R' : Nat → Nat) (Z' : Nat → Int), CSt cs ad Qm g I' A' R' Z' ∧ (∀ k, Awy ad k → g k = f k) ∧ ∃ W : Nat → Int, (∃ G : Nat → Int, Gcd (Af (20 + p0)) (Af (20 + p0)) G ∧ ∀ j : Nat, j < 12 → W j = if j < 6 then G j else 0) ∧ ((((If 0 = 12 ∨ ∃ j, j < 12 ∧ ¬ WOk W j) ∧ r = iI (-4)) ∧ Inv I' A' ∧ SameV If Af I' A') ∨ ((If 0 < 12 ∧ ∀ j, j < 12 → WOk W j) ∧ r = iI (If 0) ∧ Inv I' A' ∧ I' 0 = If 0 + 1 ∧ (∀ j, j < 6 → A' (20 + (If 0).toNat) j = W j) ∧ ∀ p2, p2 < 12 → p2 ≠ (If 0).toNat → A' (20 + p2) = Af (20 + p2)))) (K1 D vwCl (TY cs) (AL L sz) L) (AL L sz)) 0 0 (AL L sz) := by
  refine Met.ofW (cc := prog_1_method_5_code) (maxL := 5) (ret := (Option.some Jvm.ClassFile.FieldType.int)) (by decide) rfl ?_
  intro p e s m args below meth c s₁ Bd hml hv
  obtain ⟨rfl, hk0⟩ := hv
  obtain ⟨hsz, B⟩ := hk0.start
  subst hsz
  have hx := Bd.exec
  have hb := Bd.bytes
  have hr := Bd.returns
  have hlocks := Bd.notSynchronized
  have hts0 := atoms_spec Bd.pre
  have hown : s.vm.findClass RX6 = some m.cls := findClass_of_methodNamed Bd.named
  have hA : ∀ q, s.heap.size ≤ q → AL L s.heap.size q := fun _ h => Or.inr h
  have hl := lv_entry ([.ref ((ad 0)), .int (iI 4), .int (iI ((p0 : Int))), .int (iI ((p0 : Int)))]) (n := 5) (Nat.le_of_ble_eq_true rfl)
  rw [lg_entry_eq]
  generalize (lg_sl ([.ref ((ad 0)), .int (iI 4), .int (iI ((p0 : Int))), .int (iI ((p0 : Int)))]) ++ List.replicate (5 - (lg_sl ([.ref ((ad 0)), .int (iI 4), .int (iI ((p0 : Int))), .int (iI ((p0 : Int)))])).length) Slot.unset).toArray = ls at hl ⊢
  refine absQ (fun Q R av hQ hR hav => ?_)
  have hts : ∀ w ∈ gw, w.before av s = true := by rw [hav]; exact fun w h => hts0 w (List.mem_cons_of_mem _ h)
  have hRf : R.frames = 7 := by rw [hR]; rfl
  have hRl : R.locals = 330 := by rw [hR]; rfl
  have hRc : R.cells = 0 := by rw [hR]; rfl
  have hRs : R.slots = 0 := by rw [hR]; rfl
  clear hR hts0 Bd
  have hl : lv_has ls 5 [(0, .ref ((ad 0))), (1, .int (iI 4)), (2, .int (iI ((p0 : Int)))), (3, .int (iI ((p0 : Int))))] := hl
  have hfr : ∀ k, Awy ad k → f k = f k := fun _ _ => rfl
  have hG0 := hInv.1
  have hhd := hG0.1
  have hp0 : p0 < 12 := by omega
  have hVM := hG0.2.1 p0 hp0
  refine lv_iload_n hx hb d_RR_make_0 rfl (lv_at hl 1 rfl) ?_
  refine x_if_eq (tgt := 19) hx hb d_RR_make_1 (by decide) (by omega) (fun h1 => ?_) (fun h1 => ?_)
  · exfalso; omega
  · refine lv_iload_n hx hb d_RR_make_4 rfl (lv_at hl 1 rfl) ?_
    refine x_iconst hx hb d_RR_make_5 ?_
    refine x_icmp_eq (tgt := 19) hx hb d_RR_make_6 (by decide) (by omega) (by omega) (fun h6 => ?_) (fun h6 => ?_)
    · exfalso; omega
    · refine lv_iload_n hx hb d_RR_make_9 rfl (lv_at hl 1 rfl) ?_
      refine x_iconst hx hb d_RR_make_10 ?_
      refine x_icmp_eq (tgt := 19) hx hb d_RR_make_11 (by decide) (by omega) (by omega) (fun h11 => ?_) (fun h11 => ?_)
      · exfalso; omega
      · refine lv_iload_n hx hb d_RR_make_14 rfl (lv_at hl 1 rfl) ?_
        refine x_iconst hx hb d_RR_make_15 ?_
        refine x_icmp_ne (tgt := 23) hx hb d_RR_make_16 (by decide) (by omega) (by omega) (fun h16 => ?_) (fun h16 => ?_)
        · exfalso; omega
        · refine x_iconst hx hb d_RR_make_19 ?_
          refine lv_goto (tgt := 24) hx hb d_RR_make_20 (by decide) ?_
          refine lv_istore (lv' := [(4, .int (iI 1)), (0, .ref ((ad 0))), (1, .int (iI 4)), (2, .int (iI ((p0 : Int)))), (3, .int (iI ((p0 : Int))))]) hx hb d_RR_make_24 hl (by decide) rfl (fun ls hl => ?_)
          refine lv_iload_n hx hb d_RR_make_26 rfl (lv_at hl 2 rfl) ?_
          refine x_if_lt (tgt := 57) hx hb d_RR_make_27 (by decide) (by omega) (fun h27 => ?_) (fun h27 => ?_)
          · exfalso; omega
          · refine lv_iload_n hx hb d_RR_make_30 rfl (lv_at hl 2 rfl) ?_
            refine x_bipush hx hb d_RR_make_31 (by decide) ?_
            refine x_icmp_gt (tgt := 57) hx hb d_RR_make_33 (by decide) (by omega) (by omega) (fun h33 => ?_) (fun h33 => ?_)
            · exfalso; omega
            · refine lv_aload_n hx hb d_RR_make_36 rfl (lv_at hl 1 rfl) ?_
              refine lv_iload_n hx hb d_RR_make_37 rfl (lv_at hl 3 rfl) ?_
              refine x_calli B hA (va_runV (As := [.int (iI ((p0 : Int)))]) (rest := []) ⟨hx, hb, hml, hown, hts⟩ (c_RR_unknown l D cs _ _ _ (ad 0) (ad 1) (ad 2) (ad 5) (ad 7) (ad 8) (ad 9) (ad 10) (ad 11) (ad 12) (ad 13) (ad 14) (If 0) (If 1) (If 2) ((p0 : Int)) (hAd.f1 (by decide)) hC.x (hhd) (by omega)) (cwV 1 hts (gw_V w_261 w_263 s_3 w_1 w_264) rfl rfl rfl (by decide +kernel) ⟨by rw [hRf]; exact Nat.le_of_ble_eq_true rfl, by rw [hRl]; exact Nat.le_of_ble_eq_true rfl⟩) ⟨K0.blind, B.recv (hAd.1 _ (by omega)) (hC.x) rfl, B.pre _⟩ rfl rfl hl.1 rfl (lv_room (Nat.le_of_ble_eq_true rfl)) d_RR_make_38 ⟨by rw [hRc]; omega, by rw [hRs]; omega⟩) (fun r38 g38 H locs hw B => ?_)
              obtain ⟨rfl, hgf⟩ := hw
              rw [hgf] at B
              rw [if_neg (by omega)]
              refine x_if_ne (tgt := 57) hx hb d_RR_make_41 (by decide) (by omega) (fun h41 => ?_) (fun h41 => ?_)
              · exfalso; omega
              · refine lv_iload hx hb d_RR_make_44 (lv_at hl 0 rfl) ?_
                refine x_if_eq (tgt := 59) hx hb d_RR_make_46 (by decide) (by omega) (fun h46 => ?_) (fun h46 => ?_)
                · exfalso; omega
                · refine lv_aload_n hx hb d_RR_make_49 rfl (lv_at hl 1 rfl) ?_
                  refine lv_iload_n hx hb d_RR_make_50 rfl (lv_at hl 4 rfl) ?_
                  refine x_calli B hA (va_runV (As := [.int (iI ((p0 : Int)))]) (rest := []) ⟨hx, hb, hml, hown, hts⟩ (c_RR_unknown l D cs _ _ _ (ad 0) (ad 1) (ad 2) (ad 5) (ad 7) (ad 8) (ad 9) (ad 10) (ad 11) (ad 12) (ad 13) (ad 14) (If 0) (If 1) (If 2) ((p0 : Int)) (hAd.f1 (by decide)) hC.x (hhd) (by omega)) (cwV 1 hts (gw_V w_261 w_263 s_3 w_1 w_264) rfl rfl rfl (by decide +kernel) ⟨by rw [hRf]; exact Nat.le_of_ble_eq_true rfl, by rw [hRl]; exact Nat.le_of_ble_eq_true rfl⟩) ⟨K0.blind, B.recv (hAd.1 _ (by omega)) (hC.x) rfl, B.pre _⟩ rfl rfl hl.1 rfl (lv_room (Nat.le_of_ble_eq_true rfl)) d_RR_make_51 ⟨by rw [hRc]; omega, by rw [hRs]; omega⟩) (fun r51 g51 H locs hw B => ?_)
                  obtain ⟨rfl, hgf⟩ := hw
                  rw [hgf] at B
                  rw [if_neg (by omega)]
                  refine x_if_eq (tgt := 59) hx hb d_RR_make_54 (by decide) (by omega) (fun h54 => ?_) (fun h54 => ?_)
                  · refine lv_iload_n hx hb d_RR_make_59 rfl (lv_at hl 2 rfl) ?_
                    refine x_bipush hx hb d_RR_make_60 (by decide) ?_
                    refine x_icmp_eq (tgt := 71) hx hb d_RR_make_62 (by decide) (by omega) (by omega) (fun h62 => ?_) (fun h62 => ?_)
                    · exfalso; omega
                    · refine lv_iload_n hx hb d_RR_make_65 rfl (lv_at hl 2 rfl) ?_
                      refine x_bipush hx hb d_RR_make_66 (by decide) ?_
                      refine x_icmp_ne (tgt := 88) hx hb d_RR_make_68 (by decide) (by omega) (by omega) (fun h68 => ?_) (fun h68 => ?_)
                      · refine lv_iload_n hx hb d_RR_make_88 rfl (lv_at hl 2 rfl) ?_
                        refine x_iconst hx hb d_RR_make_89 ?_
                        refine x_icmp_eq (tgt := 99) hx hb d_RR_make_90 (by decide) (by omega) (by omega) (fun h90 => ?_) (fun h90 => ?_)
                        · exfalso; omega
                        · refine lv_iload_n hx hb d_RR_make_93 rfl (lv_at hl 2 rfl) ?_
                          refine x_bipush hx hb d_RR_make_94 (by decide) ?_
                          refine x_icmp_ne (tgt := 118) hx hb d_RR_make_96 (by decide) (by omega) (by omega) (fun h96 => ?_) (fun h96 => ?_)
                          · refine lv_aload_n hx hb d_RR_make_118 rfl (lv_at hl 1 rfl) ?_
                            refine x_callv B hA (va_runV (As := []) (rest := []) ⟨hx, hb, hml, hown, hts⟩ (c_RR_clearWide l D cs _ _ _ (ad 0) (ad 1) (ad 2) (ad 5) (ad 7) (ad 8) (ad 9) (ad 10) (ad 11) (ad 12) (ad 13) (ad 14) (If 0) (If 1) (If 2) (Af 0) (hAd.fc [0, 8] (by simp only [List.nodup_cons, List.mem_cons, List.not_mem_nil, or_false, not_or, List.nodup_nil, and_true, not_false_eq_true]; omega) (by intro q hq; simp only [List.mem_cons, List.not_mem_nil, or_false] at hq; omega)) hC.x (hhd) hC.wide) (cwV 0 hts (gw_V w_244 w_246 s_0 w_1 w_247) rfl rfl rfl (by decide +kernel) ⟨by rw [hRf]; exact Nat.le_of_ble_eq_true rfl, by rw [hRl]; exact Nat.le_of_ble_eq_true rfl⟩) ⟨K0.blind, B.recv (hAd.1 _ (by omega)) (hC.x) rfl, B.pre _⟩ rfl rfl hl.1 rfl (lv_room (Nat.le_of_ble_eq_true rfl)) d_RR_make_119 ⟨by rw [hRc]; omega, by rw [hRs]; omega⟩) (fun g119 H locs hw B => ?_)
                            obtain rfl := hw
                            have B : Wb D vwCl (TY cs) L (mw f [((ad 8), .inl (cs 1, 12, .inr (.inl (al (cf 12 (fun _ => 0) (Af 0))))))]) (AL L s.heap.size) s H _ := B
                            obtain ⟨f_119, hf_119⟩ : ∃ f_119, f_119 = mw f [((ad 8), .inl (cs 1, 12, .inr (.inl (al (cf 12 (fun _ => 0) (Af 0))))))] := ⟨_, rfl⟩
                            rw [← hf_119] at B
                            obtain ⟨A_119, hA_119⟩ : ∃ A_119, A_119 = upA Af 0 (cf 12 (fun _ => 0) (Af 0)) := ⟨_, rfl⟩
                            have hC_119 : CSt cs ad Qm f_119 If A_119 Rf Zf := by rw [hf_119, hA_119]; exact CSt.w_wide hAd hC _
                            have hfr_119 : ∀ k, Awy ad k → f_119 k = f k := fun k hk => Eq.trans (by rw [hf_119]; exact hk.mw1 (by omega)) (hfr k hk)
                            have hz12 : ∀ j, j < 12 → A_119 0 j = 0 := fun j hj => by rw [hA_119, upA_self]; unfold cf; rw [if_pos (by omega)]
                            have hAc : ∀ q, q ≠ 0 → A_119 q = Af q := fun q hq => by rw [hA_119, upA_ne _ _ hq]
                            refine lv_iload hx hb d_RR_make_122 (lv_at hl 0 rfl) ?_
                            refine x_if_eq (tgt := 153) hx hb d_RR_make_124 (by decide) (by omega) (fun h124 => ?_) (fun h124 => ?_)
                            · exfalso; omega
                            · refine lv_aload_n hx hb d_RR_make_127 rfl (lv_at hl 1 rfl) ?_
                              refine lv_iload_n hx hb d_RR_make_128 rfl (lv_at hl 2 rfl) ?_
                              refine lv_aload_n hx hb d_RR_make_129 rfl (lv_at hl 1 rfl) ?_
                              refine x_get (C := RX6) (T := TX6) (N := 14) hx hb hts inX6 hown (B.foc1 (hC_119.x)) (hAd.f1 (by omega)) 0 rfl rfl 0 (by decide) (hts _ w_197) (fun _ h9 => h9) rfl d_RR_make_130 ?_
                              refine lv_iload_n hx hb d_RR_make_133 rfl (lv_at hl 3 rfl) ?_
                              refine x_aald hx hb (B.foc1 (hC_119.c0)) (hAd.f1 (by omega)) 0 4 rfl rfl p0 (by omega) (by omega) (by decide) (rfs_at (by omega)) d_RR_make_134 ?_
                              refine x_get (C := RX2) (T := TX2) (N := 5) hx hb hts inX2 hown (B.foc1 (hC_119.cu (p := p0) (by omega))) (hAd.f1 (by omega)) 0 rfl rfl 0 (by decide) (hts _ w_177) (fun _ h9 => h9) rfl d_RR_make_135 ?_
                              refine lv_aload_n hx hb d_RR_make_138 rfl (lv_at hl 1 rfl) ?_
                              refine x_get (C := RX6) (T := TX6) (N := 14) hx hb hts inX6 hown (B.foc1 (hC_119.x)) (hAd.f1 (by omega)) 0 rfl rfl 0 (by decide) (hts _ w_197) (fun _ h9 => h9) rfl d_RR_make_139 ?_
                              refine lv_iload_n hx hb d_RR_make_142 rfl (lv_at hl 4 rfl) ?_
                              refine x_aald hx hb (B.foc1 (hC_119.c0)) (hAd.f1 (by omega)) 0 4 rfl rfl p0 (by omega) (by omega) (by decide) (rfs_at (by omega)) d_RR_make_143 ?_
                              refine x_get (C := RX2) (T := TX2) (N := 5) hx hb hts inX2 hown (B.foc1 (hC_119.cu (p := p0) (by omega))) (hAd.f1 (by omega)) 0 rfl rfl 0 (by decide) (hts _ w_177) (fun _ h9 => h9) rfl d_RR_make_144 ?_
                              refine x_callv B hA (va_runV (As := [.int (iI 4), .ref ((ad (27 + p0))), .ref ((ad (27 + p0)))]) (rest := []) ⟨hx, hb, hml, hown, hts⟩ (c_RR_ofTwo_4s l D cs _ _ _ ad Qm If A_119 Rf Zf p0 hAd hC_119 hp0 hhd (by rw [hAc _ (by omega)]; exact hVM)) (cwV 3 hts (gw_V w_276 w_278 s_4 w_1 w_279) rfl rfl rfl (by decide +kernel) ⟨by rw [hRf]; exact Nat.le_of_ble_eq_true rfl, by rw [hRl]; exact Nat.le_of_ble_eq_true rfl⟩) ⟨K0.blind, B.recv (hAd.1 _ (by omega)) (hC_119.x) rfl, B.pre _⟩ rfl rfl hl.1 rfl (lv_room (Nat.le_of_ble_eq_true rfl)) d_RR_make_147 ⟨by rw [hRc]; omega, by rw [hRs]; omega⟩) (fun g147 H locs hw B => ?_)
                              obtain ⟨It, At, Rt, Zt, hCt, hqt, hIt, hAt, G, hWa, hWb⟩ := hw
                              have hfrt : ∀ k, Awy ad k → g147 k = f k := fun k hk => (hqt k hk).trans (hfr_119 k hk)
                              have B : Wb D vwCl (TY cs) L g147 (AL L s.heap.size) s H _ := B
                              simp only [hAc (20 + p0) (by omega)] at hWa
                              have hIt3 : ∀ i, i ≠ 3 → It i = If i := hIt
                              have hAt4 : ∀ q, q ≠ 0 → q ≠ 1 → q ≠ 2 → q ≠ 7 → At q = Af q := fun q h1 _ h2 h3 => (hAt q h1 h2 h3).trans (hAc q h1)
                              have hInvt : Inv It At := hInv.scr (fun i hi => hIt3 i (by omega)) (fun q hq => hAt4 q (by omega) (by omega) (by omega) (by omega))
                              have hI0t : It 0 = If 0 := hIt3 0 (by decide)
                              refine lv_goto (tgt := 168) hx hb d_RR_make_150 (by decide) ?_
                              refine lv_aload_n hx hb d_RR_make_168 rfl (lv_at hl 1 rfl) ?_
                              refine x_calli B hA (va_runV (As := []) (rest := []) ⟨hx, hb, hml, hown, hts⟩ (c_RR_keepWide_c l D cs _ _ _ ad Qm It At Rt Zt hAd hCt (hInvt) (fun j hj => by rw [hWb j hj]; rcases Nat.lt_or_ge j 6 with c | c; rw [if_pos c]; have := gcd_bd2 (M := 1000) (by decide) hVM hVM hWa j c; omega; rw [if_neg (by omega)]; omega)) (cwV 0 hts (gw_V w_248 w_250 s_1 w_1 w_251) rfl rfl rfl (by decide +kernel) ⟨by rw [hRf]; exact Nat.le_of_ble_eq_true rfl, by rw [hRl]; exact Nat.le_of_ble_eq_true rfl⟩) ⟨K0.blind, B.recv (hAd.1 _ (by omega)) (hCt.x) rfl, B.pre _⟩ rfl rfl hl.1 rfl (lv_room (Nat.le_of_ble_eq_true rfl)) d_RR_make_169 ⟨by rw [hRc]; omega, by rw [hRs]; omega⟩) (fun r169 g169 H locs hw B => ?_)
                              obtain ⟨Ik, Ak, Rk, Zk, hCk, hqk, hkw⟩ := hw
                              have hfrk : ∀ k, Awy ad k → g169 k = f k := fun k hk => (hqk k hk).trans (hfrt k hk)
                              have B : Wb D vwCl (TY cs) L g169 (AL L s.heap.size) s H _ := B
                              rcases hkw with ⟨⟨hbad, rfl⟩, hIsk, hAsk⟩ | ⟨⟨hlt, hall⟩, rfl, hInvk, hI0k, hnew, hold⟩
                              · subst hQ hav
                                exact x_iret hx hb hr hlocks B d_RR_make_172 (⟨Ik, Ak, Rk, Zk, hCk, hfrk, At 0, ⟨G, hWa, hWb⟩, Or.inl ⟨⟨by rw [← hI0t]; exact hbad, rfl⟩, hInvt.same hIsk hAsk, ⟨(hIsk 0).trans hI0t, fun p hp => by rw [hAsk]; exact hAt4 _ (by omega) (by omega) (by omega) (by omega)⟩⟩⟩)
                              · subst hQ hav
                                exact x_iret hx hb hr hlocks B d_RR_make_172 (⟨Ik, Ak, Rk, Zk, hCk, hfrk, At 0, ⟨G, hWa, hWb⟩, Or.inr ⟨⟨by omega, hall⟩, by rw [hI0t], hInvk, by rw [hI0k, hI0t], by rw [← hI0t]; exact hnew, fun p2 h1 h2 => (hold p2 h1 (by rw [hI0t]; exact h2)).trans (hAt4 _ (by omega) (by omega) (by omega) (by omega))⟩⟩)
                          · exfalso; omega
                      · exfalso; omega
                  · exfalso; omega
set_option maxHeartbeats 8000000 in
set_option maxRecDepth 100000 in
theorem c_RR_make_3 (l : Launch) (D : va_G) (cs : Nat → ClassId) (L : List Nat) (f : Nat → va_E) (sz : Nat) (ad Qm : Nat → Nat) (If : Nat → Int) (Af : Nat → Nat → Int) (Rf : Nat → Nat) (Zf : Nat → Int) (p0 : Nat) (b : Int) (hAd : AdOk L ad Qm) (hC : CSt cs ad Qm f If Af Rf Zf) (hInv : Inv If Af) (hpk : (p0 : Int) < If 0) (hbr : -2147483648 ≤ b ∧ b < 2147483648) : Met l (⟨"RealRoots", "make", "(III)I"⟩ : MethodName) (.code (⟨"RealRoots", "make", "(III)I"⟩ : MethodName) prog_1_method_5_code 5 (Option.some Jvm.ClassFile.FieldType.int) :: gw) ({ frames := 7, cells := 0, slots := 0, locals := 330 }) (va_Pc [.ref ((ad 0)), .int (iI 3), .int (iI ((p0 : Int))), .int (iI b)] (K0 D vwCl (TY cs) L f sz)) (va_Qi (fun (r : Int32) (g : Nat → va_E) => ∃ (I' : Nat → Int) (A' : Nat → Nat → Int) (R' : Nat → Nat) (Z' : Nat → Int), CSt cs ad Qm g I' A' R' Z' ∧ (∀ k, Awy ad k → g k = f k) ∧ ∃ W : Nat → Int, (∀ j : Nat, j < 12 → W j = if j < 6 then dva (Af (20 + p0)) j else 0) ∧ ((((If 0 = 12 ∨ ∃ j, j < 12 ∧ ¬ WOk W j) ∧ r = iI (-4)) ∧ Inv I' A' ∧ SameV If Af I' A') ∨ ((If 0 < 12 ∧ ∀ j, j < 12 → WOk W j) ∧ r = iI (If 0) ∧ Inv I' A' ∧ I' 0 = If 0 + 1 ∧ (∀ j, j < 6 → A' (20 + (If 0).toNat) j = W j) ∧ ∀ p2, p2 < 12 → p2 ≠ (If 0).toNat → A' (20 + p2) = Af (20 + p2)))) (K1 D vwCl (TY cs) (AL L sz) L) (AL L sz)) 0 0 (AL L sz) := by
  refine Met.ofW (cc := prog_1_method_5_code) (maxL := 5) (ret := (Option.some Jvm.ClassFile.FieldType.int)) (by decide) rfl ?_
  intro p e s m args below meth c s₁ Bd hml hv
  obtain ⟨rfl, hk0⟩ := hv
  obtain ⟨hsz, B⟩ := hk0.start
  subst hsz
  have hx := Bd.exec
  have hb := Bd.bytes
  have hr := Bd.returns
  have hlocks := Bd.notSynchronized
  have hts0 := atoms_spec Bd.pre
  have hown : s.vm.findClass RX6 = some m.cls := findClass_of_methodNamed Bd.named
  have hA : ∀ q, s.heap.size ≤ q → AL L s.heap.size q := fun _ h => Or.inr h
  have hl := lv_entry ([.ref ((ad 0)), .int (iI 3), .int (iI ((p0 : Int))), .int (iI b)]) (n := 5) (Nat.le_of_ble_eq_true rfl)
  rw [lg_entry_eq]
  generalize (lg_sl ([.ref ((ad 0)), .int (iI 3), .int (iI ((p0 : Int))), .int (iI b)]) ++ List.replicate (5 - (lg_sl ([.ref ((ad 0)), .int (iI 3), .int (iI ((p0 : Int))), .int (iI b)])).length) Slot.unset).toArray = ls at hl ⊢
  refine absQ (fun Q R av hQ hR hav => ?_)
  have hts : ∀ w ∈ gw, w.before av s = true := by rw [hav]; exact fun w h => hts0 w (List.mem_cons_of_mem _ h)
  have hRf : R.frames = 7 := by rw [hR]; rfl
  have hRl : R.locals = 330 := by rw [hR]; rfl
  have hRc : R.cells = 0 := by rw [hR]; rfl
  have hRs : R.slots = 0 := by rw [hR]; rfl
  clear hR hts0 Bd
  have hl : lv_has ls 5 [(0, .ref ((ad 0))), (1, .int (iI 3)), (2, .int (iI ((p0 : Int)))), (3, .int (iI b))] := hl
  have hfr : ∀ k, Awy ad k → f k = f k := fun _ _ => rfl
  have hG0 := hInv.1
  have hhd := hG0.1
  have hp0 : p0 < 12 := by omega
  have hVM := hG0.2.1 p0 hp0
  refine lv_iload_n hx hb d_RR_make_0 rfl (lv_at hl 1 rfl) ?_
  refine x_if_eq (tgt := 19) hx hb d_RR_make_1 (by decide) (by omega) (fun h1 => ?_) (fun h1 => ?_)
  · exfalso; omega
  · refine lv_iload_n hx hb d_RR_make_4 rfl (lv_at hl 1 rfl) ?_
    refine x_iconst hx hb d_RR_make_5 ?_
    refine x_icmp_eq (tgt := 19) hx hb d_RR_make_6 (by decide) (by omega) (by omega) (fun h6 => ?_) (fun h6 => ?_)
    · exfalso; omega
    · refine lv_iload_n hx hb d_RR_make_9 rfl (lv_at hl 1 rfl) ?_
      refine x_iconst hx hb d_RR_make_10 ?_
      refine x_icmp_eq (tgt := 19) hx hb d_RR_make_11 (by decide) (by omega) (by omega) (fun h11 => ?_) (fun h11 => ?_)
      · exfalso; omega
      · refine lv_iload_n hx hb d_RR_make_14 rfl (lv_at hl 1 rfl) ?_
        refine x_iconst hx hb d_RR_make_15 ?_
        refine x_icmp_ne (tgt := 23) hx hb d_RR_make_16 (by decide) (by omega) (by omega) (fun h16 => ?_) (fun h16 => ?_)
        · refine x_iconst hx hb d_RR_make_23 ?_
          refine lv_istore (lv' := [(4, .int (iI 0)), (0, .ref ((ad 0))), (1, .int (iI 3)), (2, .int (iI ((p0 : Int)))), (3, .int (iI b))]) hx hb d_RR_make_24 hl (by decide) rfl (fun ls hl => ?_)
          refine lv_iload_n hx hb d_RR_make_26 rfl (lv_at hl 2 rfl) ?_
          refine x_if_lt (tgt := 57) hx hb d_RR_make_27 (by decide) (by omega) (fun h27 => ?_) (fun h27 => ?_)
          · exfalso; omega
          · refine lv_iload_n hx hb d_RR_make_30 rfl (lv_at hl 2 rfl) ?_
            refine x_bipush hx hb d_RR_make_31 (by decide) ?_
            refine x_icmp_gt (tgt := 57) hx hb d_RR_make_33 (by decide) (by omega) (by omega) (fun h33 => ?_) (fun h33 => ?_)
            · exfalso; omega
            · refine lv_aload_n hx hb d_RR_make_36 rfl (lv_at hl 1 rfl) ?_
              refine lv_iload_n hx hb d_RR_make_37 rfl (lv_at hl 3 rfl) ?_
              refine x_calli B hA (va_runV (As := [.int (iI ((p0 : Int)))]) (rest := []) ⟨hx, hb, hml, hown, hts⟩ (c_RR_unknown l D cs _ _ _ (ad 0) (ad 1) (ad 2) (ad 5) (ad 7) (ad 8) (ad 9) (ad 10) (ad 11) (ad 12) (ad 13) (ad 14) (If 0) (If 1) (If 2) ((p0 : Int)) (hAd.f1 (by decide)) hC.x (hhd) (by omega)) (cwV 1 hts (gw_V w_261 w_263 s_3 w_1 w_264) rfl rfl rfl (by decide +kernel) ⟨by rw [hRf]; exact Nat.le_of_ble_eq_true rfl, by rw [hRl]; exact Nat.le_of_ble_eq_true rfl⟩) ⟨K0.blind, B.recv (hAd.1 _ (by omega)) (hC.x) rfl, B.pre _⟩ rfl rfl hl.1 rfl (lv_room (Nat.le_of_ble_eq_true rfl)) d_RR_make_38 ⟨by rw [hRc]; omega, by rw [hRs]; omega⟩) (fun r38 g38 H locs hw B => ?_)
              obtain ⟨rfl, hgf⟩ := hw
              rw [hgf] at B
              rw [if_neg (by omega)]
              refine x_if_ne (tgt := 57) hx hb d_RR_make_41 (by decide) (by omega) (fun h41 => ?_) (fun h41 => ?_)
              · exfalso; omega
              · refine lv_iload hx hb d_RR_make_44 (lv_at hl 0 rfl) ?_
                refine x_if_eq (tgt := 59) hx hb d_RR_make_46 (by decide) (by omega) (fun h46 => ?_) (fun h46 => ?_)
                · refine lv_iload_n hx hb d_RR_make_59 rfl (lv_at hl 2 rfl) ?_
                  refine x_bipush hx hb d_RR_make_60 (by decide) ?_
                  refine x_icmp_eq (tgt := 71) hx hb d_RR_make_62 (by decide) (by omega) (by omega) (fun h62 => ?_) (fun h62 => ?_)
                  · exfalso; omega
                  · refine lv_iload_n hx hb d_RR_make_65 rfl (lv_at hl 2 rfl) ?_
                    refine x_bipush hx hb d_RR_make_66 (by decide) ?_
                    refine x_icmp_ne (tgt := 88) hx hb d_RR_make_68 (by decide) (by omega) (by omega) (fun h68 => ?_) (fun h68 => ?_)
                    · refine lv_iload_n hx hb d_RR_make_88 rfl (lv_at hl 2 rfl) ?_
                      refine x_iconst hx hb d_RR_make_89 ?_
                      refine x_icmp_eq (tgt := 99) hx hb d_RR_make_90 (by decide) (by omega) (by omega) (fun h90 => ?_) (fun h90 => ?_)
                      · exfalso; omega
                      · refine lv_iload_n hx hb d_RR_make_93 rfl (lv_at hl 2 rfl) ?_
                        refine x_bipush hx hb d_RR_make_94 (by decide) ?_
                        refine x_icmp_ne (tgt := 118) hx hb d_RR_make_96 (by decide) (by omega) (by omega) (fun h96 => ?_) (fun h96 => ?_)
                        · refine lv_aload_n hx hb d_RR_make_118 rfl (lv_at hl 1 rfl) ?_
                          refine x_callv B hA (va_runV (As := []) (rest := []) ⟨hx, hb, hml, hown, hts⟩ (c_RR_clearWide l D cs _ _ _ (ad 0) (ad 1) (ad 2) (ad 5) (ad 7) (ad 8) (ad 9) (ad 10) (ad 11) (ad 12) (ad 13) (ad 14) (If 0) (If 1) (If 2) (Af 0) (hAd.fc [0, 8] (by simp only [List.nodup_cons, List.mem_cons, List.not_mem_nil, or_false, not_or, List.nodup_nil, and_true, not_false_eq_true]; omega) (by intro q hq; simp only [List.mem_cons, List.not_mem_nil, or_false] at hq; omega)) hC.x (hhd) hC.wide) (cwV 0 hts (gw_V w_244 w_246 s_0 w_1 w_247) rfl rfl rfl (by decide +kernel) ⟨by rw [hRf]; exact Nat.le_of_ble_eq_true rfl, by rw [hRl]; exact Nat.le_of_ble_eq_true rfl⟩) ⟨K0.blind, B.recv (hAd.1 _ (by omega)) (hC.x) rfl, B.pre _⟩ rfl rfl hl.1 rfl (lv_room (Nat.le_of_ble_eq_true rfl)) d_RR_make_119 ⟨by rw [hRc]; omega, by rw [hRs]; omega⟩) (fun g119 H locs hw B => ?_)
                          obtain rfl := hw
                          have B : Wb D vwCl (TY cs) L (mw f [((ad 8), .inl (cs 1, 12, .inr (.inl (al (cf 12 (fun _ => 0) (Af 0))))))]) (AL L s.heap.size) s H _ := B
                          obtain ⟨f_119, hf_119⟩ : ∃ f_119, f_119 = mw f [((ad 8), .inl (cs 1, 12, .inr (.inl (al (cf 12 (fun _ => 0) (Af 0))))))] := ⟨_, rfl⟩
                          rw [← hf_119] at B
                          obtain ⟨A_119, hA_119⟩ : ∃ A_119, A_119 = upA Af 0 (cf 12 (fun _ => 0) (Af 0)) := ⟨_, rfl⟩
                          have hC_119 : CSt cs ad Qm f_119 If A_119 Rf Zf := by rw [hf_119, hA_119]; exact CSt.w_wide hAd hC _
                          have hfr_119 : ∀ k, Awy ad k → f_119 k = f k := fun k hk => Eq.trans (by rw [hf_119]; exact hk.mw1 (by omega)) (hfr k hk)
                          have hz12 : ∀ j, j < 12 → A_119 0 j = 0 := fun j hj => by rw [hA_119, upA_self]; unfold cf; rw [if_pos (by omega)]
                          have hAc : ∀ q, q ≠ 0 → A_119 q = Af q := fun q hq => by rw [hA_119, upA_ne _ _ hq]
                          refine lv_iload hx hb d_RR_make_122 (lv_at hl 0 rfl) ?_
                          refine x_if_eq (tgt := 153) hx hb d_RR_make_124 (by decide) (by omega) (fun h124 => ?_) (fun h124 => ?_)
                          · refine lv_aload_n hx hb d_RR_make_153 rfl (lv_at hl 1 rfl) ?_
                            refine lv_iload_n hx hb d_RR_make_154 rfl (lv_at hl 2 rfl) ?_
                            refine lv_aload_n hx hb d_RR_make_155 rfl (lv_at hl 1 rfl) ?_
                            refine x_get (C := RX6) (T := TX6) (N := 14) hx hb hts inX6 hown (B.foc1 (hC_119.x)) (hAd.f1 (by omega)) 0 rfl rfl 0 (by decide) (hts _ w_197) (fun _ h9 => h9) rfl d_RR_make_156 ?_
                            refine lv_iload_n hx hb d_RR_make_159 rfl (lv_at hl 3 rfl) ?_
                            refine x_aald hx hb (B.foc1 (hC_119.c0)) (hAd.f1 (by omega)) 0 4 rfl rfl p0 (by omega) (by omega) (by decide) (rfs_at (by omega)) d_RR_make_160 ?_
                            refine x_get (C := RX2) (T := TX2) (N := 5) hx hb hts inX2 hown (B.foc1 (hC_119.cu (p := p0) (by omega))) (hAd.f1 (by omega)) 0 rfl rfl 0 (by decide) (hts _ w_177) (fun _ h9 => h9) rfl d_RR_make_161 ?_
                            refine lv_iload_n hx hb d_RR_make_164 rfl (lv_at hl 4 rfl) ?_
                            refine x_callv B hA (va_runV (As := [.int (iI 3), .ref ((ad (27 + p0))), .int (iI b)]) (rest := []) ⟨hx, hb, hml, hown, hts⟩ (c_RR_ofOne_3 l D cs _ _ _ ad Qm If A_119 Rf Zf p0 b hAd hC_119 hp0 hhd (by rw [hAc _ (by omega)]; exact hVM) hbr) (cwV 3 hts (gw_V w_343 w_345 s_10 w_1 w_346) rfl rfl rfl (by decide +kernel) ⟨by rw [hRf]; exact Nat.le_of_ble_eq_true rfl, by rw [hRl]; exact Nat.le_of_ble_eq_true rfl⟩) ⟨K0.blind, B.recv (hAd.1 _ (by omega)) (hC_119.x) rfl, B.pre _⟩ rfl rfl hl.1 rfl (lv_room (Nat.le_of_ble_eq_true rfl)) d_RR_make_165 ⟨by rw [hRc]; omega, by rw [hRs]; omega⟩) (fun g165 H locs hw B => ?_)
                            obtain ⟨It, At, Rt, Zt, hCt, hqt, hIt, hAt, hWa⟩ := hw
                            have hfrt : ∀ k, Awy ad k → g165 k = f k := fun k hk => (hqt k hk).trans (hfr_119 k hk)
                            have B : Wb D vwCl (TY cs) L g165 (AL L s.heap.size) s H _ := B
                            simp only [hAc (20 + p0) (by omega)] at hWa
                            have hIt3 : ∀ i, i ≠ 3 → It i = If i := hIt
                            have hAt4 : ∀ q, q ≠ 0 → q ≠ 1 → q ≠ 2 → q ≠ 7 → At q = Af q := fun q h1 h2 h3 h4 => (hAt q h1 h2 h3 h4).trans (hAc q h1)
                            have hInvt : Inv It At := hInv.scr (fun i hi => hIt3 i (by omega)) (fun q hq => hAt4 q (by omega) (by omega) (by omega) (by omega))
                            have hI0t : It 0 = If 0 := hIt3 0 (by decide)
                            refine lv_aload_n hx hb d_RR_make_168 rfl (lv_at hl 1 rfl) ?_
                            refine x_calli B hA (va_runV (As := []) (rest := []) ⟨hx, hb, hml, hown, hts⟩ (c_RR_keepWide_c l D cs _ _ _ ad Qm It At Rt Zt hAd hCt (hInvt) (fun j hj => by rw [hWa j hj]; rcases Nat.lt_or_ge j 6 with c | c; rw [if_pos c]; have := dva_bd (M := 1000) (by decide) hVM j c; omega; rw [if_neg (by omega)]; omega)) (cwV 0 hts (gw_V w_248 w_250 s_1 w_1 w_251) rfl rfl rfl (by decide +kernel) ⟨by rw [hRf]; exact Nat.le_of_ble_eq_true rfl, by rw [hRl]; exact Nat.le_of_ble_eq_true rfl⟩) ⟨K0.blind, B.recv (hAd.1 _ (by omega)) (hCt.x) rfl, B.pre _⟩ rfl rfl hl.1 rfl (lv_room (Nat.le_of_ble_eq_true rfl)) d_RR_make_169 ⟨by rw [hRc]; omega, by rw [hRs]; omega⟩) (fun r169 g169 H locs hw B => ?_)
                            obtain ⟨Ik, Ak, Rk, Zk, hCk, hqk, hkw⟩ := hw
                            have hfrk : ∀ k, Awy ad k → g169 k = f k := fun k hk => (hqk k hk).trans (hfrt k hk)
                            have B : Wb D vwCl (TY cs) L g169 (AL L s.heap.size) s H _ := B
                            rcases hkw with ⟨⟨hbad, rfl⟩, hIsk, hAsk⟩ | ⟨⟨hlt, hall⟩, rfl, hInvk, hI0k, hnew, hold⟩
                            · subst hQ hav
                              exact x_iret hx hb hr hlocks B d_RR_make_172 (⟨Ik, Ak, Rk, Zk, hCk, hfrk, At 0, hWa, Or.inl ⟨⟨by rw [← hI0t]; exact hbad, rfl⟩, hInvt.same hIsk hAsk, ⟨(hIsk 0).trans hI0t, fun p hp => by rw [hAsk]; exact hAt4 _ (by omega) (by omega) (by omega) (by omega)⟩⟩⟩)
                            · subst hQ hav
                              exact x_iret hx hb hr hlocks B d_RR_make_172 (⟨Ik, Ak, Rk, Zk, hCk, hfrk, At 0, hWa, Or.inr ⟨⟨by omega, hall⟩, by rw [hI0t], hInvk, by rw [hI0k, hI0t], by rw [← hI0t]; exact hnew, fun p2 h1 h2 => (hold p2 h1 (by rw [hI0t]; exact h2)).trans (hAt4 _ (by omega) (by omega) (by omega) (by omega))⟩⟩)
                          · exfalso; omega
                        · exfalso; omega
                    · exfalso; omega
                · exfalso; omega
        · exfalso; omega
set_option maxHeartbeats 8000000 in
set_option maxRecDepth 100000 in
theorem c_RR_make_5 (l : Launch) (D : va_G) (cs : Nat → ClassId) (L : List Nat) (f : Nat → va_E) (sz : Nat) (ad Qm : Nat → Nat) (If : Nat → Int) (Af : Nat → Nat → Int) (Rf : Nat → Nat) (Zf : Nat → Int) (p0 : Nat) (b : Int) (hAd : AdOk L ad Qm) (hC : CSt cs ad Qm f If Af Rf Zf) (hInv : Inv If Af) (hpk : (p0 : Int) < If 0) (hbr : -2147483648 ≤ b ∧ b < 2147483648) (hNz : Nz (Af (20 + p0))) : Met l (⟨"RealRoots", "make", "(III)I"⟩ : MethodName) (.code (⟨"RealRoots", "make", "(III)I"⟩ : MethodName) prog_1_method_5_code 5 (Option.some Jvm.ClassFile.FieldType.int) :: gw) ({ frames := 7, cells := 0, slots := 0, locals := 330 }) (va_Pc [.ref ((ad 0)), .int (iI 5), .int (iI ((p0 : Int))), .int (iI b)] (K0 D vwCl (TY cs) L f sz)) (va_Qi (fun (r : Int32) (g : Nat → va_E) => ∃ (I' : Nat → Int) (A' : Nat → Nat → Int) (R' : Nat → Nat) (Z' : Nat → Int), CSt cs ad Qm g I' A' R' Z' ∧ (∀ k, Awy ad k → g k = f k) ∧ ∃ W : Nat → Int, (FreeOf (Af (20 + p0)) W ∧ ∀ j : Nat, 6 ≤ j → j < 12 → W j = 0) ∧ ((((If 0 = 12 ∨ ∃ j, j < 12 ∧ ¬ WOk W j) ∧ r = iI (-4)) ∧ Inv I' A' ∧ SameV If Af I' A') ∨ ((If 0 < 12 ∧ ∀ j, j < 12 → WOk W j) ∧ r = iI (If 0) ∧ Inv I' A' ∧ I' 0 = If 0 + 1 ∧ (∀ j, j < 6 → A' (20 + (If 0).toNat) j = W j) ∧ ∀ p2, p2 < 12 → p2 ≠ (If 0).toNat → A' (20 + p2) = Af (20 + p2)))) (K1 D vwCl (TY cs) (AL L sz) L) (AL L sz)) 0 0 (AL L sz) := by
  refine Met.ofW (cc := prog_1_method_5_code) (maxL := 5) (ret := (Option.some Jvm.ClassFile.FieldType.int)) (by decide) rfl ?_
  intro p e s m args below meth c s₁ Bd hml hv
  obtain ⟨rfl, hk0⟩ := hv
  obtain ⟨hsz, B⟩ := hk0.start
  subst hsz
  have hx := Bd.exec
  have hb := Bd.bytes
  have hr := Bd.returns
  have hlocks := Bd.notSynchronized
  have hts0 := atoms_spec Bd.pre
  have hown : s.vm.findClass RX6 = some m.cls := findClass_of_methodNamed Bd.named
  have hA : ∀ q, s.heap.size ≤ q → AL L s.heap.size q := fun _ h => Or.inr h
  have hl := lv_entry ([.ref ((ad 0)), .int (iI 5), .int (iI ((p0 : Int))), .int (iI b)]) (n := 5) (Nat.le_of_ble_eq_true rfl)
  rw [lg_entry_eq]
  generalize (lg_sl ([.ref ((ad 0)), .int (iI 5), .int (iI ((p0 : Int))), .int (iI b)]) ++ List.replicate (5 - (lg_sl ([.ref ((ad 0)), .int (iI 5), .int (iI ((p0 : Int))), .int (iI b)])).length) Slot.unset).toArray = ls at hl ⊢
  refine absQ (fun Q R av hQ hR hav => ?_)
  have hts : ∀ w ∈ gw, w.before av s = true := by rw [hav]; exact fun w h => hts0 w (List.mem_cons_of_mem _ h)
  have hRf : R.frames = 7 := by rw [hR]; rfl
  have hRl : R.locals = 330 := by rw [hR]; rfl
  have hRc : R.cells = 0 := by rw [hR]; rfl
  have hRs : R.slots = 0 := by rw [hR]; rfl
  clear hR hts0 Bd
  have hl : lv_has ls 5 [(0, .ref ((ad 0))), (1, .int (iI 5)), (2, .int (iI ((p0 : Int)))), (3, .int (iI b))] := hl
  have hfr : ∀ k, Awy ad k → f k = f k := fun _ _ => rfl
  have hG0 := hInv.1
  have hhd := hG0.1
  have hp0 : p0 < 12 := by omega
  have hVM := hG0.2.1 p0 hp0
  refine lv_iload_n hx hb d_RR_make_0 rfl (lv_at hl 1 rfl) ?_
  refine x_if_eq (tgt := 19) hx hb d_RR_make_1 (by decide) (by omega) (fun h1 => ?_) (fun h1 => ?_)
  · exfalso; omega
  · refine lv_iload_n hx hb d_RR_make_4 rfl (lv_at hl 1 rfl) ?_
    refine x_iconst hx hb d_RR_make_5 ?_
    refine x_icmp_eq (tgt := 19) hx hb d_RR_make_6 (by decide) (by omega) (by omega) (fun h6 => ?_) (fun h6 => ?_)
    · exfalso; omega
    · refine lv_iload_n hx hb d_RR_make_9 rfl (lv_at hl 1 rfl) ?_
      refine x_iconst hx hb d_RR_make_10 ?_
      refine x_icmp_eq (tgt := 19) hx hb d_RR_make_11 (by decide) (by omega) (by omega) (fun h11 => ?_) (fun h11 => ?_)
      · exfalso; omega
      · refine lv_iload_n hx hb d_RR_make_14 rfl (lv_at hl 1 rfl) ?_
        refine x_iconst hx hb d_RR_make_15 ?_
        refine x_icmp_ne (tgt := 23) hx hb d_RR_make_16 (by decide) (by omega) (by omega) (fun h16 => ?_) (fun h16 => ?_)
        · refine x_iconst hx hb d_RR_make_23 ?_
          refine lv_istore (lv' := [(4, .int (iI 0)), (0, .ref ((ad 0))), (1, .int (iI 5)), (2, .int (iI ((p0 : Int)))), (3, .int (iI b))]) hx hb d_RR_make_24 hl (by decide) rfl (fun ls hl => ?_)
          refine lv_iload_n hx hb d_RR_make_26 rfl (lv_at hl 2 rfl) ?_
          refine x_if_lt (tgt := 57) hx hb d_RR_make_27 (by decide) (by omega) (fun h27 => ?_) (fun h27 => ?_)
          · exfalso; omega
          · refine lv_iload_n hx hb d_RR_make_30 rfl (lv_at hl 2 rfl) ?_
            refine x_bipush hx hb d_RR_make_31 (by decide) ?_
            refine x_icmp_gt (tgt := 57) hx hb d_RR_make_33 (by decide) (by omega) (by omega) (fun h33 => ?_) (fun h33 => ?_)
            · exfalso; omega
            · refine lv_aload_n hx hb d_RR_make_36 rfl (lv_at hl 1 rfl) ?_
              refine lv_iload_n hx hb d_RR_make_37 rfl (lv_at hl 3 rfl) ?_
              refine x_calli B hA (va_runV (As := [.int (iI ((p0 : Int)))]) (rest := []) ⟨hx, hb, hml, hown, hts⟩ (c_RR_unknown l D cs _ _ _ (ad 0) (ad 1) (ad 2) (ad 5) (ad 7) (ad 8) (ad 9) (ad 10) (ad 11) (ad 12) (ad 13) (ad 14) (If 0) (If 1) (If 2) ((p0 : Int)) (hAd.f1 (by decide)) hC.x (hhd) (by omega)) (cwV 1 hts (gw_V w_261 w_263 s_3 w_1 w_264) rfl rfl rfl (by decide +kernel) ⟨by rw [hRf]; exact Nat.le_of_ble_eq_true rfl, by rw [hRl]; exact Nat.le_of_ble_eq_true rfl⟩) ⟨K0.blind, B.recv (hAd.1 _ (by omega)) (hC.x) rfl, B.pre _⟩ rfl rfl hl.1 rfl (lv_room (Nat.le_of_ble_eq_true rfl)) d_RR_make_38 ⟨by rw [hRc]; omega, by rw [hRs]; omega⟩) (fun r38 g38 H locs hw B => ?_)
              obtain ⟨rfl, hgf⟩ := hw
              rw [hgf] at B
              rw [if_neg (by omega)]
              refine x_if_ne (tgt := 57) hx hb d_RR_make_41 (by decide) (by omega) (fun h41 => ?_) (fun h41 => ?_)
              · exfalso; omega
              · refine lv_iload hx hb d_RR_make_44 (lv_at hl 0 rfl) ?_
                refine x_if_eq (tgt := 59) hx hb d_RR_make_46 (by decide) (by omega) (fun h46 => ?_) (fun h46 => ?_)
                · refine lv_iload_n hx hb d_RR_make_59 rfl (lv_at hl 2 rfl) ?_
                  refine x_bipush hx hb d_RR_make_60 (by decide) ?_
                  refine x_icmp_eq (tgt := 71) hx hb d_RR_make_62 (by decide) (by omega) (by omega) (fun h62 => ?_) (fun h62 => ?_)
                  · exfalso; omega
                  · refine lv_iload_n hx hb d_RR_make_65 rfl (lv_at hl 2 rfl) ?_
                    refine x_bipush hx hb d_RR_make_66 (by decide) ?_
                    refine x_icmp_ne (tgt := 88) hx hb d_RR_make_68 (by decide) (by omega) (by omega) (fun h68 => ?_) (fun h68 => ?_)
                    · refine lv_iload_n hx hb d_RR_make_88 rfl (lv_at hl 2 rfl) ?_
                      refine x_iconst hx hb d_RR_make_89 ?_
                      refine x_icmp_eq (tgt := 99) hx hb d_RR_make_90 (by decide) (by omega) (by omega) (fun h90 => ?_) (fun h90 => ?_)
                      · refine lv_aload_n hx hb d_RR_make_99 rfl (lv_at hl 1 rfl) ?_
                        refine x_get (C := RX6) (T := TX6) (N := 14) hx hb hts inX6 hown (B.foc1 (hC.x)) (hAd.f1 (by omega)) 0 rfl rfl 0 (by decide) (hts _ w_197) (fun _ h9 => h9) rfl d_RR_make_100 ?_
                        refine lv_iload_n hx hb d_RR_make_103 rfl (lv_at hl 3 rfl) ?_
                        refine x_aald hx hb (B.foc1 (hC.c0)) (hAd.f1 (by omega)) 0 4 rfl rfl p0 (by omega) (by omega) (by decide) (rfs_at (by omega)) d_RR_make_104 ?_
                        refine x_get (C := RX2) (T := TX2) (N := 5) hx hb hts inX2 hown (B.foc1 (hC.cu (p := p0) (by omega))) (hAd.f1 (by omega)) 0 rfl rfl 0 (by decide) (hts _ w_177) (fun _ h9 => h9) rfl d_RR_make_105 ?_
                        refine x_calli B hA (va_runS (As := [.ref ((ad (27 + p0)))]) (rest := []) ⟨hx, hb, hml, hown, hts⟩ (c_RR_topOf l D cs _ _ _ (ad (27 + p0)) (Af (20 + p0)) (hAd.f1 (by have := ((Ar.va hp0)).lt; omega)) (hC.ar (Ar.va hp0)) (fun j hj => by have := hVM j hj; omega)) (va_cwS 1 hts (gw_S w_273 w_274 w_1 w_275) rfl rfl rfl (by decide +kernel) ⟨by rw [hRf]; exact Nat.le_of_ble_eq_true rfl, by rw [hRl]; exact Nat.le_of_ble_eq_true rfl⟩) ⟨K0.blind, B.pre _⟩ rfl rfl hl.1 rfl (lv_room (Nat.le_of_ble_eq_true rfl)) d_RR_make_108 ⟨by rw [hRc]; omega, by rw [hRs]; omega⟩) (fun r108 g108 H locs hw B => ?_)
                        obtain ⟨kt, rfl, hkt6, hktz, hktl, hgf⟩ := hw
                        rw [hgf] at B
                        refine x_iconst hx hb d_RR_make_111 ?_
                        refine x_icmp_ne (tgt := 118) hx hb d_RR_make_112 (by decide) (by omega) (by omega) (fun h112 => ?_) (fun h112 => ?_)
                        · refine lv_aload_n hx hb d_RR_make_118 rfl (lv_at hl 1 rfl) ?_
                          refine x_callv B hA (va_runV (As := []) (rest := []) ⟨hx, hb, hml, hown, hts⟩ (c_RR_clearWide l D cs _ _ _ (ad 0) (ad 1) (ad 2) (ad 5) (ad 7) (ad 8) (ad 9) (ad 10) (ad 11) (ad 12) (ad 13) (ad 14) (If 0) (If 1) (If 2) (Af 0) (hAd.fc [0, 8] (by simp only [List.nodup_cons, List.mem_cons, List.not_mem_nil, or_false, not_or, List.nodup_nil, and_true, not_false_eq_true]; omega) (by intro q hq; simp only [List.mem_cons, List.not_mem_nil, or_false] at hq; omega)) hC.x (hhd) hC.wide) (cwV 0 hts (gw_V w_244 w_246 s_0 w_1 w_247) rfl rfl rfl (by decide +kernel) ⟨by rw [hRf]; exact Nat.le_of_ble_eq_true rfl, by rw [hRl]; exact Nat.le_of_ble_eq_true rfl⟩) ⟨K0.blind, B.recv (hAd.1 _ (by omega)) (hC.x) rfl, B.pre _⟩ rfl rfl hl.1 rfl (lv_room (Nat.le_of_ble_eq_true rfl)) d_RR_make_119 ⟨by rw [hRc]; omega, by rw [hRs]; omega⟩) (fun g119 H locs hw B => ?_)
                          obtain rfl := hw
                          have B : Wb D vwCl (TY cs) L (mw f [((ad 8), .inl (cs 1, 12, .inr (.inl (al (cf 12 (fun _ => 0) (Af 0))))))]) (AL L s.heap.size) s H _ := B
                          obtain ⟨f_119, hf_119⟩ : ∃ f_119, f_119 = mw f [((ad 8), .inl (cs 1, 12, .inr (.inl (al (cf 12 (fun _ => 0) (Af 0))))))] := ⟨_, rfl⟩
                          rw [← hf_119] at B
                          obtain ⟨A_119, hA_119⟩ : ∃ A_119, A_119 = upA Af 0 (cf 12 (fun _ => 0) (Af 0)) := ⟨_, rfl⟩
                          have hC_119 : CSt cs ad Qm f_119 If A_119 Rf Zf := by rw [hf_119, hA_119]; exact CSt.w_wide hAd hC _
                          have hfr_119 : ∀ k, Awy ad k → f_119 k = f k := fun k hk => Eq.trans (by rw [hf_119]; exact hk.mw1 (by omega)) (hfr k hk)
                          have hz12 : ∀ j, j < 12 → A_119 0 j = 0 := fun j hj => by rw [hA_119, upA_self]; unfold cf; rw [if_pos (by omega)]
                          have hAc : ∀ q, q ≠ 0 → A_119 q = Af q := fun q hq => by rw [hA_119, upA_ne _ _ hq]
                          refine lv_iload hx hb d_RR_make_122 (lv_at hl 0 rfl) ?_
                          refine x_if_eq (tgt := 153) hx hb d_RR_make_124 (by decide) (by omega) (fun h124 => ?_) (fun h124 => ?_)
                          · refine lv_aload_n hx hb d_RR_make_153 rfl (lv_at hl 1 rfl) ?_
                            refine lv_iload_n hx hb d_RR_make_154 rfl (lv_at hl 2 rfl) ?_
                            refine lv_aload_n hx hb d_RR_make_155 rfl (lv_at hl 1 rfl) ?_
                            refine x_get (C := RX6) (T := TX6) (N := 14) hx hb hts inX6 hown (B.foc1 (hC_119.x)) (hAd.f1 (by omega)) 0 rfl rfl 0 (by decide) (hts _ w_197) (fun _ h9 => h9) rfl d_RR_make_156 ?_
                            refine lv_iload_n hx hb d_RR_make_159 rfl (lv_at hl 3 rfl) ?_
                            refine x_aald hx hb (B.foc1 (hC_119.c0)) (hAd.f1 (by omega)) 0 4 rfl rfl p0 (by omega) (by omega) (by decide) (rfs_at (by omega)) d_RR_make_160 ?_
                            refine x_get (C := RX2) (T := TX2) (N := 5) hx hb hts inX2 hown (B.foc1 (hC_119.cu (p := p0) (by omega))) (hAd.f1 (by omega)) 0 rfl rfl 0 (by decide) (hts _ w_177) (fun _ h9 => h9) rfl d_RR_make_161 ?_
                            refine lv_iload_n hx hb d_RR_make_164 rfl (lv_at hl 4 rfl) ?_
                            refine x_callv B hA (va_runV (As := [.int (iI 5), .ref ((ad (27 + p0))), .int (iI b)]) (rest := []) ⟨hx, hb, hml, hown, hts⟩ (c_RR_ofOne_5 l D cs _ _ _ ad Qm If A_119 Rf Zf p0 b hAd hC_119 hp0 hhd (by rw [hAc _ (by omega)]; exact hVM) (by rw [hAc _ (by omega)]; exact hNz) hbr) (cwV 3 hts (gw_V w_343 w_345 s_10 w_1 w_346) rfl rfl rfl (by decide +kernel) ⟨by rw [hRf]; exact Nat.le_of_ble_eq_true rfl, by rw [hRl]; exact Nat.le_of_ble_eq_true rfl⟩) ⟨K0.blind, B.recv (hAd.1 _ (by omega)) (hC_119.x) rfl, B.pre _⟩ rfl rfl hl.1 rfl (lv_room (Nat.le_of_ble_eq_true rfl)) d_RR_make_165 ⟨by rw [hRc]; omega, by rw [hRs]; omega⟩) (fun g165 H locs hw B => ?_)
                            obtain ⟨It, At, Rt, Zt, hCt, hqt, hIt, hAt, hWa, hWb⟩ := hw
                            have hfrt : ∀ k, Awy ad k → g165 k = f k := fun k hk => (hqt k hk).trans (hfr_119 k hk)
                            have B : Wb D vwCl (TY cs) L g165 (AL L s.heap.size) s H _ := B
                            simp only [hAc (20 + p0) (by omega)] at hWa
                            have hIt3 : ∀ i, i ≠ 3 → It i = If i := hIt
                            have hAt4 : ∀ q, q ≠ 0 → q ≠ 1 → q ≠ 2 → q ≠ 7 → At q = Af q := fun q h1 h2 h3 h4 => (hAt q h1 h2 h3 h4).trans (hAc q h1)
                            have hInvt : Inv It At := hInv.scr (fun i hi => hIt3 i (by omega)) (fun q hq => hAt4 q (by omega) (by omega) (by omega) (by omega))
                            have hI0t : It 0 = If 0 := hIt3 0 (by decide)
                            refine lv_aload_n hx hb d_RR_make_168 rfl (lv_at hl 1 rfl) ?_
                            refine x_calli B hA (va_runV (As := []) (rest := []) ⟨hx, hb, hml, hown, hts⟩ (c_RR_keepWide_c l D cs _ _ _ ad Qm It At Rt Zt hAd hCt (hInvt) (fun j hj => by rcases Nat.lt_or_ge j 6 with c | c; have := (hWa.facts hNz hVM).2.2.1 j c; omega; rw [hWb j c hj]; omega)) (cwV 0 hts (gw_V w_248 w_250 s_1 w_1 w_251) rfl rfl rfl (by decide +kernel) ⟨by rw [hRf]; exact Nat.le_of_ble_eq_true rfl, by rw [hRl]; exact Nat.le_of_ble_eq_true rfl⟩) ⟨K0.blind, B.recv (hAd.1 _ (by omega)) (hCt.x) rfl, B.pre _⟩ rfl rfl hl.1 rfl (lv_room (Nat.le_of_ble_eq_true rfl)) d_RR_make_169 ⟨by rw [hRc]; omega, by rw [hRs]; omega⟩) (fun r169 g169 H locs hw B => ?_)
                            obtain ⟨Ik, Ak, Rk, Zk, hCk, hqk, hkw⟩ := hw
                            have hfrk : ∀ k, Awy ad k → g169 k = f k := fun k hk => (hqk k hk).trans (hfrt k hk)
                            have B : Wb D vwCl (TY cs) L g169 (AL L s.heap.size) s H _ := B
                            rcases hkw with ⟨⟨hbad, rfl⟩, hIsk, hAsk⟩ | ⟨⟨hlt, hall⟩, rfl, hInvk, hI0k, hnew, hold⟩
                            · subst hQ hav
                              exact x_iret hx hb hr hlocks B d_RR_make_172 (⟨Ik, Ak, Rk, Zk, hCk, hfrk, At 0, ⟨hWa, hWb⟩, Or.inl ⟨⟨by rw [← hI0t]; exact hbad, rfl⟩, hInvt.same hIsk hAsk, ⟨(hIsk 0).trans hI0t, fun p hp => by rw [hAsk]; exact hAt4 _ (by omega) (by omega) (by omega) (by omega)⟩⟩⟩)
                            · subst hQ hav
                              exact x_iret hx hb hr hlocks B d_RR_make_172 (⟨Ik, Ak, Rk, Zk, hCk, hfrk, At 0, ⟨hWa, hWb⟩, Or.inr ⟨⟨by omega, hall⟩, by rw [hI0t], hInvk, by rw [hI0k, hI0t], by rw [← hI0t]; exact hnew, fun p2 h1 h2 => (hold p2 h1 (by rw [hI0t]; exact h2)).trans (hAt4 _ (by omega) (by omega) (by omega) (by omega))⟩⟩)
                          · exfalso; omega
                        · exfalso
                          obtain ⟨j9, hj9, hn9⟩ := hNz
                          exact hn9 (hktz j9 (by omega) hj9)
                      · exfalso; omega
                    · exfalso; omega
                · exfalso; omega
        · exfalso; omega
set_option maxHeartbeats 8000000 in
set_option maxRecDepth 100000 in
theorem c_RR_make_6 (l : Launch) (D : va_G) (cs : Nat → ClassId) (L : List Nat) (f : Nat → va_E) (sz : Nat) (ad Qm : Nat → Nat) (If : Nat → Int) (Af : Nat → Nat → Int) (Rf : Nat → Nat) (Zf : Nat → Int) (p0 : Nat) (b : Int) (hAd : AdOk L ad Qm) (hC : CSt cs ad Qm f If Af Rf Zf) (hInv : Inv If Af) (hpk : (p0 : Int) < If 0) (hbr : -2147483648 ≤ b ∧ b < 2147483648) (hb9 : -1000 ≤ b ∧ b ≤ 1000) : Met l (⟨"RealRoots", "make", "(III)I"⟩ : MethodName) (.code (⟨"RealRoots", "make", "(III)I"⟩ : MethodName) prog_1_method_5_code 5 (Option.some Jvm.ClassFile.FieldType.int) :: gw) ({ frames := 7, cells := 0, slots := 0, locals := 330 }) (va_Pc [.ref ((ad 0)), .int (iI 6), .int (iI ((p0 : Int))), .int (iI b)] (K0 D vwCl (TY cs) L f sz)) (va_Qi (fun (r : Int32) (g : Nat → va_E) => ∃ (I' : Nat → Int) (A' : Nat → Nat → Int) (R' : Nat → Nat) (Z' : Nat → Int), CSt cs ad Qm g I' A' R' Z' ∧ (∀ k, Awy ad k → g k = f k) ∧ ∃ W : Nat → Int, ((∀ j : Nat, j < 6 → W j = hrn (Af (20 + p0)) b 6 j) ∧ ∀ j : Nat, 6 ≤ j → j < 12 → W j = 0) ∧ ((((If 0 = 12 ∨ ∃ j, j < 12 ∧ ¬ WOk W j) ∧ r = iI (-4)) ∧ Inv I' A' ∧ SameV If Af I' A') ∨ ((If 0 < 12 ∧ ∀ j, j < 12 → WOk W j) ∧ r = iI (If 0) ∧ Inv I' A' ∧ I' 0 = If 0 + 1 ∧ (∀ j, j < 6 → A' (20 + (If 0).toNat) j = W j) ∧ ∀ p2, p2 < 12 → p2 ≠ (If 0).toNat → A' (20 + p2) = Af (20 + p2)))) (K1 D vwCl (TY cs) (AL L sz) L) (AL L sz)) 0 0 (AL L sz) := by
  refine Met.ofW (cc := prog_1_method_5_code) (maxL := 5) (ret := (Option.some Jvm.ClassFile.FieldType.int)) (by decide) rfl ?_
  intro p e s m args below meth c s₁ Bd hml hv
  obtain ⟨rfl, hk0⟩ := hv
  obtain ⟨hsz, B⟩ := hk0.start
  subst hsz
  have hx := Bd.exec
  have hb := Bd.bytes
  have hr := Bd.returns
  have hlocks := Bd.notSynchronized
  have hts0 := atoms_spec Bd.pre
  have hown : s.vm.findClass RX6 = some m.cls := findClass_of_methodNamed Bd.named
  have hA : ∀ q, s.heap.size ≤ q → AL L s.heap.size q := fun _ h => Or.inr h
  have hl := lv_entry ([.ref ((ad 0)), .int (iI 6), .int (iI ((p0 : Int))), .int (iI b)]) (n := 5) (Nat.le_of_ble_eq_true rfl)
  rw [lg_entry_eq]
  generalize (lg_sl ([.ref ((ad 0)), .int (iI 6), .int (iI ((p0 : Int))), .int (iI b)]) ++ List.replicate (5 - (lg_sl ([.ref ((ad 0)), .int (iI 6), .int (iI ((p0 : Int))), .int (iI b)])).length) Slot.unset).toArray = ls at hl ⊢
  refine absQ (fun Q R av hQ hR hav => ?_)
  have hts : ∀ w ∈ gw, w.before av s = true := by rw [hav]; exact fun w h => hts0 w (List.mem_cons_of_mem _ h)
  have hRf : R.frames = 7 := by rw [hR]; rfl
  have hRl : R.locals = 330 := by rw [hR]; rfl
  have hRc : R.cells = 0 := by rw [hR]; rfl
  have hRs : R.slots = 0 := by rw [hR]; rfl
  clear hR hts0 Bd
  have hl : lv_has ls 5 [(0, .ref ((ad 0))), (1, .int (iI 6)), (2, .int (iI ((p0 : Int)))), (3, .int (iI b))] := hl
  have hfr : ∀ k, Awy ad k → f k = f k := fun _ _ => rfl
  have hG0 := hInv.1
  have hhd := hG0.1
  have hp0 : p0 < 12 := by omega
  have hVM := hG0.2.1 p0 hp0
  refine lv_iload_n hx hb d_RR_make_0 rfl (lv_at hl 1 rfl) ?_
  refine x_if_eq (tgt := 19) hx hb d_RR_make_1 (by decide) (by omega) (fun h1 => ?_) (fun h1 => ?_)
  · exfalso; omega
  · refine lv_iload_n hx hb d_RR_make_4 rfl (lv_at hl 1 rfl) ?_
    refine x_iconst hx hb d_RR_make_5 ?_
    refine x_icmp_eq (tgt := 19) hx hb d_RR_make_6 (by decide) (by omega) (by omega) (fun h6 => ?_) (fun h6 => ?_)
    · exfalso; omega
    · refine lv_iload_n hx hb d_RR_make_9 rfl (lv_at hl 1 rfl) ?_
      refine x_iconst hx hb d_RR_make_10 ?_
      refine x_icmp_eq (tgt := 19) hx hb d_RR_make_11 (by decide) (by omega) (by omega) (fun h11 => ?_) (fun h11 => ?_)
      · exfalso; omega
      · refine lv_iload_n hx hb d_RR_make_14 rfl (lv_at hl 1 rfl) ?_
        refine x_iconst hx hb d_RR_make_15 ?_
        refine x_icmp_ne (tgt := 23) hx hb d_RR_make_16 (by decide) (by omega) (by omega) (fun h16 => ?_) (fun h16 => ?_)
        · refine x_iconst hx hb d_RR_make_23 ?_
          refine lv_istore (lv' := [(4, .int (iI 0)), (0, .ref ((ad 0))), (1, .int (iI 6)), (2, .int (iI ((p0 : Int)))), (3, .int (iI b))]) hx hb d_RR_make_24 hl (by decide) rfl (fun ls hl => ?_)
          refine lv_iload_n hx hb d_RR_make_26 rfl (lv_at hl 2 rfl) ?_
          refine x_if_lt (tgt := 57) hx hb d_RR_make_27 (by decide) (by omega) (fun h27 => ?_) (fun h27 => ?_)
          · exfalso; omega
          · refine lv_iload_n hx hb d_RR_make_30 rfl (lv_at hl 2 rfl) ?_
            refine x_bipush hx hb d_RR_make_31 (by decide) ?_
            refine x_icmp_gt (tgt := 57) hx hb d_RR_make_33 (by decide) (by omega) (by omega) (fun h33 => ?_) (fun h33 => ?_)
            · exfalso; omega
            · refine lv_aload_n hx hb d_RR_make_36 rfl (lv_at hl 1 rfl) ?_
              refine lv_iload_n hx hb d_RR_make_37 rfl (lv_at hl 3 rfl) ?_
              refine x_calli B hA (va_runV (As := [.int (iI ((p0 : Int)))]) (rest := []) ⟨hx, hb, hml, hown, hts⟩ (c_RR_unknown l D cs _ _ _ (ad 0) (ad 1) (ad 2) (ad 5) (ad 7) (ad 8) (ad 9) (ad 10) (ad 11) (ad 12) (ad 13) (ad 14) (If 0) (If 1) (If 2) ((p0 : Int)) (hAd.f1 (by decide)) hC.x (hhd) (by omega)) (cwV 1 hts (gw_V w_261 w_263 s_3 w_1 w_264) rfl rfl rfl (by decide +kernel) ⟨by rw [hRf]; exact Nat.le_of_ble_eq_true rfl, by rw [hRl]; exact Nat.le_of_ble_eq_true rfl⟩) ⟨K0.blind, B.recv (hAd.1 _ (by omega)) (hC.x) rfl, B.pre _⟩ rfl rfl hl.1 rfl (lv_room (Nat.le_of_ble_eq_true rfl)) d_RR_make_38 ⟨by rw [hRc]; omega, by rw [hRs]; omega⟩) (fun r38 g38 H locs hw B => ?_)
              obtain ⟨rfl, hgf⟩ := hw
              rw [hgf] at B
              rw [if_neg (by omega)]
              refine x_if_ne (tgt := 57) hx hb d_RR_make_41 (by decide) (by omega) (fun h41 => ?_) (fun h41 => ?_)
              · exfalso; omega
              · refine lv_iload hx hb d_RR_make_44 (lv_at hl 0 rfl) ?_
                refine x_if_eq (tgt := 59) hx hb d_RR_make_46 (by decide) (by omega) (fun h46 => ?_) (fun h46 => ?_)
                · refine lv_iload_n hx hb d_RR_make_59 rfl (lv_at hl 2 rfl) ?_
                  refine x_bipush hx hb d_RR_make_60 (by decide) ?_
                  refine x_icmp_eq (tgt := 71) hx hb d_RR_make_62 (by decide) (by omega) (by omega) (fun h62 => ?_) (fun h62 => ?_)
                  · refine lv_iload_n hx hb d_RR_make_71 rfl (lv_at hl 4 rfl) ?_
                    refine x_sipush hx hb d_RR_make_72 (by decide) ?_
                    refine x_icmp_lt (tgt := 85) hx hb d_RR_make_75 (by decide) (by omega) (by omega) (fun h75 => ?_) (fun h75 => ?_)
                    · exfalso; omega
                    · refine lv_iload_n hx hb d_RR_make_78 rfl (lv_at hl 4 rfl) ?_
                      refine x_sipush hx hb d_RR_make_79 (by decide) ?_
                      refine x_icmp_le (tgt := 88) hx hb d_RR_make_82 (by decide) (by omega) (by omega) (fun h82 => ?_) (fun h82 => ?_)
                      · refine lv_iload_n hx hb d_RR_make_88 rfl (lv_at hl 2 rfl) ?_
                        refine x_iconst hx hb d_RR_make_89 ?_
                        refine x_icmp_eq (tgt := 99) hx hb d_RR_make_90 (by decide) (by omega) (by omega) (fun h90 => ?_) (fun h90 => ?_)
                        · exfalso; omega
                        · refine lv_iload_n hx hb d_RR_make_93 rfl (lv_at hl 2 rfl) ?_
                          refine x_bipush hx hb d_RR_make_94 (by decide) ?_
                          refine x_icmp_ne (tgt := 118) hx hb d_RR_make_96 (by decide) (by omega) (by omega) (fun h96 => ?_) (fun h96 => ?_)
                          · refine lv_aload_n hx hb d_RR_make_118 rfl (lv_at hl 1 rfl) ?_
                            refine x_callv B hA (va_runV (As := []) (rest := []) ⟨hx, hb, hml, hown, hts⟩ (c_RR_clearWide l D cs _ _ _ (ad 0) (ad 1) (ad 2) (ad 5) (ad 7) (ad 8) (ad 9) (ad 10) (ad 11) (ad 12) (ad 13) (ad 14) (If 0) (If 1) (If 2) (Af 0) (hAd.fc [0, 8] (by simp only [List.nodup_cons, List.mem_cons, List.not_mem_nil, or_false, not_or, List.nodup_nil, and_true, not_false_eq_true]; omega) (by intro q hq; simp only [List.mem_cons, List.not_mem_nil, or_false] at hq; omega)) hC.x (hhd) hC.wide) (cwV 0 hts (gw_V w_244 w_246 s_0 w_1 w_247) rfl rfl rfl (by decide +kernel) ⟨by rw [hRf]; exact Nat.le_of_ble_eq_true rfl, by rw [hRl]; exact Nat.le_of_ble_eq_true rfl⟩) ⟨K0.blind, B.recv (hAd.1 _ (by omega)) (hC.x) rfl, B.pre _⟩ rfl rfl hl.1 rfl (lv_room (Nat.le_of_ble_eq_true rfl)) d_RR_make_119 ⟨by rw [hRc]; omega, by rw [hRs]; omega⟩) (fun g119 H locs hw B => ?_)
                            obtain rfl := hw
                            have B : Wb D vwCl (TY cs) L (mw f [((ad 8), .inl (cs 1, 12, .inr (.inl (al (cf 12 (fun _ => 0) (Af 0))))))]) (AL L s.heap.size) s H _ := B
                            obtain ⟨f_119, hf_119⟩ : ∃ f_119, f_119 = mw f [((ad 8), .inl (cs 1, 12, .inr (.inl (al (cf 12 (fun _ => 0) (Af 0))))))] := ⟨_, rfl⟩
                            rw [← hf_119] at B
                            obtain ⟨A_119, hA_119⟩ : ∃ A_119, A_119 = upA Af 0 (cf 12 (fun _ => 0) (Af 0)) := ⟨_, rfl⟩
                            have hC_119 : CSt cs ad Qm f_119 If A_119 Rf Zf := by rw [hf_119, hA_119]; exact CSt.w_wide hAd hC _
                            have hfr_119 : ∀ k, Awy ad k → f_119 k = f k := fun k hk => Eq.trans (by rw [hf_119]; exact hk.mw1 (by omega)) (hfr k hk)
                            have hz12 : ∀ j, j < 12 → A_119 0 j = 0 := fun j hj => by rw [hA_119, upA_self]; unfold cf; rw [if_pos (by omega)]
                            have hAc : ∀ q, q ≠ 0 → A_119 q = Af q := fun q hq => by rw [hA_119, upA_ne _ _ hq]
                            refine lv_iload hx hb d_RR_make_122 (lv_at hl 0 rfl) ?_
                            refine x_if_eq (tgt := 153) hx hb d_RR_make_124 (by decide) (by omega) (fun h124 => ?_) (fun h124 => ?_)
                            · refine lv_aload_n hx hb d_RR_make_153 rfl (lv_at hl 1 rfl) ?_
                              refine lv_iload_n hx hb d_RR_make_154 rfl (lv_at hl 2 rfl) ?_
                              refine lv_aload_n hx hb d_RR_make_155 rfl (lv_at hl 1 rfl) ?_
                              refine x_get (C := RX6) (T := TX6) (N := 14) hx hb hts inX6 hown (B.foc1 (hC_119.x)) (hAd.f1 (by omega)) 0 rfl rfl 0 (by decide) (hts _ w_197) (fun _ h9 => h9) rfl d_RR_make_156 ?_
                              refine lv_iload_n hx hb d_RR_make_159 rfl (lv_at hl 3 rfl) ?_
                              refine x_aald hx hb (B.foc1 (hC_119.c0)) (hAd.f1 (by omega)) 0 4 rfl rfl p0 (by omega) (by omega) (by decide) (rfs_at (by omega)) d_RR_make_160 ?_
                              refine x_get (C := RX2) (T := TX2) (N := 5) hx hb hts inX2 hown (B.foc1 (hC_119.cu (p := p0) (by omega))) (hAd.f1 (by omega)) 0 rfl rfl 0 (by decide) (hts _ w_177) (fun _ h9 => h9) rfl d_RR_make_161 ?_
                              refine lv_iload_n hx hb d_RR_make_164 rfl (lv_at hl 4 rfl) ?_
                              refine x_callv B hA (va_runV (As := [.int (iI 6), .ref ((ad (27 + p0))), .int (iI b)]) (rest := []) ⟨hx, hb, hml, hown, hts⟩ (c_RR_ofOne_6 l D cs _ _ _ ad Qm If A_119 Rf Zf p0 b hAd hC_119 hp0 hhd (by rw [hAc _ (by omega)]; exact hVM) hb9 hz12 hbr) (cwV 3 hts (gw_V w_343 w_345 s_10 w_1 w_346) rfl rfl rfl (by decide +kernel) ⟨by rw [hRf]; exact Nat.le_of_ble_eq_true rfl, by rw [hRl]; exact Nat.le_of_ble_eq_true rfl⟩) ⟨K0.blind, B.recv (hAd.1 _ (by omega)) (hC_119.x) rfl, B.pre _⟩ rfl rfl hl.1 rfl (lv_room (Nat.le_of_ble_eq_true rfl)) d_RR_make_165 ⟨by rw [hRc]; omega, by rw [hRs]; omega⟩) (fun g165 H locs hw B => ?_)
                              obtain ⟨It, At, Rt, Zt, hCt, hqt, hIt, hAt, hWa, hWb⟩ := hw
                              have hfrt : ∀ k, Awy ad k → g165 k = f k := fun k hk => (hqt k hk).trans (hfr_119 k hk)
                              have B : Wb D vwCl (TY cs) L g165 (AL L s.heap.size) s H _ := B
                              simp only [hAc (20 + p0) (by omega)] at hWa
                              have hIt3 : ∀ i, i ≠ 3 → It i = If i := hIt
                              have hAt4 : ∀ q, q ≠ 0 → q ≠ 1 → q ≠ 2 → q ≠ 7 → At q = Af q := fun q h1 h2 h3 h4 => (hAt q h1 h2 h3 h4).trans (hAc q h1)
                              have hInvt : Inv It At := hInv.scr (fun i hi => hIt3 i (by omega)) (fun q hq => hAt4 q (by omega) (by omega) (by omega) (by omega))
                              have hI0t : It 0 = If 0 := hIt3 0 (by decide)
                              refine lv_aload_n hx hb d_RR_make_168 rfl (lv_at hl 1 rfl) ?_
                              refine x_calli B hA (va_runV (As := []) (rest := []) ⟨hx, hb, hml, hown, hts⟩ (c_RR_keepWide_c l D cs _ _ _ ad Qm It At Rt Zt hAd hCt (hInvt) (fun j hj => by rcases Nat.lt_or_ge j 6 with c | c; rw [hWa j c]; have h9 := hrn_bd (A := Af (20 + p0)) (b := b) hVM hb9 6 j; rw [show hbd 6 = 1006015020015006000 by decide] at h9; omega; rw [hWb j c, hz12 j hj]; omega)) (cwV 0 hts (gw_V w_248 w_250 s_1 w_1 w_251) rfl rfl rfl (by decide +kernel) ⟨by rw [hRf]; exact Nat.le_of_ble_eq_true rfl, by rw [hRl]; exact Nat.le_of_ble_eq_true rfl⟩) ⟨K0.blind, B.recv (hAd.1 _ (by omega)) (hCt.x) rfl, B.pre _⟩ rfl rfl hl.1 rfl (lv_room (Nat.le_of_ble_eq_true rfl)) d_RR_make_169 ⟨by rw [hRc]; omega, by rw [hRs]; omega⟩) (fun r169 g169 H locs hw B => ?_)
                              obtain ⟨Ik, Ak, Rk, Zk, hCk, hqk, hkw⟩ := hw
                              have hfrk : ∀ k, Awy ad k → g169 k = f k := fun k hk => (hqk k hk).trans (hfrt k hk)
                              have B : Wb D vwCl (TY cs) L g169 (AL L s.heap.size) s H _ := B
                              rcases hkw with ⟨⟨hbad, rfl⟩, hIsk, hAsk⟩ | ⟨⟨hlt, hall⟩, rfl, hInvk, hI0k, hnew, hold⟩
                              · subst hQ hav
                                exact x_iret hx hb hr hlocks B d_RR_make_172 (⟨Ik, Ak, Rk, Zk, hCk, hfrk, At 0, ⟨hWa, fun j h1 h2 => (hWb j h1).trans (hz12 j h2)⟩, Or.inl ⟨⟨by rw [← hI0t]; exact hbad, rfl⟩, hInvt.same hIsk hAsk, ⟨(hIsk 0).trans hI0t, fun p hp => by rw [hAsk]; exact hAt4 _ (by omega) (by omega) (by omega) (by omega)⟩⟩⟩)
                              · subst hQ hav
                                exact x_iret hx hb hr hlocks B d_RR_make_172 (⟨Ik, Ak, Rk, Zk, hCk, hfrk, At 0, ⟨hWa, fun j h1 h2 => (hWb j h1).trans (hz12 j h2)⟩, Or.inr ⟨⟨by omega, hall⟩, by rw [hI0t], hInvk, by rw [hI0k, hI0t], by rw [← hI0t]; exact hnew, fun p2 h1 h2 => (hold p2 h1 (by rw [hI0t]; exact h2)).trans (hAt4 _ (by omega) (by omega) (by omega) (by omega))⟩⟩)
                            · exfalso; omega
                          · exfalso; omega
                      · exfalso; omega
                  · exfalso; omega
                · exfalso; omega
        · exfalso; omega
set_option maxHeartbeats 8000000 in
set_option maxRecDepth 100000 in
theorem c_RR_make_7 (l : Launch) (D : va_G) (cs : Nat → ClassId) (L : List Nat) (f : Nat → va_E) (sz : Nat) (ad Qm : Nat → Nat) (If : Nat → Int) (Af : Nat → Nat → Int) (Rf : Nat → Nat) (Zf : Nat → Int) (p0 : Nat) (b : Int) (hAd : AdOk L ad Qm) (hC : CSt cs ad Qm f If Af Rf Zf) (hInv : Inv If Af) (hpk : (p0 : Int) < If 0) (hbr : -2147483648 ≤ b ∧ b < 2147483648) : Met l (⟨"RealRoots", "make", "(III)I"⟩ : MethodName) (.code (⟨"RealRoots", "make", "(III)I"⟩ : MethodName) prog_1_method_5_code 5 (Option.some Jvm.ClassFile.FieldType.int) :: gw) ({ frames := 7, cells := 0, slots := 0, locals := 330 }) (va_Pc [.ref ((ad 0)), .int (iI 7), .int (iI ((p0 : Int))), .int (iI b)] (K0 D vwCl (TY cs) L f sz)) (va_Qi (fun (r : Int32) (g : Nat → va_E) => ∃ (I' : Nat → Int) (A' : Nat → Nat → Int) (R' : Nat → Nat) (Z' : Nat → Int), CSt cs ad Qm g I' A' R' Z' ∧ (∀ k, Awy ad k → g k = f k) ∧ ∃ W : Nat → Int, ((∀ j : Nat, j < 6 → W j = Af (20 + p0) j * (-1) ^ j) ∧ ∀ j : Nat, 6 ≤ j → j < 12 → W j = 0) ∧ ((((If 0 = 12 ∨ ∃ j, j < 12 ∧ ¬ WOk W j) ∧ r = iI (-4)) ∧ Inv I' A' ∧ SameV If Af I' A') ∨ ((If 0 < 12 ∧ ∀ j, j < 12 → WOk W j) ∧ r = iI (If 0) ∧ Inv I' A' ∧ I' 0 = If 0 + 1 ∧ (∀ j, j < 6 → A' (20 + (If 0).toNat) j = W j) ∧ ∀ p2, p2 < 12 → p2 ≠ (If 0).toNat → A' (20 + p2) = Af (20 + p2)))) (K1 D vwCl (TY cs) (AL L sz) L) (AL L sz)) 0 0 (AL L sz) := by
  refine Met.ofW (cc := prog_1_method_5_code) (maxL := 5) (ret := (Option.some Jvm.ClassFile.FieldType.int)) (by decide) rfl ?_
  intro p e s m args below meth c s₁ Bd hml hv
  obtain ⟨rfl, hk0⟩ := hv
  obtain ⟨hsz, B⟩ := hk0.start
  subst hsz
  have hx := Bd.exec
  have hb := Bd.bytes
  have hr := Bd.returns
  have hlocks := Bd.notSynchronized
  have hts0 := atoms_spec Bd.pre
  have hown : s.vm.findClass RX6 = some m.cls := findClass_of_methodNamed Bd.named
  have hA : ∀ q, s.heap.size ≤ q → AL L s.heap.size q := fun _ h => Or.inr h
  have hl := lv_entry ([.ref ((ad 0)), .int (iI 7), .int (iI ((p0 : Int))), .int (iI b)]) (n := 5) (Nat.le_of_ble_eq_true rfl)
  rw [lg_entry_eq]
  generalize (lg_sl ([.ref ((ad 0)), .int (iI 7), .int (iI ((p0 : Int))), .int (iI b)]) ++ List.replicate (5 - (lg_sl ([.ref ((ad 0)), .int (iI 7), .int (iI ((p0 : Int))), .int (iI b)])).length) Slot.unset).toArray = ls at hl ⊢
  refine absQ (fun Q R av hQ hR hav => ?_)
  have hts : ∀ w ∈ gw, w.before av s = true := by rw [hav]; exact fun w h => hts0 w (List.mem_cons_of_mem _ h)
  have hRf : R.frames = 7 := by rw [hR]; rfl
  have hRl : R.locals = 330 := by rw [hR]; rfl
  have hRc : R.cells = 0 := by rw [hR]; rfl
  have hRs : R.slots = 0 := by rw [hR]; rfl
  clear hR hts0 Bd
  have hl : lv_has ls 5 [(0, .ref ((ad 0))), (1, .int (iI 7)), (2, .int (iI ((p0 : Int)))), (3, .int (iI b))] := hl
  have hfr : ∀ k, Awy ad k → f k = f k := fun _ _ => rfl
  have hG0 := hInv.1
  have hhd := hG0.1
  have hp0 : p0 < 12 := by omega
  have hVM := hG0.2.1 p0 hp0
  refine lv_iload_n hx hb d_RR_make_0 rfl (lv_at hl 1 rfl) ?_
  refine x_if_eq (tgt := 19) hx hb d_RR_make_1 (by decide) (by omega) (fun h1 => ?_) (fun h1 => ?_)
  · exfalso; omega
  · refine lv_iload_n hx hb d_RR_make_4 rfl (lv_at hl 1 rfl) ?_
    refine x_iconst hx hb d_RR_make_5 ?_
    refine x_icmp_eq (tgt := 19) hx hb d_RR_make_6 (by decide) (by omega) (by omega) (fun h6 => ?_) (fun h6 => ?_)
    · exfalso; omega
    · refine lv_iload_n hx hb d_RR_make_9 rfl (lv_at hl 1 rfl) ?_
      refine x_iconst hx hb d_RR_make_10 ?_
      refine x_icmp_eq (tgt := 19) hx hb d_RR_make_11 (by decide) (by omega) (by omega) (fun h11 => ?_) (fun h11 => ?_)
      · exfalso; omega
      · refine lv_iload_n hx hb d_RR_make_14 rfl (lv_at hl 1 rfl) ?_
        refine x_iconst hx hb d_RR_make_15 ?_
        refine x_icmp_ne (tgt := 23) hx hb d_RR_make_16 (by decide) (by omega) (by omega) (fun h16 => ?_) (fun h16 => ?_)
        · refine x_iconst hx hb d_RR_make_23 ?_
          refine lv_istore (lv' := [(4, .int (iI 0)), (0, .ref ((ad 0))), (1, .int (iI 7)), (2, .int (iI ((p0 : Int)))), (3, .int (iI b))]) hx hb d_RR_make_24 hl (by decide) rfl (fun ls hl => ?_)
          refine lv_iload_n hx hb d_RR_make_26 rfl (lv_at hl 2 rfl) ?_
          refine x_if_lt (tgt := 57) hx hb d_RR_make_27 (by decide) (by omega) (fun h27 => ?_) (fun h27 => ?_)
          · exfalso; omega
          · refine lv_iload_n hx hb d_RR_make_30 rfl (lv_at hl 2 rfl) ?_
            refine x_bipush hx hb d_RR_make_31 (by decide) ?_
            refine x_icmp_gt (tgt := 57) hx hb d_RR_make_33 (by decide) (by omega) (by omega) (fun h33 => ?_) (fun h33 => ?_)
            · exfalso; omega
            · refine lv_aload_n hx hb d_RR_make_36 rfl (lv_at hl 1 rfl) ?_
              refine lv_iload_n hx hb d_RR_make_37 rfl (lv_at hl 3 rfl) ?_
              refine x_calli B hA (va_runV (As := [.int (iI ((p0 : Int)))]) (rest := []) ⟨hx, hb, hml, hown, hts⟩ (c_RR_unknown l D cs _ _ _ (ad 0) (ad 1) (ad 2) (ad 5) (ad 7) (ad 8) (ad 9) (ad 10) (ad 11) (ad 12) (ad 13) (ad 14) (If 0) (If 1) (If 2) ((p0 : Int)) (hAd.f1 (by decide)) hC.x (hhd) (by omega)) (cwV 1 hts (gw_V w_261 w_263 s_3 w_1 w_264) rfl rfl rfl (by decide +kernel) ⟨by rw [hRf]; exact Nat.le_of_ble_eq_true rfl, by rw [hRl]; exact Nat.le_of_ble_eq_true rfl⟩) ⟨K0.blind, B.recv (hAd.1 _ (by omega)) (hC.x) rfl, B.pre _⟩ rfl rfl hl.1 rfl (lv_room (Nat.le_of_ble_eq_true rfl)) d_RR_make_38 ⟨by rw [hRc]; omega, by rw [hRs]; omega⟩) (fun r38 g38 H locs hw B => ?_)
              obtain ⟨rfl, hgf⟩ := hw
              rw [hgf] at B
              rw [if_neg (by omega)]
              refine x_if_ne (tgt := 57) hx hb d_RR_make_41 (by decide) (by omega) (fun h41 => ?_) (fun h41 => ?_)
              · exfalso; omega
              · refine lv_iload hx hb d_RR_make_44 (lv_at hl 0 rfl) ?_
                refine x_if_eq (tgt := 59) hx hb d_RR_make_46 (by decide) (by omega) (fun h46 => ?_) (fun h46 => ?_)
                · refine lv_iload_n hx hb d_RR_make_59 rfl (lv_at hl 2 rfl) ?_
                  refine x_bipush hx hb d_RR_make_60 (by decide) ?_
                  refine x_icmp_eq (tgt := 71) hx hb d_RR_make_62 (by decide) (by omega) (by omega) (fun h62 => ?_) (fun h62 => ?_)
                  · exfalso; omega
                  · refine lv_iload_n hx hb d_RR_make_65 rfl (lv_at hl 2 rfl) ?_
                    refine x_bipush hx hb d_RR_make_66 (by decide) ?_
                    refine x_icmp_ne (tgt := 88) hx hb d_RR_make_68 (by decide) (by omega) (by omega) (fun h68 => ?_) (fun h68 => ?_)
                    · refine lv_iload_n hx hb d_RR_make_88 rfl (lv_at hl 2 rfl) ?_
                      refine x_iconst hx hb d_RR_make_89 ?_
                      refine x_icmp_eq (tgt := 99) hx hb d_RR_make_90 (by decide) (by omega) (by omega) (fun h90 => ?_) (fun h90 => ?_)
                      · exfalso; omega
                      · refine lv_iload_n hx hb d_RR_make_93 rfl (lv_at hl 2 rfl) ?_
                        refine x_bipush hx hb d_RR_make_94 (by decide) ?_
                        refine x_icmp_ne (tgt := 118) hx hb d_RR_make_96 (by decide) (by omega) (by omega) (fun h96 => ?_) (fun h96 => ?_)
                        · refine lv_aload_n hx hb d_RR_make_118 rfl (lv_at hl 1 rfl) ?_
                          refine x_callv B hA (va_runV (As := []) (rest := []) ⟨hx, hb, hml, hown, hts⟩ (c_RR_clearWide l D cs _ _ _ (ad 0) (ad 1) (ad 2) (ad 5) (ad 7) (ad 8) (ad 9) (ad 10) (ad 11) (ad 12) (ad 13) (ad 14) (If 0) (If 1) (If 2) (Af 0) (hAd.fc [0, 8] (by simp only [List.nodup_cons, List.mem_cons, List.not_mem_nil, or_false, not_or, List.nodup_nil, and_true, not_false_eq_true]; omega) (by intro q hq; simp only [List.mem_cons, List.not_mem_nil, or_false] at hq; omega)) hC.x (hhd) hC.wide) (cwV 0 hts (gw_V w_244 w_246 s_0 w_1 w_247) rfl rfl rfl (by decide +kernel) ⟨by rw [hRf]; exact Nat.le_of_ble_eq_true rfl, by rw [hRl]; exact Nat.le_of_ble_eq_true rfl⟩) ⟨K0.blind, B.recv (hAd.1 _ (by omega)) (hC.x) rfl, B.pre _⟩ rfl rfl hl.1 rfl (lv_room (Nat.le_of_ble_eq_true rfl)) d_RR_make_119 ⟨by rw [hRc]; omega, by rw [hRs]; omega⟩) (fun g119 H locs hw B => ?_)
                          obtain rfl := hw
                          have B : Wb D vwCl (TY cs) L (mw f [((ad 8), .inl (cs 1, 12, .inr (.inl (al (cf 12 (fun _ => 0) (Af 0))))))]) (AL L s.heap.size) s H _ := B
                          obtain ⟨f_119, hf_119⟩ : ∃ f_119, f_119 = mw f [((ad 8), .inl (cs 1, 12, .inr (.inl (al (cf 12 (fun _ => 0) (Af 0))))))] := ⟨_, rfl⟩
                          rw [← hf_119] at B
                          obtain ⟨A_119, hA_119⟩ : ∃ A_119, A_119 = upA Af 0 (cf 12 (fun _ => 0) (Af 0)) := ⟨_, rfl⟩
                          have hC_119 : CSt cs ad Qm f_119 If A_119 Rf Zf := by rw [hf_119, hA_119]; exact CSt.w_wide hAd hC _
                          have hfr_119 : ∀ k, Awy ad k → f_119 k = f k := fun k hk => Eq.trans (by rw [hf_119]; exact hk.mw1 (by omega)) (hfr k hk)
                          have hz12 : ∀ j, j < 12 → A_119 0 j = 0 := fun j hj => by rw [hA_119, upA_self]; unfold cf; rw [if_pos (by omega)]
                          have hAc : ∀ q, q ≠ 0 → A_119 q = Af q := fun q hq => by rw [hA_119, upA_ne _ _ hq]
                          refine lv_iload hx hb d_RR_make_122 (lv_at hl 0 rfl) ?_
                          refine x_if_eq (tgt := 153) hx hb d_RR_make_124 (by decide) (by omega) (fun h124 => ?_) (fun h124 => ?_)
                          · refine lv_aload_n hx hb d_RR_make_153 rfl (lv_at hl 1 rfl) ?_
                            refine lv_iload_n hx hb d_RR_make_154 rfl (lv_at hl 2 rfl) ?_
                            refine lv_aload_n hx hb d_RR_make_155 rfl (lv_at hl 1 rfl) ?_
                            refine x_get (C := RX6) (T := TX6) (N := 14) hx hb hts inX6 hown (B.foc1 (hC_119.x)) (hAd.f1 (by omega)) 0 rfl rfl 0 (by decide) (hts _ w_197) (fun _ h9 => h9) rfl d_RR_make_156 ?_
                            refine lv_iload_n hx hb d_RR_make_159 rfl (lv_at hl 3 rfl) ?_
                            refine x_aald hx hb (B.foc1 (hC_119.c0)) (hAd.f1 (by omega)) 0 4 rfl rfl p0 (by omega) (by omega) (by decide) (rfs_at (by omega)) d_RR_make_160 ?_
                            refine x_get (C := RX2) (T := TX2) (N := 5) hx hb hts inX2 hown (B.foc1 (hC_119.cu (p := p0) (by omega))) (hAd.f1 (by omega)) 0 rfl rfl 0 (by decide) (hts _ w_177) (fun _ h9 => h9) rfl d_RR_make_161 ?_
                            refine lv_iload_n hx hb d_RR_make_164 rfl (lv_at hl 4 rfl) ?_
                            refine x_callv B hA (va_runV (As := [.int (iI 7), .ref ((ad (27 + p0))), .int (iI b)]) (rest := []) ⟨hx, hb, hml, hown, hts⟩ (c_RR_ofOne_7 l D cs _ _ _ ad Qm If A_119 Rf Zf p0 b hAd hC_119 hp0 hhd (by rw [hAc _ (by omega)]; exact hVM) hbr) (cwV 3 hts (gw_V w_343 w_345 s_10 w_1 w_346) rfl rfl rfl (by decide +kernel) ⟨by rw [hRf]; exact Nat.le_of_ble_eq_true rfl, by rw [hRl]; exact Nat.le_of_ble_eq_true rfl⟩) ⟨K0.blind, B.recv (hAd.1 _ (by omega)) (hC_119.x) rfl, B.pre _⟩ rfl rfl hl.1 rfl (lv_room (Nat.le_of_ble_eq_true rfl)) d_RR_make_165 ⟨by rw [hRc]; omega, by rw [hRs]; omega⟩) (fun g165 H locs hw B => ?_)
                            obtain ⟨It, At, Rt, Zt, hCt, hqt, hIt, hAt, hWa, hWb⟩ := hw
                            have hfrt : ∀ k, Awy ad k → g165 k = f k := fun k hk => (hqt k hk).trans (hfr_119 k hk)
                            have B : Wb D vwCl (TY cs) L g165 (AL L s.heap.size) s H _ := B
                            simp only [hAc (20 + p0) (by omega)] at hWa
                            have hIt3 : ∀ i, i ≠ 3 → It i = If i := hIt
                            have hAt4 : ∀ q, q ≠ 0 → q ≠ 1 → q ≠ 2 → q ≠ 7 → At q = Af q := fun q h1 h2 h3 h4 => (hAt q h1 h2 h3 h4).trans (hAc q h1)
                            have hInvt : Inv It At := hInv.scr (fun i hi => hIt3 i (by omega)) (fun q hq => hAt4 q (by omega) (by omega) (by omega) (by omega))
                            have hI0t : It 0 = If 0 := hIt3 0 (by decide)
                            refine lv_aload_n hx hb d_RR_make_168 rfl (lv_at hl 1 rfl) ?_
                            refine x_calli B hA (va_runV (As := []) (rest := []) ⟨hx, hb, hml, hown, hts⟩ (c_RR_keepWide_c l D cs _ _ _ ad Qm It At Rt Zt hAd hCt (hInvt) (fun j hj => by rcases Nat.lt_or_ge j 6 with c | c; rw [hWa j c]; have h1 := hVM j c; rcases (show j = 0 ∨ j = 1 ∨ j = 2 ∨ j = 3 ∨ j = 4 ∨ j = 5 by omega) with rfl | rfl | rfl | rfl | rfl | rfl <;> simp <;> omega; rw [hWb j c, hz12 j hj]; omega)) (cwV 0 hts (gw_V w_248 w_250 s_1 w_1 w_251) rfl rfl rfl (by decide +kernel) ⟨by rw [hRf]; exact Nat.le_of_ble_eq_true rfl, by rw [hRl]; exact Nat.le_of_ble_eq_true rfl⟩) ⟨K0.blind, B.recv (hAd.1 _ (by omega)) (hCt.x) rfl, B.pre _⟩ rfl rfl hl.1 rfl (lv_room (Nat.le_of_ble_eq_true rfl)) d_RR_make_169 ⟨by rw [hRc]; omega, by rw [hRs]; omega⟩) (fun r169 g169 H locs hw B => ?_)
                            obtain ⟨Ik, Ak, Rk, Zk, hCk, hqk, hkw⟩ := hw
                            have hfrk : ∀ k, Awy ad k → g169 k = f k := fun k hk => (hqk k hk).trans (hfrt k hk)
                            have B : Wb D vwCl (TY cs) L g169 (AL L s.heap.size) s H _ := B
                            rcases hkw with ⟨⟨hbad, rfl⟩, hIsk, hAsk⟩ | ⟨⟨hlt, hall⟩, rfl, hInvk, hI0k, hnew, hold⟩
                            · subst hQ hav
                              exact x_iret hx hb hr hlocks B d_RR_make_172 (⟨Ik, Ak, Rk, Zk, hCk, hfrk, At 0, ⟨hWa, fun j h1 h2 => (hWb j h1).trans (hz12 j h2)⟩, Or.inl ⟨⟨by rw [← hI0t]; exact hbad, rfl⟩, hInvt.same hIsk hAsk, ⟨(hIsk 0).trans hI0t, fun p hp => by rw [hAsk]; exact hAt4 _ (by omega) (by omega) (by omega) (by omega)⟩⟩⟩)
                            · subst hQ hav
                              exact x_iret hx hb hr hlocks B d_RR_make_172 (⟨Ik, Ak, Rk, Zk, hCk, hfrk, At 0, ⟨hWa, fun j h1 h2 => (hWb j h1).trans (hz12 j h2)⟩, Or.inr ⟨⟨by omega, hall⟩, by rw [hI0t], hInvk, by rw [hI0k, hI0t], by rw [← hI0t]; exact hnew, fun p2 h1 h2 => (hold p2 h1 (by rw [hI0t]; exact h2)).trans (hAt4 _ (by omega) (by omega) (by omega) (by omega))⟩⟩)
                          · exfalso; omega
                        · exfalso; omega
                    · exfalso; omega
                · exfalso; omega
        · exfalso; omega
set_option maxHeartbeats 8000000 in
set_option maxRecDepth 100000 in
theorem c_RR_make_8 (l : Launch) (D : va_G) (cs : Nat → ClassId) (L : List Nat) (f : Nat → va_E) (sz : Nat) (ad Qm : Nat → Nat) (If : Nat → Int) (Af : Nat → Nat → Int) (Rf : Nat → Nat) (Zf : Nat → Int) (p0 : Nat) (b : Int) (hAd : AdOk L ad Qm) (hC : CSt cs ad Qm f If Af Rf Zf) (hInv : Inv If Af) (hpk : (p0 : Int) < If 0) (hbr : -2147483648 ≤ b ∧ b < 2147483648) (hNz : Nz (Af (20 + p0))) : Met l (⟨"RealRoots", "make", "(III)I"⟩ : MethodName) (.code (⟨"RealRoots", "make", "(III)I"⟩ : MethodName) prog_1_method_5_code 5 (Option.some Jvm.ClassFile.FieldType.int) :: gw) ({ frames := 7, cells := 0, slots := 0, locals := 330 }) (va_Pc [.ref ((ad 0)), .int (iI 8), .int (iI ((p0 : Int))), .int (iI b)] (K0 D vwCl (TY cs) L f sz)) (va_Qi (fun (r : Int32) (g : Nat → va_E) => ∃ (I' : Nat → Int) (A' : Nat → Nat → Int) (R' : Nat → Nat) (Z' : Nat → Int), CSt cs ad Qm g I' A' R' Z' ∧ (∀ k, Awy ad k → g k = f k) ∧ ∃ W : Nat → Int, (∃ kt : Nat, kt ≤ 6 ∧ (∀ j, kt ≤ j → j < 6 → Af (20 + p0) j = 0) ∧ (0 < kt → Af (20 + p0) (kt - 1) ≠ 0) ∧ ∀ j : Nat, j < 12 → W j = if j < kt then Af (20 + p0) (kt - 1 - j) else 0) ∧ ((((If 0 = 12 ∨ ∃ j, j < 12 ∧ ¬ WOk W j) ∧ r = iI (-4)) ∧ Inv I' A' ∧ SameV If Af I' A') ∨ ((If 0 < 12 ∧ ∀ j, j < 12 → WOk W j) ∧ r = iI (If 0) ∧ Inv I' A' ∧ I' 0 = If 0 + 1 ∧ (∀ j, j < 6 → A' (20 + (If 0).toNat) j = W j) ∧ ∀ p2, p2 < 12 → p2 ≠ (If 0).toNat → A' (20 + p2) = Af (20 + p2)))) (K1 D vwCl (TY cs) (AL L sz) L) (AL L sz)) 0 0 (AL L sz) := by
  refine Met.ofW (cc := prog_1_method_5_code) (maxL := 5) (ret := (Option.some Jvm.ClassFile.FieldType.int)) (by decide) rfl ?_
  intro p e s m args below meth c s₁ Bd hml hv
  obtain ⟨rfl, hk0⟩ := hv
  obtain ⟨hsz, B⟩ := hk0.start
  subst hsz
  have hx := Bd.exec
  have hb := Bd.bytes
  have hr := Bd.returns
  have hlocks := Bd.notSynchronized
  have hts0 := atoms_spec Bd.pre
  have hown : s.vm.findClass RX6 = some m.cls := findClass_of_methodNamed Bd.named
  have hA : ∀ q, s.heap.size ≤ q → AL L s.heap.size q := fun _ h => Or.inr h
  have hl := lv_entry ([.ref ((ad 0)), .int (iI 8), .int (iI ((p0 : Int))), .int (iI b)]) (n := 5) (Nat.le_of_ble_eq_true rfl)
  rw [lg_entry_eq]
  generalize (lg_sl ([.ref ((ad 0)), .int (iI 8), .int (iI ((p0 : Int))), .int (iI b)]) ++ List.replicate (5 - (lg_sl ([.ref ((ad 0)), .int (iI 8), .int (iI ((p0 : Int))), .int (iI b)])).length) Slot.unset).toArray = ls at hl ⊢
  refine absQ (fun Q R av hQ hR hav => ?_)
  have hts : ∀ w ∈ gw, w.before av s = true := by rw [hav]; exact fun w h => hts0 w (List.mem_cons_of_mem _ h)
  have hRf : R.frames = 7 := by rw [hR]; rfl
  have hRl : R.locals = 330 := by rw [hR]; rfl
  have hRc : R.cells = 0 := by rw [hR]; rfl
  have hRs : R.slots = 0 := by rw [hR]; rfl
  clear hR hts0 Bd
  have hl : lv_has ls 5 [(0, .ref ((ad 0))), (1, .int (iI 8)), (2, .int (iI ((p0 : Int)))), (3, .int (iI b))] := hl
  have hfr : ∀ k, Awy ad k → f k = f k := fun _ _ => rfl
  have hG0 := hInv.1
  have hhd := hG0.1
  have hp0 : p0 < 12 := by omega
  have hVM := hG0.2.1 p0 hp0
  refine lv_iload_n hx hb d_RR_make_0 rfl (lv_at hl 1 rfl) ?_
  refine x_if_eq (tgt := 19) hx hb d_RR_make_1 (by decide) (by omega) (fun h1 => ?_) (fun h1 => ?_)
  · exfalso; omega
  · refine lv_iload_n hx hb d_RR_make_4 rfl (lv_at hl 1 rfl) ?_
    refine x_iconst hx hb d_RR_make_5 ?_
    refine x_icmp_eq (tgt := 19) hx hb d_RR_make_6 (by decide) (by omega) (by omega) (fun h6 => ?_) (fun h6 => ?_)
    · exfalso; omega
    · refine lv_iload_n hx hb d_RR_make_9 rfl (lv_at hl 1 rfl) ?_
      refine x_iconst hx hb d_RR_make_10 ?_
      refine x_icmp_eq (tgt := 19) hx hb d_RR_make_11 (by decide) (by omega) (by omega) (fun h11 => ?_) (fun h11 => ?_)
      · exfalso; omega
      · refine lv_iload_n hx hb d_RR_make_14 rfl (lv_at hl 1 rfl) ?_
        refine x_iconst hx hb d_RR_make_15 ?_
        refine x_icmp_ne (tgt := 23) hx hb d_RR_make_16 (by decide) (by omega) (by omega) (fun h16 => ?_) (fun h16 => ?_)
        · refine x_iconst hx hb d_RR_make_23 ?_
          refine lv_istore (lv' := [(4, .int (iI 0)), (0, .ref ((ad 0))), (1, .int (iI 8)), (2, .int (iI ((p0 : Int)))), (3, .int (iI b))]) hx hb d_RR_make_24 hl (by decide) rfl (fun ls hl => ?_)
          refine lv_iload_n hx hb d_RR_make_26 rfl (lv_at hl 2 rfl) ?_
          refine x_if_lt (tgt := 57) hx hb d_RR_make_27 (by decide) (by omega) (fun h27 => ?_) (fun h27 => ?_)
          · exfalso; omega
          · refine lv_iload_n hx hb d_RR_make_30 rfl (lv_at hl 2 rfl) ?_
            refine x_bipush hx hb d_RR_make_31 (by decide) ?_
            refine x_icmp_gt (tgt := 57) hx hb d_RR_make_33 (by decide) (by omega) (by omega) (fun h33 => ?_) (fun h33 => ?_)
            · exfalso; omega
            · refine lv_aload_n hx hb d_RR_make_36 rfl (lv_at hl 1 rfl) ?_
              refine lv_iload_n hx hb d_RR_make_37 rfl (lv_at hl 3 rfl) ?_
              refine x_calli B hA (va_runV (As := [.int (iI ((p0 : Int)))]) (rest := []) ⟨hx, hb, hml, hown, hts⟩ (c_RR_unknown l D cs _ _ _ (ad 0) (ad 1) (ad 2) (ad 5) (ad 7) (ad 8) (ad 9) (ad 10) (ad 11) (ad 12) (ad 13) (ad 14) (If 0) (If 1) (If 2) ((p0 : Int)) (hAd.f1 (by decide)) hC.x (hhd) (by omega)) (cwV 1 hts (gw_V w_261 w_263 s_3 w_1 w_264) rfl rfl rfl (by decide +kernel) ⟨by rw [hRf]; exact Nat.le_of_ble_eq_true rfl, by rw [hRl]; exact Nat.le_of_ble_eq_true rfl⟩) ⟨K0.blind, B.recv (hAd.1 _ (by omega)) (hC.x) rfl, B.pre _⟩ rfl rfl hl.1 rfl (lv_room (Nat.le_of_ble_eq_true rfl)) d_RR_make_38 ⟨by rw [hRc]; omega, by rw [hRs]; omega⟩) (fun r38 g38 H locs hw B => ?_)
              obtain ⟨rfl, hgf⟩ := hw
              rw [hgf] at B
              rw [if_neg (by omega)]
              refine x_if_ne (tgt := 57) hx hb d_RR_make_41 (by decide) (by omega) (fun h41 => ?_) (fun h41 => ?_)
              · exfalso; omega
              · refine lv_iload hx hb d_RR_make_44 (lv_at hl 0 rfl) ?_
                refine x_if_eq (tgt := 59) hx hb d_RR_make_46 (by decide) (by omega) (fun h46 => ?_) (fun h46 => ?_)
                · refine lv_iload_n hx hb d_RR_make_59 rfl (lv_at hl 2 rfl) ?_
                  refine x_bipush hx hb d_RR_make_60 (by decide) ?_
                  refine x_icmp_eq (tgt := 71) hx hb d_RR_make_62 (by decide) (by omega) (by omega) (fun h62 => ?_) (fun h62 => ?_)
                  · exfalso; omega
                  · refine lv_iload_n hx hb d_RR_make_65 rfl (lv_at hl 2 rfl) ?_
                    refine x_bipush hx hb d_RR_make_66 (by decide) ?_
                    refine x_icmp_ne (tgt := 88) hx hb d_RR_make_68 (by decide) (by omega) (by omega) (fun h68 => ?_) (fun h68 => ?_)
                    · refine lv_iload_n hx hb d_RR_make_88 rfl (lv_at hl 2 rfl) ?_
                      refine x_iconst hx hb d_RR_make_89 ?_
                      refine x_icmp_eq (tgt := 99) hx hb d_RR_make_90 (by decide) (by omega) (by omega) (fun h90 => ?_) (fun h90 => ?_)
                      · exfalso; omega
                      · refine lv_iload_n hx hb d_RR_make_93 rfl (lv_at hl 2 rfl) ?_
                        refine x_bipush hx hb d_RR_make_94 (by decide) ?_
                        refine x_icmp_ne (tgt := 118) hx hb d_RR_make_96 (by decide) (by omega) (by omega) (fun h96 => ?_) (fun h96 => ?_)
                        · exfalso; omega
                        · refine lv_aload_n hx hb d_RR_make_99 rfl (lv_at hl 1 rfl) ?_
                          refine x_get (C := RX6) (T := TX6) (N := 14) hx hb hts inX6 hown (B.foc1 (hC.x)) (hAd.f1 (by omega)) 0 rfl rfl 0 (by decide) (hts _ w_197) (fun _ h9 => h9) rfl d_RR_make_100 ?_
                          refine lv_iload_n hx hb d_RR_make_103 rfl (lv_at hl 3 rfl) ?_
                          refine x_aald hx hb (B.foc1 (hC.c0)) (hAd.f1 (by omega)) 0 4 rfl rfl p0 (by omega) (by omega) (by decide) (rfs_at (by omega)) d_RR_make_104 ?_
                          refine x_get (C := RX2) (T := TX2) (N := 5) hx hb hts inX2 hown (B.foc1 (hC.cu (p := p0) (by omega))) (hAd.f1 (by omega)) 0 rfl rfl 0 (by decide) (hts _ w_177) (fun _ h9 => h9) rfl d_RR_make_105 ?_
                          refine x_calli B hA (va_runS (As := [.ref ((ad (27 + p0)))]) (rest := []) ⟨hx, hb, hml, hown, hts⟩ (c_RR_topOf l D cs _ _ _ (ad (27 + p0)) (Af (20 + p0)) (hAd.f1 (by have := ((Ar.va hp0)).lt; omega)) (hC.ar (Ar.va hp0)) (fun j hj => by have := hVM j hj; omega)) (va_cwS 1 hts (gw_S w_273 w_274 w_1 w_275) rfl rfl rfl (by decide +kernel) ⟨by rw [hRf]; exact Nat.le_of_ble_eq_true rfl, by rw [hRl]; exact Nat.le_of_ble_eq_true rfl⟩) ⟨K0.blind, B.pre _⟩ rfl rfl hl.1 rfl (lv_room (Nat.le_of_ble_eq_true rfl)) d_RR_make_108 ⟨by rw [hRc]; omega, by rw [hRs]; omega⟩) (fun r108 g108 H locs hw B => ?_)
                          obtain ⟨kt, rfl, hkt6, hktz, hktl, hgf⟩ := hw
                          rw [hgf] at B
                          refine x_iconst hx hb d_RR_make_111 ?_
                          refine x_icmp_ne (tgt := 118) hx hb d_RR_make_112 (by decide) (by omega) (by omega) (fun h112 => ?_) (fun h112 => ?_)
                          · refine lv_aload_n hx hb d_RR_make_118 rfl (lv_at hl 1 rfl) ?_
                            refine x_callv B hA (va_runV (As := []) (rest := []) ⟨hx, hb, hml, hown, hts⟩ (c_RR_clearWide l D cs _ _ _ (ad 0) (ad 1) (ad 2) (ad 5) (ad 7) (ad 8) (ad 9) (ad 10) (ad 11) (ad 12) (ad 13) (ad 14) (If 0) (If 1) (If 2) (Af 0) (hAd.fc [0, 8] (by simp only [List.nodup_cons, List.mem_cons, List.not_mem_nil, or_false, not_or, List.nodup_nil, and_true, not_false_eq_true]; omega) (by intro q hq; simp only [List.mem_cons, List.not_mem_nil, or_false] at hq; omega)) hC.x (hhd) hC.wide) (cwV 0 hts (gw_V w_244 w_246 s_0 w_1 w_247) rfl rfl rfl (by decide +kernel) ⟨by rw [hRf]; exact Nat.le_of_ble_eq_true rfl, by rw [hRl]; exact Nat.le_of_ble_eq_true rfl⟩) ⟨K0.blind, B.recv (hAd.1 _ (by omega)) (hC.x) rfl, B.pre _⟩ rfl rfl hl.1 rfl (lv_room (Nat.le_of_ble_eq_true rfl)) d_RR_make_119 ⟨by rw [hRc]; omega, by rw [hRs]; omega⟩) (fun g119 H locs hw B => ?_)
                            obtain rfl := hw
                            have B : Wb D vwCl (TY cs) L (mw f [((ad 8), .inl (cs 1, 12, .inr (.inl (al (cf 12 (fun _ => 0) (Af 0))))))]) (AL L s.heap.size) s H _ := B
                            obtain ⟨f_119, hf_119⟩ : ∃ f_119, f_119 = mw f [((ad 8), .inl (cs 1, 12, .inr (.inl (al (cf 12 (fun _ => 0) (Af 0))))))] := ⟨_, rfl⟩
                            rw [← hf_119] at B
                            obtain ⟨A_119, hA_119⟩ : ∃ A_119, A_119 = upA Af 0 (cf 12 (fun _ => 0) (Af 0)) := ⟨_, rfl⟩
                            have hC_119 : CSt cs ad Qm f_119 If A_119 Rf Zf := by rw [hf_119, hA_119]; exact CSt.w_wide hAd hC _
                            have hfr_119 : ∀ k, Awy ad k → f_119 k = f k := fun k hk => Eq.trans (by rw [hf_119]; exact hk.mw1 (by omega)) (hfr k hk)
                            have hz12 : ∀ j, j < 12 → A_119 0 j = 0 := fun j hj => by rw [hA_119, upA_self]; unfold cf; rw [if_pos (by omega)]
                            have hAc : ∀ q, q ≠ 0 → A_119 q = Af q := fun q hq => by rw [hA_119, upA_ne _ _ hq]
                            refine lv_iload hx hb d_RR_make_122 (lv_at hl 0 rfl) ?_
                            refine x_if_eq (tgt := 153) hx hb d_RR_make_124 (by decide) (by omega) (fun h124 => ?_) (fun h124 => ?_)
                            · refine lv_aload_n hx hb d_RR_make_153 rfl (lv_at hl 1 rfl) ?_
                              refine lv_iload_n hx hb d_RR_make_154 rfl (lv_at hl 2 rfl) ?_
                              refine lv_aload_n hx hb d_RR_make_155 rfl (lv_at hl 1 rfl) ?_
                              refine x_get (C := RX6) (T := TX6) (N := 14) hx hb hts inX6 hown (B.foc1 (hC_119.x)) (hAd.f1 (by omega)) 0 rfl rfl 0 (by decide) (hts _ w_197) (fun _ h9 => h9) rfl d_RR_make_156 ?_
                              refine lv_iload_n hx hb d_RR_make_159 rfl (lv_at hl 3 rfl) ?_
                              refine x_aald hx hb (B.foc1 (hC_119.c0)) (hAd.f1 (by omega)) 0 4 rfl rfl p0 (by omega) (by omega) (by decide) (rfs_at (by omega)) d_RR_make_160 ?_
                              refine x_get (C := RX2) (T := TX2) (N := 5) hx hb hts inX2 hown (B.foc1 (hC_119.cu (p := p0) (by omega))) (hAd.f1 (by omega)) 0 rfl rfl 0 (by decide) (hts _ w_177) (fun _ h9 => h9) rfl d_RR_make_161 ?_
                              refine lv_iload_n hx hb d_RR_make_164 rfl (lv_at hl 4 rfl) ?_
                              refine x_callv B hA (va_runV (As := [.int (iI 8), .ref ((ad (27 + p0))), .int (iI b)]) (rest := []) ⟨hx, hb, hml, hown, hts⟩ (c_RR_ofOne_8 l D cs _ _ _ ad Qm If A_119 Rf Zf p0 b hAd hC_119 hp0 hhd (by rw [hAc _ (by omega)]; exact hVM) hbr) (cwV 3 hts (gw_V w_343 w_345 s_10 w_1 w_346) rfl rfl rfl (by decide +kernel) ⟨by rw [hRf]; exact Nat.le_of_ble_eq_true rfl, by rw [hRl]; exact Nat.le_of_ble_eq_true rfl⟩) ⟨K0.blind, B.recv (hAd.1 _ (by omega)) (hC_119.x) rfl, B.pre _⟩ rfl rfl hl.1 rfl (lv_room (Nat.le_of_ble_eq_true rfl)) d_RR_make_165 ⟨by rw [hRc]; omega, by rw [hRs]; omega⟩) (fun g165 H locs hw B => ?_)
                              obtain ⟨It, At, Rt, Zt, hCt, hqt, hIt, hAt, kt9, hk6, hkz, hkl, hWa⟩ := hw
                              have hfrt : ∀ k, Awy ad k → g165 k = f k := fun k hk => (hqt k hk).trans (hfr_119 k hk)
                              have B : Wb D vwCl (TY cs) L g165 (AL L s.heap.size) s H _ := B
                              simp only [hAc (20 + p0) (by omega)] at hkz hkl hWa
                              have hIt3 : ∀ i, i ≠ 3 → It i = If i := hIt
                              have hAt4 : ∀ q, q ≠ 0 → q ≠ 1 → q ≠ 2 → q ≠ 7 → At q = Af q := fun q h1 h2 h3 h4 => (hAt q h1 h2 h3 h4).trans (hAc q h1)
                              have hInvt : Inv It At := hInv.scr (fun i hi => hIt3 i (by omega)) (fun q hq => hAt4 q (by omega) (by omega) (by omega) (by omega))
                              have hI0t : It 0 = If 0 := hIt3 0 (by decide)
                              refine lv_aload_n hx hb d_RR_make_168 rfl (lv_at hl 1 rfl) ?_
                              refine x_calli B hA (va_runV (As := []) (rest := []) ⟨hx, hb, hml, hown, hts⟩ (c_RR_keepWide_c l D cs _ _ _ ad Qm It At Rt Zt hAd hCt (hInvt) (fun j hj => by rw [hWa j]; by_cases c : j < kt9; rw [if_pos c]; have := hVM (kt9 - 1 - j) (by omega); omega; rw [if_neg c, hz12 j hj]; omega)) (cwV 0 hts (gw_V w_248 w_250 s_1 w_1 w_251) rfl rfl rfl (by decide +kernel) ⟨by rw [hRf]; exact Nat.le_of_ble_eq_true rfl, by rw [hRl]; exact Nat.le_of_ble_eq_true rfl⟩) ⟨K0.blind, B.recv (hAd.1 _ (by omega)) (hCt.x) rfl, B.pre _⟩ rfl rfl hl.1 rfl (lv_room (Nat.le_of_ble_eq_true rfl)) d_RR_make_169 ⟨by rw [hRc]; omega, by rw [hRs]; omega⟩) (fun r169 g169 H locs hw B => ?_)
                              obtain ⟨Ik, Ak, Rk, Zk, hCk, hqk, hkw⟩ := hw
                              have hfrk : ∀ k, Awy ad k → g169 k = f k := fun k hk => (hqk k hk).trans (hfrt k hk)
                              have B : Wb D vwCl (TY cs) L g169 (AL L s.heap.size) s H _ := B
                              rcases hkw with ⟨⟨hbad, rfl⟩, hIsk, hAsk⟩ | ⟨⟨hlt, hall⟩, rfl, hInvk, hI0k, hnew, hold⟩
                              · subst hQ hav
                                exact x_iret hx hb hr hlocks B d_RR_make_172 (⟨Ik, Ak, Rk, Zk, hCk, hfrk, At 0, ⟨kt9, hk6, hkz, hkl, fun j hj => by rw [hWa j]; by_cases c : j < kt9; rw [if_pos c, if_pos c]; rw [if_neg c, if_neg c]; exact hz12 j hj⟩, Or.inl ⟨⟨by rw [← hI0t]; exact hbad, rfl⟩, hInvt.same hIsk hAsk, ⟨(hIsk 0).trans hI0t, fun p hp => by rw [hAsk]; exact hAt4 _ (by omega) (by omega) (by omega) (by omega)⟩⟩⟩)
                              · subst hQ hav
                                exact x_iret hx hb hr hlocks B d_RR_make_172 (⟨Ik, Ak, Rk, Zk, hCk, hfrk, At 0, ⟨kt9, hk6, hkz, hkl, fun j hj => by rw [hWa j]; by_cases c : j < kt9; rw [if_pos c, if_pos c]; rw [if_neg c, if_neg c]; exact hz12 j hj⟩, Or.inr ⟨⟨by omega, hall⟩, by rw [hI0t], hInvk, by rw [hI0k, hI0t], by rw [← hI0t]; exact hnew, fun p2 h1 h2 => (hold p2 h1 (by rw [hI0t]; exact h2)).trans (hAt4 _ (by omega) (by omega) (by omega) (by omega))⟩⟩)
                            · exfalso; omega
                          · exfalso
                            obtain ⟨j9, hj9, hn9⟩ := hNz
                            exact hn9 (hktz j9 (by omega) hj9)
                    · exfalso; omega
                · exfalso; omega
        · exfalso; omega
set_option maxHeartbeats 8000000 in
set_option maxRecDepth 100000 in
theorem c_RR_make_9 (l : Launch) (D : va_G) (cs : Nat → ClassId) (L : List Nat) (f : Nat → va_E) (sz : Nat) (ad Qm : Nat → Nat) (If : Nat → Int) (Af : Nat → Nat → Int) (Rf : Nat → Nat) (Zf : Nat → Int) (p0 : Nat) (b : Int) (hAd : AdOk L ad Qm) (hC : CSt cs ad Qm f If Af Rf Zf) (hInv : Inv If Af) (hpk : (p0 : Int) < If 0) (hbr : -2147483648 ≤ b ∧ b < 2147483648) (hb9 : -1000 ≤ b ∧ b ≤ 1000) : Met l (⟨"RealRoots", "make", "(III)I"⟩ : MethodName) (.code (⟨"RealRoots", "make", "(III)I"⟩ : MethodName) prog_1_method_5_code 5 (Option.some Jvm.ClassFile.FieldType.int) :: gw) ({ frames := 7, cells := 0, slots := 0, locals := 330 }) (va_Pc [.ref ((ad 0)), .int (iI 9), .int (iI ((p0 : Int))), .int (iI b)] (K0 D vwCl (TY cs) L f sz)) (va_Qi (fun (r : Int32) (g : Nat → va_E) => ∃ (I' : Nat → Int) (A' : Nat → Nat → Int) (R' : Nat → Nat) (Z' : Nat → Int), CSt cs ad Qm g I' A' R' Z' ∧ (∀ k, Awy ad k → g k = f k) ∧ ∃ W : Nat → Int, ((∀ j : Nat, j < 6 → W j = Af (20 + p0) j * b ^ j) ∧ ∀ j : Nat, 6 ≤ j → j < 12 → W j = 0) ∧ ((((If 0 = 12 ∨ ∃ j, j < 12 ∧ ¬ WOk W j) ∧ r = iI (-4)) ∧ Inv I' A' ∧ SameV If Af I' A') ∨ ((If 0 < 12 ∧ ∀ j, j < 12 → WOk W j) ∧ r = iI (If 0) ∧ Inv I' A' ∧ I' 0 = If 0 + 1 ∧ (∀ j, j < 6 → A' (20 + (If 0).toNat) j = W j) ∧ ∀ p2, p2 < 12 → p2 ≠ (If 0).toNat → A' (20 + p2) = Af (20 + p2)))) (K1 D vwCl (TY cs) (AL L sz) L) (AL L sz)) 0 0 (AL L sz) := by
  refine Met.ofW (cc := prog_1_method_5_code) (maxL := 5) (ret := (Option.some Jvm.ClassFile.FieldType.int)) (by decide) rfl ?_
  intro p e s m args below meth c s₁ Bd hml hv
  obtain ⟨rfl, hk0⟩ := hv
  obtain ⟨hsz, B⟩ := hk0.start
  subst hsz
  have hx := Bd.exec
  have hb := Bd.bytes
  have hr := Bd.returns
  have hlocks := Bd.notSynchronized
  have hts0 := atoms_spec Bd.pre
  have hown : s.vm.findClass RX6 = some m.cls := findClass_of_methodNamed Bd.named
  have hA : ∀ q, s.heap.size ≤ q → AL L s.heap.size q := fun _ h => Or.inr h
  have hl := lv_entry ([.ref ((ad 0)), .int (iI 9), .int (iI ((p0 : Int))), .int (iI b)]) (n := 5) (Nat.le_of_ble_eq_true rfl)
  rw [lg_entry_eq]
  generalize (lg_sl ([.ref ((ad 0)), .int (iI 9), .int (iI ((p0 : Int))), .int (iI b)]) ++ List.replicate (5 - (lg_sl ([.ref ((ad 0)), .int (iI 9), .int (iI ((p0 : Int))), .int (iI b)])).length) Slot.unset).toArray = ls at hl ⊢
  refine absQ (fun Q R av hQ hR hav => ?_)
  have hts : ∀ w ∈ gw, w.before av s = true := by rw [hav]; exact fun w h => hts0 w (List.mem_cons_of_mem _ h)
  have hRf : R.frames = 7 := by rw [hR]; rfl
  have hRl : R.locals = 330 := by rw [hR]; rfl
  have hRc : R.cells = 0 := by rw [hR]; rfl
  have hRs : R.slots = 0 := by rw [hR]; rfl
  clear hR hts0 Bd
  have hl : lv_has ls 5 [(0, .ref ((ad 0))), (1, .int (iI 9)), (2, .int (iI ((p0 : Int)))), (3, .int (iI b))] := hl
  have hfr : ∀ k, Awy ad k → f k = f k := fun _ _ => rfl
  have hG0 := hInv.1
  have hhd := hG0.1
  have hp0 : p0 < 12 := by omega
  have hVM := hG0.2.1 p0 hp0
  refine lv_iload_n hx hb d_RR_make_0 rfl (lv_at hl 1 rfl) ?_
  refine x_if_eq (tgt := 19) hx hb d_RR_make_1 (by decide) (by omega) (fun h1 => ?_) (fun h1 => ?_)
  · exfalso; omega
  · refine lv_iload_n hx hb d_RR_make_4 rfl (lv_at hl 1 rfl) ?_
    refine x_iconst hx hb d_RR_make_5 ?_
    refine x_icmp_eq (tgt := 19) hx hb d_RR_make_6 (by decide) (by omega) (by omega) (fun h6 => ?_) (fun h6 => ?_)
    · exfalso; omega
    · refine lv_iload_n hx hb d_RR_make_9 rfl (lv_at hl 1 rfl) ?_
      refine x_iconst hx hb d_RR_make_10 ?_
      refine x_icmp_eq (tgt := 19) hx hb d_RR_make_11 (by decide) (by omega) (by omega) (fun h11 => ?_) (fun h11 => ?_)
      · exfalso; omega
      · refine lv_iload_n hx hb d_RR_make_14 rfl (lv_at hl 1 rfl) ?_
        refine x_iconst hx hb d_RR_make_15 ?_
        refine x_icmp_ne (tgt := 23) hx hb d_RR_make_16 (by decide) (by omega) (by omega) (fun h16 => ?_) (fun h16 => ?_)
        · refine x_iconst hx hb d_RR_make_23 ?_
          refine lv_istore (lv' := [(4, .int (iI 0)), (0, .ref ((ad 0))), (1, .int (iI 9)), (2, .int (iI ((p0 : Int)))), (3, .int (iI b))]) hx hb d_RR_make_24 hl (by decide) rfl (fun ls hl => ?_)
          refine lv_iload_n hx hb d_RR_make_26 rfl (lv_at hl 2 rfl) ?_
          refine x_if_lt (tgt := 57) hx hb d_RR_make_27 (by decide) (by omega) (fun h27 => ?_) (fun h27 => ?_)
          · exfalso; omega
          · refine lv_iload_n hx hb d_RR_make_30 rfl (lv_at hl 2 rfl) ?_
            refine x_bipush hx hb d_RR_make_31 (by decide) ?_
            refine x_icmp_gt (tgt := 57) hx hb d_RR_make_33 (by decide) (by omega) (by omega) (fun h33 => ?_) (fun h33 => ?_)
            · exfalso; omega
            · refine lv_aload_n hx hb d_RR_make_36 rfl (lv_at hl 1 rfl) ?_
              refine lv_iload_n hx hb d_RR_make_37 rfl (lv_at hl 3 rfl) ?_
              refine x_calli B hA (va_runV (As := [.int (iI ((p0 : Int)))]) (rest := []) ⟨hx, hb, hml, hown, hts⟩ (c_RR_unknown l D cs _ _ _ (ad 0) (ad 1) (ad 2) (ad 5) (ad 7) (ad 8) (ad 9) (ad 10) (ad 11) (ad 12) (ad 13) (ad 14) (If 0) (If 1) (If 2) ((p0 : Int)) (hAd.f1 (by decide)) hC.x (hhd) (by omega)) (cwV 1 hts (gw_V w_261 w_263 s_3 w_1 w_264) rfl rfl rfl (by decide +kernel) ⟨by rw [hRf]; exact Nat.le_of_ble_eq_true rfl, by rw [hRl]; exact Nat.le_of_ble_eq_true rfl⟩) ⟨K0.blind, B.recv (hAd.1 _ (by omega)) (hC.x) rfl, B.pre _⟩ rfl rfl hl.1 rfl (lv_room (Nat.le_of_ble_eq_true rfl)) d_RR_make_38 ⟨by rw [hRc]; omega, by rw [hRs]; omega⟩) (fun r38 g38 H locs hw B => ?_)
              obtain ⟨rfl, hgf⟩ := hw
              rw [hgf] at B
              rw [if_neg (by omega)]
              refine x_if_ne (tgt := 57) hx hb d_RR_make_41 (by decide) (by omega) (fun h41 => ?_) (fun h41 => ?_)
              · exfalso; omega
              · refine lv_iload hx hb d_RR_make_44 (lv_at hl 0 rfl) ?_
                refine x_if_eq (tgt := 59) hx hb d_RR_make_46 (by decide) (by omega) (fun h46 => ?_) (fun h46 => ?_)
                · refine lv_iload_n hx hb d_RR_make_59 rfl (lv_at hl 2 rfl) ?_
                  refine x_bipush hx hb d_RR_make_60 (by decide) ?_
                  refine x_icmp_eq (tgt := 71) hx hb d_RR_make_62 (by decide) (by omega) (by omega) (fun h62 => ?_) (fun h62 => ?_)
                  · exfalso; omega
                  · refine lv_iload_n hx hb d_RR_make_65 rfl (lv_at hl 2 rfl) ?_
                    refine x_bipush hx hb d_RR_make_66 (by decide) ?_
                    refine x_icmp_ne (tgt := 88) hx hb d_RR_make_68 (by decide) (by omega) (by omega) (fun h68 => ?_) (fun h68 => ?_)
                    · exfalso; omega
                    · refine lv_iload_n hx hb d_RR_make_71 rfl (lv_at hl 4 rfl) ?_
                      refine x_sipush hx hb d_RR_make_72 (by decide) ?_
                      refine x_icmp_lt (tgt := 85) hx hb d_RR_make_75 (by decide) (by omega) (by omega) (fun h75 => ?_) (fun h75 => ?_)
                      · exfalso; omega
                      · refine lv_iload_n hx hb d_RR_make_78 rfl (lv_at hl 4 rfl) ?_
                        refine x_sipush hx hb d_RR_make_79 (by decide) ?_
                        refine x_icmp_le (tgt := 88) hx hb d_RR_make_82 (by decide) (by omega) (by omega) (fun h82 => ?_) (fun h82 => ?_)
                        · refine lv_iload_n hx hb d_RR_make_88 rfl (lv_at hl 2 rfl) ?_
                          refine x_iconst hx hb d_RR_make_89 ?_
                          refine x_icmp_eq (tgt := 99) hx hb d_RR_make_90 (by decide) (by omega) (by omega) (fun h90 => ?_) (fun h90 => ?_)
                          · exfalso; omega
                          · refine lv_iload_n hx hb d_RR_make_93 rfl (lv_at hl 2 rfl) ?_
                            refine x_bipush hx hb d_RR_make_94 (by decide) ?_
                            refine x_icmp_ne (tgt := 118) hx hb d_RR_make_96 (by decide) (by omega) (by omega) (fun h96 => ?_) (fun h96 => ?_)
                            · refine lv_aload_n hx hb d_RR_make_118 rfl (lv_at hl 1 rfl) ?_
                              refine x_callv B hA (va_runV (As := []) (rest := []) ⟨hx, hb, hml, hown, hts⟩ (c_RR_clearWide l D cs _ _ _ (ad 0) (ad 1) (ad 2) (ad 5) (ad 7) (ad 8) (ad 9) (ad 10) (ad 11) (ad 12) (ad 13) (ad 14) (If 0) (If 1) (If 2) (Af 0) (hAd.fc [0, 8] (by simp only [List.nodup_cons, List.mem_cons, List.not_mem_nil, or_false, not_or, List.nodup_nil, and_true, not_false_eq_true]; omega) (by intro q hq; simp only [List.mem_cons, List.not_mem_nil, or_false] at hq; omega)) hC.x (hhd) hC.wide) (cwV 0 hts (gw_V w_244 w_246 s_0 w_1 w_247) rfl rfl rfl (by decide +kernel) ⟨by rw [hRf]; exact Nat.le_of_ble_eq_true rfl, by rw [hRl]; exact Nat.le_of_ble_eq_true rfl⟩) ⟨K0.blind, B.recv (hAd.1 _ (by omega)) (hC.x) rfl, B.pre _⟩ rfl rfl hl.1 rfl (lv_room (Nat.le_of_ble_eq_true rfl)) d_RR_make_119 ⟨by rw [hRc]; omega, by rw [hRs]; omega⟩) (fun g119 H locs hw B => ?_)
                              obtain rfl := hw
                              have B : Wb D vwCl (TY cs) L (mw f [((ad 8), .inl (cs 1, 12, .inr (.inl (al (cf 12 (fun _ => 0) (Af 0))))))]) (AL L s.heap.size) s H _ := B
                              obtain ⟨f_119, hf_119⟩ : ∃ f_119, f_119 = mw f [((ad 8), .inl (cs 1, 12, .inr (.inl (al (cf 12 (fun _ => 0) (Af 0))))))] := ⟨_, rfl⟩
                              rw [← hf_119] at B
                              obtain ⟨A_119, hA_119⟩ : ∃ A_119, A_119 = upA Af 0 (cf 12 (fun _ => 0) (Af 0)) := ⟨_, rfl⟩
                              have hC_119 : CSt cs ad Qm f_119 If A_119 Rf Zf := by rw [hf_119, hA_119]; exact CSt.w_wide hAd hC _
                              have hfr_119 : ∀ k, Awy ad k → f_119 k = f k := fun k hk => Eq.trans (by rw [hf_119]; exact hk.mw1 (by omega)) (hfr k hk)
                              have hz12 : ∀ j, j < 12 → A_119 0 j = 0 := fun j hj => by rw [hA_119, upA_self]; unfold cf; rw [if_pos (by omega)]
                              have hAc : ∀ q, q ≠ 0 → A_119 q = Af q := fun q hq => by rw [hA_119, upA_ne _ _ hq]
                              refine lv_iload hx hb d_RR_make_122 (lv_at hl 0 rfl) ?_
                              refine x_if_eq (tgt := 153) hx hb d_RR_make_124 (by decide) (by omega) (fun h124 => ?_) (fun h124 => ?_)
                              · refine lv_aload_n hx hb d_RR_make_153 rfl (lv_at hl 1 rfl) ?_
                                refine lv_iload_n hx hb d_RR_make_154 rfl (lv_at hl 2 rfl) ?_
                                refine lv_aload_n hx hb d_RR_make_155 rfl (lv_at hl 1 rfl) ?_
                                refine x_get (C := RX6) (T := TX6) (N := 14) hx hb hts inX6 hown (B.foc1 (hC_119.x)) (hAd.f1 (by omega)) 0 rfl rfl 0 (by decide) (hts _ w_197) (fun _ h9 => h9) rfl d_RR_make_156 ?_
                                refine lv_iload_n hx hb d_RR_make_159 rfl (lv_at hl 3 rfl) ?_
                                refine x_aald hx hb (B.foc1 (hC_119.c0)) (hAd.f1 (by omega)) 0 4 rfl rfl p0 (by omega) (by omega) (by decide) (rfs_at (by omega)) d_RR_make_160 ?_
                                refine x_get (C := RX2) (T := TX2) (N := 5) hx hb hts inX2 hown (B.foc1 (hC_119.cu (p := p0) (by omega))) (hAd.f1 (by omega)) 0 rfl rfl 0 (by decide) (hts _ w_177) (fun _ h9 => h9) rfl d_RR_make_161 ?_
                                refine lv_iload_n hx hb d_RR_make_164 rfl (lv_at hl 4 rfl) ?_
                                refine x_callv B hA (va_runV (As := [.int (iI 9), .ref ((ad (27 + p0))), .int (iI b)]) (rest := []) ⟨hx, hb, hml, hown, hts⟩ (c_RR_ofOne_9 l D cs _ _ _ ad Qm If A_119 Rf Zf p0 b hAd hC_119 hp0 hhd (by rw [hAc _ (by omega)]; exact hVM) hb9 hbr) (cwV 3 hts (gw_V w_343 w_345 s_10 w_1 w_346) rfl rfl rfl (by decide +kernel) ⟨by rw [hRf]; exact Nat.le_of_ble_eq_true rfl, by rw [hRl]; exact Nat.le_of_ble_eq_true rfl⟩) ⟨K0.blind, B.recv (hAd.1 _ (by omega)) (hC_119.x) rfl, B.pre _⟩ rfl rfl hl.1 rfl (lv_room (Nat.le_of_ble_eq_true rfl)) d_RR_make_165 ⟨by rw [hRc]; omega, by rw [hRs]; omega⟩) (fun g165 H locs hw B => ?_)
                                obtain ⟨It, At, Rt, Zt, hCt, hqt, hIt, hAt, hWa, hWb⟩ := hw
                                have hfrt : ∀ k, Awy ad k → g165 k = f k := fun k hk => (hqt k hk).trans (hfr_119 k hk)
                                have B : Wb D vwCl (TY cs) L g165 (AL L s.heap.size) s H _ := B
                                simp only [hAc (20 + p0) (by omega)] at hWa
                                have hIt3 : ∀ i, i ≠ 3 → It i = If i := hIt
                                have hAt4 : ∀ q, q ≠ 0 → q ≠ 1 → q ≠ 2 → q ≠ 7 → At q = Af q := fun q h1 h2 h3 h4 => (hAt q h1 h2 h3 h4).trans (hAc q h1)
                                have hInvt : Inv It At := hInv.scr (fun i hi => hIt3 i (by omega)) (fun q hq => hAt4 q (by omega) (by omega) (by omega) (by omega))
                                have hI0t : It 0 = If 0 := hIt3 0 (by decide)
                                refine lv_aload_n hx hb d_RR_make_168 rfl (lv_at hl 1 rfl) ?_
                                refine x_calli B hA (va_runV (As := []) (rest := []) ⟨hx, hb, hml, hown, hts⟩ (c_RR_keepWide_c l D cs _ _ _ ad Qm It At Rt Zt hAd hCt (hInvt) (fun j hj => by rcases Nat.lt_or_ge j 6 with c | c; rw [hWa j c]; exact str_rng (hVM j c) hb9 c; rw [hWb j c, hz12 j hj]; omega)) (cwV 0 hts (gw_V w_248 w_250 s_1 w_1 w_251) rfl rfl rfl (by decide +kernel) ⟨by rw [hRf]; exact Nat.le_of_ble_eq_true rfl, by rw [hRl]; exact Nat.le_of_ble_eq_true rfl⟩) ⟨K0.blind, B.recv (hAd.1 _ (by omega)) (hCt.x) rfl, B.pre _⟩ rfl rfl hl.1 rfl (lv_room (Nat.le_of_ble_eq_true rfl)) d_RR_make_169 ⟨by rw [hRc]; omega, by rw [hRs]; omega⟩) (fun r169 g169 H locs hw B => ?_)
                                obtain ⟨Ik, Ak, Rk, Zk, hCk, hqk, hkw⟩ := hw
                                have hfrk : ∀ k, Awy ad k → g169 k = f k := fun k hk => (hqk k hk).trans (hfrt k hk)
                                have B : Wb D vwCl (TY cs) L g169 (AL L s.heap.size) s H _ := B
                                rcases hkw with ⟨⟨hbad, rfl⟩, hIsk, hAsk⟩ | ⟨⟨hlt, hall⟩, rfl, hInvk, hI0k, hnew, hold⟩
                                · subst hQ hav
                                  exact x_iret hx hb hr hlocks B d_RR_make_172 (⟨Ik, Ak, Rk, Zk, hCk, hfrk, At 0, ⟨hWa, fun j h1 h2 => (hWb j h1).trans (hz12 j h2)⟩, Or.inl ⟨⟨by rw [← hI0t]; exact hbad, rfl⟩, hInvt.same hIsk hAsk, ⟨(hIsk 0).trans hI0t, fun p hp => by rw [hAsk]; exact hAt4 _ (by omega) (by omega) (by omega) (by omega)⟩⟩⟩)
                                · subst hQ hav
                                  exact x_iret hx hb hr hlocks B d_RR_make_172 (⟨Ik, Ak, Rk, Zk, hCk, hfrk, At 0, ⟨hWa, fun j h1 h2 => (hWb j h1).trans (hz12 j h2)⟩, Or.inr ⟨⟨by omega, hall⟩, by rw [hI0t], hInvk, by rw [hI0k, hI0t], by rw [← hI0t]; exact hnew, fun p2 h1 h2 => (hold p2 h1 (by rw [hI0t]; exact h2)).trans (hAt4 _ (by omega) (by omega) (by omega) (by omega))⟩⟩)
                              · exfalso; omega
                            · exfalso; omega
                        · exfalso; omega
                · exfalso; omega
        · exfalso; omega
