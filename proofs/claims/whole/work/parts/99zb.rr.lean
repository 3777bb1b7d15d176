/-- root i alone lies from v on and below v + 1, in steps of 2^-b -/
def Iso (N : Rat → Int) (i v : Int) (b : Nat) : Prop := (-(2048 * 2 ^ b) ≤ v ∧ v < 2048 * 2 ^ b) ∧ N (Pt v b) = i ∧ N (Pt (v + 1) b) = i + 1
theorem Iso.cell {N : Rat → Int} {i v : Int} {b : Nat} (h : Iso N i v b) : Cell N i v b := ⟨h.1, by have := h.2.1; omega, by have := h.2.2; omega⟩
theorem Pt_2048 {v : Int} {b : Nat} (h : v < 2048 * 2 ^ b) : Pt v b < 2048 := by
  have h1 : Pt v b < Pt (2048 * 2 ^ b) b := Pt_lt h
  have h2 := Pt_mul (2048 * 2 ^ b) b
  rw [Rat.intCast_mul] at h2
  have p := pt_pos b
  have e : ((2048 : Int) : Rat) = 2048 := rfl
  rw [e] at h2
  generalize ((2 ^ b : Int) : Rat) = T at *
  have h3 : (Pt (2048 * 2 ^ b) b - 2048) * T = 0 := by grind
  have h4 : Pt (2048 * 2 ^ b) b = 2048 := by grind
  rw [← h4]; exact h1
theorem pt_mid (v : Int) (b : Nat) : Pt v b < Pt (2 * v + 1) (b + 1) ∧ Pt (2 * v + 1) (b + 1) < Pt (v + 1) b := by
  rw [← Pt_dbl v b, ← Pt_dbl (v + 1) b]
  exact ⟨Pt_lt (by omega), Pt_lt (by omega)⟩
/-- the sign at the middle tells the next bit -/
theorem iso_bit {F : Nat → Int} {N : Rat → Int} {i0 nm v rt : Int} {b : Nat} (hN : NB F N) (hF : Sqf F) (h : Iso N i0 v b) (hP : sg (es F 6 2048) = 1) (hT : N 2048 = nm) (hrt : (rt = 1 ∧ (nm - i0) % 2 = 1) ∨ (rt = -1 ∧ (nm - i0) % 2 = 0)) : (sg (es F 6 (Pt (2 * v + 1) (b + 1))) = rt → i0 < N (Pt (2 * v + 1) (b + 1))) ∧ (¬ sg (es F 6 (Pt (2 * v + 1) (b + 1))) = rt → N (Pt (2 * v + 1) (b + 1)) ≤ i0) := by
  obtain ⟨m1, m2⟩ := pt_mid v b
  have r := h.cell.rng2
  have g1 := hN.mono hF (Rat.le_of_lt m1)
  have g2 := hN.mono hF (Rat.le_of_lt m2)
  have e1 := h.2.1
  have e2 := h.2.2
  have m3 : Pt (2 * v + 1) (b + 1) < 2048 := Pt_2048 r.2
  by_cases h0 : sg (es F 6 (Pt (2 * v + 1) (b + 1))) = 0
  · have := hN.zero hF m2 (sg_eq0 h0)
    exact ⟨fun h1 => by omega, fun _ => by omega⟩
  · have hp := hN.par hF m3 h0 (by rw [hP]; decide)
    rw [hP, hT] at hp
    have hs := sg_mem (es F 6 (Pt (2 * v + 1) (b + 1)))
    generalize sg (es F 6 (Pt (2 * v + 1) (b + 1))) = s at *
    generalize N (Pt (2 * v + 1) (b + 1)) = k at *
    refine ⟨fun h1 => ?_, fun h1 => ?_⟩
    · refine Classical.byContradiction (fun hn => ?_)
      by_cases hs1 : s = 1
      · have := hp.mp hs1; omega
      · have : ¬ (nm - k) % 2 = 0 := fun h3 => hs1 (hp.mpr h3)
        omega
    · refine Classical.byContradiction (fun hn => ?_)
      by_cases hs1 : s = 1
      · have := hp.mp hs1; omega
      · have : ¬ (nm - k) % 2 = 0 := fun h3 => hs1 (hp.mpr h3)
        omega
theorem Iso.sub {F : Nat → Int} {N : Rat → Int} {i v w : Int} {b : Nat} (hN : NB F N) (hF : Sqf F) (h : Iso N i v b) (hc : Cell N i w (b + 1)) (hw : w / 2 = v) : Iso N i w (b + 1) := by
  have e1 := h.2.1
  have e2 := h.2.2
  have c1 := hc.2.1
  have c2 := hc.2.2
  have g1 : N (Pt v b) ≤ N (Pt w (b + 1)) := hN.mono hF (by rw [← Pt_dbl]; exact Pt_le (by omega))
  have g2 : N (Pt (w + 1) (b + 1)) ≤ N (Pt (v + 1) b) := hN.mono hF (by rw [← Pt_dbl (v + 1)]; exact Pt_le (by omega))
  exact ⟨hc.1, by omega, by omega⟩
theorem sgn_row {c aw : Nat → Int} {nn : Nat} {u v : Int} (hv : 0 < v) (hn : nn < 6) (hc : ∀ j, j < 6 → c j = aw j) (hz : ∀ j, nn < j → j < 6 → aw j = 0) : (hsum c nn u v nn).sign = sg (es aw 6 ((u : Rat) / (v : Rat))) := by
  have h := sgn_at (c := c) (k := nn + 1) (u := u) hv (by omega) (fun j h1 h2 => by rw [hc j h2]; exact hz j (by omega) h2)
  rw [if_neg (by omega), Nat.add_sub_cancel, es_congr hc] at h
  exact h
theorem d_RR_deepen_0 : decode prog_1_method_46_code 0 = .ok (.aload_n 1, 1) := by decide +kernel
theorem d_RR_deepen_1 : decode prog_1_method_46_code 1 = .ok (.getfield 129, 3) := by decide +kernel
theorem d_RR_deepen_4 : decode prog_1_method_46_code 4 = .ok (.iload_n 2, 1) := by decide +kernel
theorem d_RR_deepen_5 : decode prog_1_method_46_code 5 = .ok (.aaload, 1) := by decide +kernel
theorem d_RR_deepen_6 : decode prog_1_method_46_code 6 = .ok (.astore_n 3, 1) := by decide +kernel
theorem d_RR_deepen_7 : decode prog_1_method_46_code 7 = .ok (.aload_n 3, 1) := by decide +kernel
theorem d_RR_deepen_8 : decode prog_1_method_46_code 8 = .ok (.invokevirtual 318, 3) := by decide +kernel
theorem d_RR_deepen_11 : decode prog_1_method_46_code 11 = .ok (.ifCond .eq 72, 3) := by decide +kernel
theorem d_RR_deepen_14 : decode prog_1_method_46_code 14 = .ok (.aload_n 1, 1) := by decide +kernel
theorem d_RR_deepen_15 : decode prog_1_method_46_code 15 = .ok (.getfield 282, 3) := by decide +kernel
theorem d_RR_deepen_18 : decode prog_1_method_46_code 18 = .ok (.iload_n 2, 1) := by decide +kernel
theorem d_RR_deepen_19 : decode prog_1_method_46_code 19 = .ok (.isub, 1) := by decide +kernel
theorem d_RR_deepen_20 : decode prog_1_method_46_code 20 = .ok (.iconst 2, 1) := by decide +kernel
theorem d_RR_deepen_21 : decode prog_1_method_46_code 21 = .ok (.irem, 1) := by decide +kernel
theorem d_RR_deepen_22 : decode prog_1_method_46_code 22 = .ok (.iconst 1, 1) := by decide +kernel
theorem d_RR_deepen_23 : decode prog_1_method_46_code 23 = .ok (.if_icmp .ne 7, 3) := by decide +kernel
theorem d_RR_deepen_26 : decode prog_1_method_46_code 26 = .ok (.iconst 1, 1) := by decide +kernel
theorem d_RR_deepen_27 : decode prog_1_method_46_code 27 = .ok (.goto 4, 3) := by decide +kernel
theorem d_RR_deepen_30 : decode prog_1_method_46_code 30 = .ok (.iconst (-1), 1) := by decide +kernel
theorem d_RR_deepen_31 : decode prog_1_method_46_code 31 = .ok (.istore 4, 2) := by decide +kernel
theorem d_RR_deepen_33 : decode prog_1_method_46_code 33 = .ok (.aload_n 0, 1) := by decide +kernel
theorem d_RR_deepen_34 : decode prog_1_method_46_code 34 = .ok (.getfield 29, 3) := by decide +kernel
theorem d_RR_deepen_37 : decode prog_1_method_46_code 37 = .ok (.aload_n 3, 1) := by decide +kernel
theorem d_RR_deepen_38 : decode prog_1_method_46_code 38 = .ok (.invokevirtual 158, 3) := by decide +kernel
theorem d_RR_deepen_41 : decode prog_1_method_46_code 41 = .ok (.aload_n 0, 1) := by decide +kernel
theorem d_RR_deepen_42 : decode prog_1_method_46_code 42 = .ok (.getfield 29, 3) := by decide +kernel
theorem d_RR_deepen_45 : decode prog_1_method_46_code 45 = .ok (.aload_n 1, 1) := by decide +kernel
theorem d_RR_deepen_46 : decode prog_1_method_46_code 46 = .ok (.getfield 111, 3) := by decide +kernel
theorem d_RR_deepen_49 : decode prog_1_method_46_code 49 = .ok (.invokevirtual 154, 3) := by decide +kernel
theorem d_RR_deepen_52 : decode prog_1_method_46_code 52 = .ok (.aload_n 0, 1) := by decide +kernel
theorem d_RR_deepen_53 : decode prog_1_method_46_code 53 = .ok (.getfield 29, 3) := by decide +kernel
theorem d_RR_deepen_56 : decode prog_1_method_46_code 56 = .ok (.aload_n 0, 1) := by decide +kernel
theorem d_RR_deepen_57 : decode prog_1_method_46_code 57 = .ok (.getfield 29, 3) := by decide +kernel
theorem d_RR_deepen_60 : decode prog_1_method_46_code 60 = .ok (.getfield 162, 3) := by decide +kernel
theorem d_RR_deepen_63 : decode prog_1_method_46_code 63 = .ok (.iconst 0, 1) := by decide +kernel
theorem d_RR_deepen_64 : decode prog_1_method_46_code 64 = .ok (.aload_n 0, 1) := by decide +kernel
theorem d_RR_deepen_65 : decode prog_1_method_46_code 65 = .ok (.getfield 29, 3) := by decide +kernel
theorem d_RR_deepen_68 : decode prog_1_method_46_code 68 = .ok (.getfield 166, 3) := by decide +kernel
theorem d_RR_deepen_71 : decode prog_1_method_46_code 71 = .ok (.invokevirtual 169, 3) := by decide +kernel
theorem d_RR_deepen_74 : decode prog_1_method_46_code 74 = .ok (.iload 4, 2) := by decide +kernel
theorem d_RR_deepen_76 : decode prog_1_method_46_code 76 = .ok (.if_icmp .ne 7, 3) := by decide +kernel
theorem d_RR_deepen_79 : decode prog_1_method_46_code 79 = .ok (.aload_n 3, 1) := by decide +kernel
theorem d_RR_deepen_80 : decode prog_1_method_46_code 80 = .ok (.invokevirtual 322, 3) := by decide +kernel
theorem d_RR_deepen_83 : decode prog_1_method_46_code 83 = .ok (.return_, 1) := by decide +kernel
set_option maxHeartbeats 8000000 in
set_option maxRecDepth 100000 in
theorem c_RR_deepen (l : Launch) (D : va_G) (cs : Nat → ClassId) (L : List Nat) (f : Nat → va_E) (sz : Nat) (ad Qm : Nat → Nat) (If : Nat → Int) (Af : Nat → Nat → Int) (Rf : Nat → Nat) (Zf : Nat → Int) (p0 i0 dp : Nat) (v : Int) (N : Rat → Int) (hAd : AdOk L ad Qm) (hC : CSt cs ad Qm f If Af Rf Zf) (hp0 : p0 < 12) (hi0 : i0 < 5) (hNB : NB (Af (40 + p0)) N) (hdp : If (200 + (5 * p0 + i0)) = (dp : Int)) (hpl : Pl (If (100 + (5 * p0 + i0))) dp (Af (100 + (5 * p0 + i0))) v) (hcell : Iso N (i0 : Int) v dp) (nm : Nat) (hnm : If (40 + p0) = (nm : Int)) (hnm5 : i0 < nm ∧ nm ≤ 5) (hSq : Sqf (Af (40 + p0))) (hFb : ∀ j, j < 6 → -49000 ≤ Af (40 + p0) j ∧ Af (40 + p0) j ≤ 49000) (hFP : sg (es (Af (40 + p0)) 6 2048) = 1) (hNt : N 2048 = (nm : Int)) : Met l (⟨"RealRoots", "deepen", "(LRealRoots$Curve;I)V"⟩ : MethodName) (.code (⟨"RealRoots", "deepen", "(LRealRoots$Curve;I)V"⟩ : MethodName) prog_1_method_46_code 5 (Option.none : Option Jvm.ClassFile.FieldType) :: gw) ({ frames := 4, cells := 0, slots := 0, locals := 200 }) (va_Pc [.ref ((ad 0)), .ref ((ad (15 + p0))), .int (iI ((i0 : Int)))] (K0 D vwCl (TY cs) L f sz)) (va_Qv (fun (g : Nat → va_E) => ∃ (I' : Nat → Int) (A' : Nat → Nat → Int) (R' : Nat → Nat) (Z' : Nat → Int), CSt cs ad Qm g I' A' R' Z' ∧ (∀ k, Awy ad k → g k = f k) ∧ (∃ (dp' : Nat) (v' : Int), I' (200 + (5 * p0 + i0)) = (dp' : Int) ∧ Pl (I' (100 + (5 * p0 + i0))) dp' (A' (100 + (5 * p0 + i0))) v' ∧ Iso N (i0 : Int) v' dp' ∧ ((dp = 248 ∧ dp' = dp ∧ v' = v) ∨ (dp < 248 ∧ dp' = dp + 1 ∧ v' / 2 = v))) ∧ (∀ i, i ≠ 6 → i ≠ 200 + (5 * p0 + i0) → I' i = If i) ∧ ∀ q, q ≠ 100 + (5 * p0 + i0) → A' q = Af q) (K1 D vwCl (TY cs) (AL L sz) L) (AL L sz)) 0 0 (AL L sz) := by
  refine Met.ofW (cc := prog_1_method_46_code) (maxL := 5) (ret := (Option.none : Option Jvm.ClassFile.FieldType)) (by decide) rfl ?_
  intro p e s m args below meth c s₁ Bd hml hv
  obtain ⟨rfl, hk0⟩ := hv
  obtain ⟨hsz, B⟩ := hk0.start
  subst hsz
  have hx := Bd.exec
  have hb := Bd.bytes
  have hr := Bd.returns
  have hlocks := Bd.notSynchronized
  have hts0 := atoms_spec Bd.pre
  have hown : s.vm.findClass RX6 = some m.cls := findClass_of_methodNamed Bd.named
  have hA : ∀ q, s.heap.size ≤ q → AL L s.heap.size q := fun _ h => Or.inr h
  have hl := lv_entry ([.ref ((ad 0)), .ref ((ad (15 + p0))), .int (iI ((i0 : Int)))]) (n := 5) (Nat.le_of_ble_eq_true rfl)
  rw [lg_entry_eq]
  generalize (lg_sl ([.ref ((ad 0)), .ref ((ad (15 + p0))), .int (iI ((i0 : Int)))]) ++ List.replicate (5 - (lg_sl ([.ref ((ad 0)), .ref ((ad (15 + p0))), .int (iI ((i0 : Int)))])).length) Slot.unset).toArray = ls at hl ⊢
  refine absQ (fun Q R av hQ hR hav => ?_)
  have hts : ∀ w ∈ gw, w.before av s = true := by rw [hav]; exact fun w h => hts0 w (List.mem_cons_of_mem _ h)
  have hRf : R.frames = 4 := by rw [hR]; rfl
  have hRl : R.locals = 200 := by rw [hR]; rfl
  have hRc : R.cells = 0 := by rw [hR]; rfl
  have hRs : R.slots = 0 := by rw [hR]; rfl
  clear hR hts0 Bd
  have hl : lv_has ls 5 [(0, .ref ((ad 0))), (1, .ref ((ad (15 + p0)))), (2, .int (iI ((i0 : Int))))] := hl
  have hfr : ∀ k, Awy ad k → f k = f k := fun _ _ => rfl
  refine lv_aload_n hx hb d_RR_deepen_0 rfl (lv_at hl 1 rfl) ?_
  refine x_get (C := RX2) (T := TX2) (N := 5) hx hb hts inX2 hown (B.foc1 (hC.cu (p := p0) (by omega))) (hAd.f1 (by omega)) 0 rfl rfl 2 (by decide) (hts _ w_181) (fun _ h9 => h9) rfl d_RR_deepen_1 ?_
  refine lv_iload_n hx hb d_RR_deepen_4 rfl (lv_at hl 2 rfl) ?_
  refine x_aald hx hb (B.foc1 (hC.pa (p := p0) (by omega))) (hAd.f1 (by omega)) 0 5 rfl rfl i0 (by omega) (by omega) (by decide) (rfs_at (by omega)) d_RR_deepen_5 ?_
  refine lv_astore_n (lv' := [(3, .ref ((ad (63 + (5 * p0 + i0))))), (0, .ref ((ad 0))), (1, .ref ((ad (15 + p0)))), (2, .int (iI ((i0 : Int))))]) hx hb d_RR_deepen_6 rfl hl (by decide) rfl (fun ls hl => ?_)
  rcases Nat.lt_or_ge dp 248 with hfull | hfull
  · refine lv_aload_n hx hb d_RR_deepen_7 rfl (lv_at hl 0 rfl) ?_
    refine x_calli B hA (va_runV (As := []) (rest := []) ⟨hx, hb, hml, hown, hts⟩ (c_Place_lengthen l D cs _ _ _ (ad (63 + (5 * p0 + i0))) (ad (123 + (5 * p0 + i0))) dp (If (100 + (5 * p0 + i0))) (Af (100 + (5 * p0 + i0))) (hAd.fc [63 + (5 * p0 + i0), 123 + (5 * p0 + i0)] (by simp only [List.nodup_cons, List.mem_cons, List.not_mem_nil, or_false, not_or, List.nodup_nil, and_true, not_false_eq_true]; omega) (by intro q hq; simp only [List.mem_cons, List.not_mem_nil, or_false] at hq; omega)) (by rw [← hdp]; exact hC.pl (m := (5 * p0 + i0)) (by omega)) (hC.wq (m := (5 * p0 + i0)) (by omega)) (by omega) (hpl.2.1 _ (by omega)) (hpl.bit (by omega))) (cwV 0 hts (gw_V w_442 w_443 w_444 w_7 w_445) rfl rfl rfl (by decide +kernel) ⟨by rw [hRf]; exact Nat.le_of_ble_eq_true rfl, by rw [hRl]; exact Nat.le_of_ble_eq_true rfl⟩) ⟨K0.blind, B.recv (hAd.1 _ (by omega)) (hC.pl (m := (5 * p0 + i0)) (by omega)) rfl, B.pre _⟩ rfl rfl hl.1 rfl (lv_room (Nat.le_of_ble_eq_true rfl)) d_RR_deepen_8 ⟨by rw [hRc]; omega, by rw [hRs]; omega⟩) (fun r8 g8 H locs hw B => ?_)
    obtain ⟨rfl, rfl⟩ := hw
    have B : Wb D vwCl (TY cs) L (mw f [((ad (63 + (5 * p0 + i0))), .inr (3, [.int (iI (If (100 + (5 * p0 + i0)))), .int (iI (((dp + 1 : Nat) : Int))), .ref (ad (123 + (5 * p0 + i0)))])), ((ad (123 + (5 * p0 + i0))), .inl (cs 0, 8, .inl (ai (up (Af (100 + (5 * p0 + i0))) (dp / 31) (Af (100 + (5 * p0 + i0)) (dp / 31) + 2 ^ (30 - dp % 31))))))]) (AL L s.heap.size) s H _ := B
    obtain ⟨f_8, hf_8⟩ : ∃ f_8, f_8 = mw f [((ad (63 + (5 * p0 + i0))), .inr (3, [.int (iI (If (100 + (5 * p0 + i0)))), .int (iI (((dp + 1 : Nat) : Int))), .ref (ad (123 + (5 * p0 + i0)))])), ((ad (123 + (5 * p0 + i0))), .inl (cs 0, 8, .inl (ai (up (Af (100 + (5 * p0 + i0))) (dp / 31) (Af (100 + (5 * p0 + i0)) (dp / 31) + 2 ^ (30 - dp % 31))))))] := ⟨_, rfl⟩
    rw [← hf_8] at B
    obtain ⟨I_8, hI_8⟩ : ∃ I_8, I_8 = up (up If (100 + (5 * p0 + i0)) (If (100 + (5 * p0 + i0)))) (200 + (5 * p0 + i0)) ((dp + 1 : Nat) : Int) := ⟨_, rfl⟩
    obtain ⟨A_8, hA_8⟩ : ∃ A_8, A_8 = upA Af (100 + (5 * p0 + i0)) (up (Af (100 + (5 * p0 + i0))) (dp / 31) (Af (100 + (5 * p0 + i0)) (dp / 31) + 2 ^ (30 - dp % 31))) := ⟨_, rfl⟩
    have hC_8 : CSt cs ad Qm f_8 I_8 A_8 Rf Zf := by rw [hf_8, hI_8, hA_8]; exact CSt.w_pl hAd hC (m := (5 * p0 + i0)) (by omega) _ _ _
    have hfr_8 : ∀ k, Awy ad k → f_8 k = f k := fun k hk => Eq.trans (by rw [hf_8]; exact hk.mws [63 + (5 * p0 + i0), 123 + (5 * p0 + i0)] (by intro j hj; simp only [List.mem_cons, List.not_mem_nil, or_false] at hj; omega) rfl) (hfr k hk)
    have hIo_8 : ∀ i, i ≠ 200 + (5 * p0 + i0) → I_8 i = If i := fun i hi => by rw [hI_8, up_ne _ _ hi, up_same]
    have hId_8 : I_8 (200 + (5 * p0 + i0)) = ((dp + 1 : Nat) : Int) := by rw [hI_8, up_self]
    have hPl_8 : Pl (I_8 (100 + (5 * p0 + i0))) (dp + 1) (A_8 (100 + (5 * p0 + i0))) (2 * v + 1) := by rw [hIo_8 _ (by omega), hA_8, upA_self]; exact hpl.lengthen (by omega)
    have hAo_8 : ∀ q, q ≠ 100 + (5 * p0 + i0) → A_8 q = Af q := fun q hq => by rw [hA_8, upA_ne _ _ hq]
    refine x_if_eq (tgt := 83) hx hb d_RR_deepen_11 (by decide) (by omega) (fun h11 => ?_) (fun h11 => ?_)
    · exfalso; omega
    · have hr2 := hcell.cell.rng2
      have hwh2 := hPl_8.whr (by omega)
      obtain ⟨hsm1, hsm2, hsm3⟩ := pl_small (v := 2 * v + 1) (dp := dp + 1) (by omega) (by omega)
      have hIm : I_8 (40 + p0) = (nm : Int) := by rw [hIo_8 _ (by omega)]; exact hnm
      have hAF : A_8 (40 + p0) = Af (40 + p0) := hAo_8 _ (by omega)
      refine lv_aload_n hx hb d_RR_deepen_14 rfl (lv_at hl 2 rfl) ?_
      refine x_get (C := RX2) (T := TX2) (N := 5) hx hb hts inX2 hown (B.foc1 (hC_8.cu (p := p0) (by omega))) (hAd.f1 (by omega)) 0 rfl rfl 4 (by decide) (hts _ w_185) (fun _ h9 => h9) rfl d_RR_deepen_15 ?_
      rw [hIm]
      refine lv_iload_n hx hb d_RR_deepen_18 rfl (lv_at hl 3 rfl) ?_
      refine x_isub hx hb d_RR_deepen_19 ?_
      have J31 : ∀ (rt : Int), ((rt = 1 ∧ ((nm : Int) - i0) % 2 = 1) ∨ (rt = -1 ∧ ((nm : Int) - i0) % 2 = 0)) → ∀ (H : Heap) (locs : List Loc) (ls : Array Slot), Wb D vwCl (TY cs) L f_8 (AL L s.heap.size) s H locs → lv_has ls 5 [(3, .ref ((ad (63 + (5 * p0 + i0))))), (0, .ref ((ad 0))), (1, .ref ((ad (15 + p0)))), (2, .int (iI ((i0 : Int))))] → W p l e R s m av below meth c H locs (0) (0) Q (F0 m 31 ls [.int (iI rt)]) := by
        intro rt hrt H locs ls B hl
        refine lv_istore (lv' := [(4, .int (iI rt)), (3, .ref ((ad (63 + (5 * p0 + i0))))), (0, .ref ((ad 0))), (1, .ref ((ad (15 + p0)))), (2, .int (iI ((i0 : Int))))]) hx hb d_RR_deepen_31 hl (by decide) rfl (fun ls hl => ?_)
        refine lv_aload_n hx hb d_RR_deepen_33 rfl (lv_at hl 2 rfl) ?_
        refine x_get (C := RX6) (T := TX6) (N := 14) hx hb hts inX6 hown (B.foc1 (hC_8.x)) (hAd.f1 (by omega)) 0 rfl rfl 3 (by decide) (hts _ w_200) (fun _ h9 => h9) rfl d_RR_deepen_34 ?_
        refine lv_aload_n hx hb d_RR_deepen_37 rfl (lv_at hl 1 rfl) ?_
        refine x_callv B hA (va_runV (As := [.ref ((ad (63 + (5 * p0 + i0))))]) (rest := []) ⟨hx, hb, hml, hown, hts⟩ (c_Spot_start l D cs _ _ _ (ad 5) (ad (63 + (5 * p0 + i0))) (ad (123 + (5 * p0 + i0))) (ad 227) (ad 228) (ad 6) (Rf 52) (Rf 53) (Rf 54) (Rf 55) (dp + 1) (I_8 6) (I_8 (100 + (5 * p0 + i0))) (Bg ad) Qm Zf (A_8 (100 + (5 * p0 + i0))) (hAd.fc [5, 63 + (5 * p0 + i0), 123 + (5 * p0 + i0)] (by simp only [List.nodup_cons, List.mem_cons, List.not_mem_nil, or_false, not_or, List.nodup_nil, and_true, not_false_eq_true]; omega) (by intro q hq; simp only [List.mem_cons, List.not_mem_nil, or_false] at hq; omega)) hC_8.sp (by rw [← hId_8]; exact hC_8.pl (m := (5 * p0 + i0)) (by omega)) (hC_8.wq (m := (5 * p0 + i0)) (by omega)) hAd.sp hC_8.2.2.1 (hAd.outs [5, 63 + (5 * p0 + i0), 123 + (5 * p0 + i0)] (by intro q hq; simp only [List.mem_cons, List.not_mem_nil, or_false] at hq; omega)) (Bg.pl (by decide)) (Bg.pl (by decide)) hC_8.2.2.2.2.1.2.2.2.bg (Ne.symm (Wkk.na hAd hC_8.2.2.2.2.1.2.2.2 (by decide) (by decide))) (hAd.ne (by decide) (by decide) (by decide)) (Wkk.na hAd hC_8.2.2.2.2.1.2.2.2 (by decide) (by decide)) (by omega) hPl_8.1 hPl_8.2.1) (cwV 1 hts (gw_V w_446 w_447 w_448 w_4 w_449) rfl rfl rfl (by decide +kernel) ⟨by rw [hRf]; exact Nat.le_of_ble_eq_true rfl, by rw [hRl]; exact Nat.le_of_ble_eq_true rfl⟩) ⟨K0.blind, B.recv (hAd.1 _ (by omega)) (hC_8.sp) rfl, B.pre _⟩ rfl rfl hl.1 rfl (lv_room (Nat.le_of_ble_eq_true rfl)) d_RR_deepen_38 ⟨by rw [hRc]; omega, by rw [hRs]; omega⟩) (fun g38 H locs hw B => ?_)
        obtain ⟨Z_38, hZu_38, hZl_38, hZo_38, hBB_38, hq_38, hc1_38, hc2_38, hc3_38⟩ := hw
        have hC_38 : CSt cs ad Qm g38 I_8 A_8 Rf Z_38 := CSt.bigsL hAd hC_8 [5, 63 + (5 * p0 + i0), 123 + (5 * p0 + i0)] hBB_38 hq_38 (fun k hk => by
            simp only [List.mem_cons, List.not_mem_nil, or_false] at hk
            rcases hk with h | h | h <;> rw [h]
            · exact ⟨by omega, hc1_38.trans hC_8.sp.symm⟩
            · exact ⟨by omega, hc2_38.trans (Eq.symm (by rw [← hId_8]; exact hC_8.pl (m := (5 * p0 + i0)) (by omega)))⟩
            · exact ⟨by omega, hc3_38.trans (hC_8.wq (m := (5 * p0 + i0)) (by omega)).symm⟩)
        have hfr_38 : ∀ k, Awy ad k → g38 k = f k := fun k hk => (hq_38 k (hk.out hAd) (hk.nin [5, 63 + (5 * p0 + i0), 123 + (5 * p0 + i0)] (by intro q hq; simp only [List.mem_cons, List.not_mem_nil, or_false] at hq; omega))).trans (hfr_8 k hk)
        have B : Wb D vwCl (TY cs) L g38 (AL L s.heap.size) s H _ := B
        rw [(hPl_8).up.1] at hZu_38
        rw [(hPl_8).up.2] at hZl_38
        refine lv_aload_n hx hb d_RR_deepen_41 rfl (lv_at hl 2 rfl) ?_
        refine x_get (C := RX6) (T := TX6) (N := 14) hx hb hts inX6 hown (B.foc1 (hC_38.x)) (hAd.f1 (by omega)) 0 rfl rfl 3 (by decide) (hts _ w_200) (fun _ h9 => h9) rfl d_RR_deepen_42 ?_
        refine lv_aload_n hx hb d_RR_deepen_45 rfl (lv_at hl 3 rfl) ?_
        refine x_get (C := RX2) (T := TX2) (N := 5) hx hb hts inX2 hown (B.foc1 (hC_38.cu (p := p0) (by omega))) (hAd.f1 (by omega)) 0 rfl rfl 1 (by decide) (hts _ w_179) (fun _ h9 => h9) rfl d_RR_deepen_46 ?_
        refine x_callv B hA (va_runV (As := [.ref ((ad (39 + p0)))]) (rest := []) ⟨hx, hb, hml, hown, hts⟩ (c_Spot_load l D cs _ _ _ (ad 5) (ad (39 + p0)) (ad 227) (ad 228) (ad 6) (Rf 52) (Rf 53) (Rf 54) (Rf 55) (I_8 6) (Bg ad) Qm Z_38 (rfs 6 (fun j => ad (229 + j))) (fun j => ad (229 + j)) (A_8 (40 + p0)) (hAd.fc [5, 6, 39 + p0] (by have := ((Ar.fr hp0)).lt; simp only [List.nodup_cons, List.mem_cons, List.not_mem_nil, or_false, not_or, List.nodup_nil, and_true, not_false_eq_true]; omega) (by have := ((Ar.fr hp0)).lt; intro q hq; simp only [List.mem_cons, List.not_mem_nil, or_false] at hq; omega)) hC_38.sp hC_38.gs (hC_38.ar (Ar.fr hp0)) hAd.sp hC_38.2.2.1 (hAd.outs [5, 6, 39 + p0] (by have := ((Ar.fr hp0)).lt; intro q hq; simp only [List.mem_cons, List.not_mem_nil, or_false] at hq; omega)) (fun j hj => Bg.pl (by omega)) (fun j hj => rfs_at hj) (fun i j hi hj h => by have := hAd.2.1 _ _ (by omega) (by omega) h; omega) (fun j hj => by rw [hAF]; have := hFb j hj; omega)) (cwV 1 hts (gw_V w_473 w_474 w_475 w_4 w_476) rfl rfl rfl (by decide +kernel) ⟨by rw [hRf]; exact Nat.le_of_ble_eq_true rfl, by rw [hRl]; exact Nat.le_of_ble_eq_true rfl⟩) ⟨K0.blind, B.recv (hAd.1 _ (by omega)) (hC_38.sp) rfl, B.pre _⟩ rfl rfl hl.1 rfl (lv_room (Nat.le_of_ble_eq_true rfl)) d_RR_deepen_49 ⟨by rw [hRc]; omega, by rw [hRs]; omega⟩) (fun g49 H locs hw B => ?_)
        obtain ⟨kd, Z_49, hkd6, hkdz, hkdl, hZs_49, hZo_49, hBB_49, hq_49, hc1_49, hc2_49, hc3_49⟩ := hw
        obtain ⟨I_49, hI_49⟩ : ∃ I_49, I_49 = up I_8 6 ((kd : Int) - 1) := ⟨_, rfl⟩
        have hC_49 : CSt cs ad Qm g49 I_49 A_8 Rf Z_49 := by
          have h9 := CSt.spot hAd hC_38 [6, 39 + p0] hC_38.2.2.2.2.1 hC_38.2.2.2.2.2 hBB_49 hq_49 (fun k hk => by
            simp only [List.mem_cons, List.not_mem_nil, or_false] at hk
            rcases hk with h | h <;> rw [h]
            · exact ⟨by omega, hc2_49.trans hC_38.gs.symm⟩
            · exact ⟨by have := ((Ar.fr hp0)).lt; omega, hc3_49.trans (hC_38.ar (Ar.fr hp0)).symm⟩) hc1_49
          rw [upW_same, ← hI_49] at h9
          exact h9
        have hfr_49 : ∀ k, Awy ad k → g49 k = f k := fun k hk => (hq_49 k (hk.out hAd) (hk.nin [5, 6, 39 + p0] (by have := ((Ar.fr hp0)).lt; intro q hq; simp only [List.mem_cons, List.not_mem_nil, or_false] at hq; omega))).trans (hfr_38 k hk)
        have hIo_49 : ∀ i, i ≠ 6 → I_49 i = I_8 i := fun i hi => by rw [hI_49, up_ne _ _ hi]
        have hI6_49 : I_49 6 = (kd : Int) - 1 := by rw [hI_49, up_self]
        have B : Wb D vwCl (TY cs) L g49 (AL L s.heap.size) s H _ := B
        have hZu_49 := (hZo_49 (ad 227) (fun j hj => hAd.ne (by omega) (by omega) (by omega))).trans hZu_38
        have hZl_49 := (hZo_49 (ad 228) (fun j hj => hAd.ne (by omega) (by omega) (by omega))).trans hZl_38
        rw [hAF] at hkdz hkdl
        have hkd0 : 0 < kd := by rcases Nat.eq_zero_or_pos kd with h | h; obtain ⟨j, hj, hn⟩ := hSq.1; exact absurd (hkdz j (by omega) hj) hn; exact h
        obtain ⟨nn, hnn⟩ : ∃ nn, kd = nn + 1 := ⟨kd - 1, by omega⟩
        have hI6n : I_49 6 = (nn : Int) := by rw [hI6_49]; omega
        refine lv_aload_n hx hb d_RR_deepen_52 rfl (lv_at hl 2 rfl) ?_
        refine x_get (C := RX6) (T := TX6) (N := 14) hx hb hts inX6 hown (B.foc1 (hC_49.x)) (hAd.f1 (by omega)) 0 rfl rfl 3 (by decide) (hts _ w_200) (fun _ h9 => h9) rfl d_RR_deepen_53 ?_
        refine lv_aload_n hx hb d_RR_deepen_56 rfl (lv_at hl 2 rfl) ?_
        refine x_get (C := RX6) (T := TX6) (N := 14) hx hb hts inX6 hown (B.foc1 (hC_49.x)) (hAd.f1 (by omega)) 0 rfl rfl 3 (by decide) (hts _ w_200) (fun _ h9 => h9) rfl d_RR_deepen_57 ?_
        refine x_get (C := RX5) (T := TX5) (N := 8) hx hb hts inX5 hown (B.foc1 (hC_49.sp)) (hAd.f1 (by omega)) 0 rfl rfl 2 (by decide) (hts _ w_89) (fun _ h9 => h9) rfl d_RR_deepen_60 ?_
        refine x_iconst hx hb d_RR_deepen_63 ?_
        refine lv_aload_n hx hb d_RR_deepen_64 rfl (lv_at hl 2 rfl) ?_
        refine x_get (C := RX6) (T := TX6) (N := 14) hx hb hts inX6 hown (B.foc1 (hC_49.x)) (hAd.f1 (by omega)) 0 rfl rfl 3 (by decide) (hts _ w_200) (fun _ h9 => h9) rfl d_RR_deepen_65 ?_
        refine x_get (C := RX5) (T := TX5) (N := 8) hx hb hts inX5 hown (B.foc1 (hC_49.sp)) (hAd.f1 (by omega)) 0 rfl rfl 3 (by decide) (hts _ w_91) (fun _ h9 => h9) rfl d_RR_deepen_68 ?_
        have hRB18 : ∀ j, j < 6 → ((A_8 (40 + p0) j).natAbs : Int) < 2 ^ 18 := fun j hj => by rw [hAF]; have := hFb j hj; rw [show (2 : Int) ^ 18 = 262144 from rfl]; omega
        rw [hI6n]
        have hxx : ((Z_49 (ad 227) : Rat) / (Z_49 (ad 228) : Rat)) = Pt (2 * v + 1) (dp + 1) := Pt_of hZu_49 hZl_49
        refine x_calli B hA (va_runV (As := [.ref ((ad 6)), .int (iI 0), .int (iI ((nn : Int)))]) (rest := []) ⟨hx, hb, hml, hown, hts⟩ (c_Spot_signOf_s l D cs _ _ _ (ad 5) (ad 6) (ad 227) (ad 228) (ad 6) (Rf 52) (Rf 53) (Rf 54) (Rf 55) 0 nn (I_49 6) (Bg ad) (Wkk ad) Qm Z_49 (rfs 6 (fun j => ad (229 + j))) (fun j => ad (229 + j)) (hAd.fc [5, 6] (by simp only [List.nodup_cons, List.mem_cons, List.not_mem_nil, or_false, not_or, List.nodup_nil, and_true, not_false_eq_true]; omega) (by intro q hq; simp only [List.mem_cons, List.not_mem_nil, or_false] at hq; omega)) hC_49.sp hC_49.gs hAd.sp hC_49.2.2.1 (hAd.outs [5, 6] (by intro q hq; simp only [List.mem_cons, List.not_mem_nil, or_false] at hq; omega)) (fun b hb => Wkk.bg hb) hC_49.2.2.2.2.1 hC_49.2.2.2.2.2 (Bg.pl (by decide)) (Bg.pl (by decide)) (Wkk.not hAd (by decide) (by decide)) (Wkk.not hAd (by decide) (by decide)) (by omega) (by omega) (fun j hj => by rw [Nat.zero_add]; exact rfs_at (by omega)) (fun j hj => ⟨Bg.pl (by omega), Wkk.not hAd (by omega) (by omega)⟩) (sp_room (c := (fun j => Z_49 ((fun j => ad (229 + j)) (0 + j)))) (a := 18) (fun j hj => by show ((Z_49 (ad (229 + (0 + j)))).natAbs : Int) < _; rw [Nat.zero_add, hZs_49 j hj]; exact hRB18 j hj) (by omega) (by omega) (by rw [hZu_49]; exact hsm1) (by rw [hZl_49]; exact hsm2))) (cwV 3 hts (gw_V w_478 w_411 w_412 w_4 w_413) rfl rfl rfl (by decide +kernel) ⟨by rw [hRf]; exact Nat.le_of_ble_eq_true rfl, by rw [hRl]; exact Nat.le_of_ble_eq_true rfl⟩) ⟨K0.blind, B.recv (hAd.1 _ (by omega)) (hC_49.sp) rfl, B.pre _⟩ rfl rfl hl.1 rfl (lv_room (Nat.le_of_ble_eq_true rfl)) d_RR_deepen_71 ⟨by rw [hRc]; omega, by rw [hRs]; omega⟩) (fun r71 g71 H locs hw B => ?_)
        obtain ⟨gt_71, gp_71, ga_71, gb_71, Z_71, rfl, hZt_71, hWd_71, hNe_71, hZo_71, hBB_71, hq_71, hc1_71, hc2_71⟩ := hw
        obtain ⟨R_71, hR_71⟩ : ∃ R_71, R_71 = upW Rf gt_71 gp_71 ga_71 gb_71 := ⟨_, rfl⟩
        have hC_71 : CSt cs ad Qm g71 I_49 A_8 R_71 Z_71 := by
          have h9 := CSt.spot hAd hC_49 [6] hWd_71 hNe_71 hBB_71 hq_71 (fun k hk => by rw [List.mem_singleton.mp hk]; exact ⟨by decide, hc2_71.trans hC_49.gs.symm⟩) hc1_71
          rw [up_same, ← hR_71] at h9
          exact h9
        have hfr_71 : ∀ k, Awy ad k → g71 k = f k := fun k hk => (hq_71 k (hk.out hAd) (hk.nin [5, 6] (by intro q hq; simp only [List.mem_cons, List.not_mem_nil, or_false] at hq; omega))).trans (hfr_49 k hk)
        obtain ⟨sv, hsv⟩ : ∃ sv : Int, sv = (hsum (fun j => Z_49 ((fun j => ad (229 + j)) (0 + j))) nn (Z_49 (ad 227)) (Z_49 (ad 228)) nn).sign := ⟨_, rfl⟩
        rw [← hsv]
        have hsvS : sv = sg (es (Af (40 + p0)) 6 (Pt (2 * v + 1) (dp + 1))) := by rw [hsv, ← hxx]; exact sgn_row (by rw [hZl_49]; exact hsm3) (by omega) (fun j hj => by show Z_49 (ad (229 + (0 + j))) = _; rw [Nat.zero_add]; exact (hZs_49 j hj).trans (by rw [hAF])) (fun j h1 h2 => by rw [← hAF]; first | exact hkdz j (by omega) h2 | (rw [hAF]; exact hkdz j (by omega) h2))
        have hsvr : -1 ≤ sv ∧ sv ≤ 1 := by rw [hsvS]; exact sg_rng _
        have B : Wb D vwCl (TY cs) L g71 (AL L s.heap.size) s H _ := B
        have hrw_71 : ∀ t, t < 42 → Z_71 (R_71 t) = Z_49 (Rf t) := fun t ht => by rw [hR_71, upW_lt ht]; exact hZo_71 _ (Ckk.wk hAd (hC_49.rck ht))
        have hZu_71 := (hZo_71 (ad 227) (Wkk.not hAd (by decide) (by decide))).trans hZu_49
        have hZl_71 := (hZo_71 (ad 228) (Wkk.not hAd (by decide) (by decide))).trans hZl_49
        have hZs_71 : ∀ j, j < 6 → Z_71 (ad (229 + j)) = (A_8 (40 + p0)) j := fun j hj => (hZo_71 (ad (229 + j)) (Wkk.not hAd (by omega) (by omega))).trans (hZs_49 j hj)
        refine lv_iload hx hb d_RR_deepen_74 (lv_at hl 0 rfl) ?_
        have hbit := iso_bit hNB hSq hcell hFP hNt hrt
        rw [← hsvS] at hbit
        refine x_icmp_ne (tgt := 83) hx hb d_RR_deepen_76 (by decide) (by omega) (by omega) (fun h76 => ?_) (fun h76 => ?_)
        · subst hQ hav
          exact x_vret hx hb hr hlocks B d_RR_deepen_83 (⟨I_49, A_8, R_71, Z_71, hC_71, hfr_71, ⟨dp + 1, 2 * v + 1, by rw [hIo_49 _ (by omega)]; exact hId_8, by rw [hIo_49 _ (by omega)]; exact hPl_8, hcell.sub hNB hSq (hcell.cell.one (hbit.2 (by omega))) (by omega), Or.inr ⟨hfull, rfl, by omega⟩⟩, fun i h1 h3 => by rw [hIo_49 i h1, hIo_8 i h3], fun q hq => hAo_8 q hq⟩)
        · refine lv_aload_n hx hb d_RR_deepen_79 rfl (lv_at hl 1 rfl) ?_
          have hPl45 : Pl (I_49 (100 + (5 * p0 + i0))) (dp + 1) (A_8 (100 + (5 * p0 + i0))) (2 * v + 1) := by rw [hIo_49 _ (by omega)]; exact hPl_8
          have hId45 : I_49 (200 + (5 * p0 + i0)) = ((dp + 1 : Nat) : Int) := by rw [hIo_49 _ (by omega)]; exact hId_8
          refine x_callv B hA (va_runV (As := []) (rest := []) ⟨hx, hb, hml, hown, hts⟩ (c_Place_clearLast l D cs _ _ _ (ad (63 + (5 * p0 + i0))) (ad (123 + (5 * p0 + i0))) ((dp + 1)) (I_49 (100 + (5 * p0 + i0))) (A_8 (100 + (5 * p0 + i0))) (hAd.fc [63 + (5 * p0 + i0), 123 + (5 * p0 + i0)] (by simp only [List.nodup_cons, List.mem_cons, List.not_mem_nil, or_false, not_or, List.nodup_nil, and_true, not_false_eq_true]; omega) (by intro q hq; simp only [List.mem_cons, List.not_mem_nil, or_false] at hq; omega)) (by rw [← hId45]; exact hC_71.pl (m := (5 * p0 + i0)) (by omega)) (hC_71.wq (m := (5 * p0 + i0)) (by omega)) ⟨by omega, hPl45.1⟩ (hPl45.2.1 _ (by have := hPl45.1; omega)) (hPl45.bit1 (by omega) (by omega))) (cwV 0 hts (gw_V w_458 w_459 w_460 w_7 w_461) rfl rfl rfl (by decide +kernel) ⟨by rw [hRf]; exact Nat.le_of_ble_eq_true rfl, by rw [hRl]; exact Nat.le_of_ble_eq_true rfl⟩) ⟨K0.blind, B.recv (hAd.1 _ (by omega)) (hC_71.pl (m := (5 * p0 + i0)) (by omega)) rfl, B.pre _⟩ rfl rfl hl.1 rfl (lv_room (Nat.le_of_ble_eq_true rfl)) d_RR_deepen_80 ⟨by rw [hRc]; omega, by rw [hRs]; omega⟩) (fun g80 H locs hw B => ?_)
          obtain rfl := hw
          have B : Wb D vwCl (TY cs) L (mw g71 [((ad (123 + (5 * p0 + i0))), .inl (cs 0, 8, .inl (ai (up (A_8 (100 + (5 * p0 + i0))) (((dp + 1) - 1) / 31) (A_8 (100 + (5 * p0 + i0)) (((dp + 1) - 1) / 31) - 2 ^ (30 - ((dp + 1) - 1) % 31))))))]) (AL L s.heap.size) s H _ := B
          obtain ⟨f_80, hf_80⟩ : ∃ f_80, f_80 = mw g71 [((ad (123 + (5 * p0 + i0))), .inl (cs 0, 8, .inl (ai (up (A_8 (100 + (5 * p0 + i0))) (((dp + 1) - 1) / 31) (A_8 (100 + (5 * p0 + i0)) (((dp + 1) - 1) / 31) - 2 ^ (30 - ((dp + 1) - 1) % 31))))))] := ⟨_, rfl⟩
          rw [← hf_80] at B
          obtain ⟨A_80, hA_80⟩ : ∃ A_80, A_80 = upA A_8 (100 + (5 * p0 + i0)) (up (A_8 (100 + (5 * p0 + i0))) (((dp + 1) - 1) / 31) (A_8 (100 + (5 * p0 + i0)) (((dp + 1) - 1) / 31) - 2 ^ (30 - ((dp + 1) - 1) % 31))) := ⟨_, rfl⟩
          have hC_80 : CSt cs ad Qm f_80 I_49 A_80 R_71 Z_71 := by rw [hf_80, hA_80]; exact CSt.w_wq hAd hC_71 (m := (5 * p0 + i0)) (by omega) _
          have hfr_80 : ∀ k, Awy ad k → f_80 k = f k := fun k hk => Eq.trans (by rw [hf_80]; exact hk.mw1 (by omega)) (hfr_71 k hk)
          have hPl_80 : Pl (I_49 (100 + (5 * p0 + i0))) ((dp + 1)) (A_80 (100 + (5 * p0 + i0))) ((2 * v + 1) - 1) := by rw [hA_80, upA_self]; exact hPl45.clear (by omega) (by omega)
          have hAo_80 : ∀ q, q ≠ 100 + (5 * p0 + i0) → A_80 q = A_8 q := fun q hq => by rw [hA_80, upA_ne _ _ hq]
          subst hQ hav
          exact x_vret hx hb hr hlocks B d_RR_deepen_83 (⟨I_49, A_80, R_71, Z_71, hC_80, hfr_80, ⟨dp + 1, 2 * v + 1 - 1, hId45, hPl_80, hcell.sub hNB hSq (hcell.cell.zro (hbit.1 (by omega))) (by omega), Or.inr ⟨hfull, rfl, by omega⟩⟩, fun i h1 h3 => by rw [hIo_49 i h1, hIo_8 i h3], fun q hq => by rw [hAo_80 q hq, hAo_8 q hq]⟩)
      refine x_iconst hx hb d_RR_deepen_20 ?_
      refine x_irem hx hb d_RR_deepen_21 (by omega) (by omega) (by omega) ?_
      refine x_iconst hx hb d_RR_deepen_22 ?_
      refine x_icmp_ne (tgt := 30) hx hb d_RR_deepen_23 (by decide) (by have h9 := Int.tmod_eq_emod_of_nonneg (a := (nm : Int) - i0) (b := 2) (by omega); omega) (by omega) (fun h23 => ?_) (fun h23 => ?_)
      · refine x_iconst hx hb d_RR_deepen_30 ?_
        exact J31 (-1) (by have h9 := Int.tmod_eq_emod_of_nonneg (a := (nm : Int) - i0) (b := 2) (by omega); omega) _ _ _ B (lv_sub hl [0, 1, 2, 3] rfl)
      · refine x_iconst hx hb d_RR_deepen_26 ?_
        refine lv_goto (tgt := 31) hx hb d_RR_deepen_27 (by decide) ?_
        exact J31 1 (by have h9 := Int.tmod_eq_emod_of_nonneg (a := (nm : Int) - i0) (b := 2) (by omega); omega) _ _ _ B (lv_sub hl [0, 1, 2, 3] rfl)
  · refine lv_aload_n hx hb d_RR_deepen_7 rfl (lv_at hl 0 rfl) ?_
    refine x_calli B hA (va_runV (As := []) (rest := []) ⟨hx, hb, hml, hown, hts⟩ (c_Place_lengthen_f l D cs _ _ _ (ad (63 + (5 * p0 + i0))) (ad (123 + (5 * p0 + i0))) dp (If (100 + (5 * p0 + i0))) (Af (100 + (5 * p0 + i0))) (hAd.fc [63 + (5 * p0 + i0), 123 + (5 * p0 + i0)] (by simp only [List.nodup_cons, List.mem_cons, List.not_mem_nil, or_false, not_or, List.nodup_nil, and_true, not_false_eq_true]; omega) (by intro q hq; simp only [List.mem_cons, List.not_mem_nil, or_false] at hq; omega)) (by rw [← hdp]; exact hC.pl (m := (5 * p0 + i0)) (by omega)) (hC.wq (m := (5 * p0 + i0)) (by omega)) (by have := hpl.1; omega)) (cwV 0 hts (gw_V w_442 w_443 w_444 w_7 w_445) rfl rfl rfl (by decide +kernel) ⟨by rw [hRf]; exact Nat.le_of_ble_eq_true rfl, by rw [hRl]; exact Nat.le_of_ble_eq_true rfl⟩) ⟨K0.blind, B.recv (hAd.1 _ (by omega)) (hC.pl (m := (5 * p0 + i0)) (by omega)) rfl, B.pre _⟩ rfl rfl hl.1 rfl (lv_room (Nat.le_of_ble_eq_true rfl)) d_RR_deepen_8 ⟨by rw [hRc]; omega, by rw [hRs]; omega⟩) (fun r8 g8 H locs hw B => ?_)
    obtain ⟨rfl, hgf⟩ := hw
    rw [hgf] at B
    refine x_if_eq (tgt := 83) hx hb d_RR_deepen_11 (by decide) (by omega) (fun h11 => ?_) (fun h11 => ?_)
    · subst hQ hav
      exact x_vret hx hb hr hlocks B d_RR_deepen_83 (⟨If, Af, Rf, Zf, hC, hfr, ⟨dp, v, hdp, hpl, hcell, Or.inl ⟨by have := hpl.1; omega, rfl, rfl⟩⟩, fun i _ _ => rfl, fun q _ => rfl⟩)
    · exfalso; omega
