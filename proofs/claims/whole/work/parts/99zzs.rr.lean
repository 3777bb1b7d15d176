theorem nw_rows {V xd : Nat → Int} (h1 : ∀ j : Nat, j < 5 → xd j = V (j + 1) * ((j : Int) + 1)) (h2 : xd 5 = 0) : ∀ j, j < 6 → xd j = dva V j := fun j hj => by
  unfold dva
  rcases (show j < 5 ∨ j = 5 by omega) with h | h
  · rw [if_pos h, h1 j h, Int.mul_comm]
  · rw [h, if_neg (by decide), h2]
/-- degrees of a polynomial and its derivative -/
theorem nw_deg {V : Nat → Int} {kd : Nat} (h0 : 0 < kd) (h6 : kd ≤ 6) (hz : ∀ j, kd ≤ j → j < 6 → dva V j = 0) (hl : dva V (kd - 1) ≠ 0) : kd < 6 ∧ V kd ≠ 0 ∧ ∀ j, kd < j → j < 6 → V j = 0 := by
  have h5 : kd < 6 := by
    rcases Nat.lt_or_ge kd 6 with c | c
    · exact c
    · exfalso
      refine hl ?_
      unfold dva
      rw [if_neg (by omega)]
  refine ⟨h5, fun h => hl ?_, fun j h1 h2 => ?_⟩
  · unfold dva
    rw [if_pos (by omega), show kd - 1 + 1 = kd by omega, h, Int.mul_zero]
  · have h3 := hz (j - 1) (by omega) (by omega)
    unfold dva at h3
    rw [if_pos (by omega), show j - 1 + 1 = j by omega] at h3
    rcases Int.mul_eq_zero.mp h3 with c | c
    · omega
    · exact c
theorem nw_bd {c : Nat → Int} {n a : Nat} {u v : Int} (ha : a ≤ 13) (hc : ∀ j, j < 6 → ((c j).natAbs : Int) < 2 ^ a) (hu : -1000000 ≤ u ∧ u ≤ 1000000) (hv : 1 ≤ v ∧ v ≤ 1000000) (hn : n < 6) : ((hsum c n u v n).natAbs : Int) < 2 ^ 118 := by
  have h1 := hs_bd (b := 20) hc (show (u.natAbs : Int) < 2 ^ 20 by rw [show (2 : Int) ^ 20 = 1048576 from rfl]; omega) (show (v.natAbs : Int) < 2 ^ 20 by rw [show (2 : Int) ^ 20 = 1048576 from rfl]; omega) hn n
  exact Int.lt_of_lt_of_le h1 (pow2_le (by omega))
theorem nw_all {S W u v : Int} (hS : (S.natAbs : Int) < 2 ^ 118) (hW : (W.natAbs : Int) < 2 ^ 118) (hu : -1000000 ≤ u ∧ u ≤ 1000000) (hv : 1 ≤ v ∧ v ≤ 1000000) : ((u * S).natAbs : Int) < Bp 47 ∧ ((v * S).natAbs : Int) < Bp 47 ∧ ((u * S).natAbs : Int) + (W.natAbs : Int) < Bp 48 ∧ Nb2 (u * S - W) ∧ Nb2 (v * S) := by
  have e1 : ((u * S).natAbs : Int) ≤ 1000000 * 2 ^ 118 := by
    rw [Int.natAbs_mul, Int.natCast_mul]
    exact Int.mul_le_mul (by omega) (Int.le_of_lt hS) (by omega) (by decide)
  have e2 : ((v * S).natAbs : Int) ≤ 1000000 * 2 ^ 118 := by
    rw [Int.natAbs_mul, Int.natCast_mul]
    exact Int.mul_le_mul (by omega) (Int.le_of_lt hS) (by omega) (by decide)
  have f1 : (1000000 * 2 ^ 118 : Int) < Bp 47 := by decide +kernel
  have f2 : (1000000 * 2 ^ 118 + 2 ^ 118 : Int) < Bp 48 := by decide +kernel
  have f3 : (1000000 * 2 ^ 118 + 2 ^ 118 : Int) < 2 ^ 240 := by decide +kernel
  have f4 : (0 : Int) < 2 ^ 118 := by decide +kernel
  unfold Nb2
  generalize u * S = x at *
  generalize v * S = y at *
  generalize (2 : Int) ^ 118 = T at *
  generalize (2 : Int) ^ 240 = T2 at *
  generalize Bp 47 = b1 at *
  generalize Bp 48 = b2 at *
  clear hS hu hv
  refine ⟨by omega, by omega, by omega, by omega, by omega⟩
theorem nw_zero {S W u v w : Int} (h : u * S - W = 0) : nwt S W u v w = if w = 0 then 0 else 1 := by unfold nwt; rw [if_pos h]
theorem nw_beyond {S W u v w qn qd : Int} (h : u * S - W ≠ 0) (h1 : qn = ((u * S - W).natAbs : Int) / ((Nat.gcd (u * S - W).natAbs (v * S).natAbs : Nat) : Int)) (h2 : qd = ((v * S).natAbs : Int) / ((Nat.gcd (u * S - W).natAbs (v * S).natAbs : Nat) : Int)) (hb : 1000000000000000000 < qn ∨ 1000000000000000000 < qd) : nwt S W u v w = -4000000000000000004 := by unfold nwt; rw [if_neg h, ← h1, ← h2, if_pos hb]
theorem nw_in {S W u v w qn qd : Int} (h : u * S - W ≠ 0) (h1 : qn = ((u * S - W).natAbs : Int) / ((Nat.gcd (u * S - W).natAbs (v * S).natAbs : Nat) : Int)) (h2 : qd = ((v * S).natAbs : Int) / ((Nat.gcd (u * S - W).natAbs (v * S).natAbs : Nat) : Int)) (ha : qn ≤ 1000000000000000000) (hb : qd ≤ 1000000000000000000) : nwt S W u v w = if w = 0 then (v * S).sign * (u * S - W).sign * qn else qd := by unfold nwt; rw [if_neg h, ← h1, ← h2, if_neg (by omega)]
set_option maxHeartbeats 8000000 in
set_option maxRecDepth 100000 in
theorem c_RR_newton_k (l : Launch) (D : va_G) (cs : Nat → ClassId) (L : List Nat) (f : Nat → va_E) (sz : Nat) (ad Qm : Nat → Nat) (If : Nat → Int) (Af : Nat → Nat → Int) (Rf : Nat → Nat) (Zf : Nat → Int) (p0 : Nat) (a2 a3 a4 : Int) (hAd : AdOk L ad Qm) (hC : CSt cs ad Qm f If Af Rf Zf) (hInv : Inv If Af) (hpk : (p0 : Int) < If 0) (ha2 : -2147483648 ≤ a2 ∧ a2 < 2147483648) (ha3 : -2147483648 ≤ a3 ∧ a3 < 2147483648) (ha4 : -2147483648 ≤ a4 ∧ a4 < 2147483648) (hS : (((-1000000 ≤ a2 ∧ a2 ≤ 1000000) ∧ 1 ≤ a3 ∧ a3 ≤ 1000000) ∧ 0 ≤ a4 ∧ a4 ≤ 1) → sg (es (dva (Af (20 + p0))) 6 ((a2 : Rat) / (a3 : Rat))) ≠ 0) : Met l (⟨"RealRoots", "newton", "(IIII)J"⟩ : MethodName) (.code (⟨"RealRoots", "newton", "(IIII)J"⟩ : MethodName) prog_1_method_18_code 5 (Option.some Jvm.ClassFile.FieldType.long) :: gw) ({ frames := 6, cells := 0, slots := 0, locals := 300 }) (va_Pc [.ref ((ad 0)), .int (iI ((p0 : Int))), .int (iI a2), .int (iI a3), .int (iI a4)] (K0 D vwCl (TY cs) L f sz)) (va_Ql (fun (r : Int64) (g : Nat → va_E) => ∃ (I' : Nat → Int) (A' : Nat → Nat → Int) (R' : Nat → Nat) (Z' : Nat → Int), CSt cs ad Qm g I' A' R' Z' ∧ (∀ k, Awy ad k → g k = f k) ∧ Inv I' A' ∧ SameV If Af I' A' ∧ ((¬ (((-1000000 ≤ a2 ∧ a2 ≤ 1000000) ∧ 1 ≤ a3 ∧ a3 ≤ 1000000) ∧ 0 ≤ a4 ∧ a4 ≤ 1) ∧ r = lI (-4000000000000000001)) ∨ ((((-1000000 ≤ a2 ∧ a2 ≤ 1000000) ∧ 1 ≤ a3 ∧ a3 ≤ 1000000) ∧ 0 ≤ a4 ∧ a4 ≤ 1) ∧ ∃ mm : Nat, 1 ≤ mm ∧ mm < 6 ∧ Af (20 + p0) mm ≠ 0 ∧ (∀ j, mm < j → j < 6 → Af (20 + p0) j = 0) ∧ r = lI (nwt (hsum (dva (Af (20 + p0))) (mm - 1) a2 a3 (mm - 1)) (hsum (Af (20 + p0)) mm a2 a3 mm) a2 a3 a4)))) (K1 D vwCl (TY cs) (AL L sz) L) (AL L sz)) 0 0 (AL L sz) := by
  refine Met.ofW (cc := prog_1_method_18_code) (maxL := 5) (ret := (Option.some Jvm.ClassFile.FieldType.long)) (by decide) rfl ?_
  intro p e s m args below meth c s₁ Bd hml hv
  obtain ⟨rfl, hk0⟩ := hv
  obtain ⟨hsz, B⟩ := hk0.start
  subst hsz
  have hx := Bd.exec
  have hb := Bd.bytes
  have hr := Bd.returns
  have hlocks := Bd.notSynchronized
  have hts0 := atoms_spec Bd.pre
  have hown : s.vm.findClass RX6 = some m.cls := findClass_of_methodNamed Bd.named
  have hA : ∀ q, s.heap.size ≤ q → AL L s.heap.size q := fun _ h => Or.inr h
  have hl := lv_entry ([.ref ((ad 0)), .int (iI ((p0 : Int))), .int (iI a2), .int (iI a3), .int (iI a4)]) (n := 5) (Nat.le_of_ble_eq_true rfl)
  rw [lg_entry_eq]
  generalize (lg_sl ([.ref ((ad 0)), .int (iI ((p0 : Int))), .int (iI a2), .int (iI a3), .int (iI a4)]) ++ List.replicate (5 - (lg_sl ([.ref ((ad 0)), .int (iI ((p0 : Int))), .int (iI a2), .int (iI a3), .int (iI a4)])).length) Slot.unset).toArray = ls at hl ⊢
  refine absQ (fun Q R av hQ hR hav => ?_)
  have hts : ∀ w ∈ gw, w.before av s = true := by rw [hav]; exact fun w h => hts0 w (List.mem_cons_of_mem _ h)
  have hRf : R.frames = 6 := by rw [hR]; rfl
  have hRl : R.locals = 300 := by rw [hR]; rfl
  have hRc : R.cells = 0 := by rw [hR]; rfl
  have hRs : R.slots = 0 := by rw [hR]; rfl
  clear hR hts0 Bd
  have hl : lv_has ls 5 [(0, .ref ((ad 0))), (1, .int (iI ((p0 : Int)))), (2, .int (iI a2)), (3, .int (iI a3)), (4, .int (iI a4))] := hl
  have hfr : ∀ k, Awy ad k → f k = f k := fun _ _ => rfl
  have hG0 := hInv.1
  have hhd := hG0.1
  have hp0 : p0 < 12 := by omega
  have hVM := hG0.2.1 p0 hp0
  refine lv_aload_n hx hb d_RR_newton_0 rfl (lv_at hl 0 rfl) ?_
  refine lv_iload_n hx hb d_RR_newton_1 rfl (lv_at hl 1 rfl) ?_
  refine x_calli B hA (va_runV (As := [.int (iI ((p0 : Int)))]) (rest := []) ⟨hx, hb, hml, hown, hts⟩ (c_RR_unknown l D cs _ _ _ (ad 0) (ad 1) (ad 2) (ad 5) (ad 7) (ad 8) (ad 9) (ad 10) (ad 11) (ad 12) (ad 13) (ad 14) (If 0) (If 1) (If 2) ((p0 : Int)) (hAd.f1 (by decide)) hC.x (hhd) (by omega)) (cwV 1 hts (gw_V w_261 w_263 s_3 w_1 w_264) rfl rfl rfl (by decide +kernel) ⟨by rw [hRf]; exact Nat.le_of_ble_eq_true rfl, by rw [hRl]; exact Nat.le_of_ble_eq_true rfl⟩) ⟨K0.blind, B.recv (hAd.1 _ (by omega)) (hC.x) rfl, B.pre _⟩ rfl rfl hl.1 rfl (lv_room (Nat.le_of_ble_eq_true rfl)) d_RR_newton_2 ⟨by rw [hRc]; omega, by rw [hRs]; omega⟩) (fun r2 g2 H locs hw B => ?_)
  obtain ⟨rfl, hgf⟩ := hw
  rw [hgf] at B
  rw [if_neg (by omega)]
  refine x_if_eq (tgt := 12) hx hb d_RR_newton_5 (by decide) (by omega) (fun h5 => ?_) (fun h5 => ?_)
  · refine lv_iload_n hx hb d_RR_newton_12 rfl (lv_at hl 2 rfl) ?_
    refine lv_iload_n hx hb d_RR_newton_13 rfl (lv_at hl 3 rfl) ?_
    refine x_calli B hA (va_runS (As := [.int (iI a2), .int (iI a3)]) (rest := []) ⟨hx, hb, hml, hown, hts⟩ (c_RR_outside l D cs _ _ _ a2 a3 (by omega) (by omega)) (va_cwS 2 hts (gw_S w_544 w_545 w_1 w_546) rfl rfl rfl (by decide +kernel) ⟨by rw [hRf]; exact Nat.le_of_ble_eq_true rfl, by rw [hRl]; exact Nat.le_of_ble_eq_true rfl⟩) ⟨K0.blind, B.pre _⟩ rfl rfl hl.1 rfl (lv_room (Nat.le_of_ble_eq_true rfl)) d_RR_newton_14 ⟨by rw [hRc]; omega, by rw [hRs]; omega⟩) (fun r14 g14 H locs hw B => ?_)
    obtain ⟨rfl, hgf⟩ := hw
    rw [hgf] at B
    obtain ⟨ou14, hou14⟩ : ∃ ou14 : Int, ou14 = if a2 < -1000000 ∨ 1000000 < a2 ∨ a3 < 1 ∨ 1000000 < a3 then 1 else 0 := ⟨_, rfl⟩
    rw [← hou14]
    have hou14c : (ou14 = 1 ∧ (a2 < -1000000 ∨ 1000000 < a2 ∨ a3 < 1 ∨ 1000000 < a3)) ∨ (ou14 = 0 ∧ ¬ (a2 < -1000000 ∨ 1000000 < a2 ∨ a3 < 1 ∨ 1000000 < a3)) := by rw [hou14]; split; exact Or.inl ⟨rfl, by assumption⟩; exact Or.inr ⟨rfl, by assumption⟩
    refine x_if_ne (tgt := 31) hx hb d_RR_newton_17 (by decide) (by omega) (fun h17 => ?_) (fun h17 => ?_)
    · refine x_ldc2 (z := -4000000000000000001) hx hb hown (hts _ w_492) (by decide) d_RR_newton_31 ?_
      subst hQ hav
      exact x_lret hx hb hr hlocks B d_RR_newton_34 (⟨If, Af, Rf, Zf, hC, hfr, hInv, ⟨rfl, fun _ _ => rfl⟩, Or.inl ⟨by omega, rfl⟩⟩)
    · refine lv_iload hx hb d_RR_newton_20 (lv_at hl 4 rfl) ?_
      refine x_if_lt (tgt := 31) hx hb d_RR_newton_22 (by decide) (by omega) (fun h22 => ?_) (fun h22 => ?_)
      · refine x_ldc2 (z := -4000000000000000001) hx hb hown (hts _ w_492) (by decide) d_RR_newton_31 ?_
        subst hQ hav
        exact x_lret hx hb hr hlocks B d_RR_newton_34 (⟨If, Af, Rf, Zf, hC, hfr, hInv, ⟨rfl, fun _ _ => rfl⟩, Or.inl ⟨by omega, rfl⟩⟩)
      · refine lv_iload hx hb d_RR_newton_25 (lv_at hl 4 rfl) ?_
        refine x_iconst hx hb d_RR_newton_27 ?_
        refine x_icmp_le (tgt := 35) hx hb d_RR_newton_28 (by decide) (by omega) (by omega) (fun h28 => ?_) (fun h28 => ?_)
        · have hin : (((-1000000 ≤ a2 ∧ a2 ≤ 1000000) ∧ 1 ≤ a3 ∧ a3 ≤ 1000000) ∧ 0 ≤ a4 ∧ a4 ≤ 1) := by omega
          have hSn := hS hin
          obtain ⟨⟨hi2, hi3⟩, hi4⟩ := hin
          refine lv_aload_n hx hb d_RR_newton_35 rfl (lv_at hl 0 rfl) ?_
          refine x_get (C := RX6) (T := TX6) (N := 14) hx hb hts inX6 hown (B.foc1 (hC.x)) (hAd.f1 (by omega)) 0 rfl rfl 0 (by decide) (hts _ w_197) (fun _ h9 => h9) rfl d_RR_newton_36 ?_
          refine lv_iload_n hx hb d_RR_newton_39 rfl (lv_at hl 1 rfl) ?_
          refine x_aald hx hb (B.foc1 (hC.c0)) (hAd.f1 (by omega)) 0 4 rfl rfl p0 (by omega) (by omega) (by decide) (rfs_at (by omega)) d_RR_newton_40 ?_
          refine x_get (C := RX2) (T := TX2) (N := 5) hx hb hts inX2 hown (B.foc1 (hC.cu (p := p0) (by omega))) (hAd.f1 (by omega)) 0 rfl rfl 0 (by decide) (hts _ w_177) (fun _ h9 => h9) rfl d_RR_newton_41 ?_
          refine lv_aload_n hx hb d_RR_newton_44 rfl (lv_at hl 0 rfl) ?_
          refine x_get (C := RX6) (T := TX6) (N := 14) hx hb hts inX6 hown (B.foc1 (hC.x)) (hAd.f1 (by omega)) 0 rfl rfl 6 (by decide) (hts _ w_203) (fun _ h9 => h9) rfl d_RR_newton_45 ?_
          refine x_callv B hA (va_runS (As := [.ref ((ad (27 + p0))), .ref ((ad 9))]) (rest := []) ⟨hx, hb, hml, hown, hts⟩ (c_RR_derive l D cs _ _ _ (ad 9) (ad (27 + p0)) (Af 1) (Af (20 + p0)) (hAd.fc [9, 27 + p0] (by simp; omega) (by have := ((Ar.va hp0)).lt; intro q hq; simp only [List.mem_cons, List.not_mem_nil, or_false] at hq; omega)) (hC.ar Ar.sl) (hC.ar (Ar.va hp0))) (va_cwS 2 hts (gw_S w_347 w_348 w_1 w_349) rfl rfl rfl (by decide +kernel) ⟨by rw [hRf]; exact Nat.le_of_ble_eq_true rfl, by rw [hRl]; exact Nat.le_of_ble_eq_true rfl⟩) ⟨K0.blind, B.pre _⟩ rfl rfl hl.1 rfl (lv_room (Nat.le_of_ble_eq_true rfl)) d_RR_newton_48 ⟨by rw [hRc]; omega, by rw [hRs]; omega⟩) (fun g48 H locs hw B => ?_)
          obtain ⟨xd, hxd1, hxd2, rfl⟩ := hw
          have B : Wb D vwCl (TY cs) L (mw f [((ad 9), .inl (cs 0, 6, .inl (ai xd)))]) (AL L s.heap.size) s H _ := B
          obtain ⟨f_48, hf_48⟩ : ∃ f_48, f_48 = mw f [((ad 9), .inl (cs 0, 6, .inl (ai xd)))] := ⟨_, rfl⟩
          rw [← hf_48] at B
          obtain ⟨A_48, hA_48⟩ : ∃ A_48, A_48 = upA Af 1 xd := ⟨_, rfl⟩
          have hC_48 : CSt cs ad Qm f_48 If A_48 Rf Zf := by rw [hf_48, hA_48]; exact CSt.wAr hAd hC Ar.sl _
          have hfr_48 : ∀ k, Awy ad k → f_48 k = f k := fun k hk => Eq.trans (by rw [hf_48]; exact hk.mw1 (by omega)) (hfr k hk)
          have hxd := nw_rows (V := Af (20 + p0)) (xd := xd) (fun j hj => by rw [hxd1 j hj]) hxd2
          have hA481 : A_48 1 = xd := by rw [hA_48, upA_self]
          have hA48V : A_48 (20 + p0) = Af (20 + p0) := by rw [hA_48, upA_ne _ _ (by omega)]
          have hxdb : ∀ j, j < 6 → -5000 ≤ xd j ∧ xd j ≤ 5000 := fun j hj => by rw [hxd j hj]; have := dva_bd (M := 1000) (by decide) hVM j hj; omega
          refine lv_aload_n hx hb d_RR_newton_51 rfl (lv_at hl 0 rfl) ?_
          refine x_get (C := RX6) (T := TX6) (N := 14) hx hb hts inX6 hown (B.foc1 (hC_48.x)) (hAd.f1 (by omega)) 0 rfl rfl 3 (by decide) (hts _ w_200) (fun _ h9 => h9) rfl d_RR_newton_52 ?_
          refine lv_iload_n hx hb d_RR_newton_55 rfl (lv_at hl 2 rfl) ?_
          refine x_i2l hx hb d_RR_newton_56 (by omega) ?_
          refine lv_iload_n hx hb d_RR_newton_57 rfl (lv_at hl 3 rfl) ?_
          refine x_i2l hx hb d_RR_newton_58 (by omega) ?_
          obtain ⟨sdn590, nnn590, lmn590, c1n590, c2n590, c3n590⟩ := hC_48.2.2.1 (ad 227) (Bg.pl (by decide))
          obtain ⟨sdn591, nnn591, lmn591, c1n591, c2n591, c3n591⟩ := hC_48.2.2.1 (ad 228) (Bg.pl (by decide))
          have hqan59 : Qm (ad 227) = ad 288 := hAd.2.2 44 (by decide)
          have hqbn59 : Qm (ad 228) = ad 289 := hAd.2.2 45 (by decide)
          refine x_callv B hA (va_runV (As := [.long (lI a2), .long (lI a3)]) (rest := []) ⟨hx, hb, hml, hown, hts⟩ (c_Spot_number l D cs _ _ _ (ad 5) (ad 227) (ad 228) (ad 6) (Rf 52) (Rf 53) (Rf 54) (Rf 55) (Qm (ad 227)) (Qm (ad 228)) (If 6) sdn590 sdn591 nnn590 nnn591 lmn590 lmn591 a2 a3 (by rw [hqan59, hqbn59]; exact hAd.fc [5, 227, 288, 228, 289] (by decide) (by decide)) hC_48.sp c1n590 c2n590 c1n591 c2n591 (by omega) (by omega)) (cwV 2 hts (gw_V w_401 w_402 w_403 w_4 w_404) rfl rfl rfl (by decide +kernel) ⟨by rw [hRf]; exact Nat.le_of_ble_eq_true rfl, by rw [hRl]; exact Nat.le_of_ble_eq_true rfl⟩) ⟨K0.blind, B.recv (hAd.1 _ (by omega)) (hC_48.sp) rfl, B.pre _⟩ rfl rfl hl.1 rfl (lv_room (Nat.le_of_ble_eq_true rfl)) d_RR_newton_59 ⟨by rw [hRc]; omega, by rw [hRs]; omega⟩) (fun g59 H locs hw B => ?_)
          obtain ⟨s1_59, n1_59, l1_59, s2_59, n2_59, l2_59, hz1_59, hz2_59, hg_59⟩ := hw
          obtain ⟨hC_59, hq_59⟩ := CSt.number hAd hC_48 hz1_59 hz2_59 hg_59
          obtain ⟨Z_59, hZ_59⟩ : ∃ Z_59, Z_59 = up (up Zf (ad 228) a3) (ad 227) a2 := ⟨_, rfl⟩
          rw [← hZ_59] at hC_59
          have hfr_59 : ∀ k, Awy ad k → g59 k = f k := fun k hk => (hq_59 k hk).trans (hfr_48 k hk)
          have hZu_59 : Z_59 (ad 227) = a2 := by rw [hZ_59, up_self]
          have hZl_59 : Z_59 (ad 228) = a3 := by rw [hZ_59, up_ne _ _ (hAd.ne (by decide) (by decide) (by decide)), up_self]
          have B : Wb D vwCl (TY cs) L g59 (AL L s.heap.size) s H _ := B
          refine lv_aload_n hx hb d_RR_newton_62 rfl (lv_at hl 0 rfl) ?_
          refine x_get (C := RX6) (T := TX6) (N := 14) hx hb hts inX6 hown (B.foc1 (hC_59.x)) (hAd.f1 (by omega)) 0 rfl rfl 3 (by decide) (hts _ w_200) (fun _ h9 => h9) rfl d_RR_newton_63 ?_
          refine lv_aload_n hx hb d_RR_newton_66 rfl (lv_at hl 0 rfl) ?_
          refine x_get (C := RX6) (T := TX6) (N := 14) hx hb hts inX6 hown (B.foc1 (hC_59.x)) (hAd.f1 (by omega)) 0 rfl rfl 6 (by decide) (hts _ w_203) (fun _ h9 => h9) rfl d_RR_newton_67 ?_
          refine x_callv B hA (va_runV (As := [.ref ((ad 9))]) (rest := []) ⟨hx, hb, hml, hown, hts⟩ (c_Spot_load l D cs _ _ _ (ad 5) (ad 9) (ad 227) (ad 228) (ad 6) (Rf 52) (Rf 53) (Rf 54) (Rf 55) (If 6) (Bg ad) Qm Z_59 (rfs 6 (fun j => ad (229 + j))) (fun j => ad (229 + j)) (A_48 1) (hAd.fc [5, 6, 9] (by have := (Ar.sl).lt; simp only [List.nodup_cons, List.mem_cons, List.not_mem_nil, or_false, not_or, List.nodup_nil, and_true, not_false_eq_true]; omega) (by have := (Ar.sl).lt; intro q hq; simp only [List.mem_cons, List.not_mem_nil, or_false] at hq; omega)) hC_59.sp hC_59.gs (hC_59.ar Ar.sl) hAd.sp hC_59.2.2.1 (hAd.outs [5, 6, 9] (by have := (Ar.sl).lt; intro q hq; simp only [List.mem_cons, List.not_mem_nil, or_false] at hq; omega)) (fun j hj => Bg.pl (by omega)) (fun j hj => rfs_at hj) (fun i j hi hj h => by have := hAd.2.1 _ _ (by omega) (by omega) h; omega) (fun j hj => by rw [hA481]; have := hxdb j hj; omega)) (cwV 1 hts (gw_V w_473 w_474 w_475 w_4 w_476) rfl rfl rfl (by decide +kernel) ⟨by rw [hRf]; exact Nat.le_of_ble_eq_true rfl, by rw [hRl]; exact Nat.le_of_ble_eq_true rfl⟩) ⟨K0.blind, B.recv (hAd.1 _ (by omega)) (hC_59.sp) rfl, B.pre _⟩ rfl rfl hl.1 rfl (lv_room (Nat.le_of_ble_eq_true rfl)) d_RR_newton_70 ⟨by rw [hRc]; omega, by rw [hRs]; omega⟩) (fun g70 H locs hw B => ?_)
          obtain ⟨kd, Z_70, hkd6, hkdz, hkdl, hZs_70, hZo_70, hBB_70, hq_70, hc1_70, hc2_70, hc3_70⟩ := hw
          obtain ⟨I_70, hI_70⟩ : ∃ I_70, I_70 = up If 6 ((kd : Int) - 1) := ⟨_, rfl⟩
          have hC_70 : CSt cs ad Qm g70 I_70 A_48 Rf Z_70 := by
            have h9 := CSt.spot hAd hC_59 [6, 9] hC_59.2.2.2.2.1 hC_59.2.2.2.2.2 hBB_70 hq_70 (fun k hk => by
              simp only [List.mem_cons, List.not_mem_nil, or_false] at hk
              rcases hk with h | h <;> rw [h]
              · exact ⟨by omega, hc2_70.trans hC_59.gs.symm⟩
              · exact ⟨by have := (Ar.sl).lt; omega, hc3_70.trans (hC_59.ar Ar.sl).symm⟩) hc1_70
            rw [upW_same, ← hI_70] at h9
            exact h9
          have hfr_70 : ∀ k, Awy ad k → g70 k = f k := fun k hk => (hq_70 k (hk.out hAd) (hk.nin [5, 6, 9] (by have := (Ar.sl).lt; intro q hq; simp only [List.mem_cons, List.not_mem_nil, or_false] at hq; omega))).trans (hfr_59 k hk)
          have hIo_70 : ∀ i, i ≠ 6 → I_70 i = If i := fun i hi => by rw [hI_70, up_ne _ _ hi]
          have hI6_70 : I_70 6 = (kd : Int) - 1 := by rw [hI_70, up_self]
          have B : Wb D vwCl (TY cs) L g70 (AL L s.heap.size) s H _ := B
          have hZu_70 := (hZo_70 (ad 227) (fun j hj => hAd.ne (by omega) (by omega) (by omega))).trans hZu_59
          have hZl_70 := (hZo_70 (ad 228) (fun j hj => hAd.ne (by omega) (by omega) (by omega))).trans hZl_59
          rw [hA481] at hkdz hkdl
          have hkd0 : 0 < kd := by
            rcases Nat.eq_zero_or_pos kd with h | h
            · exact absurd (by rw [es_zero (c := dva (Af (20 + p0))) (fun j hj => by rw [← hxd j hj]; exact hkdz j (by omega) hj), sg_zero]) hSn
            · exact h
          obtain ⟨hkd5, hVk, hVz⟩ := nw_deg (V := Af (20 + p0)) hkd0 hkd6 (fun j h1 h2 => by rw [← hxd j h2]; exact hkdz j h1 h2) (by rw [← hxd _ (by omega)]; exact hkdl hkd0)
          obtain ⟨nn, hnn⟩ : ∃ nn, kd = nn + 1 := ⟨kd - 1, by omega⟩
          have hI6n : I_70 6 = (nn : Int) := by rw [hI6_70]; omega
          have hRB13 : ∀ j, j < 6 → ((A_48 1 j).natAbs : Int) < 2 ^ 13 := fun j hj => by rw [hA481]; have := hxdb j hj; rw [show (2 : Int) ^ 13 = 8192 from rfl]; omega
          have hRB10 : ∀ j, j < 6 → ((Af (20 + p0) j).natAbs : Int) < 2 ^ 10 := fun j hj => by have := hVM j hj; rw [show (2 : Int) ^ 10 = 1024 from rfl]; omega
          refine lv_aload_n hx hb d_RR_newton_73 rfl (lv_at hl 0 rfl) ?_
          refine x_get (C := RX6) (T := TX6) (N := 14) hx hb hts inX6 hown (B.foc1 (hC_70.x)) (hAd.f1 (by omega)) 0 rfl rfl 3 (by decide) (hts _ w_200) (fun _ h9 => h9) rfl d_RR_newton_74 ?_
          refine lv_aload_n hx hb d_RR_newton_77 rfl (lv_at hl 0 rfl) ?_
          refine x_get (C := RX6) (T := TX6) (N := 14) hx hb hts inX6 hown (B.foc1 (hC_70.x)) (hAd.f1 (by omega)) 0 rfl rfl 3 (by decide) (hts _ w_200) (fun _ h9 => h9) rfl d_RR_newton_78 ?_
          refine x_get (C := RX5) (T := TX5) (N := 8) hx hb hts inX5 hown (B.foc1 (hC_70.sp)) (hAd.f1 (by omega)) 0 rfl rfl 2 (by decide) (hts _ w_89) (fun _ h9 => h9) rfl d_RR_newton_81 ?_
          refine x_iconst hx hb d_RR_newton_84 ?_
          refine lv_aload_n hx hb d_RR_newton_85 rfl (lv_at hl 0 rfl) ?_
          refine x_get (C := RX6) (T := TX6) (N := 14) hx hb hts inX6 hown (B.foc1 (hC_70.x)) (hAd.f1 (by omega)) 0 rfl rfl 3 (by decide) (hts _ w_200) (fun _ h9 => h9) rfl d_RR_newton_86 ?_
          refine x_get (C := RX5) (T := TX5) (N := 8) hx hb hts inX5 hown (B.foc1 (hC_70.sp)) (hAd.f1 (by omega)) 0 rfl rfl 3 (by decide) (hts _ w_91) (fun _ h9 => h9) rfl d_RR_newton_89 ?_
          rw [hI6n]
          refine x_calli B hA (va_runV (As := [.ref ((ad 6)), .int (iI 0), .int (iI ((nn : Int)))]) (rest := []) ⟨hx, hb, hml, hown, hts⟩ (c_Spot_signOf_s l D cs _ _ _ (ad 5) (ad 6) (ad 227) (ad 228) (ad 6) (Rf 52) (Rf 53) (Rf 54) (Rf 55) 0 nn (I_70 6) (Bg ad) (Wkk ad) Qm Z_70 (rfs 6 (fun j => ad (229 + j))) (fun j => ad (229 + j)) (hAd.fc [5, 6] (by simp only [List.nodup_cons, List.mem_cons, List.not_mem_nil, or_false, not_or, List.nodup_nil, and_true, not_false_eq_true]; omega) (by intro q hq; simp only [List.mem_cons, List.not_mem_nil, or_false] at hq; omega)) hC_70.sp hC_70.gs hAd.sp hC_70.2.2.1 (hAd.outs [5, 6] (by intro q hq; simp only [List.mem_cons, List.not_mem_nil, or_false] at hq; omega)) (fun b hb => Wkk.bg hb) hC_70.2.2.2.2.1 hC_70.2.2.2.2.2 (Bg.pl (by decide)) (Bg.pl (by decide)) (Wkk.not hAd (by decide) (by decide)) (Wkk.not hAd (by decide) (by decide)) (by omega) (by omega) (fun j hj => by rw [Nat.zero_add]; exact rfs_at (by omega)) (fun j hj => ⟨Bg.pl (by omega), Wkk.not hAd (by omega) (by omega)⟩) (sp_room (c := (fun j => Z_70 ((fun j => ad (229 + j)) (0 + j)))) (a := 13) (fun j hj => by show ((Z_70 (ad (229 + (0 + j)))).natAbs : Int) < _; rw [Nat.zero_add, hZs_70 j hj]; exact hRB13 j hj) (by omega) (by omega) (by rw [hZu_70]; exact Int.lt_of_le_of_lt (show ((a2 : Int).natAbs : Int) ≤ 1000000 by omega) (by decide)) (by rw [hZl_70]; exact Int.lt_of_le_of_lt (show ((a3 : Int).natAbs : Int) ≤ 1000000 by omega) (by decide)))) (cwV 3 hts (gw_V w_478 w_411 w_412 w_4 w_413) rfl rfl rfl (by decide +kernel) ⟨by rw [hRf]; exact Nat.le_of_ble_eq_true rfl, by rw [hRl]; exact Nat.le_of_ble_eq_true rfl⟩) ⟨K0.blind, B.recv (hAd.1 _ (by omega)) (hC_70.sp) rfl, B.pre _⟩ rfl rfl hl.1 rfl (lv_room (Nat.le_of_ble_eq_true rfl)) d_RR_newton_92 ⟨by rw [hRc]; omega, by rw [hRs]; omega⟩) (fun r92 g92 H locs hw B => ?_)
          obtain ⟨gt_92, gp_92, ga_92, gb_92, Z_92, rfl, hZt_92, hWd_92, hNe_92, hZo_92, hBB_92, hq_92, hc1_92, hc2_92⟩ := hw
          obtain ⟨R_92, hR_92⟩ : ∃ R_92, R_92 = upW Rf gt_92 gp_92 ga_92 gb_92 := ⟨_, rfl⟩
          have hC_92 : CSt cs ad Qm g92 I_70 A_48 R_92 Z_92 := by
            have h9 := CSt.spot hAd hC_70 [6] hWd_92 hNe_92 hBB_92 hq_92 (fun k hk => by rw [List.mem_singleton.mp hk]; exact ⟨by decide, hc2_92.trans hC_70.gs.symm⟩) hc1_92
            rw [up_same, ← hR_92] at h9
            exact h9
          have hfr_92 : ∀ k, Awy ad k → g92 k = f k := fun k hk => (hq_92 k (hk.out hAd) (hk.nin [5, 6] (by intro q hq; simp only [List.mem_cons, List.not_mem_nil, or_false] at hq; omega))).trans (hfr_70 k hk)
          obtain ⟨sa, hsa⟩ : ∃ sa : Int, sa = (hsum (fun j => Z_70 ((fun j => ad (229 + j)) (0 + j))) nn (Z_70 (ad 227)) (Z_70 (ad 228)) nn).sign := ⟨_, rfl⟩
          rw [← hsa]
          have hsaS : sa = sg (es (dva (Af (20 + p0))) 6 (((a2 : Rat) / (a3 : Rat)))) := by rw [hsa, ← (show (Z_70 (ad 227) : Rat) / (Z_70 (ad 228) : Rat) = (a2 : Rat) / (a3 : Rat) by rw [hZu_70, hZl_70])]; exact sgn_row (by rw [hZl_70]; omega) (by omega) (fun j hj => by show Z_70 (ad (229 + (0 + j))) = _; rw [Nat.zero_add]; exact (hZs_70 j hj).trans (by rw [hA481]; exact hxd j hj)) (fun j h1 h2 => by rw [← hxd j h2]; exact hkdz j (by omega) h2)
          have hsar : -1 ≤ sa ∧ sa ≤ 1 := by rw [hsaS]; exact sg_rng _
          have B : Wb D vwCl (TY cs) L g92 (AL L s.heap.size) s H _ := B
          have hrw_92 : ∀ t, t < 42 → Z_92 (R_92 t) = Z_70 (Rf t) := fun t ht => by rw [hR_92, upW_lt ht]; exact hZo_92 _ (Ckk.wk hAd (hC_70.rck ht))
          have hZu_92 := (hZo_92 (ad 227) (Wkk.not hAd (by decide) (by decide))).trans hZu_70
          have hZl_92 := (hZo_92 (ad 228) (Wkk.not hAd (by decide) (by decide))).trans hZl_70
          have hZs_92 : ∀ j, j < 6 → Z_92 (ad (229 + j)) = (A_48 1) j := fun j hj => (hZo_92 (ad (229 + j)) (Wkk.not hAd (by omega) (by omega))).trans (hZs_70 j hj)
          obtain ⟨S, hSd⟩ : ∃ S : Int, S = hsum (dva (Af (20 + p0))) nn a2 a3 nn := ⟨_, rfl⟩
          have hR92 : R_92 52 = gt_92 := by rw [hR_92]; unfold upW; rw [if_pos rfl]
          have hZS : Z_92 (R_92 52) = S := by
              rw [hR92, hZt_92, hZu_70, hZl_70, hSd]
              exact hsum_congr (fun j hj => by show Z_70 (ad (229 + (0 + j))) = _; rw [Nat.zero_add, hZs_70 j hj, hA481]; exact hxd j hj) (by omega) nn
          have hSb : (S.natAbs : Int) < 2 ^ 118 := by rw [hSd]; exact nw_bd (a := 13) (by decide) (fun j hj => by rw [← hxd j hj]; have h9 := hRB13 j hj; rw [hA481] at h9; exact h9) hi2 hi3 (by omega)
          obtain ⟨W0, hWd⟩ : ∃ W0 : Int, W0 = hsum (Af (20 + p0)) kd a2 a3 kd := ⟨_, rfl⟩
          have hWb : (W0.natAbs : Int) < 2 ^ 118 := by rw [hWd]; exact nw_bd (a := 10) (by decide) hRB10 hi2 hi3 hkd5
          obtain ⟨hn1, hn2, hn3, hn4, hn5⟩ := nw_all hSb hWb hi2 hi3
          have hsa0 : sa ≠ 0 := by rw [hsaS]; exact hSn
          have hS0 : S ≠ 0 := fun h => hsa0 (by
              rw [hsa]
              have h9 : hsum (fun j => Z_70 ((fun j => ad (229 + j)) (0 + j))) nn (Z_70 (ad 227)) (Z_70 (ad 228)) nn = S := by rw [← hZt_92, ← hR92]; exact hZS
              rw [h9, h]; rfl)
          clear hSb hWb
          refine x_if_ne (tgt := 108) hx hb d_RR_newton_95 (by decide) (by omega) (fun h95 => ?_) (fun h95 => ?_)
          · refine lv_aload_n hx hb d_RR_newton_108 rfl (lv_at hl 0 rfl) ?_
            refine x_get (C := RX6) (T := TX6) (N := 14) hx hb hts inX6 hown (B.foc1 (hC_92.x)) (hAd.f1 (by omega)) 0 rfl rfl 4 (by decide) (hts _ w_201) (fun _ h9 => h9) rfl d_RR_newton_109 ?_
            refine x_get (C := RX4) (T := TX4) (N := 7) hx hb hts inX4 hown (B.foc1 (hC_92.ra)) (hAd.f1 (by omega)) 0 rfl rfl 0 (by decide) (hts _ w_123) (fun _ h9 => h9) rfl d_RR_newton_112 ?_
            refine lv_aload_n hx hb d_RR_newton_115 rfl (lv_at hl 0 rfl) ?_
            refine x_get (C := RX6) (T := TX6) (N := 14) hx hb hts inX6 hown (B.foc1 (hC_92.x)) (hAd.f1 (by omega)) 0 rfl rfl 3 (by decide) (hts _ w_200) (fun _ h9 => h9) rfl d_RR_newton_116 ?_
            refine x_get (C := RX5) (T := TX5) (N := 8) hx hb hts inX5 hown (B.foc1 (hC_92.sp)) (hAd.f1 (by omega)) 0 rfl rfl 0 (by decide) (hts _ w_85) (fun _ h9 => h9) rfl d_RR_newton_119 ?_
            refine lv_aload_n hx hb d_RR_newton_122 rfl (lv_at hl 0 rfl) ?_
            refine x_get (C := RX6) (T := TX6) (N := 14) hx hb hts inX6 hown (B.foc1 (hC_92.x)) (hAd.f1 (by omega)) 0 rfl rfl 3 (by decide) (hts _ w_200) (fun _ h9 => h9) rfl d_RR_newton_123 ?_
            refine x_get (C := RX5) (T := TX5) (N := 8) hx hb hts inX5 hown (B.foc1 (hC_92.sp)) (hAd.f1 (by omega)) 0 rfl rfl 4 (by decide) (hts _ w_93) (fun _ h9 => h9) rfl d_RR_newton_126 ?_
            obtain ⟨sdb1290, nnb1290, lmb1290, c1b1290, c2b1290, c3b1290⟩ := hC_92.2.2.1 (ad 239) (Bg.pl (by decide))
            obtain ⟨sdb1291, nnb1291, lmb1291, c1b1291, c2b1291, c3b1291⟩ := hC_92.2.2.1 (ad 227) (Bg.pl (by decide))
            obtain ⟨sdb1292, nnb1292, lmb1292, c1b1292, c2b1292, c3b1292⟩ := hC_92.2.2.1 (R_92 52) (hC_92.2.2.2.2.1.1.bg)
            refine x_callv B hA (va_runV (As := [.ref ((ad 227)), .ref ((R_92 52))]) (rest := []) ⟨hx, hb, hml, hown, hts⟩ (c_Big_product l D cs _ _ _ (ad 239) (Qm (ad 239)) sdb1290 nnb1290 lmb1290 (ad 227) (Qm (ad 227)) sdb1291 nnb1291 lmb1291 (Z_92 (ad 227)) (R_92 52) (Qm (R_92 52)) sdb1292 nnb1292 lmb1292 (Z_92 (R_92 52)) (hAd.sp.fc3 (Bg.pl (by decide)) (Bg.pl (by decide)) (hC_92.2.2.2.2.1.1.bg) (hAd.ne (by decide) (by decide) (by decide)) (Ne.symm (Wkk.na hAd hC_92.2.2.2.2.1.1 (by decide) (by decide))) (Ne.symm (Wkk.na hAd hC_92.2.2.2.2.1.1 (by decide) (by decide)))) c1b1290 c2b1290 c1b1291 c2b1291 c3b1291 c1b1292 c2b1292 c3b1292 (by rw [hZu_92, hZS]; exact hn1)) (cwV 2 hts (gw_V w_647 w_307 w_308 w_3 w_309) rfl rfl rfl (by decide +kernel) ⟨by rw [hRf]; exact Nat.le_of_ble_eq_true rfl, by rw [hRl]; exact Nat.le_of_ble_eq_true rfl⟩) ⟨K0.blind, B.recv (hAd.1 _ (by omega)) (c1b1290) rfl, B.pre _⟩ rfl rfl hl.1 rfl (lv_room (Nat.le_of_ble_eq_true rfl)) d_RR_newton_129 ⟨by rw [hRc]; omega, by rw [hRs]; omega⟩) (fun g129 H locs hw B => ?_)
            rw [hZu_92, hZS] at hw
            obtain ⟨s1_129, n1_129, l1_129, hz_129, hg_129⟩ := hw
            obtain ⟨hC_129, hq_129⟩ := CSt.big1 hAd hC_92 (Bg.pl (by decide)) hz_129 hg_129
            obtain ⟨Z_129, hZ_129⟩ : ∃ Z_129, Z_129 = up Z_92 (ad 239) (a2 * S) := ⟨_, rfl⟩
            rw [← hZ_129] at hC_129
            have hfr_129 : ∀ k, Awy ad k → g129 k = f k := fun k hk => (hq_129 k hk).trans (hfr_92 k hk)
            have B : Wb D vwCl (TY cs) L g129 (AL L s.heap.size) s H _ := B
            have hZl_129 : Z_129 (ad 228) = a3 := by rw [hZ_129, up_ne _ _ (hAd.ne (by decide) (by decide) (by decide))]; exact hZl_92
            have hZu_129 : Z_129 (ad 227) = a2 := by rw [hZ_129, up_ne _ _ (hAd.ne (by decide) (by decide) (by decide))]; exact hZu_92
            have hZS129 : Z_129 (R_92 52) = S := by rw [hZ_129, up_ne _ _ (Wkk.na hAd hC_129.2.2.2.2.1.1 (by decide) (by decide))]; exact hZS
            refine lv_aload_n hx hb d_RR_newton_132 rfl (lv_at hl 0 rfl) ?_
            refine x_get (C := RX6) (T := TX6) (N := 14) hx hb hts inX6 hown (B.foc1 (hC_129.x)) (hAd.f1 (by omega)) 0 rfl rfl 4 (by decide) (hts _ w_201) (fun _ h9 => h9) rfl d_RR_newton_133 ?_
            refine x_get (C := RX4) (T := TX4) (N := 7) hx hb hts inX4 hown (B.foc1 (hC_129.ra)) (hAd.f1 (by omega)) 0 rfl rfl 1 (by decide) (hts _ w_125) (fun _ h9 => h9) rfl d_RR_newton_136 ?_
            refine lv_aload_n hx hb d_RR_newton_139 rfl (lv_at hl 0 rfl) ?_
            refine x_get (C := RX6) (T := TX6) (N := 14) hx hb hts inX6 hown (B.foc1 (hC_129.x)) (hAd.f1 (by omega)) 0 rfl rfl 3 (by decide) (hts _ w_200) (fun _ h9 => h9) rfl d_RR_newton_140 ?_
            refine x_get (C := RX5) (T := TX5) (N := 8) hx hb hts inX5 hown (B.foc1 (hC_129.sp)) (hAd.f1 (by omega)) 0 rfl rfl 1 (by decide) (hts _ w_87) (fun _ h9 => h9) rfl d_RR_newton_143 ?_
            refine lv_aload_n hx hb d_RR_newton_146 rfl (lv_at hl 0 rfl) ?_
            refine x_get (C := RX6) (T := TX6) (N := 14) hx hb hts inX6 hown (B.foc1 (hC_129.x)) (hAd.f1 (by omega)) 0 rfl rfl 3 (by decide) (hts _ w_200) (fun _ h9 => h9) rfl d_RR_newton_147 ?_
            refine x_get (C := RX5) (T := TX5) (N := 8) hx hb hts inX5 hown (B.foc1 (hC_129.sp)) (hAd.f1 (by omega)) 0 rfl rfl 4 (by decide) (hts _ w_93) (fun _ h9 => h9) rfl d_RR_newton_150 ?_
            obtain ⟨sdb1530, nnb1530, lmb1530, c1b1530, c2b1530, c3b1530⟩ := hC_129.2.2.1 (ad 240) (Bg.pl (by decide))
            obtain ⟨sdb1531, nnb1531, lmb1531, c1b1531, c2b1531, c3b1531⟩ := hC_129.2.2.1 (ad 228) (Bg.pl (by decide))
            obtain ⟨sdb1532, nnb1532, lmb1532, c1b1532, c2b1532, c3b1532⟩ := hC_129.2.2.1 (R_92 52) (hC_129.2.2.2.2.1.1.bg)
            refine x_callv B hA (va_runV (As := [.ref ((ad 228)), .ref ((R_92 52))]) (rest := []) ⟨hx, hb, hml, hown, hts⟩ (c_Big_product l D cs _ _ _ (ad 240) (Qm (ad 240)) sdb1530 nnb1530 lmb1530 (ad 228) (Qm (ad 228)) sdb1531 nnb1531 lmb1531 (Z_129 (ad 228)) (R_92 52) (Qm (R_92 52)) sdb1532 nnb1532 lmb1532 (Z_129 (R_92 52)) (hAd.sp.fc3 (Bg.pl (by decide)) (Bg.pl (by decide)) (hC_129.2.2.2.2.1.1.bg) (hAd.ne (by decide) (by decide) (by decide)) (Ne.symm (Wkk.na hAd hC_129.2.2.2.2.1.1 (by decide) (by decide))) (Ne.symm (Wkk.na hAd hC_129.2.2.2.2.1.1 (by decide) (by decide)))) c1b1530 c2b1530 c1b1531 c2b1531 c3b1531 c1b1532 c2b1532 c3b1532 (by rw [hZl_129, hZS129]; exact hn2)) (cwV 2 hts (gw_V w_647 w_307 w_308 w_3 w_309) rfl rfl rfl (by decide +kernel) ⟨by rw [hRf]; exact Nat.le_of_ble_eq_true rfl, by rw [hRl]; exact Nat.le_of_ble_eq_true rfl⟩) ⟨K0.blind, B.recv (hAd.1 _ (by omega)) (c1b1530) rfl, B.pre _⟩ rfl rfl hl.1 rfl (lv_room (Nat.le_of_ble_eq_true rfl)) d_RR_newton_153 ⟨by rw [hRc]; omega, by rw [hRs]; omega⟩) (fun g153 H locs hw B => ?_)
            rw [hZl_129, hZS129] at hw
            obtain ⟨s1_153, n1_153, l1_153, hz_153, hg_153⟩ := hw
            obtain ⟨hC_153, hq_153⟩ := CSt.big1 hAd hC_129 (Bg.pl (by decide)) hz_153 hg_153
            obtain ⟨Z_153, hZ_153⟩ : ∃ Z_153, Z_153 = up Z_129 (ad 240) (a3 * S) := ⟨_, rfl⟩
            rw [← hZ_153] at hC_153
            have hfr_153 : ∀ k, Awy ad k → g153 k = f k := fun k hk => (hq_153 k hk).trans (hfr_129 k hk)
            have B : Wb D vwCl (TY cs) L g153 (AL L s.heap.size) s H _ := B
            have hZl_153 : Z_153 (ad 228) = a3 := by rw [hZ_153, up_ne _ _ (hAd.ne (by decide) (by decide) (by decide))]; exact hZl_129
            have hZu_153 : Z_153 (ad 227) = a2 := by rw [hZ_153, up_ne _ _ (hAd.ne (by decide) (by decide) (by decide))]; exact hZu_129
            have hqU : Z_153 (ad 239) = a2 * S := by rw [hZ_153, up_ne _ _ (hAd.ne (by decide) (by decide) (by decide)), hZ_129, up_self]
            have hqL : Z_153 (ad 240) = a3 * S := by rw [hZ_153, up_self]
            refine lv_aload_n hx hb d_RR_newton_156 rfl (lv_at hl 0 rfl) ?_
            refine x_get (C := RX6) (T := TX6) (N := 14) hx hb hts inX6 hown (B.foc1 (hC_153.x)) (hAd.f1 (by omega)) 0 rfl rfl 3 (by decide) (hts _ w_200) (fun _ h9 => h9) rfl d_RR_newton_157 ?_
            refine lv_aload_n hx hb d_RR_newton_160 rfl (lv_at hl 0 rfl) ?_
            refine x_get (C := RX6) (T := TX6) (N := 14) hx hb hts inX6 hown (B.foc1 (hC_153.x)) (hAd.f1 (by omega)) 0 rfl rfl 0 (by decide) (hts _ w_197) (fun _ h9 => h9) rfl d_RR_newton_161 ?_
            refine lv_iload_n hx hb d_RR_newton_164 rfl (lv_at hl 1 rfl) ?_
            refine x_aald hx hb (B.foc1 (hC_153.c0)) (hAd.f1 (by omega)) 0 4 rfl rfl p0 (by omega) (by omega) (by decide) (rfs_at (by omega)) d_RR_newton_165 ?_
            refine x_get (C := RX2) (T := TX2) (N := 5) hx hb hts inX2 hown (B.foc1 (hC_153.cu (p := p0) (by omega))) (hAd.f1 (by omega)) 0 rfl rfl 0 (by decide) (hts _ w_177) (fun _ h9 => h9) rfl d_RR_newton_166 ?_
            refine x_callv B hA (va_runV (As := [.ref ((ad (27 + p0)))]) (rest := []) ⟨hx, hb, hml, hown, hts⟩ (c_Spot_load l D cs _ _ _ (ad 5) (ad (27 + p0)) (ad 227) (ad 228) (ad 6) (R_92 52) (R_92 53) (R_92 54) (R_92 55) (I_70 6) (Bg ad) Qm Z_153 (rfs 6 (fun j => ad (229 + j))) (fun j => ad (229 + j)) (A_48 (20 + p0)) (hAd.fc [5, 6, 27 + p0] (by have := ((Ar.va hp0)).lt; simp only [List.nodup_cons, List.mem_cons, List.not_mem_nil, or_false, not_or, List.nodup_nil, and_true, not_false_eq_true]; omega) (by have := ((Ar.va hp0)).lt; intro q hq; simp only [List.mem_cons, List.not_mem_nil, or_false] at hq; omega)) hC_153.sp hC_153.gs (hC_153.ar (Ar.va hp0)) hAd.sp hC_153.2.2.1 (hAd.outs [5, 6, 27 + p0] (by have := ((Ar.va hp0)).lt; intro q hq; simp only [List.mem_cons, List.not_mem_nil, or_false] at hq; omega)) (fun j hj => Bg.pl (by omega)) (fun j hj => rfs_at hj) (fun i j hi hj h => by have := hAd.2.1 _ _ (by omega) (by omega) h; omega) (fun j hj => by rw [hA48V]; have := hVM j hj; omega)) (cwV 1 hts (gw_V w_473 w_474 w_475 w_4 w_476) rfl rfl rfl (by decide +kernel) ⟨by rw [hRf]; exact Nat.le_of_ble_eq_true rfl, by rw [hRl]; exact Nat.le_of_ble_eq_true rfl⟩) ⟨K0.blind, B.recv (hAd.1 _ (by omega)) (hC_153.sp) rfl, B.pre _⟩ rfl rfl hl.1 rfl (lv_room (Nat.le_of_ble_eq_true rfl)) d_RR_newton_169 ⟨by rw [hRc]; omega, by rw [hRs]; omega⟩) (fun g169 H locs hw B => ?_)
            obtain ⟨ke, Z_169, hke6, hkez, hkel, hZs_169, hZo_169, hBB_169, hq_169, hc1_169, hc2_169, hc3_169⟩ := hw
            obtain ⟨I_169, hI_169⟩ : ∃ I_169, I_169 = up I_70 6 ((ke : Int) - 1) := ⟨_, rfl⟩
            have hC_169 : CSt cs ad Qm g169 I_169 A_48 R_92 Z_169 := by
              have h9 := CSt.spot hAd hC_153 [6, 27 + p0] hC_153.2.2.2.2.1 hC_153.2.2.2.2.2 hBB_169 hq_169 (fun k hk => by
                simp only [List.mem_cons, List.not_mem_nil, or_false] at hk
                rcases hk with h | h <;> rw [h]
                · exact ⟨by omega, hc2_169.trans hC_153.gs.symm⟩
                · exact ⟨by have := ((Ar.va hp0)).lt; omega, hc3_169.trans (hC_153.ar (Ar.va hp0)).symm⟩) hc1_169
              rw [upW_same, ← hI_169] at h9
              exact h9
            have hfr_169 : ∀ k, Awy ad k → g169 k = f k := fun k hk => (hq_169 k (hk.out hAd) (hk.nin [5, 6, 27 + p0] (by have := ((Ar.va hp0)).lt; intro q hq; simp only [List.mem_cons, List.not_mem_nil, or_false] at hq; omega))).trans (hfr_153 k hk)
            have hIo_169 : ∀ i, i ≠ 6 → I_169 i = I_70 i := fun i hi => by rw [hI_169, up_ne _ _ hi]
            have hI6_169 : I_169 6 = (ke : Int) - 1 := by rw [hI_169, up_self]
            have B : Wb D vwCl (TY cs) L g169 (AL L s.heap.size) s H _ := B
            have hZu_169 := (hZo_169 (ad 227) (fun j hj => hAd.ne (by omega) (by omega) (by omega))).trans hZu_153
            have hZl_169 := (hZo_169 (ad 228) (fun j hj => hAd.ne (by omega) (by omega) (by omega))).trans hZl_153
            rw [hA48V] at hkez hkel
            have hked : ke = kd + 1 := by
              rcases Nat.lt_trichotomy ke (kd + 1) with c | c | c
              · exact absurd (hkez kd (by omega) hkd5) hVk
              · exact c
              · exact absurd (hVz (ke - 1) (by omega) (by omega)) (hkel (by omega))
            have hI6m : I_169 6 = (kd : Int) := by rw [hI6_169]; omega
            have hRB10b : ∀ j, j < 6 → ((A_48 (20 + p0) j).natAbs : Int) < 2 ^ 10 := by rw [hA48V]; exact hRB10
            refine lv_aload_n hx hb d_RR_newton_172 rfl (lv_at hl 0 rfl) ?_
            refine x_get (C := RX6) (T := TX6) (N := 14) hx hb hts inX6 hown (B.foc1 (hC_169.x)) (hAd.f1 (by omega)) 0 rfl rfl 3 (by decide) (hts _ w_200) (fun _ h9 => h9) rfl d_RR_newton_173 ?_
            refine lv_aload_n hx hb d_RR_newton_176 rfl (lv_at hl 0 rfl) ?_
            refine x_get (C := RX6) (T := TX6) (N := 14) hx hb hts inX6 hown (B.foc1 (hC_169.x)) (hAd.f1 (by omega)) 0 rfl rfl 3 (by decide) (hts _ w_200) (fun _ h9 => h9) rfl d_RR_newton_177 ?_
            refine x_get (C := RX5) (T := TX5) (N := 8) hx hb hts inX5 hown (B.foc1 (hC_169.sp)) (hAd.f1 (by omega)) 0 rfl rfl 2 (by decide) (hts _ w_89) (fun _ h9 => h9) rfl d_RR_newton_180 ?_
            refine x_iconst hx hb d_RR_newton_183 ?_
            refine lv_aload_n hx hb d_RR_newton_184 rfl (lv_at hl 0 rfl) ?_
            refine x_get (C := RX6) (T := TX6) (N := 14) hx hb hts inX6 hown (B.foc1 (hC_169.x)) (hAd.f1 (by omega)) 0 rfl rfl 3 (by decide) (hts _ w_200) (fun _ h9 => h9) rfl d_RR_newton_185 ?_
            refine x_get (C := RX5) (T := TX5) (N := 8) hx hb hts inX5 hown (B.foc1 (hC_169.sp)) (hAd.f1 (by omega)) 0 rfl rfl 3 (by decide) (hts _ w_91) (fun _ h9 => h9) rfl d_RR_newton_188 ?_
            rw [hI6m]
            refine x_calli B hA (va_runV (As := [.ref ((ad 6)), .int (iI 0), .int (iI ((kd : Int)))]) (rest := []) ⟨hx, hb, hml, hown, hts⟩ (c_Spot_signOf_s l D cs _ _ _ (ad 5) (ad 6) (ad 227) (ad 228) (ad 6) (R_92 52) (R_92 53) (R_92 54) (R_92 55) 0 kd (I_169 6) (Bg ad) (Wkk ad) Qm Z_169 (rfs 6 (fun j => ad (229 + j))) (fun j => ad (229 + j)) (hAd.fc [5, 6] (by simp only [List.nodup_cons, List.mem_cons, List.not_mem_nil, or_false, not_or, List.nodup_nil, and_true, not_false_eq_true]; omega) (by intro q hq; simp only [List.mem_cons, List.not_mem_nil, or_false] at hq; omega)) hC_169.sp hC_169.gs hAd.sp hC_169.2.2.1 (hAd.outs [5, 6] (by intro q hq; simp only [List.mem_cons, List.not_mem_nil, or_false] at hq; omega)) (fun b hb => Wkk.bg hb) hC_169.2.2.2.2.1 hC_169.2.2.2.2.2 (Bg.pl (by decide)) (Bg.pl (by decide)) (Wkk.not hAd (by decide) (by decide)) (Wkk.not hAd (by decide) (by decide)) (by omega) (by omega) (fun j hj => by rw [Nat.zero_add]; exact rfs_at (by omega)) (fun j hj => ⟨Bg.pl (by omega), Wkk.not hAd (by omega) (by omega)⟩) (sp_room (c := (fun j => Z_169 ((fun j => ad (229 + j)) (0 + j)))) (a := 10) (fun j hj => by show ((Z_169 (ad (229 + (0 + j)))).natAbs : Int) < _; rw [Nat.zero_add, hZs_169 j hj]; exact hRB10b j hj) (by omega) (by omega) (by rw [hZu_169]; exact Int.lt_of_le_of_lt (show ((a2 : Int).natAbs : Int) ≤ 1000000 by omega) (by decide)) (by rw [hZl_169]; exact Int.lt_of_le_of_lt (show ((a3 : Int).natAbs : Int) ≤ 1000000 by omega) (by decide)))) (cwV 3 hts (gw_V w_478 w_411 w_412 w_4 w_413) rfl rfl rfl (by decide +kernel) ⟨by rw [hRf]; exact Nat.le_of_ble_eq_true rfl, by rw [hRl]; exact Nat.le_of_ble_eq_true rfl⟩) ⟨K0.blind, B.recv (hAd.1 _ (by omega)) (hC_169.sp) rfl, B.pre _⟩ rfl rfl hl.1 rfl (lv_room (Nat.le_of_ble_eq_true rfl)) d_RR_newton_191 ⟨by rw [hRc]; omega, by rw [hRs]; omega⟩) (fun r191 g191 H locs hw B => ?_)
            obtain ⟨gt_191, gp_191, ga_191, gb_191, Z_191, rfl, hZt_191, hWd_191, hNe_191, hZo_191, hBB_191, hq_191, hc1_191, hc2_191⟩ := hw
            obtain ⟨R_191, hR_191⟩ : ∃ R_191, R_191 = upW R_92 gt_191 gp_191 ga_191 gb_191 := ⟨_, rfl⟩
            have hC_191 : CSt cs ad Qm g191 I_169 A_48 R_191 Z_191 := by
              have h9 := CSt.spot hAd hC_169 [6] hWd_191 hNe_191 hBB_191 hq_191 (fun k hk => by rw [List.mem_singleton.mp hk]; exact ⟨by decide, hc2_191.trans hC_169.gs.symm⟩) hc1_191
              rw [up_same, ← hR_191] at h9
              exact h9
            have hfr_191 : ∀ k, Awy ad k → g191 k = f k := fun k hk => (hq_191 k (hk.out hAd) (hk.nin [5, 6] (by intro q hq; simp only [List.mem_cons, List.not_mem_nil, or_false] at hq; omega))).trans (hfr_169 k hk)
            obtain ⟨sb, hsb⟩ : ∃ sb : Int, sb = (hsum (fun j => Z_169 ((fun j => ad (229 + j)) (0 + j))) kd (Z_169 (ad 227)) (Z_169 (ad 228)) kd).sign := ⟨_, rfl⟩
            rw [← hsb]
            have hsbS : sb = sg (es (Af (20 + p0)) 6 (((a2 : Rat) / (a3 : Rat)))) := by rw [hsb, ← (show (Z_169 (ad 227) : Rat) / (Z_169 (ad 228) : Rat) = (a2 : Rat) / (a3 : Rat) by rw [hZu_169, hZl_169])]; exact sgn_row (by rw [hZl_169]; omega) (by omega) (fun j hj => by show Z_169 (ad (229 + (0 + j))) = _; rw [Nat.zero_add]; exact (hZs_169 j hj).trans (by rw [hA48V])) (hVz)
            have hsbr : -1 ≤ sb ∧ sb ≤ 1 := by rw [hsbS]; exact sg_rng _
            have B : Wb D vwCl (TY cs) L g191 (AL L s.heap.size) s H _ := B
            have hrw_191 : ∀ t, t < 42 → Z_191 (R_191 t) = Z_169 (R_92 t) := fun t ht => by rw [hR_191, upW_lt ht]; exact hZo_191 _ (Ckk.wk hAd (hC_169.rck ht))
            have hZu_191 := (hZo_191 (ad 227) (Wkk.not hAd (by decide) (by decide))).trans hZu_169
            have hZl_191 := (hZo_191 (ad 228) (Wkk.not hAd (by decide) (by decide))).trans hZl_169
            have hZs_191 : ∀ j, j < 6 → Z_191 (ad (229 + j)) = (A_48 (20 + p0)) j := fun j hj => (hZo_191 (ad (229 + j)) (Wkk.not hAd (by omega) (by omega))).trans (hZs_169 j hj)
            refine lv_pop hx hb d_RR_newton_194 rfl ?_
            have hR191 : R_191 52 = gt_191 := by rw [hR_191]; unfold upW; rw [if_pos rfl]
            have hZW : Z_191 (R_191 52) = W0 := by
              rw [hR191, hZt_191, hZu_169, hZl_169, hWd]
              exact hsum_congr (fun j hj => by show Z_169 (ad (229 + (0 + j))) = _; rw [Nat.zero_add, hZs_169 j hj, hA48V]) (by omega) kd
            have hqU2 : Z_191 (ad 239) = a2 * S := by rw [hZo_191 _ (Wkk.not hAd (by decide) (by decide)), hZo_169 _ (fun j hj => hAd.ne (by omega) (by omega) (by omega))]; exact hqU
            have hqL2 : Z_191 (ad 240) = a3 * S := by rw [hZo_191 _ (Wkk.not hAd (by decide) (by decide)), hZo_169 _ (fun j hj => hAd.ne (by omega) (by omega) (by omega))]; exact hqL
            refine lv_aload_n hx hb d_RR_newton_195 rfl (lv_at hl 0 rfl) ?_
            refine x_get (C := RX6) (T := TX6) (N := 14) hx hb hts inX6 hown (B.foc1 (hC_191.x)) (hAd.f1 (by omega)) 0 rfl rfl 4 (by decide) (hts _ w_201) (fun _ h9 => h9) rfl d_RR_newton_196 ?_
            refine x_get (C := RX4) (T := TX4) (N := 7) hx hb hts inX4 hown (B.foc1 (hC_191.ra)) (hAd.f1 (by omega)) 0 rfl rfl 0 (by decide) (hts _ w_123) (fun _ h9 => h9) rfl d_RR_newton_199 ?_
            refine lv_aload_n hx hb d_RR_newton_202 rfl (lv_at hl 0 rfl) ?_
            refine x_get (C := RX6) (T := TX6) (N := 14) hx hb hts inX6 hown (B.foc1 (hC_191.x)) (hAd.f1 (by omega)) 0 rfl rfl 3 (by decide) (hts _ w_200) (fun _ h9 => h9) rfl d_RR_newton_203 ?_
            refine x_get (C := RX5) (T := TX5) (N := 8) hx hb hts inX5 hown (B.foc1 (hC_191.sp)) (hAd.f1 (by omega)) 0 rfl rfl 4 (by decide) (hts _ w_93) (fun _ h9 => h9) rfl d_RR_newton_206 ?_
            refine x_iconst hx hb d_RR_newton_209 ?_
            obtain ⟨sdb2100, nnb2100, lmb2100, c1b2100, c2b2100, c3b2100⟩ := hC_191.2.2.1 (ad 239) (Bg.pl (by decide))
            obtain ⟨sdb2101, nnb2101, lmb2101, c1b2101, c2b2101, c3b2101⟩ := hC_191.2.2.1 (R_191 52) (hC_191.2.2.2.2.1.1.bg)
            refine x_callv B hA (va_runV (As := [.ref ((R_191 52)), .int (iI (-1))]) (rest := []) ⟨hx, hb, hml, hown, hts⟩ (c_Big_add l D cs _ _ _ (ad 239) (Qm (ad 239)) sdb2100 nnb2100 lmb2100 (Z_191 (ad 239)) (R_191 52) (Qm (R_191 52)) sdb2101 nnb2101 lmb2101 (Z_191 (R_191 52)) (-1) (hAd.sp.fc2 (Bg.pl (by decide)) (hC_191.2.2.2.2.1.1.bg) (Ne.symm (Wkk.na hAd hC_191.2.2.2.2.1.1 (by decide) (by decide)))) c1b2100 c2b2100 c3b2100 c1b2101 c2b2101 c3b2101 (Or.inr rfl) (by rw [hqU2, hZW]; exact hn3)) (cwV 2 hts (gw_V w_648 w_311 w_312 w_3 w_313) rfl rfl rfl (by decide +kernel) ⟨by rw [hRf]; exact Nat.le_of_ble_eq_true rfl, by rw [hRl]; exact Nat.le_of_ble_eq_true rfl⟩) ⟨K0.blind, B.recv (hAd.1 _ (by omega)) (c1b2100) rfl, B.pre _⟩ rfl rfl hl.1 rfl (lv_room (Nat.le_of_ble_eq_true rfl)) d_RR_newton_210 ⟨by rw [hRc]; omega, by rw [hRs]; omega⟩) (fun g210 H locs hw B => ?_)
            rw [hqU2, hZW, show a2 * S + -1 * W0 = a2 * S - W0 by omega] at hw
            obtain ⟨s1_210, n1_210, l1_210, hz_210, hg_210⟩ := hw
            obtain ⟨hC_210, hq_210⟩ := CSt.big1 hAd hC_191 (Bg.pl (by decide)) hz_210 hg_210
            obtain ⟨Z_210, hZ_210⟩ : ∃ Z_210, Z_210 = up Z_191 (ad 239) (a2 * S - W0) := ⟨_, rfl⟩
            rw [← hZ_210] at hC_210
            have hfr_210 : ∀ k, Awy ad k → g210 k = f k := fun k hk => (hq_210 k hk).trans (hfr_191 k hk)
            have B : Wb D vwCl (TY cs) L g210 (AL L s.heap.size) s H _ := B
            have hqU3 : Z_210 (ad 239) = a2 * S - W0 := by rw [hZ_210, up_self]
            have hqL3 : Z_210 (ad 240) = a3 * S := by rw [hZ_210, up_ne _ _ (hAd.ne (by decide) (by decide) (by decide))]; exact hqL2
            have hvS : a3 * S ≠ 0 := fun h => by rcases Int.mul_eq_zero.mp h with h | h; omega; exact hS0 h
            refine lv_aload_n hx hb d_RR_newton_213 rfl (lv_at hl 0 rfl) ?_
            refine x_get (C := RX6) (T := TX6) (N := 14) hx hb hts inX6 hown (B.foc1 (hC_210.x)) (hAd.f1 (by omega)) 0 rfl rfl 4 (by decide) (hts _ w_201) (fun _ h9 => h9) rfl d_RR_newton_214 ?_
            refine x_ldc2 (z := 1000000000000000000) hx hb hown (hts _ w_649) (by decide) d_RR_newton_217 ?_
            refine x_calli B hA (va_runV (As := [.long (lI 1000000000000000000)]) (rest := []) ⟨hx, hb, hml, hown, hts⟩ (c_Ra_reduce l D cs _ _ _ ad Qm I_169 A_48 R_191 Z_210 hAd hC_210 (by rw [hqL3]; exact hvS) (by rw [hqU3]; exact hn4) (by rw [hqL3]; exact hn5)) (cwV 1 hts (gw_V w_650 w_651 w_652 w_5 w_653) rfl rfl rfl (by decide +kernel) ⟨by rw [hRf]; exact Nat.le_of_ble_eq_true rfl, by rw [hRl]; exact Nat.le_of_ble_eq_true rfl⟩) ⟨K0.blind, B.recv (hAd.1 _ (by omega)) (hC_210.ra) rfl, B.pre _⟩ rfl rfl hl.1 rfl (lv_room (Nat.le_of_ble_eq_true rfl)) d_RR_newton_220 ⟨by rw [hRc]; omega, by rw [hRs]; omega⟩) (fun r220 g220 H locs hw B => ?_)
            obtain ⟨Ir, Ar, Rr, Zr, hCr, hqr, hIr, hAr, hres⟩ := hw
            have hfrr : ∀ k, Awy ad k → g220 k = f k := fun k hk => (hqr k hk).trans (hfr_210 k hk)
            have B : Wb D vwCl (TY cs) L g220 (AL L s.heap.size) s H _ := B
            rw [hqU3, hqL3] at hres
            have hInvr : Inv Ir Ar := hInv.scr (fun i hi => by rw [hIr i (by omega) (by omega), hIo_169 i (by omega), hIo_70 i (by omega)]) (fun q hq => by rw [hAr, hA_48, upA_ne _ _ (by omega)])
            have hsvr : SameV If Af Ir Ar := ⟨by rw [hIr 0 (by decide) (by decide), hIo_169 0 (by decide), hIo_70 0 (by decide)], fun p hp => by rw [hAr, hA_48, upA_ne _ _ (by omega)]⟩
            obtain ⟨rr, hrr, hcs⟩ : ∃ rr : Int, r220 = iI rr ∧ ((rr = 1 ∧ nwt S W0 a2 a3 a4 = if a4 = 0 then Ir 7 else Ir 8) ∨ (rr = 0 ∧ nwt S W0 a2 a3 a4 = -4000000000000000004)) := by
              rcases hres with ⟨h1, h2, h3, h4⟩ | ⟨h1, qn, qd, h2, h3, ⟨h4, h5, h6, h7, h8⟩ | ⟨h4, h5⟩⟩
              · exact ⟨1, h2, Or.inl ⟨rfl, by rw [nw_zero h1, h3, h4]⟩⟩
              · exact ⟨1, h6, Or.inl ⟨rfl, by rw [nw_in h1 h2 h3 h4 h5, h7, h8]⟩⟩
              · exact ⟨0, h5, Or.inr ⟨rfl, nw_beyond h1 h2 h3 h4⟩⟩
            clear hres
            rw [hrr]
            refine x_if_ne (tgt := 230) hx hb d_RR_newton_223 (by decide) (by omega) (fun h223 => ?_) (fun h223 => ?_)
            · refine lv_iload hx hb d_RR_newton_230 (lv_at hl 4 rfl) ?_
              refine x_if_ne (tgt := 245) hx hb d_RR_newton_232 (by decide) (by omega) (fun h232 => ?_) (fun h232 => ?_)
              · refine lv_aload_n hx hb d_RR_newton_245 rfl (lv_at hl 0 rfl) ?_
                refine x_get (C := RX6) (T := TX6) (N := 14) hx hb hts inX6 hown (B.foc1 (hCr.x)) (hAd.f1 (by omega)) 0 rfl rfl 4 (by decide) (hts _ w_201) (fun _ h9 => h9) rfl d_RR_newton_246 ?_
                refine x_get (C := RX4) (T := TX4) (N := 7) hx hb hts inX4 hown (B.foc1 (hCr.ra)) (hAd.f1 (by omega)) 0 rfl rfl 3 (by decide) (hts _ w_129) (fun _ h9 => h9) rfl d_RR_newton_249 ?_
                subst hQ hav
                exact x_lret hx hb hr hlocks B d_RR_newton_252 (⟨Ir, Ar, Rr, Zr, hCr, hfrr, hInvr, hsvr, Or.inr ⟨⟨⟨hi2, hi3⟩, hi4⟩, kd, by omega, hkd5, hVk, hVz, by rw [show kd - 1 = nn by omega, ← hSd, ← hWd]; rcases hcs with ⟨_, h⟩ | ⟨h, _⟩; rw [h, if_neg (by omega)]; omega⟩⟩)
              · refine lv_aload_n hx hb d_RR_newton_235 rfl (lv_at hl 0 rfl) ?_
                refine x_get (C := RX6) (T := TX6) (N := 14) hx hb hts inX6 hown (B.foc1 (hCr.x)) (hAd.f1 (by omega)) 0 rfl rfl 4 (by decide) (hts _ w_201) (fun _ h9 => h9) rfl d_RR_newton_236 ?_
                refine x_get (C := RX4) (T := TX4) (N := 7) hx hb hts inX4 hown (B.foc1 (hCr.ra)) (hAd.f1 (by omega)) 0 rfl rfl 2 (by decide) (hts _ w_127) (fun _ h9 => h9) rfl d_RR_newton_239 ?_
                refine lv_goto (tgt := 252) hx hb d_RR_newton_242 (by decide) ?_
                subst hQ hav
                exact x_lret hx hb hr hlocks B d_RR_newton_252 (⟨Ir, Ar, Rr, Zr, hCr, hfrr, hInvr, hsvr, Or.inr ⟨⟨⟨hi2, hi3⟩, hi4⟩, kd, by omega, hkd5, hVk, hVz, by rw [show kd - 1 = nn by omega, ← hSd, ← hWd]; rcases hcs with ⟨_, h⟩ | ⟨h, _⟩; rw [h, if_pos (by omega)]; omega⟩⟩)
            · refine x_ldc2 (z := -4000000000000000004) hx hb hown (hts _ w_670) (by decide) d_RR_newton_226 ?_
              subst hQ hav
              exact x_lret hx hb hr hlocks B d_RR_newton_229 (⟨Ir, Ar, Rr, Zr, hCr, hfrr, hInvr, hsvr, Or.inr ⟨⟨⟨hi2, hi3⟩, hi4⟩, kd, by omega, hkd5, hVk, hVz, by rw [show kd - 1 = nn by omega, ← hSd, ← hWd]; rcases hcs with ⟨h, _⟩ | ⟨_, h⟩; omega; rw [h]⟩⟩)
          · exfalso; omega
        · refine x_ldc2 (z := -4000000000000000001) hx hb hown (hts _ w_492) (by decide) d_RR_newton_31 ?_
          subst hQ hav
          exact x_lret hx hb hr hlocks B d_RR_newton_34 (⟨If, Af, Rf, Zf, hC, hfr, hInv, ⟨rfl, fun _ _ => rfl⟩, Or.inl ⟨by omega, rfl⟩⟩)
  · exfalso; omega
