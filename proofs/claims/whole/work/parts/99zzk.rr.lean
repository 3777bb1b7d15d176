set_option maxHeartbeats 8000000 in
set_option maxRecDepth 100000 in
theorem c_RR_fraction_k (l : Launch) (D : va_G) (cs : Nat → ClassId) (L : List Nat) (f : Nat → va_E) (sz : Nat) (ad Qm : Nat → Nat) (If : Nat → Int) (Af : Nat → Nat → Int) (Rf : Nat → Nat) (Zf : Nat → Int) (p0 : Nat) (a2 a3 : Int) (hAd : AdOk L ad Qm) (hC : CSt cs ad Qm f If Af Rf Zf) (hInv : Inv If Af) (hpk : (p0 : Int) < If 0) (ha2 : -2147483648 ≤ a2 ∧ a2 < 2147483648) (ha3 : -2147483648 ≤ a3 ∧ a3 < 2147483648) : Met l (⟨"RealRoots", "fraction", "(III)J"⟩ : MethodName) (.code (⟨"RealRoots", "fraction", "(III)J"⟩ : MethodName) prog_1_method_10_code 4 (Option.some Jvm.ClassFile.FieldType.long) :: gw) ({ frames := 7, cells := 0, slots := 0, locals := 340 }) (va_Pc [.ref ((ad 0)), .int (iI ((p0 : Int))), .int (iI a2), .int (iI a3)] (K0 D vwCl (TY cs) L f sz)) (va_Ql (fun (r : Int64) (g : Nat → va_E) => ∃ (I' : Nat → Int) (A' : Nat → Nat → Int) (R' : Nat → Nat) (Z' : Nat → Int), CSt cs ad Qm g I' A' R' Z' ∧ (∀ k, Awy ad k → g k = f k) ∧ Inv I' A' ∧ SameV If Af I' A' ∧ ((a2 < 0 ∧ r = lI (-4000000000000000000)) ∨ ((∀ j, j < 6 → Af (20 + p0) j = 0) ∧ r = lI (-4000000000000000000)) ∨ (Nz (Af (20 + p0)) ∧ ∃ (F : Nat → Int) (nm : Nat) (cc : Nat → Int), Laid (Af (20 + p0)) F (nm : Int) cc ∧ (((nm : Int) ≤ a2 ∧ r = lI (-4000000000000000000)) ∨ ((0 ≤ a2 ∧ a2 < (nm : Int)) ∧ (a3 < 0 ∨ 1 < a3) ∧ r = lI (-4000000000000000001)) ∨ ((0 ≤ a2 ∧ a2 < (nm : Int)) ∧ (a3 = 0 ∨ a3 = 1) ∧ ∃ un ud : Int, FrP (cc a2.toNat) un ud ∧ r = lI (if a3 = 0 then un else ud)))))) (K1 D vwCl (TY cs) (AL L sz) L) (AL L sz)) 0 0 (AL L sz) := by
  refine Met.ofW (cc := prog_1_method_10_code) (maxL := 4) (ret := (Option.some Jvm.ClassFile.FieldType.long)) (by decide) rfl ?_
  intro p e s m args below meth c s₁ Bd hml hv
  obtain ⟨rfl, hk0⟩ := hv
  obtain ⟨hsz, B⟩ := hk0.start
  subst hsz
  have hx := Bd.exec
  have hb := Bd.bytes
  have hr := Bd.returns
  have hlocks := Bd.notSynchronized
  have hts0 := atoms_spec Bd.pre
  have hown : s.vm.findClass RX6 = some m.cls := findClass_of_methodNamed Bd.named
  have hA : ∀ q, s.heap.size ≤ q → AL L s.heap.size q := fun _ h => Or.inr h
  have hl := lv_entry ([.ref ((ad 0)), .int (iI ((p0 : Int))), .int (iI a2), .int (iI a3)]) (n := 4) (Nat.le_of_ble_eq_true rfl)
  rw [lg_entry_eq]
  generalize (lg_sl ([.ref ((ad 0)), .int (iI ((p0 : Int))), .int (iI a2), .int (iI a3)]) ++ List.replicate (4 - (lg_sl ([.ref ((ad 0)), .int (iI ((p0 : Int))), .int (iI a2), .int (iI a3)])).length) Slot.unset).toArray = ls at hl ⊢
  refine absQ (fun Q R av hQ hR hav => ?_)
  have hts : ∀ w ∈ gw, w.before av s = true := by rw [hav]; exact fun w h => hts0 w (List.mem_cons_of_mem _ h)
  have hRf : R.frames = 7 := by rw [hR]; rfl
  have hRl : R.locals = 340 := by rw [hR]; rfl
  have hRc : R.cells = 0 := by rw [hR]; rfl
  have hRs : R.slots = 0 := by rw [hR]; rfl
  clear hR hts0 Bd
  have hl : lv_has ls 4 [(0, .ref ((ad 0))), (1, .int (iI ((p0 : Int)))), (2, .int (iI a2)), (3, .int (iI a3))] := hl
  have hfr : ∀ k, Awy ad k → f k = f k := fun _ _ => rfl
  have hG0 := hInv.1
  have hhd := hG0.1
  have hp0 : p0 < 12 := by omega
  have hVM := hG0.2.1 p0 hp0
  refine lv_iload_n hx hb d_RR_fraction_0 rfl (lv_at hl 2 rfl) ?_
  refine x_if_lt (tgt := 13) hx hb d_RR_fraction_1 (by decide) (by omega) (fun h1 => ?_) (fun h1 => ?_)
  · refine x_ldc2 (z := -4000000000000000000) hx hb hown (hts _ w_491) (by decide) d_RR_fraction_13 ?_
    subst hQ hav
    exact x_lret hx hb hr hlocks B d_RR_fraction_16 (⟨If, Af, Rf, Zf, hC, hfr, hInv, ⟨rfl, fun _ _ => rfl⟩, Or.inl ⟨by omega, rfl⟩⟩)
  · refine lv_iload_n hx hb d_RR_fraction_4 rfl (lv_at hl 2 rfl) ?_
    refine lv_aload_n hx hb d_RR_fraction_5 rfl (lv_at hl 0 rfl) ?_
    refine lv_iload_n hx hb d_RR_fraction_6 rfl (lv_at hl 1 rfl) ?_
    refine x_calli B hA (va_runV (As := [.int (iI ((p0 : Int)))]) (rest := [.int (iI a2)]) ⟨hx, hb, hml, hown, hts⟩ (c_RR_ready l D cs _ _ _ ad Qm If Af Rf Zf p0 hAd hC hInv.1 (hpk)) (cwV 1 hts (gw_V w_370 w_372 s_14 w_1 w_373) rfl rfl rfl (by decide +kernel) ⟨by rw [hRf]; exact Nat.le_of_ble_eq_true rfl, by rw [hRl]; exact Nat.le_of_ble_eq_true rfl⟩) ⟨K0.blind, B.recv (hAd.1 _ (by omega)) (hC.x) rfl, B.pre _⟩ rfl rfl hl.1 rfl (lv_room (Nat.le_of_ble_eq_true rfl)) d_RR_fraction_7 ⟨by rw [hRc]; omega, by rw [hRs]; omega⟩) (fun r7 g7 H locs hw B => ?_)
    obtain ⟨Iy, Ay, Ry, Zy, hCy, hqy, hGyy, hOyy, hryy, hsyy⟩ := hw
    have hfry : ∀ k, Awy ad k → g7 k = f k := fun k hk => (hqy k hk).trans (hfr k hk)
    have B : Wb D vwCl (TY cs) L g7 (AL L s.heap.size) s H _ := B
    have hInvy := hInv.rdy (by omega) (hpk) hGyy hOyy hsyy
    have hsvy := hOyy.sv (by omega)
    rcases hryy with ⟨hzy, rfl⟩ | ⟨hny, hsty, rfl⟩
    · refine x_icmp_lt (tgt := 17) hx hb d_RR_fraction_10 (by decide) (by omega) (by omega) (fun h10 => ?_) (fun h10 => ?_)
      · exfalso; omega
      · refine x_ldc2 (z := -4000000000000000000) hx hb hown (hts _ w_491) (by decide) d_RR_fraction_13 ?_
        subst hQ hav
        exact x_lret hx hb hr hlocks B d_RR_fraction_16 (⟨Iy, Ay, Ry, Zy, hCy, hfry, hInvy, hsvy, Or.inr (Or.inl ⟨hzy, rfl⟩)⟩)
    · obtain ⟨nmy, Ny, dpy, vy, hcry⟩ : ∃ nm N dp v, Crv Iy Ay p0 nm N dp v := by rcases hGyy.2.2 p0 (by omega) with h | ⟨_, h⟩; omega; exact h.crv
      have hVMy := hGyy.2.1 p0 (by omega)
      have hAVy := hsvy.2 p0 (by omega)
      obtain ⟨ccy, hLy, hz6y⟩ := free_laid hcry.1 hVMy hcry.2.1 hcry.2.2.2.2.1 hcry.2.2.2.2.2.1
      rw [hAVy] at hLy
      rw [hcry.2.2.1]
      have hnm5y := hcry.2.2.2.1
      refine x_icmp_lt (tgt := 17) hx hb d_RR_fraction_10 (by decide) (by omega) (by omega) (fun h10 => ?_) (fun h10 => ?_)
      · refine lv_iload_n hx hb d_RR_fraction_17 rfl (lv_at hl 3 rfl) ?_
        refine x_if_lt (tgt := 26) hx hb d_RR_fraction_18 (by decide) (by omega) (fun h18 => ?_) (fun h18 => ?_)
        · refine x_ldc2 (z := -4000000000000000001) hx hb hown (hts _ w_492) (by decide) d_RR_fraction_26 ?_
          subst hQ hav
          exact x_lret hx hb hr hlocks B d_RR_fraction_29 (⟨Iy, Ay, Ry, Zy, hCy, hfry, hInvy, hsvy, Or.inr (Or.inr ⟨hny, Ay (40 + p0), nmy, ccy, hLy, Or.inr (Or.inl ⟨by omega, by omega, rfl⟩)⟩)⟩)
        · refine lv_iload_n hx hb d_RR_fraction_21 rfl (lv_at hl 3 rfl) ?_
          refine x_iconst hx hb d_RR_fraction_22 ?_
          refine x_icmp_le (tgt := 30) hx hb d_RR_fraction_23 (by decide) (by omega) (by omega) (fun h23 => ?_) (fun h23 => ?_)
          · refine lv_aload_n hx hb d_RR_fraction_30 rfl (lv_at hl 0 rfl) ?_
            obtain ⟨ii, hii⟩ : ∃ ii : Nat, a2 = (ii : Int) := ⟨a2.toNat, by omega⟩
            subst hii
            refine lv_aload_n hx hb d_RR_fraction_31 rfl (lv_at hl 0 rfl) ?_
            refine x_get (C := RX6) (T := TX6) (N := 14) hx hb hts inX6 hown (B.foc1 (hCy.x)) (hAd.f1 (by omega)) 0 rfl rfl 0 (by decide) (hts _ w_197) (fun _ h9 => h9) rfl d_RR_fraction_32 ?_
            refine lv_iload_n hx hb d_RR_fraction_35 rfl (lv_at hl 1 rfl) ?_
            refine x_aald hx hb (B.foc1 (hCy.c0)) (hAd.f1 (by omega)) 0 4 rfl rfl p0 (by omega) (by omega) (by decide) (rfs_at (by omega)) d_RR_fraction_36 ?_
            refine lv_iload_n hx hb d_RR_fraction_37 rfl (lv_at hl 2 rfl) ?_
            refine x_callv B hA (va_runV (As := [.ref ((ad (15 + p0))), .int (iI ((ii : Int)))]) (rest := []) ⟨hx, hb, hml, hown, hts⟩ (c_RR_findFraction l D cs _ _ _ ad Qm Iy Ay Ry Zy p0 nmy ii Ny dpy vy (ccy ii) hAd hCy hp0 (by omega) hVMy hcry (hz6y ii (by omega))) (cwV 2 hts (gw_V w_505 w_507 s_22 w_1 w_508) rfl rfl rfl (by decide +kernel) ⟨by rw [hRf]; exact Nat.le_of_ble_eq_true rfl, by rw [hRl]; exact Nat.le_of_ble_eq_true rfl⟩) ⟨K0.blind, B.recv (hAd.1 _ (by omega)) (hCy.x) rfl, B.pre _⟩ rfl rfl hl.1 rfl (lv_room (Nat.le_of_ble_eq_true rfl)) d_RR_fraction_38 ⟨by rw [hRc]; omega, by rw [hRs]; omega⟩) (fun g38 H locs hw B => ?_)
            obtain ⟨Id, Ad, Rd, Zd, hCd, hqd, ⟨dd, vd, hcrd⟩, hFrd, hId6, hAdo⟩ := hw
            have hfrd : ∀ k, Awy ad k → g38 k = f k := fun k hk => (hqd k hk).trans (hfry k hk)
            have B : Wb D vwCl (TY cs) L g38 (AL L s.heap.size) s H _ := B
            have hKp : Kp Iy Ay Id Ad := ⟨fun i hi => hId6 i (by omega) (by omega) (by omega) (by omega), fun q hq => hAdo q (by omega) (by omega)⟩
            have hInvd : Inv Id Ad := hInvy.kp hKp (fun p hp _ hc => by
                by_cases c : p = p0
                · rw [c]; exact hcrd.ok
                · exact hc.congr hp (hAdo _ (by omega) (by omega)) (hAdo _ (by omega) (by omega)) (hId6 _ (by omega) (by omega) (by omega) (by omega)) (fun i hi => ⟨hId6 _ (by omega) (by omega) (by omega) (by omega), hId6 _ (by omega) (by omega) (by omega) (by omega), hAdo _ (by omega) (by omega)⟩))
            refine lv_iload_n hx hb d_RR_fraction_41 rfl (lv_at hl 3 rfl) ?_
            refine x_if_ne (tgt := 55) hx hb d_RR_fraction_42 (by decide) (by omega) (fun h42 => ?_) (fun h42 => ?_)
            · refine lv_aload_n hx hb d_RR_fraction_55 rfl (lv_at hl 0 rfl) ?_
              refine x_get (C := RX6) (T := TX6) (N := 14) hx hb hts inX6 hown (B.foc1 (hCd.x)) (hAd.f1 (by omega)) 0 rfl rfl 4 (by decide) (hts _ w_201) (fun _ h9 => h9) rfl d_RR_fraction_56 ?_
              refine x_get (C := RX4) (T := TX4) (N := 7) hx hb hts inX4 hown (B.foc1 (hCd.ra)) (hAd.f1 (by omega)) 0 rfl rfl 3 (by decide) (hts _ w_129) (fun _ h9 => h9) rfl d_RR_fraction_59 ?_
              subst hQ hav
              exact x_lret hx hb hr hlocks B d_RR_fraction_62 (⟨Id, Ad, Rd, Zd, hCd, hfrd, hInvd, hsvy.trans hKp.sv, Or.inr (Or.inr ⟨hny, Ay (40 + p0), nmy, ccy, hLy, Or.inr (Or.inr ⟨by omega, by omega, Id 7, Id 8, by rw [Int.toNat_natCast]; exact hFrd, by rw [if_neg (by omega)]⟩)⟩)⟩)
            · refine lv_aload_n hx hb d_RR_fraction_45 rfl (lv_at hl 0 rfl) ?_
              refine x_get (C := RX6) (T := TX6) (N := 14) hx hb hts inX6 hown (B.foc1 (hCd.x)) (hAd.f1 (by omega)) 0 rfl rfl 4 (by decide) (hts _ w_201) (fun _ h9 => h9) rfl d_RR_fraction_46 ?_
              refine x_get (C := RX4) (T := TX4) (N := 7) hx hb hts inX4 hown (B.foc1 (hCd.ra)) (hAd.f1 (by omega)) 0 rfl rfl 2 (by decide) (hts _ w_127) (fun _ h9 => h9) rfl d_RR_fraction_49 ?_
              refine lv_goto (tgt := 62) hx hb d_RR_fraction_52 (by decide) ?_
              subst hQ hav
              exact x_lret hx hb hr hlocks B d_RR_fraction_62 (⟨Id, Ad, Rd, Zd, hCd, hfrd, hInvd, hsvy.trans hKp.sv, Or.inr (Or.inr ⟨hny, Ay (40 + p0), nmy, ccy, hLy, Or.inr (Or.inr ⟨by omega, by omega, Id 7, Id 8, by rw [Int.toNat_natCast]; exact hFrd, by rw [if_pos (by omega)]⟩)⟩)⟩)
          · refine x_ldc2 (z := -4000000000000000001) hx hb hown (hts _ w_492) (by decide) d_RR_fraction_26 ?_
            subst hQ hav
            exact x_lret hx hb hr hlocks B d_RR_fraction_29 (⟨Iy, Ay, Ry, Zy, hCy, hfry, hInvy, hsvy, Or.inr (Or.inr ⟨hny, Ay (40 + p0), nmy, ccy, hLy, Or.inr (Or.inl ⟨by omega, by omega, rfl⟩)⟩)⟩)
      · refine x_ldc2 (z := -4000000000000000000) hx hb hown (hts _ w_491) (by decide) d_RR_fraction_13 ?_
        subst hQ hav
        exact x_lret hx hb hr hlocks B d_RR_fraction_16 (⟨Iy, Ay, Ry, Zy, hCy, hfry, hInvy, hsvy, Or.inr (Or.inr ⟨hny, Ay (40 + p0), nmy, ccy, hLy, Or.inl ⟨by omega, rfl⟩⟩)⟩)
/-! the bound, by the first and the last root -/
theorem clg_mod (c : Int) : clg c = if c % 2 ^ 256 = 0 then c / 2 ^ 256 else c / 2 ^ 256 + 1 := by
  have e1 := Int.mul_ediv_add_emod c (2 ^ 256)
  unfold clg
  have e4 : c / 2 ^ 256 * 2 ^ 256 = 2 ^ 256 * (c / 2 ^ 256) := Int.mul_comm _ _
  generalize (2 : Int) ^ 256 = Q at *
  generalize c / Q = s at *
  generalize c % Q = r at *
  by_cases k : r = 0
  · rw [if_pos (by omega), if_pos k]
  · rw [if_neg (by omega), if_neg k]
theorem fr_one {c n d : Int} (h : FrP c n d) : d = 1 ↔ c % 2 ^ 256 = 0 := by
  have hp : (1000 : Int) < 2 ^ 256 := by decide +kernel
  unfold FrP at h
  have e1 := Int.mul_ediv_add_emod c (2 ^ 256)
  have e2 := Int.emod_nonneg c (show (2 : Int) ^ 256 ≠ 0 by omega)
  have e3 := Int.emod_lt_of_pos c (show (0 : Int) < 2 ^ 256 by omega)
  generalize (2 : Int) ^ 256 = Q at *
  generalize c / Q = s at *
  generalize c % Q = r at *
  refine ⟨fun h1 => ?_, fun h1 => ?_⟩
  · rcases h with ⟨_, _, _, h2, h3⟩ | ⟨_, h2, _⟩
    · rw [h1, Int.mul_one] at h2 h3
      have h5 : Q * (n - s) = r := by rw [Int.mul_sub]; have : n * Q = Q * n := Int.mul_comm _ _; omega
      rcases Int.lt_trichotomy (n - s) 0 with k | k | k
      · have := Int.mul_le_mul_of_nonneg_left (show n - s ≤ -1 by omega) (show 0 ≤ Q by omega); omega
      · rw [k] at h5; omega
      · have := Int.mul_le_mul_of_nonneg_left (show 1 ≤ n - s by omega) (show 0 ≤ Q by omega); omega
    · omega
  · have e6 : c = Q * s := by omega
    have e7 : s * Q = Q * s := Int.mul_comm _ _
    rcases h with ⟨a1, a2, a3, a4, a5⟩ | ⟨_, _, h2⟩
    · rw [e6] at a4 a5
      have b1 : Q * (n - s * d) = n * Q - Q * s * d := by grind
      have b2 : (Q * s + 1) * d = Q * s * d + d := by grind
      have k0 : n - s * d = 0 := by
        rcases Int.lt_trichotomy (n - s * d) 0 with k | k | k
        · have := Int.mul_le_mul_of_nonneg_left (show n - s * d ≤ -1 by omega) (show 0 ≤ Q by omega); omega
        · exact k
        · have := Int.mul_le_mul_of_nonneg_left (show 1 ≤ n - s * d by omega) (show 0 ≤ Q by omega); omega
      have k1 : n = s * d := by omega
      have k2 : d.natAbs ∣ Nat.gcd n.natAbs d.natAbs := Nat.dvd_gcd (by rw [k1, Int.natAbs_mul]; exact Nat.dvd_mul_left _ _) (Nat.dvd_refl _)
      rw [a3] at k2
      have := Nat.le_of_dvd (by decide) k2
      omega
    · exfalso
      exact h2 s 1 (by decide) (by decide) ⟨by omega, by omega⟩
theorem cells_up {F : Nat → Int} {N : Rat → Int} {nm : Nat} {c : Nat → Int} (hN : NB F N) (hF : Sqf F) (h : ∀ i : Nat, i < nm → Cell N (i : Int) (c i) 256) : ∀ a b, a ≤ b → b < nm → c a ≤ c b := fun a b hab hb => by
  rcases Int.lt_or_le (c b) (c a) with k | k
  · exfalso
    have h1 := hN.mono hF (Pt_le (b := 256) (show c b + 1 ≤ c a by omega))
    have h2 := (h a (by omega)).2.1
    have h3 := (h b hb).2.2
    have h4 : a = b ∨ a < b := by omega
    rcases h4 with h4 | h4
    · rw [h4] at k; omega
    · omega
  · exact k
theorem cell_whole {F : Nat → Int} {N : Rat → Int} {i z v wh : Int} {d : Nat} {wd : Nat → Int} (hN : NB F N) (hF : Sqf F) (hz : Cell N i z 256) (hp : Pl wh d wd v) (h : Cell N i v d) : wh = z / 2 ^ 256 := by
  have h1 := Cell.pre hN hF hz hp.1 h
  have h2 := hp.scl (b := 0) (by omega) (by omega)
  have w0 := hp.2.1 0 (by decide)
  have w1 := hp.2.1 1 (by decide)
  rw [h1, ← div_pow_add, show 256 - d + (d - 0) = 256 by have := hp.1; omega] at h2
  rw [← h2, Int.pow_zero]
  have : (wd 0 * 2147483648 + wd 1) / 2 ^ (62 - 0) = 0 := Int.ediv_eq_zero_of_lt (by omega) (by rw [show (2 : Int) ^ (62 - 0) = 4611686018427387904 from rfl]; omega)
  rw [this]
  omega
theorem clg_mono {a b : Int} (h : a ≤ b) : clg a ≤ clg b ∧ -(b / 2 ^ 256) ≤ -(a / 2 ^ 256) := by
  rw [clg_mod, clg_mod]
  have hp : (1000 : Int) < 2 ^ 256 := by decide +kernel
  have e1 := Int.mul_ediv_add_emod a (2 ^ 256)
  have e2 := Int.emod_nonneg a (show (2 : Int) ^ 256 ≠ 0 by omega)
  have e3 := Int.emod_lt_of_pos a (show (0 : Int) < 2 ^ 256 by omega)
  have f1 := Int.mul_ediv_add_emod b (2 ^ 256)
  have f2 := Int.emod_nonneg b (show (2 : Int) ^ 256 ≠ 0 by omega)
  have f3 := Int.emod_lt_of_pos b (show (0 : Int) < 2 ^ 256 by omega)
  generalize (2 : Int) ^ 256 = Q at *
  generalize a / Q = s at *
  generalize a % Q = r at *
  generalize b / Q = s' at *
  generalize b % Q = r' at *
  have k1 : s ≤ s' := by
    rcases Int.lt_or_le s' s with k | k
    · exfalso
      have := Int.mul_le_mul_of_nonneg_left (show s' + 1 ≤ s by omega) (show 0 ≤ Q by omega)
      have k2 : Q * (s' + 1) = Q * s' + Q := by grind
      omega
    · exact k
  refine ⟨?_, by omega⟩
  by_cases c1 : r = 0
  · rw [if_pos c1]; split <;> omega
  · rw [if_neg c1]
    by_cases c2 : r' = 0
    · rw [if_pos c2]
      rcases Int.lt_or_le s s' with k | k
      · omega
      · exfalso
        have k3 : s = s' := by omega
        rw [k3] at e1
        omega
    · rw [if_neg c2]; omega
theorem mx_max (a b : Int) : mx a b = max a b := by
  unfold mx
  split <;> omega
theorem bnd_ends {c : Nat → Int} {nm : Nat} (h : ∀ a b, a ≤ b → b < nm → c a ≤ c b) : ∀ k, k + 1 ≤ nm → bnd c (k + 1) = max (-(c 0 / 2 ^ 256)) (max (clg (c k)) 0)
  | 0, _ => by
    rw [bnd, bnd, mx_max, mx_max]
    omega
  | k + 1, hk => by
    rw [bnd, bnd_ends h k (by omega), mx_max, mx_max]
    have h1 := clg_mono (h k (k + 1) (by omega) (by omega))
    have h2 := clg_mono (h 0 (k + 1) (by omega) (by omega))
    omega
set_option maxHeartbeats 8000000 in
set_option maxRecDepth 100000 in
theorem c_RR_bound_k (l : Launch) (D : va_G) (cs : Nat → ClassId) (L : List Nat) (f : Nat → va_E) (sz : Nat) (ad Qm : Nat → Nat) (If : Nat → Int) (Af : Nat → Nat → Int) (Rf : Nat → Nat) (Zf : Nat → Int) (p0 : Nat) (hAd : AdOk L ad Qm) (hC : CSt cs ad Qm f If Af Rf Zf) (hInv : Inv If Af) (hpk : (p0 : Int) < If 0) : Met l (⟨"RealRoots", "bound", "(I)I"⟩ : MethodName) (.code (⟨"RealRoots", "bound", "(I)I"⟩ : MethodName) prog_1_method_19_code 6 (Option.some Jvm.ClassFile.FieldType.int) :: gw) ({ frames := 7, cells := 0, slots := 0, locals := 340 }) (va_Pc [.ref ((ad 0)), .int (iI ((p0 : Int)))] (K0 D vwCl (TY cs) L f sz)) (va_Qi (fun (r : Int32) (g : Nat → va_E) => ∃ (I' : Nat → Int) (A' : Nat → Nat → Int) (R' : Nat → Nat) (Z' : Nat → Int), CSt cs ad Qm g I' A' R' Z' ∧ (∀ k, Awy ad k → g k = f k) ∧ Inv I' A' ∧ SameV If Af I' A' ∧ (((∀ j, j < 6 → Af (20 + p0) j = 0) ∧ r = iI (-3)) ∨ (Nz (Af (20 + p0)) ∧ ∃ (F : Nat → Int) (nm : Nat) (cc : Nat → Int), Laid (Af (20 + p0)) F (nm : Int) cc ∧ r = iI (bnd cc nm)))) (K1 D vwCl (TY cs) (AL L sz) L) (AL L sz)) 0 0 (AL L sz) := by
  refine Met.ofW (cc := prog_1_method_19_code) (maxL := 6) (ret := (Option.some Jvm.ClassFile.FieldType.int)) (by decide) rfl ?_
  intro p e s m args below meth c s₁ Bd hml hv
  obtain ⟨rfl, hk0⟩ := hv
  obtain ⟨hsz, B⟩ := hk0.start
  subst hsz
  have hx := Bd.exec
  have hb := Bd.bytes
  have hr := Bd.returns
  have hlocks := Bd.notSynchronized
  have hts0 := atoms_spec Bd.pre
  have hown : s.vm.findClass RX6 = some m.cls := findClass_of_methodNamed Bd.named
  have hA : ∀ q, s.heap.size ≤ q → AL L s.heap.size q := fun _ h => Or.inr h
  have hl := lv_entry ([.ref ((ad 0)), .int (iI ((p0 : Int)))]) (n := 6) (Nat.le_of_ble_eq_true rfl)
  rw [lg_entry_eq]
  generalize (lg_sl ([.ref ((ad 0)), .int (iI ((p0 : Int)))]) ++ List.replicate (6 - (lg_sl ([.ref ((ad 0)), .int (iI ((p0 : Int)))])).length) Slot.unset).toArray = ls at hl ⊢
  refine absQ (fun Q R av hQ hR hav => ?_)
  have hts : ∀ w ∈ gw, w.before av s = true := by rw [hav]; exact fun w h => hts0 w (List.mem_cons_of_mem _ h)
  have hRf : R.frames = 7 := by rw [hR]; rfl
  have hRl : R.locals = 340 := by rw [hR]; rfl
  have hRc : R.cells = 0 := by rw [hR]; rfl
  have hRs : R.slots = 0 := by rw [hR]; rfl
  clear hR hts0 Bd
  have hl : lv_has ls 6 [(0, .ref ((ad 0))), (1, .int (iI ((p0 : Int))))] := hl
  have hfr : ∀ k, Awy ad k → f k = f k := fun _ _ => rfl
  have hG0 := hInv.1
  have hhd := hG0.1
  have hp0 : p0 < 12 := by omega
  have hVM := hG0.2.1 p0 hp0
  refine lv_aload_n hx hb d_RR_bound_0 rfl (lv_at hl 0 rfl) ?_
  refine lv_iload_n hx hb d_RR_bound_1 rfl (lv_at hl 1 rfl) ?_
  refine x_calli B hA (va_runV (As := [.int (iI ((p0 : Int)))]) (rest := []) ⟨hx, hb, hml, hown, hts⟩ (c_RR_unknown l D cs _ _ _ (ad 0) (ad 1) (ad 2) (ad 5) (ad 7) (ad 8) (ad 9) (ad 10) (ad 11) (ad 12) (ad 13) (ad 14) (If 0) (If 1) (If 2) ((p0 : Int)) (hAd.f1 (by decide)) hC.x (hhd) (by omega)) (cwV 1 hts (gw_V w_261 w_263 s_3 w_1 w_264) rfl rfl rfl (by decide +kernel) ⟨by rw [hRf]; exact Nat.le_of_ble_eq_true rfl, by rw [hRl]; exact Nat.le_of_ble_eq_true rfl⟩) ⟨K0.blind, B.recv (hAd.1 _ (by omega)) (hC.x) rfl, B.pre _⟩ rfl rfl hl.1 rfl (lv_room (Nat.le_of_ble_eq_true rfl)) d_RR_bound_2 ⟨by rw [hRc]; omega, by rw [hRs]; omega⟩) (fun r2 g2 H locs hw B => ?_)
  obtain ⟨rfl, hgf⟩ := hw
  rw [hgf] at B
  rw [if_neg (by omega)]
  refine x_if_eq (tgt := 10) hx hb d_RR_bound_5 (by decide) (by omega) (fun h5 => ?_) (fun h5 => ?_)
  · refine lv_aload_n hx hb d_RR_bound_10 rfl (lv_at hl 0 rfl) ?_
    refine lv_iload_n hx hb d_RR_bound_11 rfl (lv_at hl 1 rfl) ?_
    refine x_calli B hA (va_runV (As := [.int (iI ((p0 : Int)))]) (rest := []) ⟨hx, hb, hml, hown, hts⟩ (c_RR_ready l D cs _ _ _ ad Qm If Af Rf Zf p0 hAd hC hInv.1 (hpk)) (cwV 1 hts (gw_V w_370 w_372 s_14 w_1 w_373) rfl rfl rfl (by decide +kernel) ⟨by rw [hRf]; exact Nat.le_of_ble_eq_true rfl, by rw [hRl]; exact Nat.le_of_ble_eq_true rfl⟩) ⟨K0.blind, B.recv (hAd.1 _ (by omega)) (hC.x) rfl, B.pre _⟩ rfl rfl hl.1 rfl (lv_room (Nat.le_of_ble_eq_true rfl)) d_RR_bound_12 ⟨by rw [hRc]; omega, by rw [hRs]; omega⟩) (fun r12 g12 H locs hw B => ?_)
    obtain ⟨Iy, Ay, Ry, Zy, hCy, hqy, hGyy, hOyy, hryy, hsyy⟩ := hw
    have hfry : ∀ k, Awy ad k → g12 k = f k := fun k hk => (hqy k hk).trans (hfr k hk)
    have B : Wb D vwCl (TY cs) L g12 (AL L s.heap.size) s H _ := B
    have hInvy := hInv.rdy (by omega) (hpk) hGyy hOyy hsyy
    have hsvy := hOyy.sv (by omega)
    rcases hryy with ⟨hzy, rfl⟩ | ⟨hny, hsty, rfl⟩
    · refine lv_istore_n (lv' := [(2, .int (iI (-1))), (0, .ref ((ad 0))), (1, .int (iI ((p0 : Int))))]) hx hb d_RR_bound_15 rfl hl (by decide) rfl (fun ls hl => ?_)
      refine lv_iload_n hx hb d_RR_bound_16 rfl (lv_at hl 0 rfl) ?_
      refine x_iconst hx hb d_RR_bound_17 ?_
      refine x_icmp_ne (tgt := 24) hx hb d_RR_bound_18 (by decide) (by omega) (by omega) (fun h18 => ?_) (fun h18 => ?_)
      · exfalso; omega
      · refine x_bipush hx hb d_RR_bound_21 (by decide) ?_
        subst hQ hav
        exact x_iret hx hb hr hlocks B d_RR_bound_23 (⟨Iy, Ay, Ry, Zy, hCy, hfry, hInvy, hsvy, Or.inl ⟨hzy, rfl⟩⟩)
    · obtain ⟨nmy, Ny, dpy, vy, hcry⟩ : ∃ nm N dp v, Crv Iy Ay p0 nm N dp v := by rcases hGyy.2.2 p0 (by omega) with h | ⟨_, h⟩; omega; exact h.crv
      have hVMy := hGyy.2.1 p0 (by omega)
      have hAVy := hsvy.2 p0 (by omega)
      obtain ⟨ccy, hLy, hz6y⟩ := free_laid hcry.1 hVMy hcry.2.1 hcry.2.2.2.2.1 hcry.2.2.2.2.2.1
      rw [hAVy] at hLy
      rw [hcry.2.2.1]
      have hnm5y := hcry.2.2.2.1
      refine lv_istore_n (lv' := [(2, .int (iI ((nmy : Int)))), (0, .ref ((ad 0))), (1, .int (iI ((p0 : Int))))]) hx hb d_RR_bound_15 rfl hl (by decide) rfl (fun ls hl => ?_)
      refine lv_iload_n hx hb d_RR_bound_16 rfl (lv_at hl 0 rfl) ?_
      refine x_iconst hx hb d_RR_bound_17 ?_
      refine x_icmp_ne (tgt := 24) hx hb d_RR_bound_18 (by decide) (by omega) (by omega) (fun h18 => ?_) (fun h18 => ?_)
      · refine lv_iload_n hx hb d_RR_bound_24 rfl (lv_at hl 0 rfl) ?_
        refine x_if_ne (tgt := 30) hx hb d_RR_bound_25 (by decide) (by omega) (fun h25 => ?_) (fun h25 => ?_)
        · obtain ⟨kl, hkl⟩ : ∃ kl : Nat, nmy = kl + 1 := ⟨nmy - 1, by omega⟩
          obtain ⟨⟨p1y, hPty⟩, _⟩ := hcry.part hVMy
          have hSqy := hPty.2.2.1
          refine lv_aload_n hx hb d_RR_bound_30 rfl (lv_at hl 1 rfl) ?_
          refine x_get (C := RX6) (T := TX6) (N := 14) hx hb hts inX6 hown (B.foc1 (hCy.x)) (hAd.f1 (by omega)) 0 rfl rfl 0 (by decide) (hts _ w_197) (fun _ h9 => h9) rfl d_RR_bound_31 ?_
          refine lv_iload_n hx hb d_RR_bound_34 rfl (lv_at hl 2 rfl) ?_
          refine x_aald hx hb (B.foc1 (hCy.c0)) (hAd.f1 (by omega)) 0 4 rfl rfl p0 (by omega) (by omega) (by decide) (rfs_at (by omega)) d_RR_bound_35 ?_
          refine lv_astore_n (lv' := [(3, .ref ((ad (15 + p0)))), (2, .int (iI ((nmy : Int)))), (0, .ref ((ad 0))), (1, .int (iI ((p0 : Int))))]) hx hb d_RR_bound_36 rfl hl (by decide) rfl (fun ls hl => ?_)
          refine lv_aload_n hx hb d_RR_bound_37 rfl (lv_at hl 2 rfl) ?_
          refine lv_aload_n hx hb d_RR_bound_38 rfl (lv_at hl 0 rfl) ?_
          refine lv_iload_n hx hb d_RR_bound_39 rfl (lv_at hl 1 rfl) ?_
          refine x_iconst hx hb d_RR_bound_40 ?_
          refine x_isub hx hb d_RR_bound_41 ?_
          rw [show ((nmy : Int)) - 1 = (kl : Int) by omega]
          refine x_callv B hA (va_runV (As := [.ref ((ad (15 + p0))), .int (iI ((kl : Int)))]) (rest := []) ⟨hx, hb, hml, hown, hts⟩ (c_RR_findFraction l D cs _ _ _ ad Qm Iy Ay Ry Zy p0 nmy kl Ny dpy vy (ccy kl) hAd hCy hp0 (by omega) hVMy hcry (hz6y kl (by omega))) (cwV 2 hts (gw_V w_505 w_507 s_22 w_1 w_508) rfl rfl rfl (by decide +kernel) ⟨by rw [hRf]; exact Nat.le_of_ble_eq_true rfl, by rw [hRl]; exact Nat.le_of_ble_eq_true rfl⟩) ⟨K0.blind, B.recv (hAd.1 _ (by omega)) (hCy.x) rfl, B.pre _⟩ rfl rfl hl.1 rfl (lv_room (Nat.le_of_ble_eq_true rfl)) d_RR_bound_42 ⟨by rw [hRc]; omega, by rw [hRs]; omega⟩) (fun g42 H locs hw B => ?_)
          obtain ⟨Id, Ad, Rd, Zd, hCd, hqd, ⟨dd, vd, hcrd⟩, hFrd, hId6, hAdo⟩ := hw
          have hfrd : ∀ k, Awy ad k → g42 k = f k := fun k hk => (hqd k hk).trans (hfry k hk)
          have B : Wb D vwCl (TY cs) L g42 (AL L s.heap.size) s H _ := B
          have hKp : Kp Iy Ay Id Ad := ⟨fun i hi => hId6 i (by omega) (by omega) (by omega) (by omega), fun q hq => hAdo q (by omega) (by omega)⟩
          have hInvd : Inv Id Ad := hInvy.kp hKp (fun p hp _ hc => by
              by_cases c : p = p0
              · rw [c]; exact hcrd.ok
              · exact hc.congr hp (hAdo _ (by omega) (by omega)) (hAdo _ (by omega) (by omega)) (hId6 _ (by omega) (by omega) (by omega) (by omega)) (fun i hi => ⟨hId6 _ (by omega) (by omega) (by omega) (by omega), hId6 _ (by omega) (by omega) (by omega) (by omega), hAdo _ (by omega) (by omega)⟩))
          have hpa := hcrd.2.2.2.2.2.2.1 0 (by omega)
          have hpb := hcrd.2.2.2.2.2.2.1 kl (by omega)
          have hwa := hpa.2.1.whr hpa.2.2.1
          have hwb := hpb.2.1.whr hpb.2.2.1
          have hfa : Id (100 + (5 * p0 + 0)) = ccy 0 / 2 ^ 256 := cell_whole hcry.2.2.2.2.1 hSqy (hz6y 0 (by omega)) hpa.2.1 hpa.2.2
          have hfb : Id (100 + (5 * p0 + kl)) = ccy kl / 2 ^ 256 := cell_whole hcry.2.2.2.2.1 hSqy (hz6y kl (by omega)) hpb.2.1 hpb.2.2
          have hfr1 := fr_one hFrd
          have hI8r : 0 ≤ Id 8 ∧ Id 8 ≤ 1000 := by rcases hFrd with ⟨h, h2, _⟩ | ⟨_, h, _⟩ <;> omega
          refine lv_aload_n hx hb d_RR_bound_45 rfl (lv_at hl 0 rfl) ?_
          refine x_get (C := RX2) (T := TX2) (N := 5) hx hb hts inX2 hown (B.foc1 (hCd.cu (p := p0) (by omega))) (hAd.f1 (by omega)) 0 rfl rfl 2 (by decide) (hts _ w_181) (fun _ h9 => h9) rfl d_RR_bound_46 ?_
          refine x_iconst hx hb d_RR_bound_49 ?_
          refine x_aald hx hb (B.foc1 (hCd.pa (p := p0) (by omega))) (hAd.f1 (by omega)) 0 5 rfl rfl 0 (by omega) (by omega) (by decide) (rfs_at (by omega)) d_RR_bound_50 ?_
          refine x_get (C := RX3) (T := TX3) (N := 3) hx hb hts inX3 hown (B.foc1 (hCd.pl (m := (5 * p0 + 0)) (by omega))) (hAd.f1 (by omega)) 0 rfl rfl 0 (by decide) (hts _ w_162) (fun _ h9 => h9) rfl d_RR_bound_51 ?_
          refine x_ineg hx hb d_RR_bound_54 ?_
          refine lv_istore (lv' := [(4, .int (iI (-(Id (100 + (5 * p0 + 0)))))), (3, .ref ((ad (15 + p0)))), (2, .int (iI ((nmy : Int)))), (0, .ref ((ad 0))), (1, .int (iI ((p0 : Int))))]) hx hb d_RR_bound_55 hl (by decide) rfl (fun ls hl => ?_)
          refine lv_aload_n hx hb d_RR_bound_57 rfl (lv_at hl 1 rfl) ?_
          refine x_get (C := RX2) (T := TX2) (N := 5) hx hb hts inX2 hown (B.foc1 (hCd.cu (p := p0) (by omega))) (hAd.f1 (by omega)) 0 rfl rfl 2 (by decide) (hts _ w_181) (fun _ h9 => h9) rfl d_RR_bound_58 ?_
          refine lv_iload_n hx hb d_RR_bound_61 rfl (lv_at hl 2 rfl) ?_
          refine x_iconst hx hb d_RR_bound_62 ?_
          refine x_isub hx hb d_RR_bound_63 ?_
          refine x_aald hx hb (B.foc1 (hCd.pa (p := p0) (by omega))) (hAd.f1 (by omega)) 0 5 rfl rfl kl (by omega) (by omega) (by decide) (rfs_at (by omega)) d_RR_bound_64 ?_
          refine x_get (C := RX3) (T := TX3) (N := 3) hx hb hts inX3 hown (B.foc1 (hCd.pl (m := (5 * p0 + kl)) (by omega))) (hAd.f1 (by omega)) 0 rfl rfl 0 (by decide) (hts _ w_162) (fun _ h9 => h9) rfl d_RR_bound_65 ?_
          refine lv_aload_n hx hb d_RR_bound_68 rfl (lv_at hl 3 rfl) ?_
          refine x_get (C := RX6) (T := TX6) (N := 14) hx hb hts inX6 hown (B.foc1 (hCd.x)) (hAd.f1 (by omega)) 0 rfl rfl 4 (by decide) (hts _ w_201) (fun _ h9 => h9) rfl d_RR_bound_69 ?_
          refine x_get (C := RX4) (T := TX4) (N := 7) hx hb hts inX4 hown (B.foc1 (hCd.ra)) (hAd.f1 (by omega)) 0 rfl rfl 3 (by decide) (hts _ w_129) (fun _ h9 => h9) rfl d_RR_bound_72 ?_
          refine x_lconst (z := 1) hx hb d_RR_bound_75 (by decide) ?_
          refine x_lc_ne (tgt := 84) hx hb d_RR_bound_76 rfl d_RR_bound_77 (by decide) (by omega) (by omega) (fun h77 => ?_) (fun h77 => ?_)
          · refine x_iconst hx hb d_RR_bound_84 ?_
            refine x_iadd hx hb d_RR_bound_85 ?_
            refine lv_istore (lv' := [(5, .int (iI ((Id (100 + (5 * p0 + kl))) + 1))), (4, .int (iI (-(Id (100 + (5 * p0 + 0)))))), (3, .ref ((ad (15 + p0)))), (2, .int (iI ((nmy : Int)))), (0, .ref ((ad 0))), (1, .int (iI ((p0 : Int))))]) hx hb d_RR_bound_86 hl (by decide) rfl (fun ls hl => ?_)
            refine lv_iload hx hb d_RR_bound_88 (lv_at hl 1 rfl) ?_
            refine lv_iload hx hb d_RR_bound_90 (lv_at hl 0 rfl) ?_
            refine x_iconst hx hb d_RR_bound_92 ?_
            refine x_calli B hA (va_runS (As := [.int (iI ((Id (100 + (5 * p0 + kl))) + 1)), .int (iI 0)]) (rest := [.int (iI (-(Id (100 + (5 * p0 + 0)))))]) ⟨hx, hb, hml, hown, hts⟩ (c_Math_max l D cs _ _ _ ((Id (100 + (5 * p0 + kl))) + 1) 0 (by omega) (by omega)) (va_cwS 2 hts (gw_S w_382 w_383 w_9 w_384) rfl rfl rfl (by decide +kernel) ⟨by rw [hRf]; exact Nat.le_of_ble_eq_true rfl, by rw [hRl]; exact Nat.le_of_ble_eq_true rfl⟩) ⟨K0.blind, B.pre _⟩ rfl rfl hl.1 rfl (lv_room (Nat.le_of_ble_eq_true rfl)) d_RR_bound_93 ⟨by rw [hRc]; omega, by rw [hRs]; omega⟩) (fun r93 g93 H locs hw B => ?_)
            obtain ⟨rfl, hgf⟩ := hw
            rw [hgf] at B
            refine x_calli B hA (va_runS (As := [.int (iI (-(Id (100 + (5 * p0 + 0))))), .int (iI (max ((Id (100 + (5 * p0 + kl))) + 1) 0))]) (rest := []) ⟨hx, hb, hml, hown, hts⟩ (c_Math_max l D cs _ _ _ (-(Id (100 + (5 * p0 + 0)))) (max ((Id (100 + (5 * p0 + kl))) + 1) 0) (by omega) (by omega)) (va_cwS 2 hts (gw_S w_382 w_383 w_9 w_384) rfl rfl rfl (by decide +kernel) ⟨by rw [hRf]; exact Nat.le_of_ble_eq_true rfl, by rw [hRl]; exact Nat.le_of_ble_eq_true rfl⟩) ⟨K0.blind, B.pre _⟩ rfl rfl hl.1 rfl (lv_room (Nat.le_of_ble_eq_true rfl)) d_RR_bound_96 ⟨by rw [hRc]; omega, by rw [hRs]; omega⟩) (fun r96 g96 H locs hw B => ?_)
            obtain ⟨rfl, hgf⟩ := hw
            rw [hgf] at B
            subst hQ hav
            exact x_iret hx hb hr hlocks B d_RR_bound_99 (⟨Id, Ad, Rd, Zd, hCd, hfrd, hInvd, hsvy.trans hKp.sv, Or.inr ⟨hny, Ay (40 + p0), nmy, ccy, hLy, by rw [hkl, bnd_ends (cells_up hcry.2.2.2.2.1 hSqy hz6y) kl (by omega), hfa, hfb, clg_mod]; first | rw [if_pos (hfr1.mp (by omega)), Int.add_zero] | rw [if_neg (fun h => absurd (hfr1.mpr h) (by omega))]⟩⟩)
          · refine x_iconst hx hb d_RR_bound_80 ?_
            refine lv_goto (tgt := 85) hx hb d_RR_bound_81 (by decide) ?_
            refine x_iadd hx hb d_RR_bound_85 ?_
            refine lv_istore (lv' := [(5, .int (iI ((Id (100 + (5 * p0 + kl))) + 0))), (4, .int (iI (-(Id (100 + (5 * p0 + 0)))))), (3, .ref ((ad (15 + p0)))), (2, .int (iI ((nmy : Int)))), (0, .ref ((ad 0))), (1, .int (iI ((p0 : Int))))]) hx hb d_RR_bound_86 hl (by decide) rfl (fun ls hl => ?_)
            refine lv_iload hx hb d_RR_bound_88 (lv_at hl 1 rfl) ?_
            refine lv_iload hx hb d_RR_bound_90 (lv_at hl 0 rfl) ?_
            refine x_iconst hx hb d_RR_bound_92 ?_
            refine x_calli B hA (va_runS (As := [.int (iI ((Id (100 + (5 * p0 + kl))) + 0)), .int (iI 0)]) (rest := [.int (iI (-(Id (100 + (5 * p0 + 0)))))]) ⟨hx, hb, hml, hown, hts⟩ (c_Math_max l D cs _ _ _ ((Id (100 + (5 * p0 + kl))) + 0) 0 (by omega) (by omega)) (va_cwS 2 hts (gw_S w_382 w_383 w_9 w_384) rfl rfl rfl (by decide +kernel) ⟨by rw [hRf]; exact Nat.le_of_ble_eq_true rfl, by rw [hRl]; exact Nat.le_of_ble_eq_true rfl⟩) ⟨K0.blind, B.pre _⟩ rfl rfl hl.1 rfl (lv_room (Nat.le_of_ble_eq_true rfl)) d_RR_bound_93 ⟨by rw [hRc]; omega, by rw [hRs]; omega⟩) (fun r93 g93 H locs hw B => ?_)
            obtain ⟨rfl, hgf⟩ := hw
            rw [hgf] at B
            refine x_calli B hA (va_runS (As := [.int (iI (-(Id (100 + (5 * p0 + 0))))), .int (iI (max ((Id (100 + (5 * p0 + kl))) + 0) 0))]) (rest := []) ⟨hx, hb, hml, hown, hts⟩ (c_Math_max l D cs _ _ _ (-(Id (100 + (5 * p0 + 0)))) (max ((Id (100 + (5 * p0 + kl))) + 0) 0) (by omega) (by omega)) (va_cwS 2 hts (gw_S w_382 w_383 w_9 w_384) rfl rfl rfl (by decide +kernel) ⟨by rw [hRf]; exact Nat.le_of_ble_eq_true rfl, by rw [hRl]; exact Nat.le_of_ble_eq_true rfl⟩) ⟨K0.blind, B.pre _⟩ rfl rfl hl.1 rfl (lv_room (Nat.le_of_ble_eq_true rfl)) d_RR_bound_96 ⟨by rw [hRc]; omega, by rw [hRs]; omega⟩) (fun r96 g96 H locs hw B => ?_)
            obtain ⟨rfl, hgf⟩ := hw
            rw [hgf] at B
            subst hQ hav
            exact x_iret hx hb hr hlocks B d_RR_bound_99 (⟨Id, Ad, Rd, Zd, hCd, hfrd, hInvd, hsvy.trans hKp.sv, Or.inr ⟨hny, Ay (40 + p0), nmy, ccy, hLy, by rw [hkl, bnd_ends (cells_up hcry.2.2.2.2.1 hSqy hz6y) kl (by omega), hfa, hfb, clg_mod]; first | rw [if_pos (hfr1.mp (by omega)), Int.add_zero] | rw [if_neg (fun h => absurd (hfr1.mpr h) (by omega))]⟩⟩)
        · refine x_iconst hx hb d_RR_bound_28 ?_
          subst hQ hav
          exact x_iret hx hb hr hlocks B d_RR_bound_29 (⟨Iy, Ay, Ry, Zy, hCy, hfry, hInvy, hsvy, Or.inr ⟨hny, Ay (40 + p0), nmy, ccy, hLy, by rw [show nmy = 0 by omega]; rfl⟩⟩)
      · refine x_bipush hx hb d_RR_bound_21 (by decide) ?_
        subst hQ hav
        exact x_iret hx hb hr hlocks B d_RR_bound_23 (by exfalso; omega)
  · exfalso; omega
