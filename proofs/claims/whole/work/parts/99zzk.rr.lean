set_option maxHeartbeats 8000000 in
set_option maxRecDepth 100000 in
theorem c_RR_fraction_k (l : Launch) (D : va_G) (cs : Nat → ClassId) (L : List Nat) (f : Nat → va_E) (sz : Nat) (ad Qm : Nat → Nat) (If : Nat → Int) (Af : Nat → Nat → Int) (Rf : Nat → Nat) (Zf : Nat → Int) (p0 : Nat) (a2 a3 : Int) (hAd : AdOk L ad Qm) (hC : CSt cs ad Qm f If Af Rf Zf) (hInv : Inv If Af) (hpk : (p0 : Int) < If 0) (ha2 : -2147483648 ≤ a2 ∧ a2 < 2147483648) (ha3 : -2147483648 ≤ a3 ∧ a3 < 2147483648) : Met l (⟨"RealRoots", "fraction", "(III)J"⟩ : MethodName) (.code (⟨"RealRoots", "fraction", "(III)J"⟩ : MethodName) prog_1_method_10_code 4 (Option.some Jvm.ClassFile.FieldType.long) :: gw) ({ frames := 7, cells := 0, slots := 0, locals := 340 }) (va_Pc [.ref ((ad 0)), .int (iI ((p0 : Int))), .int (iI a2), .int (iI a3)] (K0 D vwCl (TY cs) L f sz)) (va_Ql (fun (r : Int64) (g : Nat → va_E) => ∃ (I' : Nat → Int) (A' : Nat → Nat → Int) (R' : Nat → Nat) (Z' : Nat → Int), CSt cs ad Qm g I' A' R' Z' ∧ (∀ k, Awy ad k → g k = f k) ∧ Inv I' A' ∧ SameV If Af I' A' ∧ ((a2 < 0 ∧ r = lI (-4000000000000000000)) ∨ ((∀ j, j < 6 → Af (20 + p0) j = 0) ∧ r = lI (-4000000000000000000)) ∨ (Nz (Af (20 + p0)) ∧ ∃ (F : Nat → Int) (nm : Nat) (cc : Nat → Int), Laid (Af (20 + p0)) F (nm : Int) cc ∧ (((nm : Int) ≤ a2 ∧ r = lI (-4000000000000000000)) ∨ ((0 ≤ a2 ∧ a2 < (nm : Int)) ∧ (a3 < 0 ∨ 1 < a3) ∧ r = lI (-4000000000000000001)) ∨ ((0 ≤ a2 ∧ a2 < (nm : Int)) ∧ (a3 = 0 ∨ a3 = 1) ∧ ∃ un ud : Int, FrP (cc a2.toNat) un ud ∧ r = lI (if a3 = 0 then un else ud)))))) (K1 D vwCl (TY cs) (AL L sz) L) (AL L sz)) 0 0 (AL L sz) := by
  refine Met.ofW (cc := prog_1_method_10_code) (maxL := 4) (ret := (Option.some Jvm.ClassFile.FieldType.long)) (by decide) rfl ?_
  intro p e s m args below meth c s₁ Bd hml hv
  obtain ⟨rfl, hk0⟩ := hv
  obtain ⟨hsz, B⟩ := hk0.start
  subst hsz
  have hx := Bd.exec
  have hb := Bd.bytes
  have hr := Bd.returns
  have hlocks := Bd.notSynchronized
  have hts0 := atoms_spec Bd.pre
  have hown : s.vm.findClass RX6 = some m.cls := findClass_of_methodNamed Bd.named
  have hA : ∀ q, s.heap.size ≤ q → AL L s.heap.size q := fun _ h => Or.inr h
  have hl := lv_entry ([.ref ((ad 0)), .int (iI ((p0 : Int))), .int (iI a2), .int (iI a3)]) (n := 4) (Nat.le_of_ble_eq_true rfl)
  rw [lg_entry_eq]
  generalize (lg_sl ([.ref ((ad 0)), .int (iI ((p0 : Int))), .int (iI a2), .int (iI a3)]) ++ List.replicate (4 - (lg_sl ([.ref ((ad 0)), .int (iI ((p0 : Int))), .int (iI a2), .int (iI a3)])).length) Slot.unset).toArray = ls at hl ⊢
  refine absQ (fun Q R av hQ hR hav => ?_)
  have hts : ∀ w ∈ gw, w.before av s = true := by rw [hav]; exact fun w h => hts0 w (List.mem_cons_of_mem _ h)
  have hRf : R.frames = 7 := by rw [hR]; rfl
  have hRl : R.locals = 340 := by rw [hR]; rfl
  have hRc : R.cells = 0 := by rw [hR]; rfl
  have hRs : R.slots = 0 := by rw [hR]; rfl
  clear hR hts0 Bd
  have hl : lv_has ls 4 [(0, .ref ((ad 0))), (1, .int (iI ((p0 : Int)))), (2, .int (iI a2)), (3, .int (iI a3))] := hl
  have hfr : ∀ k, Awy ad k → f k = f k := fun _ _ => rfl
  have hG0 := hInv.1
  have hhd := hG0.1
  have hp0 : p0 < 12 := by omega
  have hVM := hG0.2.1 p0 hp0
  refine lv_iload_n hx hb d_RR_fraction_0 rfl (lv_at hl 2 rfl) ?_
  refine x_if_lt (tgt := 13) hx hb d_RR_fraction_1 (by decide) (by omega) (fun h1 => ?_) (fun h1 => ?_)
  · refine x_ldc2 (z := -4000000000000000000) hx hb hown (hts _ w_491) (by decide) d_RR_fraction_13 ?_
    subst hQ hav
    exact x_lret hx hb hr hlocks B d_RR_fraction_16 (⟨If, Af, Rf, Zf, hC, hfr, hInv, ⟨rfl, fun _ _ => rfl⟩, Or.inl ⟨by omega, rfl⟩⟩)
  · refine lv_iload_n hx hb d_RR_fraction_4 rfl (lv_at hl 2 rfl) ?_
    refine lv_aload_n hx hb d_RR_fraction_5 rfl (lv_at hl 0 rfl) ?_
    refine lv_iload_n hx hb d_RR_fraction_6 rfl (lv_at hl 1 rfl) ?_
    refine x_calli B hA (va_runV (As := [.int (iI ((p0 : Int)))]) (rest := [.int (iI a2)]) ⟨hx, hb, hml, hown, hts⟩ (c_RR_ready l D cs _ _ _ ad Qm If Af Rf Zf p0 hAd hC hInv.1 (hpk)) (cwV 1 hts (gw_V w_370 w_372 s_14 w_1 w_373) rfl rfl rfl (by decide +kernel) ⟨by rw [hRf]; exact Nat.le_of_ble_eq_true rfl, by rw [hRl]; exact Nat.le_of_ble_eq_true rfl⟩) ⟨K0.blind, B.recv (hAd.1 _ (by omega)) (hC.x) rfl, B.pre _⟩ rfl rfl hl.1 rfl (lv_room (Nat.le_of_ble_eq_true rfl)) d_RR_fraction_7 ⟨by rw [hRc]; omega, by rw [hRs]; omega⟩) (fun r7 g7 H locs hw B => ?_)
    obtain ⟨Iy, Ay, Ry, Zy, hCy, hqy, hGyy, hOyy, hryy, hsyy⟩ := hw
    have hfry : ∀ k, Awy ad k → g7 k = f k := fun k hk => (hqy k hk).trans (hfr k hk)
    have B : Wb D vwCl (TY cs) L g7 (AL L s.heap.size) s H _ := B
    have hInvy := hInv.rdy (by omega) (hpk) hGyy hOyy hsyy
    have hsvy := hOyy.sv (by omega)
    rcases hryy with ⟨hzy, rfl⟩ | ⟨hny, hsty, rfl⟩
    · refine x_icmp_lt (tgt := 17) hx hb d_RR_fraction_10 (by decide) (by omega) (by omega) (fun h10 => ?_) (fun h10 => ?_)
      · exfalso; omega
      · refine x_ldc2 (z := -4000000000000000000) hx hb hown (hts _ w_491) (by decide) d_RR_fraction_13 ?_
        subst hQ hav
        exact x_lret hx hb hr hlocks B d_RR_fraction_16 (⟨Iy, Ay, Ry, Zy, hCy, hfry, hInvy, hsvy, Or.inr (Or.inl ⟨hzy, rfl⟩)⟩)
    · obtain ⟨nmy, Ny, dpy, vy, hcry⟩ : ∃ nm N dp v, Crv Iy Ay p0 nm N dp v := by rcases hGyy.2.2 p0 (by omega) with h | ⟨_, h⟩; omega; exact h.crv
      have hVMy := hGyy.2.1 p0 (by omega)
      have hAVy := hsvy.2 p0 (by omega)
      obtain ⟨ccy, hLy, hz6y⟩ := free_laid hcry.1 hVMy hcry.2.1 hcry.2.2.2.2.1 hcry.2.2.2.2.2.1
      rw [hAVy] at hLy
      rw [hcry.2.2.1]
      have hnm5y := hcry.2.2.2.1
      refine x_icmp_lt (tgt := 17) hx hb d_RR_fraction_10 (by decide) (by omega) (by omega) (fun h10 => ?_) (fun h10 => ?_)
      · refine lv_iload_n hx hb d_RR_fraction_17 rfl (lv_at hl 3 rfl) ?_
        refine x_if_lt (tgt := 26) hx hb d_RR_fraction_18 (by decide) (by omega) (fun h18 => ?_) (fun h18 => ?_)
        · refine x_ldc2 (z := -4000000000000000001) hx hb hown (hts _ w_492) (by decide) d_RR_fraction_26 ?_
          subst hQ hav
          exact x_lret hx hb hr hlocks B d_RR_fraction_29 (⟨Iy, Ay, Ry, Zy, hCy, hfry, hInvy, hsvy, Or.inr (Or.inr ⟨hny, Ay (40 + p0), nmy, ccy, hLy, Or.inr (Or.inl ⟨by omega, by omega, rfl⟩)⟩)⟩)
        · refine lv_iload_n hx hb d_RR_fraction_21 rfl (lv_at hl 3 rfl) ?_
          refine x_iconst hx hb d_RR_fraction_22 ?_
          refine x_icmp_le (tgt := 30) hx hb d_RR_fraction_23 (by decide) (by omega) (by omega) (fun h23 => ?_) (fun h23 => ?_)
          · refine lv_aload_n hx hb d_RR_fraction_30 rfl (lv_at hl 0 rfl) ?_
            obtain ⟨ii, hii⟩ : ∃ ii : Nat, a2 = (ii : Int) := ⟨a2.toNat, by omega⟩
            subst hii
            refine lv_aload_n hx hb d_RR_fraction_31 rfl (lv_at hl 0 rfl) ?_
            refine x_get (C := RX6) (T := TX6) (N := 14) hx hb hts inX6 hown (B.foc1 (hCy.x)) (hAd.f1 (by omega)) 0 rfl rfl 0 (by decide) (hts _ w_197) (fun _ h9 => h9) rfl d_RR_fraction_32 ?_
            refine lv_iload_n hx hb d_RR_fraction_35 rfl (lv_at hl 1 rfl) ?_
            refine x_aald hx hb (B.foc1 (hCy.c0)) (hAd.f1 (by omega)) 0 4 rfl rfl p0 (by omega) (by omega) (by decide) (rfs_at (by omega)) d_RR_fraction_36 ?_
            refine lv_iload_n hx hb d_RR_fraction_37 rfl (lv_at hl 2 rfl) ?_
            refine x_callv B hA (va_runV (As := [.ref ((ad (15 + p0))), .int (iI ((ii : Int)))]) (rest := []) ⟨hx, hb, hml, hown, hts⟩ (c_RR_findFraction l D cs _ _ _ ad Qm Iy Ay Ry Zy p0 nmy ii Ny dpy vy (ccy ii) hAd hCy hp0 (by omega) hVMy hcry (hz6y ii (by omega))) (cwV 2 hts (gw_V w_505 w_507 s_22 w_1 w_508) rfl rfl rfl (by decide +kernel) ⟨by rw [hRf]; exact Nat.le_of_ble_eq_true rfl, by rw [hRl]; exact Nat.le_of_ble_eq_true rfl⟩) ⟨K0.blind, B.recv (hAd.1 _ (by omega)) (hCy.x) rfl, B.pre _⟩ rfl rfl hl.1 rfl (lv_room (Nat.le_of_ble_eq_true rfl)) d_RR_fraction_38 ⟨by rw [hRc]; omega, by rw [hRs]; omega⟩) (fun g38 H locs hw B => ?_)
            obtain ⟨Id, Ad, Rd, Zd, hCd, hqd, ⟨dd, vd, hcrd⟩, hFrd, hId6, hAdo⟩ := hw
            have hfrd : ∀ k, Awy ad k → g38 k = f k := fun k hk => (hqd k hk).trans (hfry k hk)
            have B : Wb D vwCl (TY cs) L g38 (AL L s.heap.size) s H _ := B
            have hKp : Kp Iy Ay Id Ad := ⟨fun i hi => hId6 i (by omega) (by omega) (by omega) (by omega), fun q hq => hAdo q (by omega) (by omega)⟩
            have hInvd : Inv Id Ad := hInvy.kp hKp (fun p hp _ hc => by
                by_cases c : p = p0
                · rw [c]; exact hcrd.ok
                · exact hc.congr hp (hAdo _ (by omega) (by omega)) (hAdo _ (by omega) (by omega)) (hId6 _ (by omega) (by omega) (by omega) (by omega)) (fun i hi => ⟨hId6 _ (by omega) (by omega) (by omega) (by omega), hId6 _ (by omega) (by omega) (by omega) (by omega), hAdo _ (by omega) (by omega)⟩))
            refine lv_iload_n hx hb d_RR_fraction_41 rfl (lv_at hl 3 rfl) ?_
            refine x_if_ne (tgt := 55) hx hb d_RR_fraction_42 (by decide) (by omega) (fun h42 => ?_) (fun h42 => ?_)
            · refine lv_aload_n hx hb d_RR_fraction_55 rfl (lv_at hl 0 rfl) ?_
              refine x_get (C := RX6) (T := TX6) (N := 14) hx hb hts inX6 hown (B.foc1 (hCd.x)) (hAd.f1 (by omega)) 0 rfl rfl 4 (by decide) (hts _ w_201) (fun _ h9 => h9) rfl d_RR_fraction_56 ?_
              refine x_get (C := RX4) (T := TX4) (N := 7) hx hb hts inX4 hown (B.foc1 (hCd.ra)) (hAd.f1 (by omega)) 0 rfl rfl 3 (by decide) (hts _ w_129) (fun _ h9 => h9) rfl d_RR_fraction_59 ?_
              subst hQ hav
              exact x_lret hx hb hr hlocks B d_RR_fraction_62 (⟨Id, Ad, Rd, Zd, hCd, hfrd, hInvd, hsvy.trans hKp.sv, Or.inr (Or.inr ⟨hny, Ay (40 + p0), nmy, ccy, hLy, Or.inr (Or.inr ⟨by omega, by omega, Id 7, Id 8, by rw [Int.toNat_natCast]; exact hFrd, by rw [if_neg (by omega)]⟩)⟩)⟩)
            · refine lv_aload_n hx hb d_RR_fraction_45 rfl (lv_at hl 0 rfl) ?_
              refine x_get (C := RX6) (T := TX6) (N := 14) hx hb hts inX6 hown (B.foc1 (hCd.x)) (hAd.f1 (by omega)) 0 rfl rfl 4 (by decide) (hts _ w_201) (fun _ h9 => h9) rfl d_RR_fraction_46 ?_
              refine x_get (C := RX4) (T := TX4) (N := 7) hx hb hts inX4 hown (B.foc1 (hCd.ra)) (hAd.f1 (by omega)) 0 rfl rfl 2 (by decide) (hts _ w_127) (fun _ h9 => h9) rfl d_RR_fraction_49 ?_
              refine lv_goto (tgt := 62) hx hb d_RR_fraction_52 (by decide) ?_
              subst hQ hav
              exact x_lret hx hb hr hlocks B d_RR_fraction_62 (⟨Id, Ad, Rd, Zd, hCd, hfrd, hInvd, hsvy.trans hKp.sv, Or.inr (Or.inr ⟨hny, Ay (40 + p0), nmy, ccy, hLy, Or.inr (Or.inr ⟨by omega, by omega, Id 7, Id 8, by rw [Int.toNat_natCast]; exact hFrd, by rw [if_pos (by omega)]⟩)⟩)⟩)
          · refine x_ldc2 (z := -4000000000000000001) hx hb hown (hts _ w_492) (by decide) d_RR_fraction_26 ?_
            subst hQ hav
            exact x_lret hx hb hr hlocks B d_RR_fraction_29 (⟨Iy, Ay, Ry, Zy, hCy, hfry, hInvy, hsvy, Or.inr (Or.inr ⟨hny, Ay (40 + p0), nmy, ccy, hLy, Or.inr (Or.inl ⟨by omega, by omega, rfl⟩)⟩)⟩)
      · refine x_ldc2 (z := -4000000000000000000) hx hb hown (hts _ w_491) (by decide) d_RR_fraction_13 ?_
        subst hQ hav
        exact x_lret hx hb hr hlocks B d_RR_fraction_16 (⟨Iy, Ay, Ry, Zy, hCy, hfry, hInvy, hsvy, Or.inr (Or.inr ⟨hny, Ay (40 + p0), nmy, ccy, hLy, Or.inl ⟨by omega, rfl⟩⟩)⟩)
