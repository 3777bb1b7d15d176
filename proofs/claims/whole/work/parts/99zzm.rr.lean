set_option maxHeartbeats 8000000 in
set_option maxRecDepth 100000 in
theorem c_RR_times_k (l : Launch) (D : va_G) (cs : Nat → ClassId) (L : List Nat) (f : Nat → va_E) (sz : Nat) (ad Qm : Nat → Nat) (If : Nat → Int) (Af : Nat → Nat → Int) (Rf : Nat → Nat) (Zf : Nat → Int) (p0 : Nat) (a2 : Int) (hAd : AdOk L ad Qm) (hC : CSt cs ad Qm f If Af Rf Zf) (hInv : Inv If Af) (hpk : (p0 : Int) < If 0) (ha2 : -2147483648 ≤ a2 ∧ a2 < 2147483648) : Met l (⟨"RealRoots", "times", "(II)I"⟩ : MethodName) (.code (⟨"RealRoots", "times", "(II)I"⟩ : MethodName) prog_1_method_8_code 5 (Option.some Jvm.ClassFile.FieldType.int) :: gw) ({ frames := 7, cells := 0, slots := 0, locals := 340 }) (va_Pc [.ref ((ad 0)), .int (iI ((p0 : Int))), .int (iI a2)] (K0 D vwCl (TY cs) L f sz)) (va_Qi (fun (r : Int32) (g : Nat → va_E) => ∃ (I' : Nat → Int) (A' : Nat → Nat → Int) (R' : Nat → Nat) (Z' : Nat → Int), CSt cs ad Qm g I' A' R' Z' ∧ (∀ k, Awy ad k → g k = f k) ∧ Inv I' A' ∧ SameV If Af I' A' ∧ ((a2 < 0 ∧ r = iI (-1)) ∨ ((∀ j, j < 6 → Af (20 + p0) j = 0) ∧ r = iI (-1)) ∨ (Nz (Af (20 + p0)) ∧ ∃ (F : Nat → Int) (nm : Nat) (cc : Nat → Int), Laid (Af (20 + p0)) F (nm : Int) cc ∧ (((nm : Int) ≤ a2 ∧ r = iI (-1)) ∨ ((0 ≤ a2 ∧ a2 < (nm : Int)) ∧ ∃ (N : Rat → Int) (P : Nat → Int) (mu : Nat), NB F N ∧ (∃ i : Int, Cell N i (cc a2.toNat) 256) ∧ Rt F P (cc a2.toNat) ∧ Ex (il P 6) mu (il (Af (20 + p0)) 6) ∧ r = iI (mu : Int)))))) (K1 D vwCl (TY cs) (AL L sz) L) (AL L sz)) 0 0 (AL L sz) := by
  refine Met.ofW (cc := prog_1_method_8_code) (maxL := 5) (ret := (Option.some Jvm.ClassFile.FieldType.int)) (by decide) rfl ?_
  intro p e s m args below meth c s₁ Bd hml hv
  obtain ⟨rfl, hk0⟩ := hv
  obtain ⟨hsz, B⟩ := hk0.start
  subst hsz
  have hx := Bd.exec
  have hb := Bd.bytes
  have hr := Bd.returns
  have hlocks := Bd.notSynchronized
  have hts0 := atoms_spec Bd.pre
  have hown : s.vm.findClass RX6 = some m.cls := findClass_of_methodNamed Bd.named
  have hA : ∀ q, s.heap.size ≤ q → AL L s.heap.size q := fun _ h => Or.inr h
  have hl := lv_entry ([.ref ((ad 0)), .int (iI ((p0 : Int))), .int (iI a2)]) (n := 5) (Nat.le_of_ble_eq_true rfl)
  rw [lg_entry_eq]
  generalize (lg_sl ([.ref ((ad 0)), .int (iI ((p0 : Int))), .int (iI a2)]) ++ List.replicate (5 - (lg_sl ([.ref ((ad 0)), .int (iI ((p0 : Int))), .int (iI a2)])).length) Slot.unset).toArray = ls at hl ⊢
  refine absQ (fun Q R av hQ hR hav => ?_)
  have hts : ∀ w ∈ gw, w.before av s = true := by rw [hav]; exact fun w h => hts0 w (List.mem_cons_of_mem _ h)
  have hRf : R.frames = 7 := by rw [hR]; rfl
  have hRl : R.locals = 340 := by rw [hR]; rfl
  have hRc : R.cells = 0 := by rw [hR]; rfl
  have hRs : R.slots = 0 := by rw [hR]; rfl
  clear hR hts0 Bd
  have hl : lv_has ls 5 [(0, .ref ((ad 0))), (1, .int (iI ((p0 : Int)))), (2, .int (iI a2))] := hl
  have hfr : ∀ k, Awy ad k → f k = f k := fun _ _ => rfl
  have hG0 := hInv.1
  have hhd := hG0.1
  have hp0 : p0 < 12 := by omega
  have hVM := hG0.2.1 p0 hp0
  refine lv_iload_n hx hb d_RR_times_0 rfl (lv_at hl 2 rfl) ?_
  refine x_if_lt (tgt := 13) hx hb d_RR_times_1 (by decide) (by omega) (fun h1 => ?_) (fun h1 => ?_)
  · refine x_iconst hx hb d_RR_times_13 ?_
    subst hQ hav
    exact x_iret hx hb hr hlocks B d_RR_times_14 (⟨If, Af, Rf, Zf, hC, hfr, hInv, ⟨rfl, fun _ _ => rfl⟩, Or.inl ⟨by omega, rfl⟩⟩)
  · refine lv_iload_n hx hb d_RR_times_4 rfl (lv_at hl 2 rfl) ?_
    refine lv_aload_n hx hb d_RR_times_5 rfl (lv_at hl 0 rfl) ?_
    refine lv_iload_n hx hb d_RR_times_6 rfl (lv_at hl 1 rfl) ?_
    refine x_calli B hA (va_runV (As := [.int (iI ((p0 : Int)))]) (rest := [.int (iI a2)]) ⟨hx, hb, hml, hown, hts⟩ (c_RR_ready l D cs _ _ _ ad Qm If Af Rf Zf p0 hAd hC hInv.1 (hpk)) (cwV 1 hts (gw_V w_370 w_372 s_14 w_1 w_373) rfl rfl rfl (by decide +kernel) ⟨by rw [hRf]; exact Nat.le_of_ble_eq_true rfl, by rw [hRl]; exact Nat.le_of_ble_eq_true rfl⟩) ⟨K0.blind, B.recv (hAd.1 _ (by omega)) (hC.x) rfl, B.pre _⟩ rfl rfl hl.1 rfl (lv_room (Nat.le_of_ble_eq_true rfl)) d_RR_times_7 ⟨by rw [hRc]; omega, by rw [hRs]; omega⟩) (fun r7 g7 H locs hw B => ?_)
    obtain ⟨Iy, Ay, Ry, Zy, hCy, hqy, hGyy, hOyy, hryy, hsyy⟩ := hw
    have hfry : ∀ k, Awy ad k → g7 k = f k := fun k hk => (hqy k hk).trans (hfr k hk)
    have B : Wb D vwCl (TY cs) L g7 (AL L s.heap.size) s H _ := B
    have hInvy := hInv.rdy (by omega) (hpk) hGyy hOyy hsyy
    have hsvy := hOyy.sv (by omega)
    rcases hryy with ⟨hzy, rfl⟩ | ⟨hny, hsty, rfl⟩
    · refine x_icmp_lt (tgt := 15) hx hb d_RR_times_10 (by decide) (by omega) (by omega) (fun h10 => ?_) (fun h10 => ?_)
      · exfalso; omega
      · refine x_iconst hx hb d_RR_times_13 ?_
        subst hQ hav
        exact x_iret hx hb hr hlocks B d_RR_times_14 (⟨Iy, Ay, Ry, Zy, hCy, hfry, hInvy, hsvy, Or.inr (Or.inl ⟨hzy, rfl⟩)⟩)
    · obtain ⟨nmy, Ny, dpy, vy, hcry⟩ : ∃ nm N dp v, Crv Iy Ay p0 nm N dp v := by rcases hGyy.2.2 p0 (by omega) with h | ⟨_, h⟩; omega; exact h.crv
      have hVMy := hGyy.2.1 p0 (by omega)
      have hAVy := hsvy.2 p0 (by omega)
      obtain ⟨ccy, hLy, hz6y⟩ := free_laid hcry.1 hVMy hcry.2.1 hcry.2.2.2.2.1 hcry.2.2.2.2.2.1
      rw [hAVy] at hLy
      rw [hcry.2.2.1]
      have hnm5y := hcry.2.2.2.1
      refine x_icmp_lt (tgt := 15) hx hb d_RR_times_10 (by decide) (by omega) (by omega) (fun h10 => ?_) (fun h10 => ?_)
      · obtain ⟨ii, hii⟩ : ∃ ii : Nat, a2 = (ii : Int) := ⟨a2.toNat, by omega⟩
        subst hii
        have hii6 : ii < nmy := by omega
        obtain ⟨⟨p1y, hPty⟩, hcgy, _, hFby⟩ := hcry.part hVMy
        have hSqy := hPty.2.2.1
        have hcc := hz6y ii hii6
        obtain ⟨P, hRt⟩ := Rt.ex hPty hcgy hcry.2.2.2.2.1 hcc
        obtain ⟨mu, hmu, hEx⟩ := mul_start hcry.1 hcry.2.1 hRt
        have hhy := hGyy.1
        have hpy6 : p0 < 12 := hp0
        refine lv_aload_n hx hb d_RR_times_15 rfl (lv_at hl 0 rfl) ?_
        refine x_get (C := RX6) (T := TX6) (N := 14) hx hb hts inX6 hown (B.foc1 (hCy.x)) (hAd.f1 (by omega)) 0 rfl rfl 0 (by decide) (hts _ w_197) (fun _ h9 => h9) rfl d_RR_times_16 ?_
        refine lv_iload_n hx hb d_RR_times_19 rfl (lv_at hl 1 rfl) ?_
        refine x_aald hx hb (B.foc1 (hCy.c0)) (hAd.f1 (by omega)) 0 4 rfl rfl p0 (by omega) (by omega) (by decide) (rfs_at (by omega)) d_RR_times_20 ?_
        refine lv_astore_n (lv' := [(3, .ref ((ad (15 + p0)))), (0, .ref ((ad 0))), (1, .int (iI ((p0 : Int)))), (2, .int (iI ((ii : Int))))]) hx hb d_RR_times_21 rfl hl (by decide) rfl (fun ls hl => ?_)
        refine lv_aload_n hx hb d_RR_times_22 rfl (lv_at hl 0 rfl) ?_
        refine x_get (C := RX2) (T := TX2) (N := 5) hx hb hts inX2 hown (B.foc1 (hCy.cu (p := p0) (by omega))) (hAd.f1 (by omega)) 0 rfl rfl 0 (by decide) (hts _ w_177) (fun _ h9 => h9) rfl d_RR_times_23 ?_
        refine lv_aload_n hx hb d_RR_times_26 rfl (lv_at hl 1 rfl) ?_
        refine x_get (C := RX6) (T := TX6) (N := 14) hx hb hts inX6 hown (B.foc1 (hCy.x)) (hAd.f1 (by omega)) 0 rfl rfl 6 (by decide) (hts _ w_203) (fun _ h9 => h9) rfl d_RR_times_27 ?_
        refine x_callv B hA (va_runS (As := [.ref ((ad (27 + p0))), .ref ((ad 9))]) (rest := []) ⟨hx, hb, hml, hown, hts⟩ (c_RR_copy l D cs _ _ _ (ad 9) (ad (27 + p0)) (Ay 1) (Ay (20 + p0)) (hAd.fc [9, 27 + p0] (by simp; omega) (by intro q hq; simp only [List.mem_cons, List.not_mem_nil, or_false] at hq; omega)) (hCy.ar Ar.sl) (hCy.ar (Ar.va hp0))) (va_cwS 2 hts (gw_S w_466 w_467 w_1 w_468) rfl rfl rfl (by decide +kernel) ⟨by rw [hRf]; exact Nat.le_of_ble_eq_true rfl, by rw [hRl]; exact Nat.le_of_ble_eq_true rfl⟩) ⟨K0.blind, B.pre _⟩ rfl rfl hl.1 rfl (lv_room (Nat.le_of_ble_eq_true rfl)) d_RR_times_30 ⟨by rw [hRc]; omega, by rw [hRs]; omega⟩) (fun g30 H locs hw B => ?_)
        obtain ⟨sl, hsl, rfl⟩ := hw
        have B : Wb D vwCl (TY cs) L (mw g7 [((ad 9), .inl (cs 0, 6, .inl (ai sl)))]) (AL L s.heap.size) s H _ := B
        obtain ⟨f_30, hf_30⟩ : ∃ f_30, f_30 = mw g7 [((ad 9), .inl (cs 0, 6, .inl (ai sl)))] := ⟨_, rfl⟩
        rw [← hf_30] at B
        obtain ⟨A_30, hA_30⟩ : ∃ A_30, A_30 = upA Ay 1 sl := ⟨_, rfl⟩
        have hC_30 : CSt cs ad Qm f_30 Iy A_30 Ry Zy := by rw [hf_30, hA_30]; exact CSt.wAr hAd hCy Ar.sl _
        have hfr_30 : ∀ k, Awy ad k → f_30 k = f k := fun k hk => Eq.trans (by rw [hf_30]; exact hk.mw1 (by omega)) (hfry k hk)
        refine x_iconst hx hb d_RR_times_33 ?_
        refine lv_istore (lv' := [(4, .int (iI 1)), (3, .ref ((ad (15 + p0)))), (0, .ref ((ad 0))), (1, .int (iI ((p0 : Int)))), (2, .int (iI ((ii : Int))))]) hx hb d_RR_times_34 hl (by decide) rfl (fun ls hl => ?_)
        have LA : ∀ (fuel : Nat) (fw : Nat → va_E) (Iw : Nat → Int) (Aw : Nat → Nat → Int) (Rw : Nat → Nat) (Zw : Nat → Int) (kk : Nat) (dk : Nat) (vk : Int), 6 - kk < fuel → (CSt cs ad Qm fw Iw Aw Rw Zw) → (∀ k, Awy ad k → fw k = f k) → (1 ≤ kk ∧ kk ≤ 6) → (kk ≤ mu) → (∀ i, i ≠ 3 → i ≠ 6 → i ≠ 200 + (5 * p0 + ii) → Iw i = Iy i) → (∀ q, q ≠ 0 → q ≠ 1 → q ≠ 2 → q ≠ 7 → q ≠ 100 + (5 * p0 + ii) → Aw q = Ay q) → (Crv Iw Aw p0 nmy Ny (va_up dpy ii dk) (up vy ii vk)) → (∀ j, j < 6 → (-(sbd (kk - 1)) ≤ Aw 1 j ∧ Aw 1 j ≤ sbd (kk - 1)) ∧ (6 ≤ j + (kk - 1) → Aw 1 j = 0)) → (Ex (il P 6) (mu + 1 - kk) (il (Aw 1) 6)) → ∀ (H : Heap) (locs : List Loc) (ls : Array Slot), Wb D vwCl (TY cs) L fw (AL L s.heap.size) s H locs → lv_has ls 5 [(4, .int (iI ((kk : Int)))), (0, .ref ((ad 0))), (3, .ref ((ad (15 + p0)))), (2, .int (iI ((ii : Int))))] → W p l e R s m av below meth c H locs (0) (0) Q (F0 m 36 ls []) := by
          intro fuel
          induction fuel with
          | zero => intro fw Iw Aw Rw Zw kk dk vk hfu; exact absurd hfu (Nat.not_lt_zero _)
          | succ fuel ih_LA =>
            intro fw Iw Aw Rw Zw kk dk vk hfu_LA hCw hfrw hkk hmk hIw hAw hcw hSw hEw H locs ls B hl
            refine lv_iload hx hb d_RR_times_36 (lv_at hl 0 rfl) ?_
            refine x_bipush hx hb d_RR_times_38 (by decide) ?_
            refine x_icmp_ge (tgt := 88) hx hb d_RR_times_40 (by decide) (by omega) (by omega) (fun h40 => ?_) (fun h40 => ?_)
            · refine x_iconst hx hb d_RR_times_88 ?_
              subst hQ hav
              exact x_iret hx hb hr hlocks B d_RR_times_89 (by exfalso; have h9 := hEw.const hRt.2.1 (fun x => by rw [← es_ev, ← es_ev, es_more (c := Aw 1) (n := 1) x 6 (by decide) (fun j h1 h2 => (hSw j h2).2 (by omega)), es_more (c := Aw 1) (n := 1) 0 6 (by decide) (fun j h1 h2 => (hSw j h2).2 (by omega))]; simp only [es]; rw [Rat.pow_zero, Rat.pow_zero]); omega)
            · have hk5 : kk - 1 < 5 := by omega
              refine lv_aload_n hx hb d_RR_times_43 rfl (lv_at hl 1 rfl) ?_
              refine x_get (C := RX6) (T := TX6) (N := 14) hx hb hts inX6 hown (B.foc1 (hCw.x)) (hAd.f1 (by omega)) 0 rfl rfl 6 (by decide) (hts _ w_203) (fun _ h9 => h9) rfl d_RR_times_44 ?_
              refine lv_aload_n hx hb d_RR_times_47 rfl (lv_at hl 1 rfl) ?_
              refine x_get (C := RX6) (T := TX6) (N := 14) hx hb hts inX6 hown (B.foc1 (hCw.x)) (hAd.f1 (by omega)) 0 rfl rfl 6 (by decide) (hts _ w_203) (fun _ h9 => h9) rfl d_RR_times_48 ?_
              refine x_callv B hA (va_runS (As := [.ref ((ad 9)), .ref ((ad 9))]) (rest := []) ⟨hx, hb, hml, hown, hts⟩ (c_RR_derive_c l D cs _ _ _ ad Qm Iw Aw Rw Zw hAd hCw) (va_cwS 2 hts (gw_S w_347 w_348 w_1 w_349) rfl rfl rfl (by decide +kernel) ⟨by rw [hRf]; exact Nat.le_of_ble_eq_true rfl, by rw [hRl]; exact Nat.le_of_ble_eq_true rfl⟩) ⟨K0.blind, B.pre _⟩ rfl rfl hl.1 rfl (lv_room (Nat.le_of_ble_eq_true rfl)) d_RR_times_51 ⟨by rw [hRc]; omega, by rw [hRs]; omega⟩) (fun g51 H locs hw B => ?_)
              obtain ⟨Is, As, Rs, Zs, hCs, hqs, hIs, hAs, hs1, hs2⟩ := hw
              have hfrs : ∀ k, Awy ad k → g51 k = f k := fun k hk => (hqs k hk).trans (hfrw k hk)
              have B : Wb D vwCl (TY cs) L g51 (AL L s.heap.size) s H _ := B
              have hSb := der_bd hk5 hSw hs1 hs2
              have hSd := der_dva hs1 hs2
              rw [show kk - 1 + 1 = kk by omega] at hSb
              have hEs : Ex (il P 6) (mu - kk) (il (As 1) 6) := Ex.row hRt.2.1 (by rw [show mu - kk + 1 = mu + 1 - kk by omega]; exact hEw) hSd
              have hAFs : As (40 + p0) = Ay (40 + p0) := by rw [hAs _ (by omega)]; exact hAw _ (by omega) (by omega) (by omega) (by omega) (by omega)
              have hS26 : ∀ j, j < 6 → -262144 < As 1 j ∧ As 1 j < 262144 := fun j hj => by
                have h9 := (hSb j hj).1
                have h8 : sbd kk ≤ 120000 := by unfold sbd; split <;> decide
                omega
              have hFs26 : ∀ j, j < 6 → -262144 < As (40 + p0) j ∧ As (40 + p0) j < 262144 := fun j hj => by rw [hAFs]; have := hFby j hj; omega
              refine lv_aload_n hx hb d_RR_times_54 rfl (lv_at hl 1 rfl) ?_
              refine lv_aload_n hx hb d_RR_times_55 rfl (lv_at hl 2 rfl) ?_
              refine x_get (C := RX2) (T := TX2) (N := 5) hx hb hts inX2 hown (B.foc1 (hCs.cu (p := p0) (by omega))) (hAd.f1 (by omega)) 0 rfl rfl 1 (by decide) (hts _ w_179) (fun _ h9 => h9) rfl d_RR_times_56 ?_
              refine lv_aload_n hx hb d_RR_times_59 rfl (lv_at hl 1 rfl) ?_
              refine x_get (C := RX6) (T := TX6) (N := 14) hx hb hts inX6 hown (B.foc1 (hCs.x)) (hAd.f1 (by omega)) 0 rfl rfl 6 (by decide) (hts _ w_203) (fun _ h9 => h9) rfl d_RR_times_60 ?_
              refine x_callv B hA (va_runV (As := [.ref ((ad (39 + p0))), .ref ((ad 9))]) (rest := []) ⟨hx, hb, hml, hown, hts⟩ (c_RR_common l D cs _ _ _ ad Qm Is As Rs Zs (39 + p0) (40 + p0) 9 1 hAd hCs (Ar.fr hp0) Ar.sl (by omega) (by decide) (by omega) hFs26 hS26 (by rw [hIs 0, hIw 0 (by decide) (by decide) (by omega)]; exact hhy)) (cwV 2 hts (gw_V w_280 w_282 s_5 w_1 w_283) rfl rfl rfl (by decide +kernel) ⟨by rw [hRf]; exact Nat.le_of_ble_eq_true rfl, by rw [hRl]; exact Nat.le_of_ble_eq_true rfl⟩) ⟨K0.blind, B.recv (hAd.1 _ (by omega)) (hCs.x) rfl, B.pre _⟩ rfl rfl hl.1 rfl (lv_room (Nat.le_of_ble_eq_true rfl)) d_RR_times_63 ⟨by rw [hRc]; omega, by rw [hRs]; omega⟩) (fun g63 H locs hw B => ?_)
              obtain ⟨I_63, A_63, R_63, Z_63, hC_63, hq_63, hGc, hIc, hAc⟩ := hw
              have hfr_63 : ∀ k, Awy ad k → g63 k = f k := fun k hk => (hq_63 k hk).trans (hfrs k hk)
              have B : Wb D vwCl (TY cs) L g63 (AL L s.heap.size) s H _ := B
              rw [hAFs] at hGc
              have hgg : cg (A_63 2) 0 6 = 1 ∧ Dv (il (A_63 2) 6) (il (Ay (40 + p0)) 6) := by rcases hGc with ⟨h1, _⟩ | ⟨h1, _, _, h4, h5⟩; obtain ⟨j, hj, hn⟩ := hSqy.1; exact absurd (h1 j hj) hn; exact ⟨h1, h4⟩
              obtain ⟨⟨h0, he0⟩, hPG⟩ := hPty.dv hgg.1 hgg.2
              obtain ⟨M, hMB⟩ := NB.ex hPG.2.2.1.1
              have hGb49 : ∀ j, j < 6 → -49000 ≤ A_63 2 j ∧ A_63 2 j ≤ 49000 := fac_all hPG.1 hPG.2.1 hPG.2.2.2.choose_spec
              have hAF2 : A_63 (40 + p0) = Ay (40 + p0) := (hAc _ (by omega) (by omega) (by omega)).trans hAFs
              have hc2 : Crv I_63 A_63 p0 nmy Ny (va_up dpy ii dk) (up vy ii vk) := hcw.keep ((hAc _ (by omega) (by omega) (by omega)).trans (hAs _ (by omega))) ((hAc _ (by omega) (by omega) (by omega)).trans (hAs _ (by omega))) ((hIc _ (by omega)).trans (hIs _)) (fun i hi => ⟨(hIc _ (by omega)).trans (hIs _), (hIc _ (by omega)).trans (hIs _), (hAc _ (by omega) (by omega) (by omega)).trans (hAs _ (by omega))⟩)
              have hV2 : ∀ j, j < 6 → -1000 ≤ A_63 (20 + p0) j ∧ A_63 (20 + p0) j ≤ 1000 := by rw [hAc _ (by omega) (by omega) (by omega), hAs _ (by omega), hAw _ (by omega) (by omega) (by omega) (by omega) (by omega)]; exact hVMy
              have hplk := hcw.2.2.2.2.2.2.1 ii hii6
              rw [va_up_self, up_self] at hplk
              have hd8 := hplk.2.1.1
              have hAFw : Aw (40 + p0) = Ay (40 + p0) := hAw _ (by omega) (by omega) (by omega) (by omega) (by omega)
              have hisok := hcw.iso (by rw [hAFw]; exact hSqy) hii6
              rw [va_up_self, up_self] at hisok
              have hvk := Cell.pre hcry.2.2.2.2.1 hSqy hcc hd8 hplk.2.2
              obtain ⟨hvy1, hvy0⟩ := van_iff hPty hcgy hcry.2.2.2.2.1 hcc hisok (by omega) hvk hRt hGc hMB
              refine lv_aload_n hx hb d_RR_times_66 rfl (lv_at hl 1 rfl) ?_
              refine lv_aload_n hx hb d_RR_times_67 rfl (lv_at hl 2 rfl) ?_
              refine lv_iload_n hx hb d_RR_times_68 rfl (lv_at hl 3 rfl) ?_
              refine lv_aload_n hx hb d_RR_times_69 rfl (lv_at hl 1 rfl) ?_
              refine x_get (C := RX6) (T := TX6) (N := 14) hx hb hts inX6 hown (B.foc1 (hC_63.x)) (hAd.f1 (by omega)) 0 rfl rfl 7 (by decide) (hts _ w_204) (fun _ h9 => h9) rfl d_RR_times_70 ?_
              refine x_calli B hA (va_runV (As := [.ref ((ad (15 + p0))), .int (iI ((ii : Int))), .ref ((ad 10))]) (rest := []) ⟨hx, hb, hml, hown, hts⟩ (c_RR_vanishes l D cs _ _ _ ad Qm I_63 A_63 R_63 Z_63 p0 nmy ii Ny (va_up dpy ii dk) (up vy ii vk) 10 2 1 h0 M hAd hC_63 hp0 hii6 hV2 hc2 Ar.sh (fun j hj => by have := hGb49 j hj; omega) (by decide) (fun x => by rw [hAF2, ← he0 x, show ((1 : Int) : Rat) = 1 from rfl]; grind) hMB) (cwV 3 hts (gw_V w_469 w_471 s_19 w_1 w_472) rfl rfl rfl (by decide +kernel) ⟨by rw [hRf]; exact Nat.le_of_ble_eq_true rfl, by rw [hRl]; exact Nat.le_of_ble_eq_true rfl⟩) ⟨K0.blind, B.recv (hAd.1 _ (by omega)) (hC_63.x) rfl, B.pre _⟩ rfl rfl hl.1 rfl (lv_room (Nat.le_of_ble_eq_true rfl)) d_RR_times_73 ⟨by rw [hRc]; omega, by rw [hRs]; omega⟩) (fun r73 g73 H locs hw B => ?_)
              obtain ⟨Iv, Av, Rv, Zv, hCv, hqv, ⟨vr, rfl, hvr⟩, ⟨dv, vv, hcrv, hdvd, hvvd⟩, hIv1, hAv1⟩ := hw
              have hfrv : ∀ k, Awy ad k → g73 k = f k := fun k hk => (hqv k hk).trans (hfr_63 k hk)
              have B : Wb D vwCl (TY cs) L g73 (AL L s.heap.size) s H _ := B
              rw [va_up_self, up_self] at hvr
              rw [va_twice, up_twice] at hcrv
              have hvr01 : (vr = 1 ∧ kk + 1 ≤ mu) ∨ (vr = 0 ∧ kk = mu) := by
                have hdv := hEs.dvd
                by_cases c : Dv (il P 6) (il (As 1) 6)
                · rcases hvr with ⟨h, _⟩ | ⟨_, h⟩
                  · exact Or.inl ⟨h, by have := hdv.mp c; omega⟩
                  · have := hvy1 c; omega
                · rcases hvr with ⟨_, h⟩ | ⟨h, _⟩
                  · have := hvy0 c; omega
                  · exact Or.inr ⟨h, by have := mt hdv.mpr c; omega⟩
              clear hvr hvy1 hvy0
              refine x_if_ne (tgt := 82) hx hb d_RR_times_76 (by decide) (by omega) (fun h76 => ?_) (fun h76 => ?_)
              · refine x_iinc (lv' := [(4, .int (iI (((kk : Int)) + 1))), (0, .ref ((ad 0))), (3, .ref ((ad (15 + p0)))), (2, .int (iI ((ii : Int))))]) hx hb d_RR_times_82 hl (q := 0) rfl rfl (by decide) rfl (fun ls hl => ?_)
                refine lv_goto (tgt := 36) hx hb d_RR_times_85 (by decide) ?_
                exact ih_LA g73 Iv Av Rv Zv (kk + 1) dv vv (by omega) hCv hfrv (by omega) (by omega) (fun i h1 h2 h3 => by rw [hIv1 i h2 h3, hIc i h1, hIs i]; exact hIw i h1 h2 h3) (fun q h1 h2 h3 h4 h5 => by rw [hAv1 q h5, hAc q h1 h3 h4, hAs q h2]; exact hAw q h1 h2 h3 h4 h5) hcrv (by rw [hAv1 1 (by omega), hAc 1 (by decide) (by decide) (by decide)]; exact hSb) (by rw [hAv1 1 (by omega), hAc 1 (by decide) (by decide) (by decide), show mu + 1 - (kk + 1) = mu - kk by omega]; exact hEs) _ _ _ B (lv_sub hl [0, 1, 2, 3] rfl)
              · have hKp : Kp Iy Ay Iv Av := ⟨fun i hi => by rw [hIv1 i (by omega) (by omega), hIc i (by omega), hIs i]; exact hIw i (by omega) (by omega) (by omega), fun q hq => by rw [hAv1 q (by omega), hAc q (by omega) (by omega) (by omega), hAs q (by omega)]; exact hAw q (by omega) (by omega) (by omega) (by omega) (by omega)⟩
                have hIo : ∀ i, i ≠ 3 → i ≠ 6 → i ≠ 200 + (5 * p0 + ii) → Iv i = Iy i := fun i h1 h2 h3 => by rw [hIv1 i h2 h3, hIc i h1, hIs i]; exact hIw i h1 h2 h3
                have hAo : ∀ q, q ≠ 0 → q ≠ 1 → q ≠ 2 → q ≠ 7 → q ≠ 100 + (5 * p0 + ii) → Av q = Ay q := fun q h1 h2 h3 h4 h5 => by rw [hAv1 q h5, hAc q h1 h3 h4, hAs q h2]; exact hAw q h1 h2 h3 h4 h5
                have hInvd : Inv Iv Av := hInvy.kp hKp (fun p hp _ hc => by
                    by_cases c : p = p0
                    · rw [c]; exact hcrv.ok
                    · exact hc.congr hp (hAo _ (by omega) (by omega) (by omega) (by omega) (by omega)) (hAo _ (by omega) (by omega) (by omega) (by omega) (by omega)) (hIo _ (by omega) (by omega) (by omega)) (fun i hi => ⟨hIo _ (by omega) (by omega) (by omega), hIo _ (by omega) (by omega) (by omega), hAo _ (by omega) (by omega) (by omega) (by omega) (by omega)⟩))
                refine lv_iload hx hb d_RR_times_79 (lv_at hl 0 rfl) ?_
                subst hQ hav
                exact x_iret hx hb hr hlocks B d_RR_times_81 (⟨Iv, Av, Rv, Zv, hCv, hfrv, hInvd, hsvy.trans hKp.sv, Or.inr (Or.inr ⟨hny, Ay (40 + p0), nmy, ccy, hLy, Or.inr ⟨by omega, Ny, P, kk, hcry.2.2.2.2.1, by rw [Int.toNat_natCast]; exact ⟨_, hcc⟩, by rw [Int.toNat_natCast]; exact hRt, by rw [hAVy] at hEx; rw [show kk = mu by omega]; exact hEx, rfl⟩⟩)⟩)
        exact LA _ f_30 Iy A_30 Ry Zy 1 (dpy ii) (vy ii) (Nat.lt_succ_self _) hC_30 hfr_30 (by omega) hmu (fun i _ _ _ => rfl) (fun q _ h1 _ _ _ => by rw [hA_30, upA_ne _ _ h1]) (by rw [va_same, up_same]; exact hcry.keep (by rw [hA_30, upA_ne _ _ (by omega)]) (by rw [hA_30, upA_ne _ _ (by omega)]) rfl (fun i hi => ⟨rfl, rfl, by rw [hA_30, upA_ne _ _ (by omega)]⟩)) (fun j hj => by rw [hA_30, upA_self, hsl j hj]; have := hVMy j hj; have s0 : sbd (1 - 1) = 1000 := rfl; omega) (by rw [hA_30, upA_self, il_congr6 hsl, show mu + 1 - 1 = mu by omega]; exact hEx) _ _ _ B (lv_sub hl [0, 2, 1, 4] rfl)
      · refine x_iconst hx hb d_RR_times_13 ?_
        subst hQ hav
        exact x_iret hx hb hr hlocks B d_RR_times_14 (⟨Iy, Ay, Ry, Zy, hCy, hfry, hInvy, hsvy, Or.inr (Or.inr ⟨hny, Ay (40 + p0), nmy, ccy, hLy, Or.inl ⟨by omega, rfl⟩⟩)⟩)
