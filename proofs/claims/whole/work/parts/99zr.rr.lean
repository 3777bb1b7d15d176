set_option maxHeartbeats 8000000 in
set_option maxRecDepth 100000 in
theorem c_RR_sign_k (l : Launch) (D : va_G) (cs : Nat → ClassId) (L : List Nat) (f : Nat → va_E) (sz : Nat) (ad Qm : Nat → Nat) (If : Nat → Int) (Af : Nat → Nat → Int) (Rf : Nat → Nat) (Zf : Nat → Int) (p0 p1 : Nat) (a3 : Int) (hAd : AdOk L ad Qm) (hC : CSt cs ad Qm f If Af Rf Zf) (hInv : Inv If Af) (hpk : (p0 : Int) < If 0) (hpk1 : (p1 : Int) < If 0) (ha3 : -2147483648 ≤ a3 ∧ a3 < 2147483648) : Met l (⟨"RealRoots", "sign", "(III)I"⟩ : MethodName) (.code (⟨"RealRoots", "sign", "(III)I"⟩ : MethodName) prog_1_method_11_code 6 (Option.some Jvm.ClassFile.FieldType.int) :: gw) ({ frames := 7, cells := 0, slots := 0, locals := 380 }) (va_Pc [.ref ((ad 0)), .int (iI ((p0 : Int))), .int (iI ((p1 : Int))), .int (iI a3)] (K0 D vwCl (TY cs) L f sz)) (va_Qi (fun (r : Int32) (g : Nat → va_E) => ∃ (I' : Nat → Int) (A' : Nat → Nat → Int) (R' : Nat → Nat) (Z' : Nat → Int), CSt cs ad Qm g I' A' R' Z' ∧ (∀ k, Awy ad k → g k = f k) ∧ Inv I' A' ∧ SameV If Af I' A' ∧ ((a3 < 0 ∧ r = iI (-9)) ∨ ((∀ j, j < 6 → Af (20 + p1) j = 0) ∧ r = iI (-9)) ∨ (Nz (Af (20 + p1)) ∧ ∃ (F : Nat → Int) (nm : Nat) (cc : Nat → Int), Laid (Af (20 + p1)) F (nm : Int) cc ∧ (nm : Int) ≤ a3 ∧ r = iI (-9)) ∨ (Nz (Af (20 + p1)) ∧ ∃ (F : Nat → Int) (nm : Nat) (cc : Nat → Int), Laid (Af (20 + p1)) F (nm : Int) cc ∧ (0 ≤ a3 ∧ a3 < (nm : Int)) ∧ (((∀ j, j < 6 → Af (20 + p0) j = 0) ∧ r = iI 0) ∨ (Nz (Af (20 + p0)) ∧ ∃ (F2 : Nat → Int) (n2 : Nat) (c2 : Nat → Int), Laid (Af (20 + p0)) F2 (n2 : Int) c2 ∧ ((HasP F2 (cc a3.toNat) ∧ r = iI 0) ∨ (¬ HasP F2 (cc a3.toNat) ∧ r = iI (sg (es (Af (20 + p0)) 6 (Pt (cc a3.toNat) 256)))))))))) (K1 D vwCl (TY cs) (AL L sz) L) (AL L sz)) 0 0 (AL L sz) := by
  refine Met.ofW (cc := prog_1_method_11_code) (maxL := 6) (ret := (Option.some Jvm.ClassFile.FieldType.int)) (by decide) rfl ?_
  intro p e s m args below meth c s₁ Bd hml hv
  obtain ⟨rfl, hk0⟩ := hv
  obtain ⟨hsz, B⟩ := hk0.start
  subst hsz
  have hx := Bd.exec
  have hb := Bd.bytes
  have hr := Bd.returns
  have hlocks := Bd.notSynchronized
  have hts0 := atoms_spec Bd.pre
  have hown : s.vm.findClass RX6 = some m.cls := findClass_of_methodNamed Bd.named
  have hA : ∀ q, s.heap.size ≤ q → AL L s.heap.size q := fun _ h => Or.inr h
  have hl := lv_entry ([.ref ((ad 0)), .int (iI ((p0 : Int))), .int (iI ((p1 : Int))), .int (iI a3)]) (n := 6) (Nat.le_of_ble_eq_true rfl)
  rw [lg_entry_eq]
  generalize (lg_sl ([.ref ((ad 0)), .int (iI ((p0 : Int))), .int (iI ((p1 : Int))), .int (iI a3)]) ++ List.replicate (6 - (lg_sl ([.ref ((ad 0)), .int (iI ((p0 : Int))), .int (iI ((p1 : Int))), .int (iI a3)])).length) Slot.unset).toArray = ls at hl ⊢
  refine absQ (fun Q R av hQ hR hav => ?_)
  have hts : ∀ w ∈ gw, w.before av s = true := by rw [hav]; exact fun w h => hts0 w (List.mem_cons_of_mem _ h)
  have hRf : R.frames = 7 := by rw [hR]; rfl
  have hRl : R.locals = 380 := by rw [hR]; rfl
  have hRc : R.cells = 0 := by rw [hR]; rfl
  have hRs : R.slots = 0 := by rw [hR]; rfl
  clear hR hts0 Bd
  have hl : lv_has ls 6 [(0, .ref ((ad 0))), (1, .int (iI ((p0 : Int)))), (2, .int (iI ((p1 : Int)))), (3, .int (iI a3))] := hl
  have hfr : ∀ k, Awy ad k → f k = f k := fun _ _ => rfl
  have hG0 := hInv.1
  have hhd := hG0.1
  have hp0 : p0 < 12 := by omega
  have hVM := hG0.2.1 p0 hp0
  have hp1 : p1 < 12 := by omega
  refine lv_aload_n hx hb d_RR_sign_0 rfl (lv_at hl 0 rfl) ?_
  refine lv_iload_n hx hb d_RR_sign_1 rfl (lv_at hl 1 rfl) ?_
  refine x_calli B hA (va_runV (As := [.int (iI ((p0 : Int)))]) (rest := []) ⟨hx, hb, hml, hown, hts⟩ (c_RR_unknown l D cs _ _ _ (ad 0) (ad 1) (ad 2) (ad 5) (ad 7) (ad 8) (ad 9) (ad 10) (ad 11) (ad 12) (ad 13) (ad 14) (If 0) (If 1) (If 2) ((p0 : Int)) (hAd.f1 (by decide)) hC.x (hhd) (by omega)) (cwV 1 hts (gw_V w_261 w_263 s_3 w_1 w_264) rfl rfl rfl (by decide +kernel) ⟨by rw [hRf]; exact Nat.le_of_ble_eq_true rfl, by rw [hRl]; exact Nat.le_of_ble_eq_true rfl⟩) ⟨K0.blind, B.recv (hAd.1 _ (by omega)) (hC.x) rfl, B.pre _⟩ rfl rfl hl.1 rfl (lv_room (Nat.le_of_ble_eq_true rfl)) d_RR_sign_2 ⟨by rw [hRc]; omega, by rw [hRs]; omega⟩) (fun r2 g2 H locs hw B => ?_)
  obtain ⟨rfl, hgf⟩ := hw
  rw [hgf] at B
  rw [if_neg (by omega)]
  refine x_if_ne (tgt := 21) hx hb d_RR_sign_5 (by decide) (by omega) (fun h5 => ?_) (fun h5 => ?_)
  · exfalso; omega
  · refine lv_iload_n hx hb d_RR_sign_8 rfl (lv_at hl 3 rfl) ?_
    refine x_if_lt (tgt := 21) hx hb d_RR_sign_9 (by decide) (by omega) (fun h9 => ?_) (fun h9 => ?_)
    · refine x_bipush hx hb d_RR_sign_21 (by decide) ?_
      subst hQ hav
      exact x_iret hx hb hr hlocks B d_RR_sign_23 (⟨If, Af, Rf, Zf, hC, hfr, hInv, ⟨rfl, fun _ _ => rfl⟩, Or.inl ⟨by omega, rfl⟩⟩)
    · refine lv_iload_n hx hb d_RR_sign_12 rfl (lv_at hl 3 rfl) ?_
      refine lv_aload_n hx hb d_RR_sign_13 rfl (lv_at hl 0 rfl) ?_
      refine lv_iload_n hx hb d_RR_sign_14 rfl (lv_at hl 2 rfl) ?_
      refine x_calli B hA (va_runV (As := [.int (iI ((p1 : Int)))]) (rest := [.int (iI a3)]) ⟨hx, hb, hml, hown, hts⟩ (c_RR_ready l D cs _ _ _ ad Qm If Af Rf Zf p1 hAd hC hInv.1 (hpk1)) (cwV 1 hts (gw_V w_370 w_372 s_14 w_1 w_373) rfl rfl rfl (by decide +kernel) ⟨by rw [hRf]; exact Nat.le_of_ble_eq_true rfl, by rw [hRl]; exact Nat.le_of_ble_eq_true rfl⟩) ⟨K0.blind, B.recv (hAd.1 _ (by omega)) (hC.x) rfl, B.pre _⟩ rfl rfl hl.1 rfl (lv_room (Nat.le_of_ble_eq_true rfl)) d_RR_sign_15 ⟨by rw [hRc]; omega, by rw [hRs]; omega⟩) (fun r15 g15 H locs hw B => ?_)
      obtain ⟨Iy, Ay, Ry, Zy, hCy, hqy, hGyy, hOyy, hryy, hsyy⟩ := hw
      have hfry : ∀ k, Awy ad k → g15 k = f k := fun k hk => (hqy k hk).trans (hfr k hk)
      have B : Wb D vwCl (TY cs) L g15 (AL L s.heap.size) s H _ := B
      have hInvy := hInv.rdy (by omega) (hpk1) hGyy hOyy hsyy
      have hsvy := hOyy.sv (by omega)
      rcases hryy with ⟨hzy, rfl⟩ | ⟨hny, hsty, rfl⟩
      · refine x_icmp_lt (tgt := 24) hx hb d_RR_sign_18 (by decide) (by omega) (by omega) (fun h18 => ?_) (fun h18 => ?_)
        · exfalso; omega
        · refine x_bipush hx hb d_RR_sign_21 (by decide) ?_
          subst hQ hav
          exact x_iret hx hb hr hlocks B d_RR_sign_23 (⟨Iy, Ay, Ry, Zy, hCy, hfry, hInvy, hsvy, Or.inr (Or.inl ⟨hzy, rfl⟩)⟩)
      · obtain ⟨nmy, Ny, dpy, vy, hcry⟩ : ∃ nm N dp v, Crv Iy Ay p1 nm N dp v := by rcases hGyy.2.2 p1 (by omega) with h | ⟨_, h⟩; omega; exact h.crv
        have hVMy := hGyy.2.1 p1 (by omega)
        have hAVy := hsvy.2 p1 (by omega)
        obtain ⟨ccy, hLy, hz6y⟩ := free_laid hcry.1 hVMy hcry.2.1 hcry.2.2.2.2.1 hcry.2.2.2.2.2.1
        rw [hAVy] at hLy
        rw [hcry.2.2.1]
        have hnm5y := hcry.2.2.2.1
        refine x_icmp_lt (tgt := 24) hx hb d_RR_sign_18 (by decide) (by omega) (by omega) (fun h18 => ?_) (fun h18 => ?_)
        · obtain ⟨⟨p1y, hPty⟩, _⟩ := hcry.part hVMy
          have hSqy := hPty.2.2.1
          obtain ⟨ii, hii⟩ : ∃ ii : Nat, a3 = (ii : Int) := ⟨a3.toNat, by omega⟩
          subst hii
          refine lv_aload_n hx hb d_RR_sign_24 rfl (lv_at hl 0 rfl) ?_
          refine lv_iload_n hx hb d_RR_sign_25 rfl (lv_at hl 1 rfl) ?_
          refine x_calli B hA (va_runV (As := [.int (iI ((p0 : Int)))]) (rest := []) ⟨hx, hb, hml, hown, hts⟩ (c_RR_ready l D cs _ _ _ ad Qm Iy Ay Ry Zy p0 hAd hCy hInvy.1 (by rw [hsvy.1]; exact hpk)) (cwV 1 hts (gw_V w_370 w_372 s_14 w_1 w_373) rfl rfl rfl (by decide +kernel) ⟨by rw [hRf]; exact Nat.le_of_ble_eq_true rfl, by rw [hRl]; exact Nat.le_of_ble_eq_true rfl⟩) ⟨K0.blind, B.recv (hAd.1 _ (by omega)) (hCy.x) rfl, B.pre _⟩ rfl rfl hl.1 rfl (lv_room (Nat.le_of_ble_eq_true rfl)) d_RR_sign_26 ⟨by rw [hRc]; omega, by rw [hRs]; omega⟩) (fun r26 g26 H locs hw B => ?_)
          obtain ⟨Iq, Aq, Rq, Zq, hCq, hqq, hGyq, hOyq, hryq, hsyq⟩ := hw
          have hfrq : ∀ k, Awy ad k → g26 k = f k := fun k hk => (hqq k hk).trans (hfry k hk)
          have B : Wb D vwCl (TY cs) L g26 (AL L s.heap.size) s H _ := B
          have hInvq := hInvy.rdy (by omega) (by rw [hsvy.1]; exact hpk) hGyq hOyq hsyq
          have hsvq := hOyq.sv (by omega)
          rcases hryq with ⟨hzq, rfl⟩ | ⟨hnq, hstq, rfl⟩
          · refine lv_istore (lv' := [(4, .int (iI (-1))), (0, .ref ((ad 0))), (1, .int (iI ((p0 : Int)))), (2, .int (iI ((p1 : Int)))), (3, .int (iI ((ii : Int))))]) hx hb d_RR_sign_29 hl (by decide) rfl (fun ls hl => ?_)
            have hAFe : Aq (40 + p1) = Ay (40 + p1) ∧ Iq (20 + p1) = 1 ∧ Iq (40 + p1) = (nmy : Int) := by
                by_cases c : p0 = p1
                · obtain ⟨s1, s2⟩ := hsyq (Or.inl (by rw [c]; exact hsty)); exact ⟨s2 _, by rw [s1]; exact hsty, by rw [s1]; exact hcry.2.2.1⟩
                · exact ⟨hOyq.2 _ (Or.inr (Or.inr ⟨by omega, by omega, fun j hj => by omega⟩)), by rw [hOyq.1 _ (Or.inr ⟨by omega, by omega, by omega, fun j hj => by omega⟩)]; exact hsty, by rw [hOyq.1 _ (Or.inr ⟨by omega, by omega, by omega, fun j hj => by omega⟩)]; exact hcry.2.2.1⟩
            obtain ⟨hAFe, hsta, hnma⟩ := hAFe
            have hVq : Aq (20 + p0) = Af (20 + p0) := (hsvy.trans hsvq).2 p0 hp0
            refine x_iconst hx hb d_RR_sign_31 ?_
            refine lv_istore (lv' := [(5, .int (iI 0)), (4, .int (iI (-1))), (0, .ref ((ad 0))), (1, .int (iI ((p0 : Int)))), (2, .int (iI ((p1 : Int)))), (3, .int (iI ((ii : Int))))]) hx hb d_RR_sign_32 hl (by decide) rfl (fun ls hl => ?_)
            refine lv_iload hx hb d_RR_sign_34 (lv_at hl 0 rfl) ?_
            refine lv_iload hx hb d_RR_sign_36 (lv_at hl 1 rfl) ?_
            refine x_icmp_ge (tgt := 67) hx hb d_RR_sign_38 (by decide) (by omega) (by omega) (fun h38 => ?_) (fun h38 => ?_)
            · obtain ⟨nmx, Nx, dpx, vx, hcrx⟩ := hInvq.crv hp1 hsta
              have hnx : nmx = nmy := by have := hcrx.2.2.1; omega
              have hplx := hcrx.2.2.2.2.2.2.1 ii (by omega)
              have hNx : Nx = Ny := funext (fun t => NB.uniq hcry.2.2.2.2.1 (by rw [← hAFe]; exact hcrx.2.2.2.2.1) t)
              have hd8x := hplx.2.1.1
              have hvx : vx ii = ccy ii / 2 ^ (256 - dpx ii) := Cell.pre hcry.2.2.2.2.1 hSqy (hz6y ii (by omega)) hd8x (by rw [← hNx]; exact hplx.2.2)
              have hwhx := hplx.2.1.whr hplx.2.2.1
              have hV0 : Aq (20 + p0) = Af (20 + p0) := hVq
              have hVR : ∀ j, j < 6 → -1000 ≤ Aq (20 + p0) j ∧ Aq (20 + p0) j ≤ 1000 := by rw [hV0]; exact hVM
              refine lv_aload_n hx hb d_RR_sign_67 rfl (lv_at hl 2 rfl) ?_
              refine x_get (C := RX6) (T := TX6) (N := 14) hx hb hts inX6 hown (B.foc1 (hCq.x)) (hAd.f1 (by omega)) 0 rfl rfl 3 (by decide) (hts _ w_200) (fun _ h9 => h9) rfl d_RR_sign_68 ?_
              refine lv_aload_n hx hb d_RR_sign_71 rfl (lv_at hl 2 rfl) ?_
              refine x_get (C := RX6) (T := TX6) (N := 14) hx hb hts inX6 hown (B.foc1 (hCq.x)) (hAd.f1 (by omega)) 0 rfl rfl 0 (by decide) (hts _ w_197) (fun _ h9 => h9) rfl d_RR_sign_72 ?_
              refine lv_iload_n hx hb d_RR_sign_75 rfl (lv_at hl 3 rfl) ?_
              refine x_aald hx hb (B.foc1 (hCq.c0)) (hAd.f1 (by omega)) 0 4 rfl rfl p0 (by omega) (by omega) (by decide) (rfs_at (by omega)) d_RR_sign_76 ?_
              refine x_get (C := RX2) (T := TX2) (N := 5) hx hb hts inX2 hown (B.foc1 (hCq.cu (p := p0) (by omega))) (hAd.f1 (by omega)) 0 rfl rfl 0 (by decide) (hts _ w_177) (fun _ h9 => h9) rfl d_RR_sign_77 ?_
              refine x_callv B hA (va_runV (As := [.ref ((ad (27 + p0)))]) (rest := []) ⟨hx, hb, hml, hown, hts⟩ (c_Spot_load l D cs _ _ _ (ad 5) (ad (27 + p0)) (ad 227) (ad 228) (ad 6) (Rq 52) (Rq 53) (Rq 54) (Rq 55) (Iq 6) (Bg ad) Qm Zq (rfs 6 (fun j => ad (229 + j))) (fun j => ad (229 + j)) (Aq (20 + p0)) (hAd.fc [5, 6, 27 + p0] (by have := ((Ar.va hp0)).lt; simp only [List.nodup_cons, List.mem_cons, List.not_mem_nil, or_false, not_or, List.nodup_nil, and_true, not_false_eq_true]; omega) (by have := ((Ar.va hp0)).lt; intro q hq; simp only [List.mem_cons, List.not_mem_nil, or_false] at hq; omega)) hCq.sp hCq.gs (hCq.ar (Ar.va hp0)) hAd.sp hCq.2.2.1 (hAd.outs [5, 6, 27 + p0] (by have := ((Ar.va hp0)).lt; intro q hq; simp only [List.mem_cons, List.not_mem_nil, or_false] at hq; omega)) (fun j hj => Bg.pl (by omega)) (fun j hj => rfs_at hj) (fun i j hi hj h => by have := hAd.2.1 _ _ (by omega) (by omega) h; omega) (fun j hj => by have := hVR j hj; omega)) (cwV 1 hts (gw_V w_473 w_474 w_475 w_4 w_476) rfl rfl rfl (by decide +kernel) ⟨by rw [hRf]; exact Nat.le_of_ble_eq_true rfl, by rw [hRl]; exact Nat.le_of_ble_eq_true rfl⟩) ⟨K0.blind, B.recv (hAd.1 _ (by omega)) (hCq.sp) rfl, B.pre _⟩ rfl rfl hl.1 rfl (lv_room (Nat.le_of_ble_eq_true rfl)) d_RR_sign_80 ⟨by rw [hRc]; omega, by rw [hRs]; omega⟩) (fun g80 H locs hw B => ?_)
              obtain ⟨kd, Z_80, hkd6, hkdz, hkdl, hZs_80, hZo_80, hBB_80, hq_80, hc1_80, hc2_80, hc3_80⟩ := hw
              obtain ⟨I_80, hI_80⟩ : ∃ I_80, I_80 = up Iq 6 ((kd : Int) - 1) := ⟨_, rfl⟩
              have hC_80 : CSt cs ad Qm g80 I_80 Aq Rq Z_80 := by
                have h9 := CSt.spot hAd hCq [6, 27 + p0] hCq.2.2.2.2.1 hCq.2.2.2.2.2 hBB_80 hq_80 (fun k hk => by
                  simp only [List.mem_cons, List.not_mem_nil, or_false] at hk
                  rcases hk with h | h <;> rw [h]
                  · exact ⟨by omega, hc2_80.trans hCq.gs.symm⟩
                  · exact ⟨by have := ((Ar.va hp0)).lt; omega, hc3_80.trans (hCq.ar (Ar.va hp0)).symm⟩) hc1_80
                rw [upW_same, ← hI_80] at h9
                exact h9
              have hfr_80 : ∀ k, Awy ad k → g80 k = f k := fun k hk => (hq_80 k (hk.out hAd) (hk.nin [5, 6, 27 + p0] (by have := ((Ar.va hp0)).lt; intro q hq; simp only [List.mem_cons, List.not_mem_nil, or_false] at hq; omega))).trans (hfrq k hk)
              have hIo_80 : ∀ i, i ≠ 6 → I_80 i = Iq i := fun i hi => by rw [hI_80, up_ne _ _ hi]
              have hI6_80 : I_80 6 = (kd : Int) - 1 := by rw [hI_80, up_self]
              have B : Wb D vwCl (TY cs) L g80 (AL L s.heap.size) s H _ := B
              have hdpx : I_80 (200 + (5 * p1 + ii)) = (dpx ii : Int) := by rw [hIo_80 _ (by omega)]; exact hplx.1
              have hplx2 : Pl (I_80 (100 + (5 * p1 + ii))) (dpx ii) (Aq (100 + (5 * p1 + ii))) (vx ii) := by rw [hIo_80 _ (by omega)]; exact hplx.2.1
              have hwhx2 := hplx2.whr hplx.2.2.1
              rw [hV0] at hkdz hkdl
              have hkd0 : kd = 0 := by rcases Nat.eq_zero_or_pos kd with h | h; exact h; exact absurd (show Af (20 + p0) (kd - 1) = 0 by rw [← hsvy.2 p0 hp0]; exact hzq _ (by omega)) (hkdl h)
              have hI6z : I_80 6 = -1 := by rw [hI6_80]; omega
              refine lv_aload_n hx hb d_RR_sign_83 rfl (lv_at hl 2 rfl) ?_
              refine x_get (C := RX6) (T := TX6) (N := 14) hx hb hts inX6 hown (B.foc1 (hC_80.x)) (hAd.f1 (by omega)) 0 rfl rfl 3 (by decide) (hts _ w_200) (fun _ h9 => h9) rfl d_RR_sign_84 ?_
              refine lv_aload_n hx hb d_RR_sign_87 rfl (lv_at hl 2 rfl) ?_
              refine x_get (C := RX6) (T := TX6) (N := 14) hx hb hts inX6 hown (B.foc1 (hC_80.x)) (hAd.f1 (by omega)) 0 rfl rfl 0 (by decide) (hts _ w_197) (fun _ h9 => h9) rfl d_RR_sign_88 ?_
              refine lv_iload_n hx hb d_RR_sign_91 rfl (lv_at hl 4 rfl) ?_
              refine x_aald hx hb (B.foc1 (hC_80.c0)) (hAd.f1 (by omega)) 0 4 rfl rfl p1 (by omega) (by omega) (by decide) (rfs_at (by omega)) d_RR_sign_92 ?_
              refine x_get (C := RX2) (T := TX2) (N := 5) hx hb hts inX2 hown (B.foc1 (hC_80.cu (p := p1) (by omega))) (hAd.f1 (by omega)) 0 rfl rfl 2 (by decide) (hts _ w_181) (fun _ h9 => h9) rfl d_RR_sign_93 ?_
              refine lv_iload_n hx hb d_RR_sign_96 rfl (lv_at hl 5 rfl) ?_
              refine x_aald hx hb (B.foc1 (hC_80.pa (p := p1) (by omega))) (hAd.f1 (by omega)) 0 5 rfl rfl ii (by omega) (by omega) (by decide) (rfs_at (by omega)) d_RR_sign_97 ?_
              refine x_callv B hA (va_runV (As := [.ref ((ad (63 + (5 * p1 + ii))))]) (rest := []) ⟨hx, hb, hml, hown, hts⟩ (c_Spot_start l D cs _ _ _ (ad 5) (ad (63 + (5 * p1 + ii))) (ad (123 + (5 * p1 + ii))) (ad 227) (ad 228) (ad 6) (Rq 52) (Rq 53) (Rq 54) (Rq 55) (dpx ii) (I_80 6) (I_80 (100 + (5 * p1 + ii))) (Bg ad) Qm Z_80 (Aq (100 + (5 * p1 + ii))) (hAd.fc [5, 63 + (5 * p1 + ii), 123 + (5 * p1 + ii)] (by simp only [List.nodup_cons, List.mem_cons, List.not_mem_nil, or_false, not_or, List.nodup_nil, and_true, not_false_eq_true]; omega) (by intro q hq; simp only [List.mem_cons, List.not_mem_nil, or_false] at hq; omega)) hC_80.sp (by rw [← hdpx]; exact hC_80.pl (m := (5 * p1 + ii)) (by omega)) (hC_80.wq (m := (5 * p1 + ii)) (by omega)) hAd.sp hC_80.2.2.1 (hAd.outs [5, 63 + (5 * p1 + ii), 123 + (5 * p1 + ii)] (by intro q hq; simp only [List.mem_cons, List.not_mem_nil, or_false] at hq; omega)) (Bg.pl (by decide)) (Bg.pl (by decide)) hC_80.2.2.2.2.1.2.2.2.bg (Ne.symm (Wkk.na hAd hC_80.2.2.2.2.1.2.2.2 (by decide) (by decide))) (hAd.ne (by decide) (by decide) (by decide)) (Wkk.na hAd hC_80.2.2.2.2.1.2.2.2 (by decide) (by decide)) (by omega) hplx2.1 hplx2.2.1) (cwV 1 hts (gw_V w_446 w_447 w_448 w_4 w_449) rfl rfl rfl (by decide +kernel) ⟨by rw [hRf]; exact Nat.le_of_ble_eq_true rfl, by rw [hRl]; exact Nat.le_of_ble_eq_true rfl⟩) ⟨K0.blind, B.recv (hAd.1 _ (by omega)) (hC_80.sp) rfl, B.pre _⟩ rfl rfl hl.1 rfl (lv_room (Nat.le_of_ble_eq_true rfl)) d_RR_sign_98 ⟨by rw [hRc]; omega, by rw [hRs]; omega⟩) (fun g98 H locs hw B => ?_)
              obtain ⟨Z_98, hZu_98, hZl_98, hZo_98, hBB_98, hq_98, hc1_98, hc2_98, hc3_98⟩ := hw
              have hC_98 : CSt cs ad Qm g98 I_80 Aq Rq Z_98 := CSt.bigsL hAd hC_80 [5, 63 + (5 * p1 + ii), 123 + (5 * p1 + ii)] hBB_98 hq_98 (fun k hk => by
                  simp only [List.mem_cons, List.not_mem_nil, or_false] at hk
                  rcases hk with h | h | h <;> rw [h]
                  · exact ⟨by omega, hc1_98.trans hC_80.sp.symm⟩
                  · exact ⟨by omega, hc2_98.trans (Eq.symm (by rw [← hdpx]; exact hC_80.pl (m := (5 * p1 + ii)) (by omega)))⟩
                  · exact ⟨by omega, hc3_98.trans (hC_80.wq (m := (5 * p1 + ii)) (by omega)).symm⟩)
              have hfr_98 : ∀ k, Awy ad k → g98 k = f k := fun k hk => (hq_98 k (hk.out hAd) (hk.nin [5, 63 + (5 * p1 + ii), 123 + (5 * p1 + ii)] (by intro q hq; simp only [List.mem_cons, List.not_mem_nil, or_false] at hq; omega))).trans (hfr_80 k hk)
              have B : Wb D vwCl (TY cs) L g98 (AL L s.heap.size) s H _ := B
              rw [(hplx2).up.1] at hZu_98
              rw [(hplx2).up.2] at hZl_98
              have hZs_98 : ∀ j, j < 6 → Z_98 (ad (229 + j)) = (Aq (20 + p0)) j := fun j hj => (hZo_98 (ad (229 + j)) (hAd.ne (by omega) (by omega) (by omega)) (hAd.ne (by omega) (by omega) (by omega)) (Ne.symm (Wkk.na hAd hC_80.2.2.2.2.1.2.2.2 (by omega) (by omega)))).trans (hZs_80 j hj)
              refine lv_aload_n hx hb d_RR_sign_101 rfl (lv_at hl 2 rfl) ?_
              refine x_get (C := RX6) (T := TX6) (N := 14) hx hb hts inX6 hown (B.foc1 (hC_98.x)) (hAd.f1 (by omega)) 0 rfl rfl 3 (by decide) (hts _ w_200) (fun _ h9 => h9) rfl d_RR_sign_102 ?_
              refine lv_aload_n hx hb d_RR_sign_105 rfl (lv_at hl 2 rfl) ?_
              refine x_get (C := RX6) (T := TX6) (N := 14) hx hb hts inX6 hown (B.foc1 (hC_98.x)) (hAd.f1 (by omega)) 0 rfl rfl 3 (by decide) (hts _ w_200) (fun _ h9 => h9) rfl d_RR_sign_106 ?_
              refine x_get (C := RX5) (T := TX5) (N := 8) hx hb hts inX5 hown (B.foc1 (hC_98.sp)) (hAd.f1 (by omega)) 0 rfl rfl 2 (by decide) (hts _ w_89) (fun _ h9 => h9) rfl d_RR_sign_109 ?_
              refine x_iconst hx hb d_RR_sign_112 ?_
              refine lv_aload_n hx hb d_RR_sign_113 rfl (lv_at hl 2 rfl) ?_
              refine x_get (C := RX6) (T := TX6) (N := 14) hx hb hts inX6 hown (B.foc1 (hC_98.x)) (hAd.f1 (by omega)) 0 rfl rfl 3 (by decide) (hts _ w_200) (fun _ h9 => h9) rfl d_RR_sign_114 ?_
              refine x_get (C := RX5) (T := TX5) (N := 8) hx hb hts inX5 hown (B.foc1 (hC_98.sp)) (hAd.f1 (by omega)) 0 rfl rfl 3 (by decide) (hts _ w_91) (fun _ h9 => h9) rfl d_RR_sign_117 ?_
              rw [hI6z]
              refine x_calli B hA (va_runV (As := [.ref ((ad 6)), .int (iI 0), .int (iI (-1))]) (rest := []) ⟨hx, hb, hml, hown, hts⟩ (c_Spot_signOf_z l D cs _ _ _ (ad 5) (ad 6) (ad 227) (ad 228) (ad 6) (Rq 52) (Rq 53) (Rq 54) (Rq 55) (I_80 6) (Bg ad) (Wkk ad) Qm Z_98 (rfs 6 (fun j => ad (229 + j))) (hAd.fc [5, 6] (by simp only [List.nodup_cons, List.mem_cons, List.not_mem_nil, or_false, not_or, List.nodup_nil, and_true, not_false_eq_true]; omega) (by intro q hq; simp only [List.mem_cons, List.not_mem_nil, or_false] at hq; omega)) hC_98.sp hC_98.gs hAd.sp hC_98.2.2.1 (hAd.outs [5, 6] (by intro q hq; simp only [List.mem_cons, List.not_mem_nil, or_false] at hq; omega)) (fun b hb => Wkk.bg hb) hC_98.2.2.2.2.1 hC_98.2.2.2.2.2) (cwV 3 hts (gw_V w_478 w_411 w_412 w_4 w_413) rfl rfl rfl (by decide +kernel) ⟨by rw [hRf]; exact Nat.le_of_ble_eq_true rfl, by rw [hRl]; exact Nat.le_of_ble_eq_true rfl⟩) ⟨K0.blind, B.recv (hAd.1 _ (by omega)) (hC_98.sp) rfl, B.pre _⟩ rfl rfl hl.1 rfl (lv_room (Nat.le_of_ble_eq_true rfl)) d_RR_sign_120 ⟨by rw [hRc]; omega, by rw [hRs]; omega⟩) (fun r120 g120 H locs hw B => ?_)
              obtain ⟨gt_120, gp_120, ga_120, gb_120, Z_120, rfl, hZt_120, hWd_120, hNe_120, hZo_120, hBB_120, hq_120, hc1_120, hc2_120⟩ := hw
              obtain ⟨R_120, hR_120⟩ : ∃ R_120, R_120 = upW Rq gt_120 gp_120 ga_120 gb_120 := ⟨_, rfl⟩
              have hC_120 : CSt cs ad Qm g120 I_80 Aq R_120 Z_120 := by
                have h9 := CSt.spot hAd hC_98 [6] hWd_120 hNe_120 hBB_120 hq_120 (fun k hk => by rw [List.mem_singleton.mp hk]; exact ⟨by decide, hc2_120.trans hC_98.gs.symm⟩) hc1_120
                rw [up_same, ← hR_120] at h9
                exact h9
              have hfr_120 : ∀ k, Awy ad k → g120 k = f k := fun k hk => (hq_120 k (hk.out hAd) (hk.nin [5, 6] (by intro q hq; simp only [List.mem_cons, List.not_mem_nil, or_false] at hq; omega))).trans (hfr_98 k hk)
              have B : Wb D vwCl (TY cs) L g120 (AL L s.heap.size) s H _ := B
              subst hQ hav
              exact x_iret hx hb hr hlocks B d_RR_sign_123 (⟨I_80, Aq, R_120, Z_120, hC_120, hfr_120, hInvq.scr (fun i hi => hIo_80 i (by omega)) (fun _ _ => rfl), (hsvy.trans hsvq).trans ⟨hIo_80 0 (by decide), fun _ _ => rfl⟩, Or.inr (Or.inr (Or.inr ⟨hny, Ay (40 + p1), nmy, ccy, hLy, ⟨by omega, by omega⟩, Or.inl ⟨fun j hj => by rw [← hsvy.2 p0 hp0]; exact hzq j hj, rfl⟩⟩))⟩)
            · exfalso; omega
          · obtain ⟨nmq, Nq, dpq, vq, hcrq⟩ : ∃ nm N dp v, Crv Iq Aq p0 nm N dp v := by rcases hGyq.2.2 p0 (by omega) with h | ⟨_, h⟩; omega; exact h.crv
            have hVMq := hGyq.2.1 p0 (by omega)
            have hAVq := hsvq.2 p0 (by omega)
            obtain ⟨ccq, hLq, hz6q⟩ := free_laid hcrq.1 hVMq hcrq.2.1 hcrq.2.2.2.2.1 hcrq.2.2.2.2.2.1
            rw [hAVq] at hLq
            rw [hcrq.2.2.1]
            have hnm5q := hcrq.2.2.2.1
            refine lv_istore (lv' := [(4, .int (iI ((nmq : Int)))), (0, .ref ((ad 0))), (1, .int (iI ((p0 : Int)))), (2, .int (iI ((p1 : Int)))), (3, .int (iI ((ii : Int))))]) hx hb d_RR_sign_29 hl (by decide) rfl (fun ls hl => ?_)
            have hAFe : Aq (40 + p1) = Ay (40 + p1) ∧ Iq (20 + p1) = 1 ∧ Iq (40 + p1) = (nmy : Int) := by
                by_cases c : p0 = p1
                · obtain ⟨s1, s2⟩ := hsyq (Or.inl (by rw [c]; exact hsty)); exact ⟨s2 _, by rw [s1]; exact hsty, by rw [s1]; exact hcry.2.2.1⟩
                · exact ⟨hOyq.2 _ (Or.inr (Or.inr ⟨by omega, by omega, fun j hj => by omega⟩)), by rw [hOyq.1 _ (Or.inr ⟨by omega, by omega, by omega, fun j hj => by omega⟩)]; exact hsty, by rw [hOyq.1 _ (Or.inr ⟨by omega, by omega, by omega, fun j hj => by omega⟩)]; exact hcry.2.2.1⟩
            obtain ⟨hAFe, hsta, hnma⟩ := hAFe
            have hVq : Aq (20 + p0) = Af (20 + p0) := (hsvy.trans hsvq).2 p0 hp0
            obtain ⟨⟨p1q, hPtq⟩, _⟩ := hcrq.part hVMq
            have hNBq := hcrq.2.2.2.2.1
            have hnq2 : Nz (Af (20 + p0)) := by rw [← hsvy.2 p0 hp0]; exact hnq
            refine x_iconst hx hb d_RR_sign_31 ?_
            refine lv_istore (lv' := [(5, .int (iI 0)), (4, .int (iI ((nmq : Int)))), (0, .ref ((ad 0))), (1, .int (iI ((p0 : Int)))), (2, .int (iI ((p1 : Int)))), (3, .int (iI ((ii : Int))))]) hx hb d_RR_sign_32 hl (by decide) rfl (fun ls hl => ?_)
            have LA : ∀ (fuel : Nat) (fw : Nat → va_E) (Iw : Nat → Int) (Aw : Nat → Nat → Int) (Rw : Nat → Nat) (Zw : Nat → Int) (jj : Nat), nmq - jj < fuel → (CSt cs ad Qm fw Iw Aw Rw Zw) → (∀ k, Awy ad k → fw k = f k) → (Inv Iw Aw) → (Kp Iq Aq Iw Aw) → (jj ≤ nmq) → (∀ j : Nat, j < jj → ccy ii / 2 ^ (256 - (Iw (200 + (5 * p1 + ii))).toNat) ≠ ccq j / 2 ^ (256 - (Iw (200 + (5 * p1 + ii))).toNat)) → ∀ (H : Heap) (locs : List Loc) (ls : Array Slot), Wb D vwCl (TY cs) L fw (AL L s.heap.size) s H locs → lv_has ls 6 [(5, .int (iI ((jj : Int)))), (0, .ref ((ad 0))), (1, .int (iI ((p0 : Int)))), (2, .int (iI ((p1 : Int)))), (3, .int (iI ((ii : Int)))), (4, .int (iI ((nmq : Int))))] → W p l e R s m av below meth c H locs (0) (0) Q (F0 m 34 ls []) := by
              intro fuel
              induction fuel with
              | zero => intro fw Iw Aw Rw Zw jj hfu; exact absurd hfu (Nat.not_lt_zero _)
              | succ fuel ih_LA =>
                intro fw Iw Aw Rw Zw jj hfu_LA hCw hfrw hInvw hKw hjj hdw H locs ls B hl
                have hsaw : Iw (20 + p1) = 1 := (hKw.1 _ (Or.inr ⟨by omega, by omega⟩)).trans hsta
                have hsbw : Iw (20 + p0) = 1 := (hKw.1 _ (Or.inr ⟨by omega, by omega⟩)).trans hstq
                have hnaw : Iw (40 + p1) = (nmy : Int) := (hKw.1 _ (Or.inr ⟨by omega, by omega⟩)).trans hnma
                have hnbw : Iw (40 + p0) = (nmq : Int) := (hKw.1 _ (Or.inr ⟨by omega, by omega⟩)).trans hcrq.2.2.1
                have hAaw : Aw (40 + p1) = Ay (40 + p1) := (hKw.2 _ (Or.inr (Or.inr ⟨by omega, by omega⟩))).trans hAFe
                have hAbw : Aw (40 + p0) = Aq (40 + p0) := hKw.2 _ (Or.inr (Or.inr ⟨by omega, by omega⟩))
                have hAvw : Aw (20 + p0) = Af (20 + p0) := (hKw.2 _ (Or.inr (Or.inr ⟨by omega, by omega⟩))).trans hVq
                have hdpw := hInvw.dep hp1 hsaw (i := ii) (by omega)
                refine lv_iload hx hb d_RR_sign_34 (lv_at hl 0 rfl) ?_
                refine lv_iload hx hb d_RR_sign_36 (lv_at hl 5 rfl) ?_
                refine x_icmp_ge (tgt := 67) hx hb d_RR_sign_38 (by decide) (by omega) (by omega) (fun h38 => ?_) (fun h38 => ?_)
                · obtain ⟨nmx, Nx, dpx, vx, hcrx⟩ := hInvw.crv hp1 hsaw
                  have hnx : nmx = nmy := by have := hcrx.2.2.1; omega
                  have hplx := hcrx.2.2.2.2.2.2.1 ii (by omega)
                  have hNx : Nx = Ny := funext (fun t => NB.uniq hcry.2.2.2.2.1 (by rw [← hAaw]; exact hcrx.2.2.2.2.1) t)
                  have hd8x := hplx.2.1.1
                  have hvx : vx ii = ccy ii / 2 ^ (256 - dpx ii) := Cell.pre hcry.2.2.2.2.1 hSqy (hz6y ii (by omega)) hd8x (by rw [← hNx]; exact hplx.2.2)
                  have hwhx := hplx.2.1.whr hplx.2.2.1
                  have hV0 : Aw (20 + p0) = Af (20 + p0) := hAvw
                  have hVR : ∀ j, j < 6 → -1000 ≤ Aw (20 + p0) j ∧ Aw (20 + p0) j ≤ 1000 := by rw [hV0]; exact hVM
                  refine lv_aload_n hx hb d_RR_sign_67 rfl (lv_at hl 1 rfl) ?_
                  refine x_get (C := RX6) (T := TX6) (N := 14) hx hb hts inX6 hown (B.foc1 (hCw.x)) (hAd.f1 (by omega)) 0 rfl rfl 3 (by decide) (hts _ w_200) (fun _ h9 => h9) rfl d_RR_sign_68 ?_
                  refine lv_aload_n hx hb d_RR_sign_71 rfl (lv_at hl 1 rfl) ?_
                  refine x_get (C := RX6) (T := TX6) (N := 14) hx hb hts inX6 hown (B.foc1 (hCw.x)) (hAd.f1 (by omega)) 0 rfl rfl 0 (by decide) (hts _ w_197) (fun _ h9 => h9) rfl d_RR_sign_72 ?_
                  refine lv_iload_n hx hb d_RR_sign_75 rfl (lv_at hl 2 rfl) ?_
                  refine x_aald hx hb (B.foc1 (hCw.c0)) (hAd.f1 (by omega)) 0 4 rfl rfl p0 (by omega) (by omega) (by decide) (rfs_at (by omega)) d_RR_sign_76 ?_
                  refine x_get (C := RX2) (T := TX2) (N := 5) hx hb hts inX2 hown (B.foc1 (hCw.cu (p := p0) (by omega))) (hAd.f1 (by omega)) 0 rfl rfl 0 (by decide) (hts _ w_177) (fun _ h9 => h9) rfl d_RR_sign_77 ?_
                  refine x_callv B hA (va_runV (As := [.ref ((ad (27 + p0)))]) (rest := []) ⟨hx, hb, hml, hown, hts⟩ (c_Spot_load l D cs _ _ _ (ad 5) (ad (27 + p0)) (ad 227) (ad 228) (ad 6) (Rw 52) (Rw 53) (Rw 54) (Rw 55) (Iw 6) (Bg ad) Qm Zw (rfs 6 (fun j => ad (229 + j))) (fun j => ad (229 + j)) (Aw (20 + p0)) (hAd.fc [5, 6, 27 + p0] (by have := ((Ar.va hp0)).lt; simp only [List.nodup_cons, List.mem_cons, List.not_mem_nil, or_false, not_or, List.nodup_nil, and_true, not_false_eq_true]; omega) (by have := ((Ar.va hp0)).lt; intro q hq; simp only [List.mem_cons, List.not_mem_nil, or_false] at hq; omega)) hCw.sp hCw.gs (hCw.ar (Ar.va hp0)) hAd.sp hCw.2.2.1 (hAd.outs [5, 6, 27 + p0] (by have := ((Ar.va hp0)).lt; intro q hq; simp only [List.mem_cons, List.not_mem_nil, or_false] at hq; omega)) (fun j hj => Bg.pl (by omega)) (fun j hj => rfs_at hj) (fun i j hi hj h => by have := hAd.2.1 _ _ (by omega) (by omega) h; omega) (fun j hj => by have := hVR j hj; omega)) (cwV 1 hts (gw_V w_473 w_474 w_475 w_4 w_476) rfl rfl rfl (by decide +kernel) ⟨by rw [hRf]; exact Nat.le_of_ble_eq_true rfl, by rw [hRl]; exact Nat.le_of_ble_eq_true rfl⟩) ⟨K0.blind, B.recv (hAd.1 _ (by omega)) (hCw.sp) rfl, B.pre _⟩ rfl rfl hl.1 rfl (lv_room (Nat.le_of_ble_eq_true rfl)) d_RR_sign_80 ⟨by rw [hRc]; omega, by rw [hRs]; omega⟩) (fun g80 H locs hw B => ?_)
                  obtain ⟨kd, Z_80, hkd6, hkdz, hkdl, hZs_80, hZo_80, hBB_80, hq_80, hc1_80, hc2_80, hc3_80⟩ := hw
                  obtain ⟨I_80, hI_80⟩ : ∃ I_80, I_80 = up Iw 6 ((kd : Int) - 1) := ⟨_, rfl⟩
                  have hC_80 : CSt cs ad Qm g80 I_80 Aw Rw Z_80 := by
                    have h9 := CSt.spot hAd hCw [6, 27 + p0] hCw.2.2.2.2.1 hCw.2.2.2.2.2 hBB_80 hq_80 (fun k hk => by
                      simp only [List.mem_cons, List.not_mem_nil, or_false] at hk
                      rcases hk with h | h <;> rw [h]
                      · exact ⟨by omega, hc2_80.trans hCw.gs.symm⟩
                      · exact ⟨by have := ((Ar.va hp0)).lt; omega, hc3_80.trans (hCw.ar (Ar.va hp0)).symm⟩) hc1_80
                    rw [upW_same, ← hI_80] at h9
                    exact h9
                  have hfr_80 : ∀ k, Awy ad k → g80 k = f k := fun k hk => (hq_80 k (hk.out hAd) (hk.nin [5, 6, 27 + p0] (by have := ((Ar.va hp0)).lt; intro q hq; simp only [List.mem_cons, List.not_mem_nil, or_false] at hq; omega))).trans (hfrw k hk)
                  have hIo_80 : ∀ i, i ≠ 6 → I_80 i = Iw i := fun i hi => by rw [hI_80, up_ne _ _ hi]
                  have hI6_80 : I_80 6 = (kd : Int) - 1 := by rw [hI_80, up_self]
                  have B : Wb D vwCl (TY cs) L g80 (AL L s.heap.size) s H _ := B
                  have hdpx : I_80 (200 + (5 * p1 + ii)) = (dpx ii : Int) := by rw [hIo_80 _ (by omega)]; exact hplx.1
                  have hplx2 : Pl (I_80 (100 + (5 * p1 + ii))) (dpx ii) (Aw (100 + (5 * p1 + ii))) (vx ii) := by rw [hIo_80 _ (by omega)]; exact hplx.2.1
                  have hwhx2 := hplx2.whr hplx.2.2.1
                  rw [hV0] at hkdz hkdl
                  have hkd0 : 0 < kd := by rcases Nat.eq_zero_or_pos kd with h | h; obtain ⟨j, hj, hn⟩ := hnq2; exact absurd (hkdz j (by omega) hj) hn; exact h
                  obtain ⟨nn, hnn⟩ : ∃ nn, kd = nn + 1 := ⟨kd - 1, by omega⟩
                  have hI6n : I_80 6 = (nn : Int) := by rw [hI6_80]; omega
                  have hRB10 : RowB (Aw (20 + p0)) 10 := fun j hj => by have := hVR j hj; omega
                  refine lv_aload_n hx hb d_RR_sign_83 rfl (lv_at hl 1 rfl) ?_
                  refine x_get (C := RX6) (T := TX6) (N := 14) hx hb hts inX6 hown (B.foc1 (hC_80.x)) (hAd.f1 (by omega)) 0 rfl rfl 3 (by decide) (hts _ w_200) (fun _ h9 => h9) rfl d_RR_sign_84 ?_
                  refine lv_aload_n hx hb d_RR_sign_87 rfl (lv_at hl 1 rfl) ?_
                  refine x_get (C := RX6) (T := TX6) (N := 14) hx hb hts inX6 hown (B.foc1 (hC_80.x)) (hAd.f1 (by omega)) 0 rfl rfl 0 (by decide) (hts _ w_197) (fun _ h9 => h9) rfl d_RR_sign_88 ?_
                  refine lv_iload_n hx hb d_RR_sign_91 rfl (lv_at hl 3 rfl) ?_
                  refine x_aald hx hb (B.foc1 (hC_80.c0)) (hAd.f1 (by omega)) 0 4 rfl rfl p1 (by omega) (by omega) (by decide) (rfs_at (by omega)) d_RR_sign_92 ?_
                  refine x_get (C := RX2) (T := TX2) (N := 5) hx hb hts inX2 hown (B.foc1 (hC_80.cu (p := p1) (by omega))) (hAd.f1 (by omega)) 0 rfl rfl 2 (by decide) (hts _ w_181) (fun _ h9 => h9) rfl d_RR_sign_93 ?_
                  refine lv_iload_n hx hb d_RR_sign_96 rfl (lv_at hl 4 rfl) ?_
                  refine x_aald hx hb (B.foc1 (hC_80.pa (p := p1) (by omega))) (hAd.f1 (by omega)) 0 5 rfl rfl ii (by omega) (by omega) (by decide) (rfs_at (by omega)) d_RR_sign_97 ?_
                  refine x_callv B hA (va_runV (As := [.ref ((ad (63 + (5 * p1 + ii))))]) (rest := []) ⟨hx, hb, hml, hown, hts⟩ (c_Spot_start l D cs _ _ _ (ad 5) (ad (63 + (5 * p1 + ii))) (ad (123 + (5 * p1 + ii))) (ad 227) (ad 228) (ad 6) (Rw 52) (Rw 53) (Rw 54) (Rw 55) (dpx ii) (I_80 6) (I_80 (100 + (5 * p1 + ii))) (Bg ad) Qm Z_80 (Aw (100 + (5 * p1 + ii))) (hAd.fc [5, 63 + (5 * p1 + ii), 123 + (5 * p1 + ii)] (by simp only [List.nodup_cons, List.mem_cons, List.not_mem_nil, or_false, not_or, List.nodup_nil, and_true, not_false_eq_true]; omega) (by intro q hq; simp only [List.mem_cons, List.not_mem_nil, or_false] at hq; omega)) hC_80.sp (by rw [← hdpx]; exact hC_80.pl (m := (5 * p1 + ii)) (by omega)) (hC_80.wq (m := (5 * p1 + ii)) (by omega)) hAd.sp hC_80.2.2.1 (hAd.outs [5, 63 + (5 * p1 + ii), 123 + (5 * p1 + ii)] (by intro q hq; simp only [List.mem_cons, List.not_mem_nil, or_false] at hq; omega)) (Bg.pl (by decide)) (Bg.pl (by decide)) hC_80.2.2.2.2.1.2.2.2.bg (Ne.symm (Wkk.na hAd hC_80.2.2.2.2.1.2.2.2 (by decide) (by decide))) (hAd.ne (by decide) (by decide) (by decide)) (Wkk.na hAd hC_80.2.2.2.2.1.2.2.2 (by decide) (by decide)) (by omega) hplx2.1 hplx2.2.1) (cwV 1 hts (gw_V w_446 w_447 w_448 w_4 w_449) rfl rfl rfl (by decide +kernel) ⟨by rw [hRf]; exact Nat.le_of_ble_eq_true rfl, by rw [hRl]; exact Nat.le_of_ble_eq_true rfl⟩) ⟨K0.blind, B.recv (hAd.1 _ (by omega)) (hC_80.sp) rfl, B.pre _⟩ rfl rfl hl.1 rfl (lv_room (Nat.le_of_ble_eq_true rfl)) d_RR_sign_98 ⟨by rw [hRc]; omega, by rw [hRs]; omega⟩) (fun g98 H locs hw B => ?_)
                  obtain ⟨Z_98, hZu_98, hZl_98, hZo_98, hBB_98, hq_98, hc1_98, hc2_98, hc3_98⟩ := hw
                  have hC_98 : CSt cs ad Qm g98 I_80 Aw Rw Z_98 := CSt.bigsL hAd hC_80 [5, 63 + (5 * p1 + ii), 123 + (5 * p1 + ii)] hBB_98 hq_98 (fun k hk => by
                      simp only [List.mem_cons, List.not_mem_nil, or_false] at hk
                      rcases hk with h | h | h <;> rw [h]
                      · exact ⟨by omega, hc1_98.trans hC_80.sp.symm⟩
                      · exact ⟨by omega, hc2_98.trans (Eq.symm (by rw [← hdpx]; exact hC_80.pl (m := (5 * p1 + ii)) (by omega)))⟩
                      · exact ⟨by omega, hc3_98.trans (hC_80.wq (m := (5 * p1 + ii)) (by omega)).symm⟩)
                  have hfr_98 : ∀ k, Awy ad k → g98 k = f k := fun k hk => (hq_98 k (hk.out hAd) (hk.nin [5, 63 + (5 * p1 + ii), 123 + (5 * p1 + ii)] (by intro q hq; simp only [List.mem_cons, List.not_mem_nil, or_false] at hq; omega))).trans (hfr_80 k hk)
                  have B : Wb D vwCl (TY cs) L g98 (AL L s.heap.size) s H _ := B
                  rw [(hplx2).up.1] at hZu_98
                  rw [(hplx2).up.2] at hZl_98
                  have hZs_98 : ∀ j, j < 6 → Z_98 (ad (229 + j)) = (Aw (20 + p0)) j := fun j hj => (hZo_98 (ad (229 + j)) (hAd.ne (by omega) (by omega) (by omega)) (hAd.ne (by omega) (by omega) (by omega)) (Ne.symm (Wkk.na hAd hC_80.2.2.2.2.1.2.2.2 (by omega) (by omega)))).trans (hZs_80 j hj)
                  refine lv_aload_n hx hb d_RR_sign_101 rfl (lv_at hl 1 rfl) ?_
                  refine x_get (C := RX6) (T := TX6) (N := 14) hx hb hts inX6 hown (B.foc1 (hC_98.x)) (hAd.f1 (by omega)) 0 rfl rfl 3 (by decide) (hts _ w_200) (fun _ h9 => h9) rfl d_RR_sign_102 ?_
                  refine lv_aload_n hx hb d_RR_sign_105 rfl (lv_at hl 1 rfl) ?_
                  refine x_get (C := RX6) (T := TX6) (N := 14) hx hb hts inX6 hown (B.foc1 (hC_98.x)) (hAd.f1 (by omega)) 0 rfl rfl 3 (by decide) (hts _ w_200) (fun _ h9 => h9) rfl d_RR_sign_106 ?_
                  refine x_get (C := RX5) (T := TX5) (N := 8) hx hb hts inX5 hown (B.foc1 (hC_98.sp)) (hAd.f1 (by omega)) 0 rfl rfl 2 (by decide) (hts _ w_89) (fun _ h9 => h9) rfl d_RR_sign_109 ?_
                  refine x_iconst hx hb d_RR_sign_112 ?_
                  refine lv_aload_n hx hb d_RR_sign_113 rfl (lv_at hl 1 rfl) ?_
                  refine x_get (C := RX6) (T := TX6) (N := 14) hx hb hts inX6 hown (B.foc1 (hC_98.x)) (hAd.f1 (by omega)) 0 rfl rfl 3 (by decide) (hts _ w_200) (fun _ h9 => h9) rfl d_RR_sign_114 ?_
                  refine x_get (C := RX5) (T := TX5) (N := 8) hx hb hts inX5 hown (B.foc1 (hC_98.sp)) (hAd.f1 (by omega)) 0 rfl rfl 3 (by decide) (hts _ w_91) (fun _ h9 => h9) rfl d_RR_sign_117 ?_
                  rw [hI6n]
                  have hxa : ((Z_98 (ad 227) : Rat) / (Z_98 (ad 228) : Rat)) = Pt (vx ii) (dpx ii) := Pt_of hZu_98 hZl_98
                  refine x_calli B hA (va_runV (As := [.ref ((ad 6)), .int (iI 0), .int (iI ((nn : Int)))]) (rest := []) ⟨hx, hb, hml, hown, hts⟩ (c_Spot_signOf_s l D cs _ _ _ (ad 5) (ad 6) (ad 227) (ad 228) (ad 6) (Rw 52) (Rw 53) (Rw 54) (Rw 55) 0 nn (I_80 6) (Bg ad) (Wkk ad) Qm Z_98 (rfs 6 (fun j => ad (229 + j))) (fun j => ad (229 + j)) (hAd.fc [5, 6] (by simp only [List.nodup_cons, List.mem_cons, List.not_mem_nil, or_false, not_or, List.nodup_nil, and_true, not_false_eq_true]; omega) (by intro q hq; simp only [List.mem_cons, List.not_mem_nil, or_false] at hq; omega)) hC_98.sp hC_98.gs hAd.sp hC_98.2.2.1 (hAd.outs [5, 6] (by intro q hq; simp only [List.mem_cons, List.not_mem_nil, or_false] at hq; omega)) (fun b hb => Wkk.bg hb) hC_98.2.2.2.2.1 hC_98.2.2.2.2.2 (Bg.pl (by decide)) (Bg.pl (by decide)) (Wkk.not hAd (by decide) (by decide)) (Wkk.not hAd (by decide) (by decide)) (by omega) (by omega) (fun j hj => by rw [Nat.zero_add]; exact rfs_at (by omega)) (fun j hj => ⟨Bg.pl (by omega), Wkk.not hAd (by omega) (by omega)⟩) (sp_room (c := (fun j => Z_98 ((fun j => ad (229 + j)) (0 + j)))) (a := 10) (fun j hj => by show ((Z_98 (ad (229 + (0 + j)))).natAbs : Int) < _; rw [Nat.zero_add, hZs_98 j hj]; exact hRB10 j hj) (by omega) (by omega) (by rw [hZu_98]; exact (pl_small hd8x (rg_le hplx.2.2.1).1).1) (by rw [hZl_98]; exact (pl_small hd8x (rg_le hplx.2.2.1).1).2.1))) (cwV 3 hts (gw_V w_478 w_411 w_412 w_4 w_413) rfl rfl rfl (by decide +kernel) ⟨by rw [hRf]; exact Nat.le_of_ble_eq_true rfl, by rw [hRl]; exact Nat.le_of_ble_eq_true rfl⟩) ⟨K0.blind, B.recv (hAd.1 _ (by omega)) (hC_98.sp) rfl, B.pre _⟩ rfl rfl hl.1 rfl (lv_room (Nat.le_of_ble_eq_true rfl)) d_RR_sign_120 ⟨by rw [hRc]; omega, by rw [hRs]; omega⟩) (fun r120 g120 H locs hw B => ?_)
                  obtain ⟨gt_120, gp_120, ga_120, gb_120, Z_120, rfl, hZt_120, hWd_120, hNe_120, hZo_120, hBB_120, hq_120, hc1_120, hc2_120⟩ := hw
                  obtain ⟨R_120, hR_120⟩ : ∃ R_120, R_120 = upW Rw gt_120 gp_120 ga_120 gb_120 := ⟨_, rfl⟩
                  have hC_120 : CSt cs ad Qm g120 I_80 Aw R_120 Z_120 := by
                    have h9 := CSt.spot hAd hC_98 [6] hWd_120 hNe_120 hBB_120 hq_120 (fun k hk => by rw [List.mem_singleton.mp hk]; exact ⟨by decide, hc2_120.trans hC_98.gs.symm⟩) hc1_120
                    rw [up_same, ← hR_120] at h9
                    exact h9
                  have hfr_120 : ∀ k, Awy ad k → g120 k = f k := fun k hk => (hq_120 k (hk.out hAd) (hk.nin [5, 6] (by intro q hq; simp only [List.mem_cons, List.not_mem_nil, or_false] at hq; omega))).trans (hfr_98 k hk)
                  obtain ⟨sa, hsa⟩ : ∃ sa : Int, sa = (hsum (fun j => Z_98 ((fun j => ad (229 + j)) (0 + j))) nn (Z_98 (ad 227)) (Z_98 (ad 228)) nn).sign := ⟨_, rfl⟩
                  rw [← hsa]
                  have hsaS : sa = sg (es (Af (20 + p0)) 6 (Pt (vx ii) (dpx ii))) := by rw [hsa, ← hxa]; exact sgn_row (by rw [hZl_98]; exact (pl_small hd8x (rg_le hplx.2.2.1).1).2.2) (by omega) (fun j hj => by show Z_98 (ad (229 + (0 + j))) = _; rw [Nat.zero_add]; exact (hZs_98 j hj).trans (by rw [hV0])) (fun j h1 h2 => hkdz j (by omega) h2)
                  have hsar : -1 ≤ sa ∧ sa ≤ 1 := by rw [hsaS]; exact sg_rng _
                  have B : Wb D vwCl (TY cs) L g120 (AL L s.heap.size) s H _ := B
                  have hrw_120 : ∀ t, t < 42 → Z_120 (R_120 t) = Z_98 (Rw t) := fun t ht => by rw [hR_120, upW_lt ht]; exact hZo_120 _ (Ckk.wk hAd (hC_98.rck ht))
                  have hZu_120 := (hZo_120 (ad 227) (Wkk.not hAd (by decide) (by decide))).trans hZu_98
                  have hZl_120 := (hZo_120 (ad 228) (Wkk.not hAd (by decide) (by decide))).trans hZl_98
                  have hZs_120 : ∀ j, j < 6 → Z_120 (ad (229 + j)) = (Aw (20 + p0)) j := fun j hj => (hZo_120 (ad (229 + j)) (Wkk.not hAd (by omega) (by omega))).trans (hZs_98 j hj)
                  have hfar := sign_far (V := Af (20 + p0)) (d := dpx ii) (z := ccy ii) (cc := ccq) hnq2 (by rw [← hVq]; exact hcrq.2.1) hPtq hNBq hcrq.2.2.2.2.2.1 hz6q (by omega) (fun j hj => by have h9 := hdw j (by omega); rw [hplx.1, Int.toNat_natCast] at h9; exact h9)
                  subst hQ hav
                  exact x_iret hx hb hr hlocks B d_RR_sign_123 (⟨I_80, Aw, R_120, Z_120, hC_120, hfr_120, hInvw.scr (fun i hi => hIo_80 i (by omega)) (fun _ _ => rfl), ((hsvy.trans hsvq).trans hKw.sv).trans ⟨hIo_80 0 (by decide), fun _ _ => rfl⟩, Or.inr (Or.inr (Or.inr ⟨hny, Ay (40 + p1), nmy, ccy, hLy, ⟨by omega, by omega⟩, Or.inr ⟨hnq2, Aq (40 + p0), nmq, ccq, by rw [← hsvy.2 p0 hp0]; exact hLq, Or.inr ⟨by rw [Int.toNat_natCast]; exact hfar.1, by rw [hsaS, Int.toNat_natCast, hvx, hfar.2]⟩⟩⟩))⟩)
                · refine lv_aload_n hx hb d_RR_sign_41 rfl (lv_at hl 1 rfl) ?_
                  refine lv_iload_n hx hb d_RR_sign_42 rfl (lv_at hl 3 rfl) ?_
                  refine x_iconst hx hb d_RR_sign_43 ?_
                  refine x_imul hx hb d_RR_sign_44 ?_
                  refine lv_iload_n hx hb d_RR_sign_45 rfl (lv_at hl 4 rfl) ?_
                  refine x_iadd hx hb d_RR_sign_46 ?_
                  refine lv_iload_n hx hb d_RR_sign_47 rfl (lv_at hl 2 rfl) ?_
                  refine x_iconst hx hb d_RR_sign_48 ?_
                  refine x_imul hx hb d_RR_sign_49 ?_
                  refine lv_iload hx hb d_RR_sign_50 (lv_at hl 0 rfl) ?_
                  refine x_iadd hx hb d_RR_sign_52 ?_
                  rw [show (p0 : Int) * 5 + (jj : Int) = ((5 * p0 + jj : Nat) : Int) by omega, show (p1 : Int) * 5 + (ii : Int) = ((5 * p1 + ii : Nat) : Int) by omega]
                  refine x_calli B hA (va_runV (As := [.int (iI (((5 * p1 + ii : Nat) : Int))), .int (iI (((5 * p0 + jj : Nat) : Int)))]) (rest := []) ⟨hx, hb, hml, hown, hts⟩ (c_RR_order_i l D cs _ _ _ ad Qm Iw Aw Rw Zw p1 ii p0 jj (ccy ii) (ccq jj) hAd hCw hInvw hp1 hp0 hsaw hsbw (by omega) (by omega) (by rw [hAaw]; exact cell_of hcry.2.2.2.2.1 (hz6y ii (by omega))) (by rw [hAbw]; exact cell_of hNBq (hz6q jj (by omega)))) (cwV 2 hts (gw_V w_517 w_519 s_23 w_1 w_520) rfl rfl rfl (by decide +kernel) ⟨by rw [hRf]; exact Nat.le_of_ble_eq_true rfl, by rw [hRl]; exact Nat.le_of_ble_eq_true rfl⟩) ⟨K0.blind, B.recv (hAd.1 _ (by omega)) (hCw.x) rfl, B.pre _⟩ rfl rfl hl.1 rfl (lv_room (Nat.le_of_ble_eq_true rfl)) d_RR_sign_53 ⟨by rw [hRc]; omega, by rw [hRs]; omega⟩) (fun r53 g53 H locs hw B => ?_)
                  obtain ⟨Io, Ao, Ro, Zo, hCo, hqo, orr, rfl, hoi, hok, hor, hom, hon⟩ := hw
                  have hfro : ∀ k, Awy ad k → g53 k = f k := fun k hk => (hqo k hk).trans (hfrw k hk)
                  have B : Wb D vwCl (TY cs) L g53 (AL L s.heap.size) s H _ := B
                  have hdpo := hoi.dep hp1 ((hok.1 _ (Or.inr ⟨by omega, by omega⟩)).trans hsaw) (i := ii) (by rw [hok.1 _ (Or.inr ⟨by omega, by omega⟩)]; omega)
                  have horr : -1 ≤ orr ∧ orr ≤ 1 := by rw [hor]; unfold cmq; split; omega; split <;> omega
                  refine x_if_ne (tgt := 61) hx hb d_RR_sign_56 (by decide) (by omega) (fun h56 => ?_) (fun h56 => ?_)
                  · refine x_iinc (lv' := [(5, .int (iI (((jj : Int)) + 1))), (0, .ref ((ad 0))), (1, .int (iI ((p0 : Int)))), (2, .int (iI ((p1 : Int)))), (3, .int (iI ((ii : Int)))), (4, .int (iI ((nmq : Int))))]) hx hb d_RR_sign_61 hl (q := 0) rfl rfl (by decide) rfl (fun ls hl => ?_)
                    refine lv_goto (tgt := 34) hx hb d_RR_sign_64 (by decide) ?_
                    exact ih_LA g53 Io Ao Ro Zo (jj + 1) (by omega) hCo hfro hoi (hKw.trans hok) (by omega) (fun j hj => by
          rcases Nat.lt_or_ge j jj with hlt | hge
          · exact pre_up (by have h8 := hom (5 * p1 + ii) (by omega); omega) (by omega) (hdw j hlt)
          · rw [show j = jj by omega]; exact hon (by omega)) _ _ _ B (lv_sub hl [0, 1, 2, 3, 4, 5] rfl)
                  · refine x_iconst hx hb d_RR_sign_59 ?_
                    subst hQ hav
                    exact x_iret hx hb hr hlocks B d_RR_sign_60 (⟨Io, Ao, Ro, Zo, hCo, hfro, hoi, (hsvy.trans hsvq).trans (hKw.trans hok).sv, Or.inr (Or.inr (Or.inr ⟨hny, Ay (40 + p1), nmy, ccy, hLy, ⟨by omega, by omega⟩, Or.inr ⟨hnq2, Aq (40 + p0), nmq, ccq, by rw [← hsvy.2 p0 hp0]; exact hLq, Or.inl ⟨by rw [Int.toNat_natCast, cmq_zero.mp (show cmq (ccy ii) (ccq jj) = 0 by omega)]; exact has_cell hPtq hNBq (hz6q jj (by omega)), rfl⟩⟩⟩))⟩)
            exact LA _ g26 Iq Aq Rq Zq 0 (Nat.lt_succ_self _) hCq hfrq hInvq (Kp.rfl' _ _) (Nat.zero_le _) (fun j hj => absurd hj (Nat.not_lt_zero _)) _ _ _ B (lv_sub hl [0, 2, 3, 4, 5, 1] rfl)
        · refine x_bipush hx hb d_RR_sign_21 (by decide) ?_
          subst hQ hav
          exact x_iret hx hb hr hlocks B d_RR_sign_23 (⟨Iy, Ay, Ry, Zy, hCy, hfry, hInvy, hsvy, Or.inr (Or.inr (Or.inl ⟨hny, Ay (40 + p1), nmy, ccy, hLy, by omega, rfl⟩))⟩)
