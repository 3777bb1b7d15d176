set_option maxHeartbeats 8000000 in
set_option maxRecDepth 100000 in
theorem c_RR_all_k (l : Launch) (D : va_G) (cs : Nat → ClassId) (L : List Nat) (f : Nat → va_E) (sz : Nat) (ad Qm : Nat → Nat) (If : Nat → Int) (Af : Nat → Nat → Int) (Rf : Nat → Nat) (Zf : Nat → Int)  (hAd : AdOk L ad Qm) (hC : CSt cs ad Qm f If Af Rf Zf) (hInv : Inv If Af) : Met l (⟨"RealRoots", "all", "()I"⟩ : MethodName) (.code (⟨"RealRoots", "all", "()I"⟩ : MethodName) prog_1_method_20_code 2 (Option.some Jvm.ClassFile.FieldType.int) :: gw) ({ frames := 8, cells := 0, slots := 0, locals := 400 }) (va_Pc [.ref ((ad 0))] (K0 D vwCl (TY cs) L f sz)) (va_Qi (fun (r : Int32) (g : Nat → va_E) => ∃ (I' : Nat → Int) (A' : Nat → Nat → Int) (R' : Nat → Nat) (Z' : Nat → Int), CSt cs ad Qm g I' A' R' Z' ∧ (∀ k, Awy ad k → g k = f k) ∧ Inv I' A' ∧ SameV If Af I' A' ∧ I' 2 = 1 ∧ r = iI (I' 1)) (K1 D vwCl (TY cs) (AL L sz) L) (AL L sz)) 0 0 (AL L sz) := by
  refine Met.ofW (cc := prog_1_method_20_code) (maxL := 2) (ret := (Option.some Jvm.ClassFile.FieldType.int)) (by decide) rfl ?_
  intro p e s m args below meth c s₁ Bd hml hv
  obtain ⟨rfl, hk0⟩ := hv
  obtain ⟨hsz, B⟩ := hk0.start
  subst hsz
  have hx := Bd.exec
  have hb := Bd.bytes
  have hr := Bd.returns
  have hlocks := Bd.notSynchronized
  have hts0 := atoms_spec Bd.pre
  have hown : s.vm.findClass RX6 = some m.cls := findClass_of_methodNamed Bd.named
  have hA : ∀ q, s.heap.size ≤ q → AL L s.heap.size q := fun _ h => Or.inr h
  have hl := lv_entry ([.ref ((ad 0))]) (n := 2) (Nat.le_of_ble_eq_true rfl)
  rw [lg_entry_eq]
  generalize (lg_sl ([.ref ((ad 0))]) ++ List.replicate (2 - (lg_sl ([.ref ((ad 0))])).length) Slot.unset).toArray = ls at hl ⊢
  refine absQ (fun Q R av hQ hR hav => ?_)
  have hts : ∀ w ∈ gw, w.before av s = true := by rw [hav]; exact fun w h => hts0 w (List.mem_cons_of_mem _ h)
  have hRf : R.frames = 8 := by rw [hR]; rfl
  have hRl : R.locals = 400 := by rw [hR]; rfl
  have hRc : R.cells = 0 := by rw [hR]; rfl
  have hRs : R.slots = 0 := by rw [hR]; rfl
  clear hR hts0 Bd
  have hl : lv_has ls 2 [(0, .ref ((ad 0)))] := hl
  have hfr : ∀ k, Awy ad k → f k = f k := fun _ _ => rfl
  have hhd := hInv.1.1
  refine x_iconst hx hb d_RR_all_0 ?_
  refine lv_istore_n (lv' := [(1, .int (iI 0)), (0, .ref ((ad 0)))]) hx hb d_RR_all_1 rfl hl (by decide) rfl (fun ls hl => ?_)
  have LA : ∀ (fuel : Nat) (fw : Nat → va_E) (Iw : Nat → Int) (Aw : Nat → Nat → Int) (Rw : Nat → Nat) (Zw : Nat → Int) (qq : Nat), 13 - qq < fuel → (CSt cs ad Qm fw Iw Aw Rw Zw) → (∀ k, Awy ad k → fw k = f k) → (Inv Iw Aw) → (SameV If Af Iw Aw) → (∀ p2 : Nat, p2 < 12 → p2 < qq → Nz (Af (20 + p2)) → Iw (20 + p2) = 1) → ((qq : Int) ≤ If 0) → ∀ (H : Heap) (locs : List Loc) (ls : Array Slot), Wb D vwCl (TY cs) L fw (AL L s.heap.size) s H locs → lv_has ls 2 [(1, .int (iI ((qq : Int)))), (0, .ref ((ad 0)))] → W p l e R s m av below meth c H locs (0) (0) Q (F0 m 2 ls []) := by
    intro fuel
    induction fuel with
    | zero => intro fw Iw Aw Rw Zw qq hfu; exact absurd hfu (Nat.not_lt_zero _)
    | succ fuel ih_LA =>
      intro fw Iw Aw Rw Zw qq hfu_LA hCw hfrw hInvw hsvw hsw hqq H locs ls B hl
      have hI0w : Iw 0 = If 0 := hsvw.1
      refine lv_iload_n hx hb d_RR_all_2 rfl (lv_at hl 0 rfl) ?_
      refine lv_aload_n hx hb d_RR_all_3 rfl (lv_at hl 1 rfl) ?_
      refine x_get (C := RX6) (T := TX6) (N := 14) hx hb hts inX6 hown (B.foc1 (hCw.x)) (hAd.f1 (by omega)) 0 rfl rfl 1 (by decide) (hts _ w_198) (fun _ h9 => h9) rfl d_RR_all_4 ?_
      refine x_icmp_ge (tgt := 22) hx hb d_RR_all_7 (by decide) (by omega) (by omega) (fun h7 => ?_) (fun h7 => ?_)
      · refine lv_aload_n hx hb d_RR_all_22 rfl (lv_at hl 1 rfl) ?_
        refine x_callv B hA (va_runV (As := []) (rest := []) ⟨hx, hb, hml, hown, hts⟩ (c_RR_lineUp l D cs _ _ _ ad Qm Iw Aw Rw Zw hAd hCw hInvw (fun p2 h1 h3 hn => hsw p2 h1 (by omega) (by rw [← hsvw.2 p2 h1]; exact hn))) (cwV 0 hts (gw_V w_532 w_534 s_24 w_1 w_535) rfl rfl rfl (by decide +kernel) ⟨by rw [hRf]; exact Nat.le_of_ble_eq_true rfl, by rw [hRl]; exact Nat.le_of_ble_eq_true rfl⟩) ⟨K0.blind, B.recv (hAd.1 _ (by omega)) (hCw.x) rfl, B.pre _⟩ rfl rfl hl.1 rfl (lv_room (Nat.le_of_ble_eq_true rfl)) d_RR_all_23 ⟨by rw [hRc]; omega, by rw [hRs]; omega⟩) (fun g23 H locs hw B => ?_)
        obtain ⟨Il, Al, Rl, Zl, hCl, hql, hInvl, hl2l, hKl⟩ := hw
        have hfrl : ∀ k, Awy ad k → g23 k = f k := fun k hk => (hql k hk).trans (hfrw k hk)
        have B : Wb D vwCl (TY cs) L g23 (AL L s.heap.size) s H _ := B
        refine lv_aload_n hx hb d_RR_all_26 rfl (lv_at hl 1 rfl) ?_
        refine x_get (C := RX6) (T := TX6) (N := 14) hx hb hts inX6 hown (B.foc1 (hCl.x)) (hAd.f1 (by omega)) 0 rfl rfl 12 (by decide) (hts _ w_209) (fun _ h9 => h9) rfl d_RR_all_27 ?_
        subst hQ hav
        exact x_iret hx hb hr hlocks B d_RR_all_30 (⟨Il, Al, Rl, Zl, hCl, hfrl, hInvl, hsvw.trans hKl.sv, hl2l, rfl⟩)
      · refine lv_aload_n hx hb d_RR_all_10 rfl (lv_at hl 1 rfl) ?_
        refine lv_iload_n hx hb d_RR_all_11 rfl (lv_at hl 0 rfl) ?_
        refine x_calli B hA (va_runV (As := [.int (iI ((qq : Int)))]) (rest := []) ⟨hx, hb, hml, hown, hts⟩ (c_RR_ready l D cs _ _ _ ad Qm Iw Aw Rw Zw qq hAd hCw hInvw.1 (by omega)) (cwV 1 hts (gw_V w_370 w_372 s_14 w_1 w_373) rfl rfl rfl (by decide +kernel) ⟨by rw [hRf]; exact Nat.le_of_ble_eq_true rfl, by rw [hRl]; exact Nat.le_of_ble_eq_true rfl⟩) ⟨K0.blind, B.recv (hAd.1 _ (by omega)) (hCw.x) rfl, B.pre _⟩ rfl rfl hl.1 rfl (lv_room (Nat.le_of_ble_eq_true rfl)) d_RR_all_12 ⟨by rw [hRc]; omega, by rw [hRs]; omega⟩) (fun r12 g12 H locs hw B => ?_)
        obtain ⟨Iy, Ay, Ry, Zy, hCy, hqy, hGyy, hOyy, hryy, hsyy⟩ := hw
        have hfry : ∀ k, Awy ad k → g12 k = f k := fun k hk => (hqy k hk).trans (hfrw k hk)
        have B : Wb D vwCl (TY cs) L g12 (AL L s.heap.size) s H _ := B
        have hInvy := hInvw.rdy (by omega) (by omega) hGyy hOyy hsyy
        have hsvy := hOyy.sv (by omega)
        rcases hryy with ⟨hzy, rfl⟩ | ⟨hny, hsty, rfl⟩
        · refine lv_pop hx hb d_RR_all_15 rfl ?_
          refine x_iinc (lv' := [(1, .int (iI (((qq : Int)) + 1))), (0, .ref ((ad 0)))]) hx hb d_RR_all_16 hl (q := 0) rfl rfl (by decide) rfl (fun ls hl => ?_)
          refine lv_goto (tgt := 2) hx hb d_RR_all_19 (by decide) ?_
          exact ih_LA g12 Iy Ay Ry Zy (qq + 1) (by omega) hCy hfry hInvy (hsvw.trans hsvy) (fun p2 h1 h3 hn => by
        rcases Nat.lt_or_ge p2 qq with c | c
        · rw [hOyy.1 _ (Or.inr ⟨by omega, by omega, by omega, fun j hj => by omega⟩)]; exact hsw p2 h1 c hn
        · exfalso
          obtain ⟨j, hj, h0⟩ := hn
          rw [show p2 = qq by omega, ← hsvw.2 qq (by omega)] at h0
          exact h0 (hzy j hj)) (by omega) _ _ _ B (lv_sub hl [0, 1] rfl)
        · obtain ⟨nmy, Ny, dpy, vy, hcry⟩ : ∃ nm N dp v, Crv Iy Ay qq nm N dp v := by rcases hGyy.2.2 qq (by omega) with h | ⟨_, h⟩; omega; exact h.crv
          have hVMy := hGyy.2.1 qq (by omega)
          have hAVy := hsvy.2 qq (by omega)
          obtain ⟨ccy, hLy, hz6y⟩ := free_laid hcry.1 hVMy hcry.2.1 hcry.2.2.2.2.1 hcry.2.2.2.2.2.1
          rw [hAVy] at hLy
          rw [hcry.2.2.1]
          have hnm5y := hcry.2.2.2.1
          refine lv_pop hx hb d_RR_all_15 rfl ?_
          refine x_iinc (lv' := [(1, .int (iI (((qq : Int)) + 1))), (0, .ref ((ad 0)))]) hx hb d_RR_all_16 hl (q := 0) rfl rfl (by decide) rfl (fun ls hl => ?_)
          refine lv_goto (tgt := 2) hx hb d_RR_all_19 (by decide) ?_
          exact ih_LA g12 Iy Ay Ry Zy (qq + 1) (by omega) hCy hfry hInvy (hsvw.trans hsvy) (fun p2 h1 h3 hn => by
        rcases Nat.lt_or_ge p2 qq with c | c
        · rw [hOyy.1 _ (Or.inr ⟨by omega, by omega, by omega, fun j hj => by omega⟩)]; exact hsw p2 h1 c hn
        · rw [show p2 = qq by omega] at hn ⊢
          exact hsty) (by omega) _ _ _ B (lv_sub hl [0, 1] rfl)
  exact LA _ f If Af Rf Zf 0 (Nat.lt_succ_self _) hC hfr hInv (⟨rfl, fun _ _ => rfl⟩) (fun p2 _ h => absurd h (Nat.not_lt_zero _)) (by omega) _ _ _ B (lv_sub hl [0, 1] rfl)
theorem Crv.cnt_eq {I I' : Nat → Int} {A A' : Nat → Nat → Int} {p p' nm nm' : Nat} {N N' : Rat → Int} {dp dp' : Nat → Nat} {v v' : Nat → Int} (hM : ∀ j, j < 6 → -1000 ≤ A (20 + p) j ∧ A (20 + p) j ≤ 1000) (h : Crv I A p nm N dp v) (h' : Crv I' A' p' nm' N' dp' v') (e : A (20 + p) = A' (20 + p')) : nm = nm' := by
  have hf := h.2.1
  have hf' := h'.2.1
  rw [← e] at hf'
  have ef := FreeOf.uniq h.1 hf hf'
  have hN := h.2.2.2.2.1
  obtain ⟨r, n, hs, en⟩ := h'.2.2.2.2.1
  have hs2 : Sseq (A (40 + p)) r n := Sseq.congr hs (fun j hj => (ef j hj).symm)
  have := NB.uniq hN (show NB (A (40 + p)) N' from ⟨r, n, hs2, en⟩) 2048
  have e1 := h.2.2.2.2.2.1
  have e2 := h'.2.2.2.2.2.1
  omega
set_option maxHeartbeats 8000000 in
set_option maxRecDepth 100000 in
theorem c_RR_rank_k (l : Launch) (D : va_G) (cs : Nat → ClassId) (L : List Nat) (f : Nat → va_E) (sz : Nat) (ad Qm : Nat → Nat) (If : Nat → Int) (Af : Nat → Nat → Int) (Rf : Nat → Nat) (Zf : Nat → Int) (p0 : Nat) (a2 : Int) (hAd : AdOk L ad Qm) (hC : CSt cs ad Qm f If Af Rf Zf) (hInv : Inv If Af) (hpk : (p0 : Int) < If 0) (ha2 : -2147483648 ≤ a2 ∧ a2 < 2147483648) : Met l (⟨"RealRoots", "rank", "(II)I"⟩ : MethodName) (.code (⟨"RealRoots", "rank", "(II)I"⟩ : MethodName) prog_1_method_13_code 5 (Option.some Jvm.ClassFile.FieldType.int) :: gw) ({ frames := 8, cells := 0, slots := 0, locals := 410 }) (va_Pc [.ref ((ad 0)), .int (iI ((p0 : Int))), .int (iI a2)] (K0 D vwCl (TY cs) L f sz)) (va_Qi (fun (r : Int32) (g : Nat → va_E) => ∃ (I' : Nat → Int) (A' : Nat → Nat → Int) (R' : Nat → Nat) (Z' : Nat → Int), CSt cs ad Qm g I' A' R' Z' ∧ (∀ k, Awy ad k → g k = f k) ∧ Inv I' A' ∧ SameV If Af I' A' ∧ ((a2 < 0 ∧ r = iI (-1)) ∨ ((∀ j, j < 6 → Af (20 + p0) j = 0) ∧ r = iI (-1)) ∨ (Nz (Af (20 + p0)) ∧ ∃ (F : Nat → Int) (nm : Nat) (cc : Nat → Int), Laid (Af (20 + p0)) F (nm : Int) cc ∧ (nm : Int) ≤ a2 ∧ r = iI (-1)) ∨ (Nz (Af (20 + p0)) ∧ ∃ (F : Nat → Int) (nm : Nat) (cc : Nat → Int), Laid (Af (20 + p0)) F (nm : Int) cc ∧ (0 ≤ a2 ∧ a2 < (nm : Int)) ∧ I' 2 = 1 ∧ ∃ k : Nat, (k : Int) < I' 1 ∧ A' 5 k = A' 6 (5 * p0 + a2.toNat) ∧ r = iI (k : Int)))) (K1 D vwCl (TY cs) (AL L sz) L) (AL L sz)) 0 0 (AL L sz) := by
  refine Met.ofW (cc := prog_1_method_13_code) (maxL := 5) (ret := (Option.some Jvm.ClassFile.FieldType.int)) (by decide) rfl ?_
  intro p e s m args below meth c s₁ Bd hml hv
  obtain ⟨rfl, hk0⟩ := hv
  obtain ⟨hsz, B⟩ := hk0.start
  subst hsz
  have hx := Bd.exec
  have hb := Bd.bytes
  have hr := Bd.returns
  have hlocks := Bd.notSynchronized
  have hts0 := atoms_spec Bd.pre
  have hown : s.vm.findClass RX6 = some m.cls := findClass_of_methodNamed Bd.named
  have hA : ∀ q, s.heap.size ≤ q → AL L s.heap.size q := fun _ h => Or.inr h
  have hl := lv_entry ([.ref ((ad 0)), .int (iI ((p0 : Int))), .int (iI a2)]) (n := 5) (Nat.le_of_ble_eq_true rfl)
  rw [lg_entry_eq]
  generalize (lg_sl ([.ref ((ad 0)), .int (iI ((p0 : Int))), .int (iI a2)]) ++ List.replicate (5 - (lg_sl ([.ref ((ad 0)), .int (iI ((p0 : Int))), .int (iI a2)])).length) Slot.unset).toArray = ls at hl ⊢
  refine absQ (fun Q R av hQ hR hav => ?_)
  have hts : ∀ w ∈ gw, w.before av s = true := by rw [hav]; exact fun w h => hts0 w (List.mem_cons_of_mem _ h)
  have hRf : R.frames = 8 := by rw [hR]; rfl
  have hRl : R.locals = 410 := by rw [hR]; rfl
  have hRc : R.cells = 0 := by rw [hR]; rfl
  have hRs : R.slots = 0 := by rw [hR]; rfl
  clear hR hts0 Bd
  have hl : lv_has ls 5 [(0, .ref ((ad 0))), (1, .int (iI ((p0 : Int)))), (2, .int (iI a2))] := hl
  have hfr : ∀ k, Awy ad k → f k = f k := fun _ _ => rfl
  have hG0 := hInv.1
  have hhd := hG0.1
  have hp0 : p0 < 12 := by omega
  have hVM := hG0.2.1 p0 hp0
  refine lv_iload_n hx hb d_RR_rank_0 rfl (lv_at hl 2 rfl) ?_
  refine x_if_lt (tgt := 13) hx hb d_RR_rank_1 (by decide) (by omega) (fun h1 => ?_) (fun h1 => ?_)
  · refine x_iconst hx hb d_RR_rank_13 ?_
    subst hQ hav
    exact x_iret hx hb hr hlocks B d_RR_rank_14 (⟨If, Af, Rf, Zf, hC, hfr, hInv, ⟨rfl, fun _ _ => rfl⟩, Or.inl ⟨by omega, rfl⟩⟩)
  · refine lv_iload_n hx hb d_RR_rank_4 rfl (lv_at hl 2 rfl) ?_
    refine lv_aload_n hx hb d_RR_rank_5 rfl (lv_at hl 0 rfl) ?_
    refine lv_iload_n hx hb d_RR_rank_6 rfl (lv_at hl 1 rfl) ?_
    refine x_calli B hA (va_runV (As := [.int (iI ((p0 : Int)))]) (rest := [.int (iI a2)]) ⟨hx, hb, hml, hown, hts⟩ (c_RR_ready l D cs _ _ _ ad Qm If Af Rf Zf p0 hAd hC hInv.1 (hpk)) (cwV 1 hts (gw_V w_370 w_372 s_14 w_1 w_373) rfl rfl rfl (by decide +kernel) ⟨by rw [hRf]; exact Nat.le_of_ble_eq_true rfl, by rw [hRl]; exact Nat.le_of_ble_eq_true rfl⟩) ⟨K0.blind, B.recv (hAd.1 _ (by omega)) (hC.x) rfl, B.pre _⟩ rfl rfl hl.1 rfl (lv_room (Nat.le_of_ble_eq_true rfl)) d_RR_rank_7 ⟨by rw [hRc]; omega, by rw [hRs]; omega⟩) (fun r7 g7 H locs hw B => ?_)
    obtain ⟨Iy, Ay, Ry, Zy, hCy, hqy, hGyy, hOyy, hryy, hsyy⟩ := hw
    have hfry : ∀ k, Awy ad k → g7 k = f k := fun k hk => (hqy k hk).trans (hfr k hk)
    have B : Wb D vwCl (TY cs) L g7 (AL L s.heap.size) s H _ := B
    have hInvy := hInv.rdy (by omega) (hpk) hGyy hOyy hsyy
    have hsvy := hOyy.sv (by omega)
    rcases hryy with ⟨hzy, rfl⟩ | ⟨hny, hsty, rfl⟩
    · refine x_icmp_lt (tgt := 15) hx hb d_RR_rank_10 (by decide) (by omega) (by omega) (fun h10 => ?_) (fun h10 => ?_)
      · exfalso; omega
      · refine x_iconst hx hb d_RR_rank_13 ?_
        subst hQ hav
        exact x_iret hx hb hr hlocks B d_RR_rank_14 (⟨Iy, Ay, Ry, Zy, hCy, hfry, hInvy, hsvy, Or.inr (Or.inl ⟨hzy, rfl⟩)⟩)
    · obtain ⟨nmy, Ny, dpy, vy, hcry⟩ : ∃ nm N dp v, Crv Iy Ay p0 nm N dp v := by rcases hGyy.2.2 p0 (by omega) with h | ⟨_, h⟩; omega; exact h.crv
      have hVMy := hGyy.2.1 p0 (by omega)
      have hAVy := hsvy.2 p0 (by omega)
      obtain ⟨ccy, hLy, hz6y⟩ := free_laid hcry.1 hVMy hcry.2.1 hcry.2.2.2.2.1 hcry.2.2.2.2.2.1
      rw [hAVy] at hLy
      rw [hcry.2.2.1]
      have hnm5y := hcry.2.2.2.1
      refine x_icmp_lt (tgt := 15) hx hb d_RR_rank_10 (by decide) (by omega) (by omega) (fun h10 => ?_) (fun h10 => ?_)
      · obtain ⟨ii, hii⟩ : ∃ ii : Nat, a2 = (ii : Int) := ⟨a2.toNat, by omega⟩
        subst hii
        refine x_iconst hx hb d_RR_rank_15 ?_
        refine lv_istore_n (lv' := [(3, .int (iI 0)), (0, .ref ((ad 0))), (1, .int (iI ((p0 : Int)))), (2, .int (iI ((ii : Int))))]) hx hb d_RR_rank_16 rfl hl (by decide) rfl (fun ls hl => ?_)
        have LA : ∀ (fuel : Nat) (fw : Nat → va_E) (Iw : Nat → Int) (Aw : Nat → Nat → Int) (Rw : Nat → Nat) (Zw : Nat → Int) (qq : Nat), 13 - qq < fuel → (CSt cs ad Qm fw Iw Aw Rw Zw) → (∀ k, Awy ad k → fw k = f k) → (Inv Iw Aw) → (SameV If Af Iw Aw) → (∀ p2 : Nat, p2 < 12 → p2 < qq → Nz (Af (20 + p2)) → Iw (20 + p2) = 1) → ((qq : Int) ≤ If 0) → ∀ (H : Heap) (locs : List Loc) (ls : Array Slot), Wb D vwCl (TY cs) L fw (AL L s.heap.size) s H locs → lv_has ls 5 [(3, .int (iI ((qq : Int)))), (2, .int (iI ((ii : Int)))), (1, .int (iI ((p0 : Int)))), (0, .ref ((ad 0)))] → W p l e R s m av below meth c H locs (0) (0) Q (F0 m 17 ls []) := by
          intro fuel
          induction fuel with
          | zero => intro fw Iw Aw Rw Zw qq hfu; exact absurd hfu (Nat.not_lt_zero _)
          | succ fuel ih_LA =>
            intro fw Iw Aw Rw Zw qq hfu_LA hCw hfrw hInvw hsvw hsw hqq H locs ls B hl
            have hI0w : Iw 0 = If 0 := hsvw.1
            refine lv_iload_n hx hb d_RR_rank_17 rfl (lv_at hl 0 rfl) ?_
            refine lv_aload_n hx hb d_RR_rank_18 rfl (lv_at hl 3 rfl) ?_
            refine x_get (C := RX6) (T := TX6) (N := 14) hx hb hts inX6 hown (B.foc1 (hCw.x)) (hAd.f1 (by omega)) 0 rfl rfl 1 (by decide) (hts _ w_198) (fun _ h9 => h9) rfl d_RR_rank_19 ?_
            refine x_icmp_ge (tgt := 37) hx hb d_RR_rank_22 (by decide) (by omega) (by omega) (fun h22 => ?_) (fun h22 => ?_)
            · refine lv_aload_n hx hb d_RR_rank_37 rfl (lv_at hl 3 rfl) ?_
              refine x_callv B hA (va_runV (As := []) (rest := []) ⟨hx, hb, hml, hown, hts⟩ (c_RR_lineUp l D cs _ _ _ ad Qm Iw Aw Rw Zw hAd hCw hInvw (fun p2 h1 h3 hn => hsw p2 h1 (by omega) (by rw [← hsvw.2 p2 h1]; exact hn))) (cwV 0 hts (gw_V w_532 w_534 s_24 w_1 w_535) rfl rfl rfl (by decide +kernel) ⟨by rw [hRf]; exact Nat.le_of_ble_eq_true rfl, by rw [hRl]; exact Nat.le_of_ble_eq_true rfl⟩) ⟨K0.blind, B.recv (hAd.1 _ (by omega)) (hCw.x) rfl, B.pre _⟩ rfl rfl hl.1 rfl (lv_room (Nat.le_of_ble_eq_true rfl)) d_RR_rank_38 ⟨by rw [hRc]; omega, by rw [hRs]; omega⟩) (fun g38 H locs hw B => ?_)
              obtain ⟨Il, Al, Rl, Zl, hCl, hql, hInvl, hl2l, hKl⟩ := hw
              have hfrl : ∀ k, Awy ad k → g38 k = f k := fun k hk => (hql k hk).trans (hfrw k hk)
              have B : Wb D vwCl (TY cs) L g38 (AL L s.heap.size) s H _ := B
              have hsvl := hsvw.trans hKl.sv
              obtain ⟨zl, z1, z2, z3, z4, z5⟩ : LnOk Il Al := by rcases hInvl.2 with h | ⟨_, h⟩; omega; exact h
              have hVl : Al (20 + p0) = Af (20 + p0) := hsvl.2 p0 hp0
              have hnl0 : Nz (Al (20 + p0)) := by rw [hVl]; exact hny
              obtain ⟨hstl, _⟩ := z1 p0 hp0 (by rw [hsvl.1]; exact hpk) hnl0
              obtain ⟨nml, Nl, dpl, vl, hcrl⟩ := hInvl.crv hp0 hstl
              have hcnt : nml = nmy := Crv.cnt_eq (hInvl.1.2.1 p0 hp0) hcrl hcry (hVl.trans hAVy.symm)
              obtain ⟨k0, hk0, hk1, _⟩ := z5 p0 ii hp0 (by rw [hsvl.1]; exact hpk) hnl0 (by rw [hcrl.2.2.1]; omega)
              refine lv_aload_n hx hb d_RR_rank_41 rfl (lv_at hl 3 rfl) ?_
              refine x_get (C := RX6) (T := TX6) (N := 14) hx hb hts inX6 hown (B.foc1 (hCl.x)) (hAd.f1 (by omega)) 0 rfl rfl 11 (by decide) (hts _ w_208) (fun _ h9 => h9) rfl d_RR_rank_42 ?_
              refine lv_iload_n hx hb d_RR_rank_45 rfl (lv_at hl 2 rfl) ?_
              refine x_iconst hx hb d_RR_rank_46 ?_
              refine x_imul hx hb d_RR_rank_47 ?_
              refine lv_iload_n hx hb d_RR_rank_48 rfl (lv_at hl 1 rfl) ?_
              refine x_iadd hx hb d_RR_rank_49 ?_
              rw [show (p0 : Int) * 5 + (ii : Int) = ((5 * p0 + ii : Nat) : Int) by omega]
              refine x_iald hx hb (B.foc1 (hCl.stf)) (hAd.f1 (by omega)) 0 0 rfl rfl ((5 * p0 + ii)) (by omega) (by omega) (by decide) d_RR_rank_50 ?_
              obtain ⟨pk, ik, k2, k3, k4, k5, k6⟩ := z3 k0 hk0
              obtain ⟨hstk, _⟩ := z1 pk k2 k3 k4
              obtain ⟨nmk, Nk, dpk, vk, hcrk⟩ := hInvl.crv k2 hstk
              have hnk1 := hcrk.2.2.1
              have hnk2 := hcrk.2.2.2.1
              have hsv6 : 0 ≤ Al 6 (5 * p0 + ii) ∧ Al 6 (5 * p0 + ii) < 60 := by rw [hk1, k6]; omega
              refine lv_istore_n (lv' := [(3, .int (iI (Al 6 ((5 * p0 + ii))))), (2, .int (iI ((ii : Int)))), (1, .int (iI ((p0 : Int)))), (0, .ref ((ad 0)))]) hx hb d_RR_rank_51 rfl hl (by decide) rfl (fun ls hl => ?_)
              refine x_iconst hx hb d_RR_rank_52 ?_
              refine lv_istore (lv' := [(4, .int (iI 0)), (3, .int (iI (Al 6 ((5 * p0 + ii))))), (2, .int (iI ((ii : Int)))), (1, .int (iI ((p0 : Int)))), (0, .ref ((ad 0)))]) hx hb d_RR_rank_53 hl (by decide) rfl (fun ls hl => ?_)
              have LB : ∀ (fuel : Nat) (fb : Nat → va_E) (Ib : Nat → Int) (Ab : Nat → Nat → Int) (Rb : Nat → Nat) (Zb : Nat → Int) (bb : Nat), 60 - bb < fuel → (CSt cs ad Qm fb Ib Ab Rb Zb) → (∀ k, Awy ad k → fb k = f k) → (∀ i, Ib i = Il i) → (∀ q, Ab q = Al q) → (∀ j : Nat, j < bb → Al 5 j ≠ Al 6 (5 * p0 + ii)) → ((bb : Int) ≤ Il 1) → ∀ (H : Heap) (locs : List Loc) (ls : Array Slot), Wb D vwCl (TY cs) L fb (AL L s.heap.size) s H locs → lv_has ls 5 [(4, .int (iI ((bb : Int)))), (3, .int (iI (Al 6 (5 * p0 + ii)))), (2, .int (iI ((ii : Int)))), (1, .int (iI ((p0 : Int)))), (0, .ref ((ad 0)))] → W p l e R s m av below meth c H locs (0) (0) Q (F0 m 55 ls []) := by
                intro fuel
                induction fuel with
                | zero => intro fb Ib Ab Rb Zb bb hfu; exact absurd hfu (Nat.not_lt_zero _)
                | succ fuel ih_LB =>
                  intro fb Ib Ab Rb Zb bb hfu_LB hCb hfrb hIb hAb hbb hbb2 H locs ls B hl
                  have hIb1 := hIb 1
                  refine lv_iload hx hb d_RR_rank_55 (lv_at hl 0 rfl) ?_
                  refine lv_aload_n hx hb d_RR_rank_57 rfl (lv_at hl 4 rfl) ?_
                  refine x_get (C := RX6) (T := TX6) (N := 14) hx hb hts inX6 hown (B.foc1 (hCb.x)) (hAd.f1 (by omega)) 0 rfl rfl 12 (by decide) (hts _ w_209) (fun _ h9 => h9) rfl d_RR_rank_58 ?_
                  refine x_icmp_ge (tgt := 81) hx hb d_RR_rank_61 (by decide) (by omega) (by omega) (fun h61 => ?_) (fun h61 => ?_)
                  · refine lv_iload hx hb d_RR_rank_81 (lv_at hl 0 rfl) ?_
                    subst hQ hav
                    exact x_iret hx hb hr hlocks B d_RR_rank_83 (⟨Ib, Ab, Rb, Zb, hCb, hfrb, hInvl.same hIb hAb, hsvl.trans ⟨hIb 0, fun p2 _ => hAb _⟩, Or.inr (Or.inr (Or.inr ⟨hny, Ay (40 + p0), nmy, ccy, hLy, ⟨by omega, by omega⟩, by rw [hIb]; exact hl2l, bb, by rw [hIb]; first | omega | exact absurd hk1.symm (hbb k0 (by omega)), by rw [hAb, hAb, Int.toNat_natCast]; first | omega | exact absurd hk1.symm (hbb k0 (by omega)), rfl⟩))⟩)
                  · refine lv_aload_n hx hb d_RR_rank_64 rfl (lv_at hl 4 rfl) ?_
                    refine x_get (C := RX6) (T := TX6) (N := 14) hx hb hts inX6 hown (B.foc1 (hCb.x)) (hAd.f1 (by omega)) 0 rfl rfl 10 (by decide) (hts _ w_207) (fun _ h9 => h9) rfl d_RR_rank_65 ?_
                    refine lv_iload hx hb d_RR_rank_68 (lv_at hl 0 rfl) ?_
                    refine x_iald hx hb (B.foc1 (hCb.line)) (hAd.f1 (by omega)) 0 0 rfl rfl bb (by omega) (by omega) (by decide) d_RR_rank_70 ?_
                    obtain ⟨pj, ij, q2, q3, q4, q5, q6⟩ := z3 bb (by omega)
                    obtain ⟨hstj, _⟩ := z1 pj q2 q3 q4
                    obtain ⟨nmj, Nj, dpj, vj, hcrj⟩ := hInvl.crv q2 hstj
                    have hnj1 := hcrj.2.2.1
                    have hnj2 := hcrj.2.2.2.1
                    rw [hAb 5]
                    have hr5 : 0 ≤ Al 5 bb ∧ Al 5 bb < 60 := by rw [q6]; omega
                    refine lv_iload_n hx hb d_RR_rank_71 rfl (lv_at hl 1 rfl) ?_
                    refine x_icmp_eq (tgt := 81) hx hb d_RR_rank_72 (by decide) (by omega) (by omega) (fun h72 => ?_) (fun h72 => ?_)
                    · refine lv_iload hx hb d_RR_rank_81 (lv_at hl 0 rfl) ?_
                      subst hQ hav
                      exact x_iret hx hb hr hlocks B d_RR_rank_83 (⟨Ib, Ab, Rb, Zb, hCb, hfrb, hInvl.same hIb hAb, hsvl.trans ⟨hIb 0, fun p2 _ => hAb _⟩, Or.inr (Or.inr (Or.inr ⟨hny, Ay (40 + p0), nmy, ccy, hLy, ⟨by omega, by omega⟩, by rw [hIb]; exact hl2l, bb, by rw [hIb]; first | omega | exact absurd hk1.symm (hbb k0 (by omega)), by rw [hAb, hAb, Int.toNat_natCast]; first | omega | exact absurd hk1.symm (hbb k0 (by omega)), rfl⟩))⟩)
                    · refine x_iinc (lv' := [(4, .int (iI (((bb : Int)) + 1))), (3, .int (iI (Al 6 (5 * p0 + ii)))), (2, .int (iI ((ii : Int)))), (1, .int (iI ((p0 : Int)))), (0, .ref ((ad 0)))]) hx hb d_RR_rank_75 hl (q := 0) rfl rfl (by decide) rfl (fun ls hl => ?_)
                      refine lv_goto (tgt := 55) hx hb d_RR_rank_78 (by decide) ?_
                      exact ih_LB fb Ib Ab Rb Zb (bb + 1) (by omega) hCb hfrb hIb hAb (fun j hj => by
          rcases Nat.lt_or_ge j bb with c | c
          · exact hbb j c
          · rw [show j = bb by omega]; omega) (by omega) _ _ _ B (lv_sub hl [0, 1, 2, 3, 4] rfl)
              exact LB _ g38 Il Al Rl Zl 0 (Nat.lt_succ_self _) hCl hfrl (fun _ => rfl) (fun _ => rfl) (fun j h => absurd h (Nat.not_lt_zero _)) (by omega) _ _ _ B (lv_sub hl [0, 1, 2, 3, 4] rfl)
            · refine lv_aload_n hx hb d_RR_rank_25 rfl (lv_at hl 3 rfl) ?_
              refine lv_iload_n hx hb d_RR_rank_26 rfl (lv_at hl 0 rfl) ?_
              refine x_calli B hA (va_runV (As := [.int (iI ((qq : Int)))]) (rest := []) ⟨hx, hb, hml, hown, hts⟩ (c_RR_ready l D cs _ _ _ ad Qm Iw Aw Rw Zw qq hAd hCw hInvw.1 (by omega)) (cwV 1 hts (gw_V w_370 w_372 s_14 w_1 w_373) rfl rfl rfl (by decide +kernel) ⟨by rw [hRf]; exact Nat.le_of_ble_eq_true rfl, by rw [hRl]; exact Nat.le_of_ble_eq_true rfl⟩) ⟨K0.blind, B.recv (hAd.1 _ (by omega)) (hCw.x) rfl, B.pre _⟩ rfl rfl hl.1 rfl (lv_room (Nat.le_of_ble_eq_true rfl)) d_RR_rank_27 ⟨by rw [hRc]; omega, by rw [hRs]; omega⟩) (fun r27 g27 H locs hw B => ?_)
              obtain ⟨Iq, Aq, Rq, Zq, hCq, hqq, hGyq, hOyq, hryq, hsyq⟩ := hw
              have hfrq : ∀ k, Awy ad k → g27 k = f k := fun k hk => (hqq k hk).trans (hfrw k hk)
              have B : Wb D vwCl (TY cs) L g27 (AL L s.heap.size) s H _ := B
              have hInvq := hInvw.rdy (by omega) (by omega) hGyq hOyq hsyq
              have hsvq := hOyq.sv (by omega)
              rcases hryq with ⟨hzq, rfl⟩ | ⟨hnq, hstq, rfl⟩
              · refine lv_pop hx hb d_RR_rank_30 rfl ?_
                refine x_iinc (lv' := [(3, .int (iI (((qq : Int)) + 1))), (2, .int (iI ((ii : Int)))), (1, .int (iI ((p0 : Int)))), (0, .ref ((ad 0)))]) hx hb d_RR_rank_31 hl (q := 0) rfl rfl (by decide) rfl (fun ls hl => ?_)
                refine lv_goto (tgt := 17) hx hb d_RR_rank_34 (by decide) ?_
                exact ih_LA g27 Iq Aq Rq Zq (qq + 1) (by omega) hCq hfrq hInvq (hsvw.trans hsvq) (fun p2 h1 h3 hn => by
        rcases Nat.lt_or_ge p2 qq with c | c
        · rw [hOyq.1 _ (Or.inr ⟨by omega, by omega, by omega, fun j hj => by omega⟩)]; exact hsw p2 h1 c hn
        · exfalso
          obtain ⟨j, hj, h0⟩ := hn
          rw [show p2 = qq by omega, ← hsvw.2 qq (by omega)] at h0
          exact h0 (hzq j hj)) (by omega) _ _ _ B (lv_sub hl [0, 1, 2, 3] rfl)
              · obtain ⟨nmq, Nq, dpq, vq, hcrq⟩ : ∃ nm N dp v, Crv Iq Aq qq nm N dp v := by rcases hGyq.2.2 qq (by omega) with h | ⟨_, h⟩; omega; exact h.crv
                have hVMq := hGyq.2.1 qq (by omega)
                have hAVq := hsvq.2 qq (by omega)
                obtain ⟨ccq, hLq, hz6q⟩ := free_laid hcrq.1 hVMq hcrq.2.1 hcrq.2.2.2.2.1 hcrq.2.2.2.2.2.1
                rw [hAVq] at hLq
                rw [hcrq.2.2.1]
                have hnm5q := hcrq.2.2.2.1
                refine lv_pop hx hb d_RR_rank_30 rfl ?_
                refine x_iinc (lv' := [(3, .int (iI (((qq : Int)) + 1))), (2, .int (iI ((ii : Int)))), (1, .int (iI ((p0 : Int)))), (0, .ref ((ad 0)))]) hx hb d_RR_rank_31 hl (q := 0) rfl rfl (by decide) rfl (fun ls hl => ?_)
                refine lv_goto (tgt := 17) hx hb d_RR_rank_34 (by decide) ?_
                exact ih_LA g27 Iq Aq Rq Zq (qq + 1) (by omega) hCq hfrq hInvq (hsvw.trans hsvq) (fun p2 h1 h3 hn => by
        rcases Nat.lt_or_ge p2 qq with c | c
        · rw [hOyq.1 _ (Or.inr ⟨by omega, by omega, by omega, fun j hj => by omega⟩)]; exact hsw p2 h1 c hn
        · rw [show p2 = qq by omega] at hn ⊢
          exact hstq) (by omega) _ _ _ B (lv_sub hl [0, 1, 2, 3] rfl)
        exact LA _ g7 Iy Ay Ry Zy 0 (Nat.lt_succ_self _) hCy hfry hInvy hsvy (fun p2 _ h => absurd h (Nat.not_lt_zero _)) (by omega) _ _ _ B (lv_sub hl [0, 3, 2, 1] rfl)
      · refine x_iconst hx hb d_RR_rank_13 ?_
        subst hQ hav
        exact x_iret hx hb hr hlocks B d_RR_rank_14 (⟨Iy, Ay, Ry, Zy, hCy, hfry, hInvy, hsvy, Or.inr (Or.inr (Or.inl ⟨hny, Ay (40 + p0), nmy, ccy, hLy, by omega, rfl⟩))⟩)
