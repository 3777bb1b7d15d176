theorem Met.post {l : Launch} {y : MethodName} {ws : List Cond} {rm : Room} {Pc : Array Value → State → Prop} {Qc Qc' : Array Value → State → Outcome → State → Prop} {mc ms : Nat} {free : Addr → Prop} (h : Met l y ws rm Pc Qc mc ms free) (hq : ∀ a st o t, Qc a st o t → Qc' a st o t) : Met l y ws rm Pc Qc' mc ms free := fun p e h1 h2 h3 s m args below h4 h5 h6 h7 => by
  obtain ⟨n, o, a, b, c, d, hL⟩ := h p e h1 h2 h3 s m args below h4 h5 h6 h7
  exact ⟨n, o, a, b, c, hq _ _ _ _ d, hL⟩
theorem va_Qi.mono {S : Type} {post post' : Int32 → S → Prop} {B : S → State → Prop} {A : Nat → Prop} (h : ∀ r u, post r u → post' r u) : ∀ a st o t, va_Qi post B A a st o t → va_Qi post' B A a st o t := fun a st o t hq => by
  obtain ⟨⟨r, u, h1, h2, h3⟩, h4⟩ := hq
  exact ⟨⟨r, u, h1, h r u h2, h3⟩, h4⟩
theorem cells_cmp {p1 F : Nat → Int} {N : Rat → Int} (hP : Part p1 F) (hN : NB F N) {i j : Nat} {z y : Int} (hz : Cell N (i : Int) z 256) (hy : Cell N (j : Int) y 256) : cmq z y = cmq (i : Int) (j : Int) := by
  have hF := hP.2.2.1
  have key : ∀ (a b : Nat) (s t : Int), a < b → Cell N (a : Int) s 256 → Cell N (b : Int) t 256 → s < t := fun a b s t hab h1 h2 => by
    rcases Int.lt_trichotomy s t with c | c | c
    · exact c
    · exfalso
      subst c
      have e1 := h1.2.1
      have e2 := h2.2.2
      have := (cell_one hP hN (show 248 ≤ 256 by omega) (v := s) (by omega)).1
      omega
    · exfalso
      have m := hN.mono hF (x := Pt (t + 1) 256) (y := Pt s 256) (Pt_le (by omega))
      have e1 := h1.2.1
      have e2 := h2.2.2
      omega
  rcases Nat.lt_trichotomy i j with c | c | c
  · rw [cmq_m1 (key i j z y c hz hy), cmq_m1 (by omega)]
  · subst c
    rw [cmq_00 (Cell.same hN hF hy hz), cmq_00 rfl]
  · rw [cmq_p1 (key j i y z c hy hz), cmq_p1 (by omega)]
/-- a cell that is alone holds no other's cell -/
theorem iso_apart {F : Nat → Int} {N : Rat → Int} (hN : NB F N) (hF : Sqf F) {i j : Nat} {v z y : Int} {d : Nat} (hd : d ≤ 248) (h : Iso N (i : Int) v d) (hz : Cell N (i : Int) z 256) (hy : Cell N (j : Int) y 256) (hij : i ≠ j) : z / 2 ^ (256 - d) ≠ y / 2 ^ (256 - d) := fun e => by
  have h1 := Cell.pre hN hF hz hd h.cell
  have h2 : Cell N (j : Int) (y / 2 ^ (256 - d)) d := Cell.down hN hF (by rw [show d + (256 - d) = 256 by omega]; exact hy)
  rw [← e, ← h1] at h2
  have a1 := h.2.1
  have a2 := h.2.2
  have b1 := h2.2.1
  have b2 := h2.2.2
  omega
theorem pre_up {z y : Int} {m d : Nat} (hmd : m ≤ d) (hd : d ≤ 256) (h : z / 2 ^ (256 - m) ≠ y / 2 ^ (256 - m)) : z / 2 ^ (256 - d) ≠ y / 2 ^ (256 - d) := fun e => h (by
  rw [show 256 - m = (256 - d) + (d - m) by omega, div_pow_add, div_pow_add, e])
/-- what order tells, over the whole state -/
def OrdQ (I : Nat → Int) (A : Nat → Nat → Int) (I' : Nat → Int) (A' : Nat → Nat → Int) (ma : Nat) (za zb rr : Int) : Prop := Inv I' A' ∧ Kp I A I' A' ∧ rr = cmq za zb ∧ (∀ k, k < 60 → I (200 + k) ≤ I' (200 + k)) ∧ (rr ≠ 0 → za / 2 ^ (256 - (I' (200 + ma)).toNat) ≠ zb / 2 ^ (256 - (I' (200 + ma)).toNat))
theorem ord_same {I : Nat → Int} {A : Nat → Nat → Int} {p ia ib nm : Nat} {N : Rat → Int} {dp : Nat → Nat} {v : Nat → Int} {za zb : Int} (hI : Inv I A) (hp : p < 12) (hc : Crv I A p nm N dp v) (ha : ia < nm) (hb : ib < nm) (hza : Cell N (ia : Int) za 256) (hzb : Cell N (ib : Int) zb 256) : OrdQ I A I A (5 * p + ia) za zb (cmq (ia : Int) (ib : Int)) := by
  obtain ⟨⟨p1, hP⟩, _⟩ := hc.part (hI.1.2.1 p hp)
  have hN := hc.2.2.2.2.1
  have e := cells_cmp hP hN hza hzb
  refine ⟨hI, ⟨fun _ _ => rfl, fun _ _ => rfl⟩, e.symm, fun k _ => Int.le_refl _, fun hne => ?_⟩
  have hpl := hc.2.2.2.2.2.2.1 ia ha
  rw [hpl.1, Int.toNat_natCast]
  exact iso_apart hN hP.2.2.1 hpl.2.1.1 (hc.iso hP.2.2.1 ha) hza hzb (fun h => hne (by rw [h]; exact cmq_00 rfl))
theorem ord_two {I I' : Nat → Int} {A A' : Nat → Nat → Int} {pa ia na pb ib nb d1 d2 : Nat} {Na Nb : Rat → Int} {da db : Nat → Nat} {va vb : Nat → Int} {v1 v2 rr za zb : Int} (hI : Inv I A) (hpa : pa < 12) (hpb : pb < 12) (hab : pa ≠ pb) (hia : ia < na) (hib : ib < nb) (hca : Crv I A pa na Na da va) (hcb : Crv I A pb nb Nb db vb) (hza : Cell Na (ia : Int) za 256) (hzb : Cell Nb (ib : Int) zb 256) (hrr : ∀ z1 z2, Cell Na (ia : Int) z1 256 → Cell Nb (ib : Int) z2 256 → rr = cmq z1 z2) (c1 : Crv I' A' pa na Na (va_up da ia d1) (up va ia v1)) (c2 : Crv I' A' pb nb Nb (va_up db ib d2) (up vb ib v2)) (e1 : da ia ≤ d1) (e2 : db ib ≤ d2) (hne : rr ≠ 0 → v1 / 2 ^ (d1 - min d1 d2) ≠ v2 / 2 ^ (d2 - min d1 d2)) (hIo : ∀ i, i ≠ 3 → i ≠ 6 → i ≠ 200 + (5 * pa + ia) → i ≠ 200 + (5 * pb + ib) → I' i = I i) (hAo : ∀ q, q ≠ 0 → q ≠ 2 → q ≠ 7 → q ≠ 100 + (5 * pa + ia) → q ≠ 100 + (5 * pb + ib) → A' q = A q) : OrdQ I A I' A' (5 * pa + ia) za zb rr := by
  have hna := hca.2.2.2.1
  have hnb := hcb.2.2.2.1
  have kp : Kp I A I' A' := ⟨fun i hi => hIo i (by omega) (by omega) (by omega) (by omega), fun q hq => hAo q (by omega) (by omega) (by omega) (by omega) (by omega)⟩
  obtain ⟨⟨p1, hP1⟩, _⟩ := hca.part (hI.1.2.1 pa hpa)
  obtain ⟨⟨p2, hP2⟩, _⟩ := hcb.part (hI.1.2.1 pb hpb)
  have g1 := c1.2.2.2.2.2.2.1 ia hia
  have g2 := c2.2.2.2.2.2.2.1 ib hib
  rw [va_up_self, up_self] at g1 g2
  have b1 := (hca.2.2.2.2.2.2.1 ia hia).1
  have b2 := (hcb.2.2.2.2.2.2.1 ib hib).1
  refine ⟨hI.kp kp (fun p hp _ hc => ?_), kp, hrr za zb hza hzb, fun k hk => ?_, fun h0 => ?_⟩
  · by_cases ca : p = pa
    · rw [ca]; exact c1.ok
    · by_cases cb : p = pb
      · rw [cb]; exact c2.ok
      · exact hc.congr hp (kp.2 _ (by omega)) (kp.2 _ (by omega)) (kp.1 _ (by omega)) (fun i hi => ⟨hIo _ (by omega) (by omega) (by omega) (by omega), hIo _ (by omega) (by omega) (by omega) (by omega), hAo _ (by omega) (by omega) (by omega) (by omega) (by omega)⟩)
  · by_cases ca : k = 5 * pa + ia
    · rw [ca, g1.1, b1]; omega
    · by_cases cb : k = 5 * pb + ib
      · rw [cb, g2.1, b2]; omega
      · rw [hIo _ (by omega) (by omega) (by omega) (by omega)]; exact Int.le_refl _
  · have h1 := hne h0
    rw [g1.1, Int.toNat_natCast]
    have q1 := Cell.pre hca.2.2.2.2.1 hP1.2.2.1 hza g1.2.1.1 g1.2.2
    have q2 := Cell.pre hcb.2.2.2.2.1 hP2.2.2.1 hzb g2.2.1.1 g2.2.2
    have k1 := g1.2.1.1
    have k2 := g2.2.1.1
    rw [q1, q2, ← div_pow_add, ← div_pow_add, show 256 - d1 + (d1 - min d1 d2) = 256 - min d1 d2 by omega, show 256 - d2 + (d2 - min d1 d2) = 256 - min d1 d2 by omega] at h1
    exact pre_up (by omega) (by omega) h1
theorem cell_of {F : Nat → Int} {N : Rat → Int} {i z : Int} (hN : NB F N) (h : Cell N i z 256) : CellOf F i z := fun N' hN' => by
  rw [show N' = N from funext (fun x => NB.uniq hN hN' x)]; exact h
set_option maxHeartbeats 8000000 in
set_option maxRecDepth 100000 in
theorem c_RR_order_s (l : Launch) (D : va_G) (cs : Nat → ClassId) (L : List Nat) (f : Nat → va_E) (sz : Nat) (ad Qm : Nat → Nat) (If : Nat → Int) (Af : Nat → Nat → Int) (Rf : Nat → Nat) (Zf : Nat → Int) (pa ia ib : Nat) (hAd : AdOk L ad Qm) (hC : CSt cs ad Qm f If Af Rf Zf) (hpa : pa < 12) (hia : ia < 5) (hib : ib < 5) : Met l (⟨"RealRoots", "order", "(II)I"⟩ : MethodName) (.code (⟨"RealRoots", "order", "(II)I"⟩ : MethodName) prog_1_method_49_code 12 (Option.some Jvm.ClassFile.FieldType.int) :: gw) ({ frames := 6, cells := 0, slots := 0, locals := 320 }) (va_Pc [.ref ((ad 0)), .int (iI (((5 * pa + ia : Nat) : Int))), .int (iI (((5 * pa + ib : Nat) : Int)))] (K0 D vwCl (TY cs) L f sz)) (va_Qi (fun (r : Int32) (g : Nat → va_E) => r = iI (cmq (ia : Int) (ib : Int)) ∧ g = f) (K1 D vwCl (TY cs) (AL L sz) L) (AL L sz)) 0 0 (AL L sz) := by
  refine Met.ofW (cc := prog_1_method_49_code) (maxL := 12) (ret := (Option.some Jvm.ClassFile.FieldType.int)) (by decide) rfl ?_
  intro p e s m args below meth c s₁ Bd hml hv
  obtain ⟨rfl, hk0⟩ := hv
  obtain ⟨hsz, B⟩ := hk0.start
  subst hsz
  have hx := Bd.exec
  have hb := Bd.bytes
  have hr := Bd.returns
  have hlocks := Bd.notSynchronized
  have hts0 := atoms_spec Bd.pre
  have hown : s.vm.findClass RX6 = some m.cls := findClass_of_methodNamed Bd.named
  have hA : ∀ q, s.heap.size ≤ q → AL L s.heap.size q := fun _ h => Or.inr h
  have hl := lv_entry ([.ref ((ad 0)), .int (iI (((5 * pa + ia : Nat) : Int))), .int (iI (((5 * pa + ib : Nat) : Int)))]) (n := 12) (Nat.le_of_ble_eq_true rfl)
  rw [lg_entry_eq]
  generalize (lg_sl ([.ref ((ad 0)), .int (iI (((5 * pa + ia : Nat) : Int))), .int (iI (((5 * pa + ib : Nat) : Int)))]) ++ List.replicate (12 - (lg_sl ([.ref ((ad 0)), .int (iI (((5 * pa + ia : Nat) : Int))), .int (iI (((5 * pa + ib : Nat) : Int)))])).length) Slot.unset).toArray = ls at hl ⊢
  refine absQ (fun Q R av hQ hR hav => ?_)
  have hts : ∀ w ∈ gw, w.before av s = true := by rw [hav]; exact fun w h => hts0 w (List.mem_cons_of_mem _ h)
  have hRf : R.frames = 6 := by rw [hR]; rfl
  have hRl : R.locals = 320 := by rw [hR]; rfl
  have hRc : R.cells = 0 := by rw [hR]; rfl
  have hRs : R.slots = 0 := by rw [hR]; rfl
  clear hR hts0 Bd
  have hl : lv_has ls 12 [(0, .ref ((ad 0))), (1, .int (iI (((5 * pa + ia : Nat) : Int)))), (2, .int (iI (((5 * pa + ib : Nat) : Int))))] := hl
  have hfr : ∀ k, Awy ad k → f k = f k := fun _ _ => rfl
  refine lv_aload_n hx hb d_RR_order_0 rfl (lv_at hl 0 rfl) ?_
  refine x_get (C := RX6) (T := TX6) (N := 14) hx hb hts inX6 hown (B.foc1 (hC.x)) (hAd.f1 (by omega)) 0 rfl rfl 0 (by decide) (hts _ w_197) (fun _ h9 => h9) rfl d_RR_order_1 ?_
  refine lv_iload_n hx hb d_RR_order_4 rfl (lv_at hl 1 rfl) ?_
  refine x_iconst hx hb d_RR_order_5 ?_
  refine x_idiv hx hb d_RR_order_6 (by omega) (by omega) (by omega) ?_
  rw [show (((5 * pa + ia : Nat) : Int)).tdiv 5 = (pa : Int) by rw [Int.tdiv_eq_ediv_of_nonneg (by omega)]; omega]
  refine x_aald hx hb (B.foc1 (hC.c0)) (hAd.f1 (by omega)) 0 4 rfl rfl pa (by omega) (by omega) (by decide) (rfs_at (by omega)) d_RR_order_7 ?_
  refine lv_astore_n (lv' := [(3, .ref ((ad (15 + pa)))), (0, .ref ((ad 0))), (1, .int (iI (((5 * pa + ia : Nat) : Int)))), (2, .int (iI (((5 * pa + ib : Nat) : Int))))]) hx hb d_RR_order_8 rfl hl (by decide) rfl (fun ls hl => ?_)
  refine lv_aload_n hx hb d_RR_order_9 rfl (lv_at hl 1 rfl) ?_
  refine x_get (C := RX6) (T := TX6) (N := 14) hx hb hts inX6 hown (B.foc1 (hC.x)) (hAd.f1 (by omega)) 0 rfl rfl 0 (by decide) (hts _ w_197) (fun _ h9 => h9) rfl d_RR_order_10 ?_
  refine lv_iload_n hx hb d_RR_order_13 rfl (lv_at hl 3 rfl) ?_
  refine x_iconst hx hb d_RR_order_14 ?_
  refine x_idiv hx hb d_RR_order_15 (by omega) (by omega) (by omega) ?_
  rw [show (((5 * pa + ib : Nat) : Int)).tdiv 5 = (pa : Int) by rw [Int.tdiv_eq_ediv_of_nonneg (by omega)]; omega]
  refine x_aald hx hb (B.foc1 (hC.c0)) (hAd.f1 (by omega)) 0 4 rfl rfl pa (by omega) (by omega) (by decide) (rfs_at (by omega)) d_RR_order_16 ?_
  refine lv_astore (lv' := [(4, .ref ((ad (15 + pa)))), (3, .ref ((ad (15 + pa)))), (0, .ref ((ad 0))), (1, .int (iI (((5 * pa + ia : Nat) : Int)))), (2, .int (iI (((5 * pa + ib : Nat) : Int))))]) hx hb d_RR_order_17 hl (by decide) rfl (fun ls hl => ?_)
  refine lv_iload_n hx hb d_RR_order_19 rfl (lv_at hl 3 rfl) ?_
  refine x_iconst hx hb d_RR_order_20 ?_
  refine x_irem hx hb d_RR_order_21 (by omega) (by omega) (by omega) ?_
  rw [show (((5 * pa + ia : Nat) : Int)).tmod 5 = (ia : Int) by rw [Int.tmod_eq_emod_of_nonneg (by omega)]; omega]
  refine lv_istore (lv' := [(5, .int (iI ((ia : Int)))), (4, .ref ((ad (15 + pa)))), (3, .ref ((ad (15 + pa)))), (0, .ref ((ad 0))), (1, .int (iI (((5 * pa + ia : Nat) : Int)))), (2, .int (iI (((5 * pa + ib : Nat) : Int))))]) hx hb d_RR_order_22 hl (by decide) rfl (fun ls hl => ?_)
  refine lv_iload_n hx hb d_RR_order_24 rfl (lv_at hl 5 rfl) ?_
  refine x_iconst hx hb d_RR_order_25 ?_
  refine x_irem hx hb d_RR_order_26 (by omega) (by omega) (by omega) ?_
  rw [show (((5 * pa + ib : Nat) : Int)).tmod 5 = (ib : Int) by rw [Int.tmod_eq_emod_of_nonneg (by omega)]; omega]
  refine lv_istore (lv' := [(6, .int (iI ((ib : Int)))), (5, .int (iI ((ia : Int)))), (4, .ref ((ad (15 + pa)))), (3, .ref ((ad (15 + pa)))), (0, .ref ((ad 0))), (1, .int (iI (((5 * pa + ia : Nat) : Int)))), (2, .int (iI (((5 * pa + ib : Nat) : Int))))]) hx hb d_RR_order_27 hl (by decide) rfl (fun ls hl => ?_)
  refine lv_iload_n hx hb d_RR_order_29 rfl (lv_at hl 5 rfl) ?_
  refine x_iconst hx hb d_RR_order_30 ?_
  refine x_idiv hx hb d_RR_order_31 (by omega) (by omega) (by omega) ?_
  rw [show (((5 * pa + ia : Nat) : Int)).tdiv 5 = (pa : Int) by rw [Int.tdiv_eq_ediv_of_nonneg (by omega)]; omega]
  refine lv_iload_n hx hb d_RR_order_32 rfl (lv_at hl 6 rfl) ?_
  refine x_iconst hx hb d_RR_order_33 ?_
  refine x_idiv hx hb d_RR_order_34 (by omega) (by omega) (by omega) ?_
  rw [show (((5 * pa + ib : Nat) : Int)).tdiv 5 = (pa : Int) by rw [Int.tdiv_eq_ediv_of_nonneg (by omega)]; omega]
  refine x_icmp_ne (tgt := 46) hx hb d_RR_order_35 (by decide) (by omega) (by omega) (fun h35 => ?_) (fun h35 => ?_)
  · exfalso; omega
  · refine lv_iload hx hb d_RR_order_38 (lv_at hl 1 rfl) ?_
    refine lv_iload hx hb d_RR_order_40 (lv_at hl 0 rfl) ?_
    refine x_calli B hA (va_runS (As := [.int (iI ((ia : Int))), .int (iI ((ib : Int)))]) (rest := []) ⟨hx, hb, hml, hown, hts⟩ (c_Int_compare l D cs _ _ _ ((ia : Int)) ((ib : Int)) (by omega) (by omega)) (va_cwS 2 hts (gw_S w_521 w_522 w_10 w_523) rfl rfl rfl (by decide +kernel) ⟨by rw [hRf]; exact Nat.le_of_ble_eq_true rfl, by rw [hRl]; exact Nat.le_of_ble_eq_true rfl⟩) ⟨K0.blind, B.pre _⟩ rfl rfl hl.1 rfl (lv_room (Nat.le_of_ble_eq_true rfl)) d_RR_order_42 ⟨by rw [hRc]; omega, by rw [hRs]; omega⟩) (fun r42 g42 H locs hw B => ?_)
    obtain ⟨rfl, hgf⟩ := hw
    rw [hgf] at B
    subst hQ hav
    exact x_iret hx hb hr hlocks B d_RR_order_45 (⟨rfl, rfl⟩)
set_option maxHeartbeats 8000000 in
theorem c_RR_order_i (l : Launch) (D : va_G) (cs : Nat → ClassId) (L : List Nat) (f : Nat → va_E) (sz : Nat) (ad Qm : Nat → Nat) (If : Nat → Int) (Af : Nat → Nat → Int) (Rf : Nat → Nat) (Zf : Nat → Int) (pa ia pb ib : Nat) (za zb : Int) (hAd : AdOk L ad Qm) (hC : CSt cs ad Qm f If Af Rf Zf) (hInv : Inv If Af) (hpa : pa < 12) (hpb : pb < 12) (hsa : If (20 + pa) = 1) (hsb : If (20 + pb) = 1) (hia : (ia : Int) < If (40 + pa)) (hib : (ib : Int) < If (40 + pb)) (hza : CellOf (Af (40 + pa)) (ia : Int) za) (hzb : CellOf (Af (40 + pb)) (ib : Int) zb) : Met l (⟨"RealRoots", "order", "(II)I"⟩ : MethodName) (.code (⟨"RealRoots", "order", "(II)I"⟩ : MethodName) prog_1_method_49_code 12 (Option.some Jvm.ClassFile.FieldType.int) :: gw) ({ frames := 6, cells := 0, slots := 0, locals := 320 }) (va_Pc [.ref (ad 0), .int (iI ((5 * pa + ia : Nat) : Int)), .int (iI ((5 * pb + ib : Nat) : Int))] (K0 D vwCl (TY cs) L f sz)) (va_Qi (fun (r : Int32) (g : Nat → va_E) => ∃ (I' : Nat → Int) (A' : Nat → Nat → Int) (R' : Nat → Nat) (Z' : Nat → Int), CSt cs ad Qm g I' A' R' Z' ∧ (∀ k, Awy ad k → g k = f k) ∧ ∃ rr : Int, r = iI rr ∧ OrdQ If Af I' A' (5 * pa + ia) za zb rr) (K1 D vwCl (TY cs) (AL L sz) L) (AL L sz)) 0 0 (AL L sz) := by
  have hVa := hInv.1.2.1 pa hpa
  have hVb := hInv.1.2.1 pb hpb
  obtain ⟨na, Na, da, va, hca⟩ : ∃ nm N dp v, Crv If Af pa nm N dp v := by
    rcases hInv.1.2.2 pa hpa with h | ⟨_, h⟩
    · omega
    · exact h.crv
  obtain ⟨nb, Nb, db, vb, hcb⟩ : ∃ nm N dp v, Crv If Af pb nm N dp v := by
    rcases hInv.1.2.2 pb hpb with h | ⟨_, h⟩
    · omega
    · exact h.crv
  have ea := hca.2.2.1
  have eb := hcb.2.2.1
  have na5 := hca.2.2.2.1
  have nb5 := hcb.2.2.2.1
  by_cases hab : pa = pb
  · subst hab
    have hbc : Crv If Af pa na Na da va := hca
    refine (c_RR_order_s l D cs L f sz ad Qm If Af Rf Zf pa ia ib hAd hC hpa (by omega) (by omega)).post (va_Qi.mono (fun r g hq => ?_))
    obtain ⟨h1, h2⟩ := hq
    subst h2
    exact ⟨If, Af, Rf, Zf, hC, fun _ _ => rfl, _, h1, ord_same hInv hpa hca (by omega) (by omega) (hza Na hca.2.2.2.2.1) (hzb Na hca.2.2.2.2.1)⟩
  · refine (c_RR_order l D cs L f sz ad Qm If Af Rf Zf pa ia na pb ib nb Na Nb da va db vb hAd hC hpa hpb hab (by omega) (by omega) hVa hVb hca hcb hInv.1.1).post (va_Qi.mono (fun r g hq => ?_))
    obtain ⟨I', A', R', Z', h1, h2, ⟨rr, h3, h4, d1, v1, d2, v2, h5, h6, h7, h8, h9⟩, h10, h11⟩ := hq
    exact ⟨I', A', R', Z', h1, h2, rr, h3, ord_two hInv hpa hpb hab (by omega) (by omega) hca hcb (hza Na hca.2.2.2.2.1) (hzb Nb hcb.2.2.2.2.1) h4 h5 h6 h7.1 h8.1 h9 h10 h11⟩
set_option maxHeartbeats 8000000 in
set_option maxRecDepth 100000 in
theorem c_RR_compare_k (l : Launch) (D : va_G) (cs : Nat → ClassId) (L : List Nat) (f : Nat → va_E) (sz : Nat) (ad Qm : Nat → Nat) (If : Nat → Int) (Af : Nat → Nat → Int) (Rf : Nat → Nat) (Zf : Nat → Int) (p0 p1 : Nat) (a2 a4 : Int) (hAd : AdOk L ad Qm) (hC : CSt cs ad Qm f If Af Rf Zf) (hInv : Inv If Af) (hpk : (p0 : Int) < If 0) (hpk1 : (p1 : Int) < If 0) (ha2 : -2147483648 ≤ a2 ∧ a2 < 2147483648) (ha4 : -2147483648 ≤ a4 ∧ a4 < 2147483648) : Met l (⟨"RealRoots", "compare", "(IIII)I"⟩ : MethodName) (.code (⟨"RealRoots", "compare", "(IIII)I"⟩ : MethodName) prog_1_method_12_code 5 (Option.some Jvm.ClassFile.FieldType.int) :: gw) ({ frames := 7, cells := 0, slots := 0, locals := 380 }) (va_Pc [.ref ((ad 0)), .int (iI ((p0 : Int))), .int (iI a2), .int (iI ((p1 : Int))), .int (iI a4)] (K0 D vwCl (TY cs) L f sz)) (va_Qi (fun (r : Int32) (g : Nat → va_E) => ∃ (I' : Nat → Int) (A' : Nat → Nat → Int) (R' : Nat → Nat) (Z' : Nat → Int), CSt cs ad Qm g I' A' R' Z' ∧ (∀ k, Awy ad k → g k = f k) ∧ Inv I' A' ∧ SameV If Af I' A' ∧ (((a2 < 0 ∨ a4 < 0) ∧ r = iI (-9)) ∨ (((∀ j, j < 6 → Af (20 + p0) j = 0) ∨ ∀ j, j < 6 → Af (20 + p1) j = 0) ∧ r = iI (-9)) ∨ (Nz (Af (20 + p0)) ∧ ∃ (F : Nat → Int) (nm : Nat) (cc : Nat → Int), Laid (Af (20 + p0)) F (nm : Int) cc ∧ (nm : Int) ≤ a2 ∧ r = iI (-9)) ∨ (Nz (Af (20 + p1)) ∧ ∃ (F : Nat → Int) (nm : Nat) (cc : Nat → Int), Laid (Af (20 + p1)) F (nm : Int) cc ∧ (nm : Int) ≤ a4 ∧ r = iI (-9)) ∨ (Nz (Af (20 + p0)) ∧ Nz (Af (20 + p1)) ∧ ∃ (F : Nat → Int) (nm : Nat) (cc : Nat → Int) (F2 : Nat → Int) (n2 : Nat) (c2 : Nat → Int), Laid (Af (20 + p0)) F (nm : Int) cc ∧ Laid (Af (20 + p1)) F2 (n2 : Int) c2 ∧ (0 ≤ a2 ∧ a2 < (nm : Int)) ∧ (0 ≤ a4 ∧ a4 < (n2 : Int)) ∧ r = iI (cmq (cc a2.toNat) (c2 a4.toNat))))) (K1 D vwCl (TY cs) (AL L sz) L) (AL L sz)) 0 0 (AL L sz) := by
  refine Met.ofW (cc := prog_1_method_12_code) (maxL := 5) (ret := (Option.some Jvm.ClassFile.FieldType.int)) (by decide) rfl ?_
  intro p e s m args below meth c s₁ Bd hml hv
  obtain ⟨rfl, hk0⟩ := hv
  obtain ⟨hsz, B⟩ := hk0.start
  subst hsz
  have hx := Bd.exec
  have hb := Bd.bytes
  have hr := Bd.returns
  have hlocks := Bd.notSynchronized
  have hts0 := atoms_spec Bd.pre
  have hown : s.vm.findClass RX6 = some m.cls := findClass_of_methodNamed Bd.named
  have hA : ∀ q, s.heap.size ≤ q → AL L s.heap.size q := fun _ h => Or.inr h
  have hl := lv_entry ([.ref ((ad 0)), .int (iI ((p0 : Int))), .int (iI a2), .int (iI ((p1 : Int))), .int (iI a4)]) (n := 5) (Nat.le_of_ble_eq_true rfl)
  rw [lg_entry_eq]
  generalize (lg_sl ([.ref ((ad 0)), .int (iI ((p0 : Int))), .int (iI a2), .int (iI ((p1 : Int))), .int (iI a4)]) ++ List.replicate (5 - (lg_sl ([.ref ((ad 0)), .int (iI ((p0 : Int))), .int (iI a2), .int (iI ((p1 : Int))), .int (iI a4)])).length) Slot.unset).toArray = ls at hl ⊢
  refine absQ (fun Q R av hQ hR hav => ?_)
  have hts : ∀ w ∈ gw, w.before av s = true := by rw [hav]; exact fun w h => hts0 w (List.mem_cons_of_mem _ h)
  have hRf : R.frames = 7 := by rw [hR]; rfl
  have hRl : R.locals = 380 := by rw [hR]; rfl
  have hRc : R.cells = 0 := by rw [hR]; rfl
  have hRs : R.slots = 0 := by rw [hR]; rfl
  clear hR hts0 Bd
  have hl : lv_has ls 5 [(0, .ref ((ad 0))), (1, .int (iI ((p0 : Int)))), (2, .int (iI a2)), (3, .int (iI ((p1 : Int)))), (4, .int (iI a4))] := hl
  have hfr : ∀ k, Awy ad k → f k = f k := fun _ _ => rfl
  have hG0 := hInv.1
  have hhd := hG0.1
  have hp0 : p0 < 12 := by omega
  have hVM := hG0.2.1 p0 hp0
  have hp1 : p1 < 12 := by omega
  refine lv_iload_n hx hb d_RR_compare_0 rfl (lv_at hl 2 rfl) ?_
  refine x_if_lt (tgt := 28) hx hb d_RR_compare_1 (by decide) (by omega) (fun h1 => ?_) (fun h1 => ?_)
  · refine x_bipush hx hb d_RR_compare_28 (by decide) ?_
    subst hQ hav
    exact x_iret hx hb hr hlocks B d_RR_compare_30 (⟨If, Af, Rf, Zf, hC, hfr, hInv, ⟨rfl, fun _ _ => rfl⟩, Or.inl ⟨by omega, rfl⟩⟩)
  · refine lv_iload_n hx hb d_RR_compare_4 rfl (lv_at hl 2 rfl) ?_
    refine lv_aload_n hx hb d_RR_compare_5 rfl (lv_at hl 0 rfl) ?_
    refine lv_iload_n hx hb d_RR_compare_6 rfl (lv_at hl 1 rfl) ?_
    refine x_calli B hA (va_runV (As := [.int (iI ((p0 : Int)))]) (rest := [.int (iI a2)]) ⟨hx, hb, hml, hown, hts⟩ (c_RR_ready l D cs _ _ _ ad Qm If Af Rf Zf p0 hAd hC hInv.1 (hpk)) (cwV 1 hts (gw_V w_370 w_372 s_14 w_1 w_373) rfl rfl rfl (by decide +kernel) ⟨by rw [hRf]; exact Nat.le_of_ble_eq_true rfl, by rw [hRl]; exact Nat.le_of_ble_eq_true rfl⟩) ⟨K0.blind, B.recv (hAd.1 _ (by omega)) (hC.x) rfl, B.pre _⟩ rfl rfl hl.1 rfl (lv_room (Nat.le_of_ble_eq_true rfl)) d_RR_compare_7 ⟨by rw [hRc]; omega, by rw [hRs]; omega⟩) (fun r7 g7 H locs hw B => ?_)
    obtain ⟨Iy, Ay, Ry, Zy, hCy, hqy, hGyy, hOyy, hryy, hsyy⟩ := hw
    have hfry : ∀ k, Awy ad k → g7 k = f k := fun k hk => (hqy k hk).trans (hfr k hk)
    have B : Wb D vwCl (TY cs) L g7 (AL L s.heap.size) s H _ := B
    have hInvy := hInv.rdy (by omega) (hpk) hGyy hOyy hsyy
    have hsvy := hOyy.sv (by omega)
    rcases hryy with ⟨hzy, rfl⟩ | ⟨hny, hsty, rfl⟩
    · refine x_icmp_ge (tgt := 28) hx hb d_RR_compare_10 (by decide) (by omega) (by omega) (fun h10 => ?_) (fun h10 => ?_)
      · refine x_bipush hx hb d_RR_compare_28 (by decide) ?_
        subst hQ hav
        exact x_iret hx hb hr hlocks B d_RR_compare_30 (⟨Iy, Ay, Ry, Zy, hCy, hfry, hInvy, hsvy, Or.inr (Or.inl ⟨Or.inl hzy, rfl⟩)⟩)
      · exfalso; omega
    · obtain ⟨nmy, Ny, dpy, vy, hcry⟩ : ∃ nm N dp v, Crv Iy Ay p0 nm N dp v := by rcases hGyy.2.2 p0 (by omega) with h | ⟨_, h⟩; omega; exact h.crv
      have hVMy := hGyy.2.1 p0 (by omega)
      have hAVy := hsvy.2 p0 (by omega)
      obtain ⟨ccy, hLy, hz6y⟩ := free_laid hcry.1 hVMy hcry.2.1 hcry.2.2.2.2.1 hcry.2.2.2.2.2.1
      rw [hAVy] at hLy
      rw [hcry.2.2.1]
      have hnm5y := hcry.2.2.2.1
      refine x_icmp_ge (tgt := 28) hx hb d_RR_compare_10 (by decide) (by omega) (by omega) (fun h10 => ?_) (fun h10 => ?_)
      · refine x_bipush hx hb d_RR_compare_28 (by decide) ?_
        subst hQ hav
        exact x_iret hx hb hr hlocks B d_RR_compare_30 (⟨Iy, Ay, Ry, Zy, hCy, hfry, hInvy, hsvy, by first | exact Or.inl ⟨by omega, rfl⟩ | exact Or.inr (Or.inr (Or.inl ⟨hny, Ay (40 + p0), nmy, ccy, hLy, by omega, rfl⟩))⟩)
      · refine lv_iload hx hb d_RR_compare_13 (lv_at hl 4 rfl) ?_
        refine x_if_lt (tgt := 28) hx hb d_RR_compare_15 (by decide) (by omega) (fun h15 => ?_) (fun h15 => ?_)
        · refine x_bipush hx hb d_RR_compare_28 (by decide) ?_
          subst hQ hav
          exact x_iret hx hb hr hlocks B d_RR_compare_30 (⟨Iy, Ay, Ry, Zy, hCy, hfry, hInvy, hsvy, by first | exact Or.inl ⟨by omega, rfl⟩ | exact Or.inr (Or.inr (Or.inl ⟨hny, Ay (40 + p0), nmy, ccy, hLy, by omega, rfl⟩))⟩)
        · refine lv_iload hx hb d_RR_compare_18 (lv_at hl 4 rfl) ?_
          refine lv_aload_n hx hb d_RR_compare_20 rfl (lv_at hl 0 rfl) ?_
          refine lv_iload_n hx hb d_RR_compare_21 rfl (lv_at hl 3 rfl) ?_
          refine x_calli B hA (va_runV (As := [.int (iI ((p1 : Int)))]) (rest := [.int (iI a4)]) ⟨hx, hb, hml, hown, hts⟩ (c_RR_ready l D cs _ _ _ ad Qm Iy Ay Ry Zy p1 hAd hCy hInvy.1 (by rw [hsvy.1]; exact hpk1)) (cwV 1 hts (gw_V w_370 w_372 s_14 w_1 w_373) rfl rfl rfl (by decide +kernel) ⟨by rw [hRf]; exact Nat.le_of_ble_eq_true rfl, by rw [hRl]; exact Nat.le_of_ble_eq_true rfl⟩) ⟨K0.blind, B.recv (hAd.1 _ (by omega)) (hCy.x) rfl, B.pre _⟩ rfl rfl hl.1 rfl (lv_room (Nat.le_of_ble_eq_true rfl)) d_RR_compare_22 ⟨by rw [hRc]; omega, by rw [hRs]; omega⟩) (fun r22 g22 H locs hw B => ?_)
          obtain ⟨Iq, Aq, Rq, Zq, hCq, hqq, hGyq, hOyq, hryq, hsyq⟩ := hw
          have hfrq : ∀ k, Awy ad k → g22 k = f k := fun k hk => (hqq k hk).trans (hfry k hk)
          have B : Wb D vwCl (TY cs) L g22 (AL L s.heap.size) s H _ := B
          have hInvq := hInvy.rdy (by omega) (by rw [hsvy.1]; exact hpk1) hGyq hOyq hsyq
          have hsvq := hOyq.sv (by omega)
          rcases hryq with ⟨hzq, rfl⟩ | ⟨hnq, hstq, rfl⟩
          · refine x_icmp_lt (tgt := 31) hx hb d_RR_compare_25 (by decide) (by omega) (by omega) (fun h25 => ?_) (fun h25 => ?_)
            · exfalso; omega
            · refine x_bipush hx hb d_RR_compare_28 (by decide) ?_
              subst hQ hav
              exact x_iret hx hb hr hlocks B d_RR_compare_30 (⟨Iq, Aq, Rq, Zq, hCq, hfrq, hInvq, hsvy.trans hsvq, Or.inr (Or.inl ⟨Or.inr (by rw [← hsvy.2 p1 hp1]; exact hzq), rfl⟩)⟩)
          · obtain ⟨nmq, Nq, dpq, vq, hcrq⟩ : ∃ nm N dp v, Crv Iq Aq p1 nm N dp v := by rcases hGyq.2.2 p1 (by omega) with h | ⟨_, h⟩; omega; exact h.crv
            have hVMq := hGyq.2.1 p1 (by omega)
            have hAVq := hsvq.2 p1 (by omega)
            obtain ⟨ccq, hLq, hz6q⟩ := free_laid hcrq.1 hVMq hcrq.2.1 hcrq.2.2.2.2.1 hcrq.2.2.2.2.2.1
            rw [hAVq] at hLq
            rw [hcrq.2.2.1]
            have hnm5q := hcrq.2.2.2.1
            refine x_icmp_lt (tgt := 31) hx hb d_RR_compare_25 (by decide) (by omega) (by omega) (fun h25 => ?_) (fun h25 => ?_)
            · obtain ⟨ii, hii⟩ : ∃ ii : Nat, a2 = (ii : Int) := ⟨a2.toNat, by omega⟩
              obtain ⟨jj, hjj⟩ : ∃ jj : Nat, a4 = (jj : Int) := ⟨a4.toNat, by omega⟩
              subst hii hjj
              have hAFe : Aq (40 + p0) = Ay (40 + p0) ∧ Iq (20 + p0) = 1 ∧ Iq (40 + p0) = (nmy : Int) := by
                  by_cases c : p1 = p0
                  · obtain ⟨s1, s2⟩ := hsyq (Or.inl (by rw [c]; exact hsty)); exact ⟨s2 _, by rw [s1]; exact hsty, by rw [s1]; exact hcry.2.2.1⟩
                  · exact ⟨hOyq.2 _ (Or.inr (Or.inr ⟨by omega, by omega, fun j hj => by omega⟩)), by rw [hOyq.1 _ (Or.inr ⟨by omega, by omega, by omega, fun j hj => by omega⟩)]; exact hsty, by rw [hOyq.1 _ (Or.inr ⟨by omega, by omega, by omega, fun j hj => by omega⟩)]; exact hcry.2.2.1⟩
              obtain ⟨hAFe, hsta, hnma⟩ := hAFe
              refine lv_aload_n hx hb d_RR_compare_31 rfl (lv_at hl 0 rfl) ?_
              refine lv_iload_n hx hb d_RR_compare_32 rfl (lv_at hl 1 rfl) ?_
              refine x_iconst hx hb d_RR_compare_33 ?_
              refine x_imul hx hb d_RR_compare_34 ?_
              refine lv_iload_n hx hb d_RR_compare_35 rfl (lv_at hl 2 rfl) ?_
              refine x_iadd hx hb d_RR_compare_36 ?_
              refine lv_iload_n hx hb d_RR_compare_37 rfl (lv_at hl 3 rfl) ?_
              refine x_iconst hx hb d_RR_compare_38 ?_
              refine x_imul hx hb d_RR_compare_39 ?_
              refine lv_iload hx hb d_RR_compare_40 (lv_at hl 4 rfl) ?_
              refine x_iadd hx hb d_RR_compare_42 ?_
              rw [show (p1 : Int) * 5 + (jj : Int) = ((5 * p1 + jj : Nat) : Int) by omega, show (p0 : Int) * 5 + (ii : Int) = ((5 * p0 + ii : Nat) : Int) by omega]
              refine x_calli B hA (va_runV (As := [.int (iI (((5 * p0 + ii : Nat) : Int))), .int (iI (((5 * p1 + jj : Nat) : Int)))]) (rest := []) ⟨hx, hb, hml, hown, hts⟩ (c_RR_order_i l D cs _ _ _ ad Qm Iq Aq Rq Zq p0 ii p1 jj (ccy ii) (ccq jj) hAd hCq hInvq hp0 hp1 hsta hstq (by omega) (by have := hcrq.2.2.1; omega) (by rw [hAFe]; exact cell_of hcry.2.2.2.2.1 (hz6y ii (by omega))) (cell_of hcrq.2.2.2.2.1 (hz6q jj (by omega)))) (cwV 2 hts (gw_V w_517 w_519 s_23 w_1 w_520) rfl rfl rfl (by decide +kernel) ⟨by rw [hRf]; exact Nat.le_of_ble_eq_true rfl, by rw [hRl]; exact Nat.le_of_ble_eq_true rfl⟩) ⟨K0.blind, B.recv (hAd.1 _ (by omega)) (hCq.x) rfl, B.pre _⟩ rfl rfl hl.1 rfl (lv_room (Nat.le_of_ble_eq_true rfl)) d_RR_compare_43 ⟨by rw [hRc]; omega, by rw [hRs]; omega⟩) (fun r43 g43 H locs hw B => ?_)
              obtain ⟨Io, Ao, Ro, Zo, hCo, hqo, orr, rfl, hoi, hok, hor, _, _⟩ := hw
              have hfro : ∀ k, Awy ad k → g43 k = f k := fun k hk => (hqo k hk).trans (hfrq k hk)
              have B : Wb D vwCl (TY cs) L g43 (AL L s.heap.size) s H _ := B
              subst hQ hav
              exact x_iret hx hb hr hlocks B d_RR_compare_46 (⟨Io, Ao, Ro, Zo, hCo, hfro, hoi, (hsvy.trans hsvq).trans hok.sv, Or.inr (Or.inr (Or.inr (Or.inr ⟨hny, by rw [← hsvy.2 p1 hp1]; exact hnq, Ay (40 + p0), nmy, ccy, Aq (40 + p1), nmq, ccq, hLy, by rw [← hsvy.2 p1 hp1]; exact hLq, by omega, by omega, by rw [hor, Int.toNat_natCast, Int.toNat_natCast]⟩)))⟩)
            · refine x_bipush hx hb d_RR_compare_28 (by decide) ?_
              subst hQ hav
              exact x_iret hx hb hr hlocks B d_RR_compare_30 (⟨Iq, Aq, Rq, Zq, hCq, hfrq, hInvq, hsvy.trans hsvq, Or.inr (Or.inr (Or.inr (Or.inl ⟨by rw [← hsvy.2 p1 hp1]; exact hnq, Aq (40 + p1), nmq, ccq, by rw [← hsvy.2 p1 hp1]; exact hLq, by omega, rfl⟩)))⟩)
