/-! a settled curve, told in full -/
def Crv (I : Nat → Int) (A : Nat → Nat → Int) (p nm : Nat) (N : Rat → Int) (dp : Nat → Nat) (v : Nat → Int) : Prop := Nz (A (20 + p)) ∧ FreeOf (A (20 + p)) (A (40 + p)) ∧ I (40 + p) = (nm : Int) ∧ nm ≤ 5 ∧ NB (A (40 + p)) N ∧ N 2048 = (nm : Int) ∧ Pls I A p nm N dp v ∧ ∀ a, a + 1 < nm → ¬ Mt v dp a (a + 1)
theorem CvOk.crv {I : Nat → Int} {A : Nat → Nat → Int} {p : Nat} (h : CvOk I A p) : ∃ nm N dp v, Crv I A p nm N dp v := by
  obtain ⟨h1, h2, nm, N, dp, v, h3, h4, h5, h6, h7, h8⟩ := h
  exact ⟨nm, N, dp, v, h1, h2, h3, h4, h5, h6, h7, h8⟩
theorem Crv.ok {I : Nat → Int} {A : Nat → Nat → Int} {p nm : Nat} {N : Rat → Int} {dp : Nat → Nat} {v : Nat → Int} (h : Crv I A p nm N dp v) : CvOk I A p := by
  obtain ⟨h1, h2, h3, h4, h5, h6, h7, h8⟩ := h
  exact ⟨h1, h2, nm, N, dp, v, h3, h4, h5, h6, h7, h8⟩
theorem Pt_floor (v : Int) (m k : Nat) : Pt (v / 2 ^ k) m ≤ Pt v (m + k) ∧ Pt (v + 1) (m + k) ≤ Pt (v / 2 ^ k + 1) m := by
  have sh : ∀ t : Int, Pt (t * 2 ^ k) (m + k) = Pt t m := fun t => by
    have n1 := pt_pos k
    have n2 := pt_pos m
    unfold Pt
    rw [pw2_add, Rat.intCast_mul, Rat.intCast_mul]
    generalize ((2 ^ k : Int) : Rat) = a at *
    generalize ((2 ^ m : Int) : Rat) = b at *
    grind
  have hp := pw2 k
  have h1 := Int.mul_ediv_add_emod v (2 ^ k)
  have h2 := Int.emod_nonneg v (pw2_ne k)
  have h3 := Int.emod_lt_of_pos v hp
  rw [← sh (v / 2 ^ k), ← sh (v / 2 ^ k + 1)]
  refine ⟨Pt_le (by rw [Int.mul_comm]; omega), Pt_le (by rw [Int.add_mul, Int.mul_comm]; omega)⟩
/-- cells that differ lie behind each other -/
theorem cells_lt {v u : Int} {d e : Nat} (h : v / 2 ^ (d - min d e) < u / 2 ^ (e - min d e)) : Pt (v + 1) d ≤ Pt u e := by
  have h1 := (Pt_floor v (min d e) (d - min d e)).2
  have h2 := (Pt_floor u (min d e) (e - min d e)).1
  rw [show min d e + (d - min d e) = d by omega] at h1
  rw [show min d e + (e - min d e) = e by omega] at h2
  have h3 : Pt (v / 2 ^ (d - min d e) + 1) (min d e) ≤ Pt (u / 2 ^ (e - min d e)) (min d e) := Pt_le (by omega)
  exact Rat.le_trans h1 (Rat.le_trans h3 h2)
theorem Pls.order {F : Nat → Int} {I : Nat → Int} {A : Nat → Nat → Int} {p nm : Nat} {N : Rat → Int} {dp : Nat → Nat} {v : Nat → Int} (hN : NB F N) (hF : Sqf F) (h : Pls I A p nm N dp v) {a b : Nat} (hab : a < b) (hb : b < nm) (hm : ¬ Mt v dp a b) : Pt (v a + 1) (dp a) ≤ Pt (v b) (dp b) := by
  have h1 := (h a (by omega)).2.2
  have h2 := (h b hb).2.2
  rcases Int.lt_trichotomy (v a / 2 ^ (dp a - min (dp a) (dp b))) (v b / 2 ^ (dp b - min (dp a) (dp b))) with c | c | c
  · exact cells_lt c
  · exact absurd c hm
  · exfalso
    rw [Nat.min_comm] at c
    have h3 := hN.mono hF (cells_lt c)
    have h4 := h1.2.1
    have h5 := h2.2.2
    omega
theorem Crv.iso {I : Nat → Int} {A : Nat → Nat → Int} {p nm : Nat} {N : Rat → Int} {dp : Nat → Nat} {v : Nat → Int} (h : Crv I A p nm N dp v) (hF : Sqf (A (40 + p))) {i : Nat} (hi : i < nm) : Iso N (i : Int) (v i) (dp i) := by
  obtain ⟨h1, h2, h3, h4, h5, h6, h7, h8⟩ := h
  have c := (h7 i hi).2.2
  have c1 := c.2.1
  have c2 := c.2.2
  refine ⟨c.1, ?_, ?_⟩
  · by_cases hz : i = 0
    · obtain ⟨r, n, hs, e⟩ := h5
      have h0 : 0 ≤ N (Pt (v i) (dp i)) := by
        rw [e]
        by_cases hn : n = 1
        · subst hn; rw [(one_const hs).2]; exact Int.le_refl _
        · have hn1 := hs.1
          have hNB : NB (A (40 + p)) (NbF r n) := ⟨r, n, hs, fun _ => rfl⟩
          obtain ⟨R, hR1, hR2⟩ := far_all r n hs.nz
          obtain ⟨K, hK⟩ := rat_nat (-(Pt (v i) (dp i)))
          have hm := hNB.mono hF (x := -(R + (K : Rat))) (y := Pt (v i) (dp i)) (by grind)
          have k0 : (0 : Rat) ≤ (K : Rat) := by exact_mod_cast Nat.zero_le K
          have e2 : NbF r n (-(R + (K : Rat))) = 0 := by
            have t1 := (tn_congr (n := n) (s := fun k => sg (es (r k) 6 (-(R + (K : Rat))))) (t := fun k => sgL (r k)) (fun k hk => (hR2 k hk).2 _ (by grind))).1
            unfold NbF tn0
            rw [t1]
            have t2 : ¬ sg (es (r 0) 6 (-(R + (K : Rat)))) = 0 := by
              rw [(hR2 0 (by omega)).2 _ (by grind)]
              obtain ⟨D, q1, q2, q3⟩ := top_of (hs.nz 0 (by omega))
              rw [(sgR_top q1 q2 q3).2]
              intro hh
              have := sign_zr hh
              have q4 := flp_abs (r 0) D
              omega
            show _ - (_ + (if sg (es (r 0) 6 (-(R + (K : Rat)))) = 0 then 1 else 0)) = 0
            rw [if_neg t2]; omega
          rw [e2] at hm; exact hm
      rw [hz] at c1 h0 ⊢
      omega
    · have o := h7.order h5 hF (a := i - 1) (b := i) (by omega) hi (by have := h8 (i - 1) (by omega); rw [show i - 1 + 1 = i by omega] at this; exact this)
      have q := (h7 (i - 1) (by omega)).2.2.2.2
      have m := h5.mono hF o
      omega
  · by_cases hz : i + 1 < nm
    · have o := h7.order h5 hF (a := i) (b := i + 1) (by omega) hz (h8 i hz)
      have q := (h7 (i + 1) hz).2.2.2.1
      have m := h5.mono hF o
      omega
    · have r1 := c.1
      have m := h5.mono hF (x := Pt (v i + 1) (dp i)) (y := 2048) (by
        rcases Int.lt_or_le (v i + 1) (2048 * 2 ^ (dp i)) with g | g
        · exact Rat.le_of_lt (Pt_2048 g)
        · have e1 : v i + 1 = 2048 * 2 ^ (dp i) := by omega
          rw [e1]
          have h2 := Pt_mul (2048 * 2 ^ (dp i)) (dp i)
          rw [Rat.intCast_mul, show ((2048 : Int) : Rat) = 2048 from rfl] at h2
          have p := pt_pos (dp i)
          generalize ((2 ^ (dp i) : Int) : Rat) = T at *
          have h3 : (Pt (2048 * 2 ^ (dp i)) (dp i) - 2048) * T = 0 := by grind
          have h4 : Pt (2048 * 2 ^ (dp i)) (dp i) = 2048 := by grind
          rw [h4]; exact Rat.le_refl)
      rw [h6] at m
      omega
theorem Crv.deep {I I' : Nat → Int} {A A' : Nat → Nat → Int} {p nm : Nat} {N : Rat → Int} {dp : Nat → Nat} {v : Nat → Int} (h : Crv I A p nm N dp v) (hp : p < 12) {i0 d' : Nat} {v' : Int} (hi : i0 < nm) (hI : ∀ i, i ≠ 6 → i ≠ 200 + (5 * p + i0) → I' i = I i) (hA : ∀ q, q ≠ 100 + (5 * p + i0) → A' q = A q) (h1 : I' (200 + (5 * p + i0)) = (d' : Int)) (h2 : Pl (I' (100 + (5 * p + i0))) d' (A' (100 + (5 * p + i0))) v') (h3 : Iso N (i0 : Int) v' d') (hd : (dp i0 = 248 ∧ d' = dp i0 ∧ v' = v i0) ∨ (dp i0 < 248 ∧ d' = dp i0 + 1 ∧ v' / 2 = v i0)) : Crv I' A' p nm N (va_up dp i0 d') (up v i0 v') := by
  obtain ⟨g1, g2, g3, g4, g5, g6, g7, g8⟩ := h
  have hp7 : ∀ i, i < nm → i ≠ i0 → I' (200 + (5 * p + i)) = I (200 + (5 * p + i)) ∧ I' (100 + (5 * p + i)) = I (100 + (5 * p + i)) ∧ A' (100 + (5 * p + i)) = A (100 + (5 * p + i)) := fun i hi hn => ⟨hI _ (by omega) (by omega), hI _ (by omega) (by omega), hA _ (by omega)⟩
  refine ⟨by rw [hA _ (by omega)]; exact g1, by rw [hA _ (by omega), hA _ (by omega)]; exact g2, by rw [hI _ (by omega) (by omega)]; exact g3, g4, by rw [hA _ (by omega)]; exact g5, g6, fun i hi => ?_, fun a ha hM => g8 a ha (hM.back (by omega) (by rcases hd with ⟨_, q1, q2⟩ | ⟨_, q1, q2⟩; exact Or.inl ⟨q1, q2⟩; exact Or.inr ⟨q1, q2⟩))⟩
  by_cases c : i = i0
  · rw [c, va_up_self, up_self]; exact ⟨h1, h2, h3.cell⟩
  · obtain ⟨q1, q2, q3⟩ := g7 i hi
    obtain ⟨e1, e2, e3⟩ := hp7 i hi c
    rw [va_up_ne _ _ c, up_ne _ _ c, e1, e2, e3]
    exact ⟨q1, q2, q3⟩
theorem Crv.part {I : Nat → Int} {A : Nat → Nat → Int} {p nm : Nat} {N : Rat → Int} {dp : Nat → Nat} {v : Nat → Int} (h : Crv I A p nm N dp v) (hM : ∀ j, j < 6 → -1000 ≤ A (20 + p) j ∧ A (20 + p) j ≤ 1000) : (∃ p1, Part p1 (A (40 + p))) ∧ cg (A (40 + p)) 0 6 = 1 ∧ sg (es (A (40 + p)) 6 2048) = 1 ∧ ∀ j, j < 6 → -49000 ≤ A (40 + p) j ∧ A (40 + p) j ≤ 49000 := by
  obtain ⟨⟨p1, hP⟩, q, _⟩ := FreeOf.part h.1 hM h.2.1
  obtain ⟨C, hC⟩ := hP.2.2.2
  exact ⟨⟨p1, hP⟩, q, free_pos h.1 hM h.2.1, fac_all hP.1 hP.2.1 hC⟩
/-- the part's count over a cell and over one within it -/
theorem jump_sub {F g h : Nat → Int} {N M K : Rat → Int} (hF : Sqf F) (e : ∀ x, es F 6 x = es h 6 x * es g 6 x) (hN : NB F N) (hM : NB g M) (hK : NB h K) {x y a b : Rat} (h1 : x ≤ a) (h2 : a ≤ b) (h3 : b ≤ y) (hj : N y - N x = 1) (hk : N b - N a = 1) : M y - M x = M b - M a ∧ 0 ≤ M b - M a ∧ M b - M a ≤ 1 := by
  obtain ⟨q1, q2, _⟩ := hF.parts e
  have e1 := NB.mul hF e hN hM hK x y (Rat.le_trans h1 (Rat.le_trans h2 h3))
  have e2 := NB.mul hF e hN hM hK a b h2
  have m1 := hM.mono q1 h1
  have m2 := hM.mono q1 h2
  have m3 := hM.mono q1 h3
  have k1 := hK.mono q2 h1
  have k2 := hK.mono q2 h2
  have k3 := hK.mono q2 h3
  omega
theorem Iso.in {F : Nat → Int} {N : Rat → Int} {i v w : Int} {b k : Nat} (hN : NB F N) (hF : Sqf F) (h : Iso N i v b) (hc : Cell N i w (b + k)) (hw : w / 2 ^ k = v) : Iso N i w (b + k) ∧ Pt v b ≤ Pt w (b + k) ∧ Pt (w + 1) (b + k) ≤ Pt (v + 1) b := by
  obtain ⟨f1, f2⟩ := Pt_floor w b k
  rw [hw] at f1 f2
  have e1 := h.2.1
  have e2 := h.2.2
  have c1 := hc.2.1
  have c2 := hc.2.2
  have g1 := hN.mono hF f1
  have g2 := hN.mono hF f2
  exact ⟨⟨hc.1, by omega, by omega⟩, f1, f2⟩
theorem va_same {dp : Nat → Nat} {i : Nat} : va_up dp i (dp i) = dp := funext (fun j => by
  by_cases h : j = i
  · rw [h, va_up_self]
  · rw [va_up_ne _ _ h])
theorem va_twice {dp : Nat → Nat} {i a b : Nat} : va_up (va_up dp i a) i b = va_up dp i b := funext (fun j => by
  by_cases h : j = i
  · rw [h, va_up_self, va_up_self]
  · rw [va_up_ne _ _ h, va_up_ne _ _ h, va_up_ne _ _ h])
theorem up_twice {v : Nat → Int} {i : Nat} {a b : Int} : up (up v i a) i b = up v i b := funext (fun j => by
  by_cases h : j = i
  · rw [h, up_self, up_self]
  · rw [up_ne _ _ h, up_ne _ _ h, up_ne _ _ h])
theorem deep_chain {d0 dk dn : Nat} {v0 vk vn : Int} (h : d0 ≤ dk ∧ vk / 2 ^ (dk - d0) = v0) (hd : (dk = 248 ∧ dn = dk ∧ vn = vk) ∨ (dk < 248 ∧ dn = dk + 1 ∧ vn / 2 = vk)) : d0 ≤ dn ∧ vn / 2 ^ (dn - d0) = v0 := by
  rcases hd with ⟨_, q1, q2⟩ | ⟨_, q1, q2⟩
  · rw [q1, q2]; exact h
  · refine ⟨by omega, ?_⟩
    rw [q1, show dk + 1 - d0 = 1 + (dk - d0) by omega, div_pow_add, show vn / 2 ^ 1 = vk from q2]
    exact h.2
theorem d_RR_deepenTo_0 : decode prog_1_method_47_code 0 = .ok (.aload_n 1, 1) := by decide +kernel
theorem d_RR_deepenTo_1 : decode prog_1_method_47_code 1 = .ok (.getfield 129, 3) := by decide +kernel
theorem d_RR_deepenTo_4 : decode prog_1_method_47_code 4 = .ok (.iload_n 2, 1) := by decide +kernel
theorem d_RR_deepenTo_5 : decode prog_1_method_47_code 5 = .ok (.aaload, 1) := by decide +kernel
theorem d_RR_deepenTo_6 : decode prog_1_method_47_code 6 = .ok (.getfield 325, 3) := by decide +kernel
theorem d_RR_deepenTo_9 : decode prog_1_method_47_code 9 = .ok (.istore 4, 2) := by decide +kernel
theorem d_RR_deepenTo_11 : decode prog_1_method_47_code 11 = .ok (.iload 4, 2) := by decide +kernel
theorem d_RR_deepenTo_13 : decode prog_1_method_47_code 13 = .ok (.iload_n 3, 1) := by decide +kernel
theorem d_RR_deepenTo_14 : decode prog_1_method_47_code 14 = .ok (.if_icmp .ge 15, 3) := by decide +kernel
theorem d_RR_deepenTo_17 : decode prog_1_method_47_code 17 = .ok (.aload_n 0, 1) := by decide +kernel
theorem d_RR_deepenTo_18 : decode prog_1_method_47_code 18 = .ok (.aload_n 1, 1) := by decide +kernel
theorem d_RR_deepenTo_19 : decode prog_1_method_47_code 19 = .ok (.iload_n 2, 1) := by decide +kernel
theorem d_RR_deepenTo_20 : decode prog_1_method_47_code 20 = .ok (.invokevirtual 328, 3) := by decide +kernel
theorem d_RR_deepenTo_23 : decode prog_1_method_47_code 23 = .ok (.iinc 4 1, 3) := by decide +kernel
theorem d_RR_deepenTo_26 : decode prog_1_method_47_code 26 = .ok (.goto (-15), 3) := by decide +kernel
theorem d_RR_deepenTo_29 : decode prog_1_method_47_code 29 = .ok (.return_, 1) := by decide +kernel
set_option maxHeartbeats 8000000 in
set_option maxRecDepth 100000 in
theorem c_RR_deepenTo (l : Launch) (D : va_G) (cs : Nat → ClassId) (L : List Nat) (f : Nat → va_E) (sz : Nat) (ad Qm : Nat → Nat) (If : Nat → Int) (Af : Nat → Nat → Int) (Rf : Nat → Nat) (Zf : Nat → Int) (p0 nm i0 : Nat) (N : Rat → Int) (dp : Nat → Nat) (v : Nat → Int) (bt : Nat) (hAd : AdOk L ad Qm) (hC : CSt cs ad Qm f If Af Rf Zf) (hp0 : p0 < 12) (hi0 : i0 < nm) (hVM : ∀ j, j < 6 → -1000 ≤ Af (20 + p0) j ∧ Af (20 + p0) j ≤ 1000) (hcr : Crv If Af p0 nm N dp v) (hbt : bt ≤ 248) : Met l (⟨"RealRoots", "deepenTo", "(LRealRoots$Curve;II)V"⟩ : MethodName) (.code (⟨"RealRoots", "deepenTo", "(LRealRoots$Curve;II)V"⟩ : MethodName) prog_1_method_47_code 5 (Option.none : Option Jvm.ClassFile.FieldType) :: gw) ({ frames := 5, cells := 0, slots := 0, locals := 230 }) (va_Pc [.ref ((ad 0)), .ref ((ad (15 + p0))), .int (iI ((i0 : Int))), .int (iI ((bt : Int)))] (K0 D vwCl (TY cs) L f sz)) (va_Qv (fun (g : Nat → va_E) => ∃ (I' : Nat → Int) (A' : Nat → Nat → Int) (R' : Nat → Nat) (Z' : Nat → Int), CSt cs ad Qm g I' A' R' Z' ∧ (∀ k, Awy ad k → g k = f k) ∧ (∃ (d' : Nat) (v' : Int), Crv I' A' p0 nm N (va_up dp i0 d') (up v i0 v') ∧ dp i0 ≤ d' ∧ v' / 2 ^ (d' - dp i0) = v i0 ∧ bt ≤ d') ∧ (∀ i, i ≠ 6 → i ≠ 200 + (5 * p0 + i0) → I' i = If i) ∧ ∀ q, q ≠ 100 + (5 * p0 + i0) → A' q = Af q) (K1 D vwCl (TY cs) (AL L sz) L) (AL L sz)) 0 0 (AL L sz) := by
  refine Met.ofW (cc := prog_1_method_47_code) (maxL := 5) (ret := (Option.none : Option Jvm.ClassFile.FieldType)) (by decide) rfl ?_
  intro p e s m args below meth c s₁ Bd hml hv
  obtain ⟨rfl, hk0⟩ := hv
  obtain ⟨hsz, B⟩ := hk0.start
  subst hsz
  have hx := Bd.exec
  have hb := Bd.bytes
  have hr := Bd.returns
  have hlocks := Bd.notSynchronized
  have hts0 := atoms_spec Bd.pre
  have hown : s.vm.findClass RX6 = some m.cls := findClass_of_methodNamed Bd.named
  have hA : ∀ q, s.heap.size ≤ q → AL L s.heap.size q := fun _ h => Or.inr h
  have hl := lv_entry ([.ref ((ad 0)), .ref ((ad (15 + p0))), .int (iI ((i0 : Int))), .int (iI ((bt : Int)))]) (n := 5) (Nat.le_of_ble_eq_true rfl)
  rw [lg_entry_eq]
  generalize (lg_sl ([.ref ((ad 0)), .ref ((ad (15 + p0))), .int (iI ((i0 : Int))), .int (iI ((bt : Int)))]) ++ List.replicate (5 - (lg_sl ([.ref ((ad 0)), .ref ((ad (15 + p0))), .int (iI ((i0 : Int))), .int (iI ((bt : Int)))])).length) Slot.unset).toArray = ls at hl ⊢
  refine absQ (fun Q R av hQ hR hav => ?_)
  have hts : ∀ w ∈ gw, w.before av s = true := by rw [hav]; exact fun w h => hts0 w (List.mem_cons_of_mem _ h)
  have hRf : R.frames = 5 := by rw [hR]; rfl
  have hRl : R.locals = 230 := by rw [hR]; rfl
  have hRc : R.cells = 0 := by rw [hR]; rfl
  have hRs : R.slots = 0 := by rw [hR]; rfl
  clear hR hts0 Bd
  have hl : lv_has ls 5 [(0, .ref ((ad 0))), (1, .ref ((ad (15 + p0)))), (2, .int (iI ((i0 : Int)))), (3, .int (iI ((bt : Int))))] := hl
  have hfr : ∀ k, Awy ad k → f k = f k := fun _ _ => rfl
  obtain ⟨⟨p1, hPart⟩, hcgF, hFP, hFb⟩ := hcr.part hVM
  have hSq := hPart.2.2.1
  have hnm5 := hcr.2.2.2.1
  refine lv_aload_n hx hb d_RR_deepenTo_0 rfl (lv_at hl 1 rfl) ?_
  refine x_get (C := RX2) (T := TX2) (N := 5) hx hb hts inX2 hown (B.foc1 (hC.cu (p := p0) (by omega))) (hAd.f1 (by omega)) 0 rfl rfl 2 (by decide) (hts _ w_181) (fun _ h9 => h9) rfl d_RR_deepenTo_1 ?_
  refine lv_iload_n hx hb d_RR_deepenTo_4 rfl (lv_at hl 2 rfl) ?_
  refine x_aald hx hb (B.foc1 (hC.pa (p := p0) (by omega))) (hAd.f1 (by omega)) 0 5 rfl rfl i0 (by omega) (by omega) (by decide) (rfs_at (by omega)) d_RR_deepenTo_5 ?_
  refine x_get (C := RX3) (T := TX3) (N := 3) hx hb hts inX3 hown (B.foc1 (hC.pl (m := (5 * p0 + i0)) (by omega))) (hAd.f1 (by omega)) 0 rfl rfl 1 (by decide) (hts _ w_165) (fun _ h9 => h9) rfl d_RR_deepenTo_6 ?_
  have hpl0 := hcr.2.2.2.2.2.2.1 i0 hi0
  rw [hpl0.1]
  refine lv_istore (lv' := [(4, .int (iI ((dp i0 : Int)))), (0, .ref ((ad 0))), (1, .ref ((ad (15 + p0)))), (2, .int (iI ((i0 : Int)))), (3, .int (iI ((bt : Int))))]) hx hb d_RR_deepenTo_9 hl (by decide) rfl (fun ls hl => ?_)
  have LA : ∀ (fuel : Nat) (fw : Nat → va_E) (Iw : Nat → Int) (Aw : Nat → Nat → Int) (Rw : Nat → Nat) (Zw : Nat → Int) (bk : Nat) (dk : Nat) (vk : Int), 300 - bk < fuel → (CSt cs ad Qm fw Iw Aw Rw Zw) → (∀ k, Awy ad k → fw k = f k) → (∀ i, i ≠ 6 → i ≠ 200 + (5 * p0 + i0) → Iw i = If i) → (∀ q, q ≠ 100 + (5 * p0 + i0) → Aw q = Af q) → (Crv Iw Aw p0 nm N (va_up dp i0 dk) (up v i0 vk)) → (dp i0 ≤ dk ∧ vk / 2 ^ (dk - dp i0) = v i0) → (dp i0 ≤ bk ∧ (bk ≤ dk ∨ dk = 248) ∧ bk ≤ 300) → ∀ (H : Heap) (locs : List Loc) (ls : Array Slot), Wb D vwCl (TY cs) L fw (AL L s.heap.size) s H locs → lv_has ls 5 [(4, .int (iI ((bk : Int)))), (0, .ref ((ad 0))), (1, .ref ((ad (15 + p0)))), (2, .int (iI ((i0 : Int)))), (3, .int (iI ((bt : Int))))] → W p l e R s m av below meth c H locs (0) (0) Q (F0 m 11 ls []) := by
    intro fuel
    induction fuel with
    | zero => intro fw Iw Aw Rw Zw bk dk vk hfu; exact absurd hfu (Nat.not_lt_zero _)
    | succ fuel ih_LA =>
      intro fw Iw Aw Rw Zw bk dk vk hfu_LA hCw hfrw hIw hAw hcw hdk hbk H locs ls B hl
      have hAFw : Aw (40 + p0) = Af (40 + p0) := hAw _ (by omega)
      refine lv_iload hx hb d_RR_deepenTo_11 (lv_at hl 0 rfl) ?_
      refine lv_iload_n hx hb d_RR_deepenTo_13 rfl (lv_at hl 4 rfl) ?_
      refine x_icmp_ge (tgt := 29) hx hb d_RR_deepenTo_14 (by decide) (by omega) (by omega) (fun h14 => ?_) (fun h14 => ?_)
      · subst hQ hav
        exact x_vret hx hb hr hlocks B d_RR_deepenTo_29 (⟨Iw, Aw, Rw, Zw, hCw, hfrw, ⟨dk, vk, hcw, hdk.1, hdk.2, by have h9 := (hcw.2.2.2.2.2.2.1 i0 hi0).2.1.1; rw [va_up_self] at h9; omega⟩, hIw, hAw⟩)
      · refine lv_aload_n hx hb d_RR_deepenTo_17 rfl (lv_at hl 1 rfl) ?_
        refine lv_aload_n hx hb d_RR_deepenTo_18 rfl (lv_at hl 2 rfl) ?_
        refine lv_iload_n hx hb d_RR_deepenTo_19 rfl (lv_at hl 3 rfl) ?_
        refine x_callv B hA (va_runV (As := [.ref ((ad (15 + p0))), .int (iI ((i0 : Int)))]) (rest := []) ⟨hx, hb, hml, hown, hts⟩ (c_RR_deepen l D cs _ _ _ ad Qm Iw Aw Rw Zw p0 i0 ((va_up dp i0 dk) i0) ((up v i0 vk) i0) N hAd hCw hp0 (by omega) hcw.2.2.2.2.1 (hcw.2.2.2.2.2.2.1 _ (by omega)).1 (hcw.2.2.2.2.2.2.1 _ (by omega)).2.1 (hcw.iso (by rw [hAFw]; exact hSq) (by omega)) nm hcw.2.2.1 ⟨by omega, hcw.2.2.2.1⟩ (by rw [hAFw]; exact hSq) (by rw [hAFw]; exact hFb) (by rw [hAFw]; exact hFP) hcw.2.2.2.2.2.1) (cwV 2 hts (gw_V w_483 w_485 s_20 w_1 w_486) rfl rfl rfl (by decide +kernel) ⟨by rw [hRf]; exact Nat.le_of_ble_eq_true rfl, by rw [hRl]; exact Nat.le_of_ble_eq_true rfl⟩) ⟨K0.blind, B.recv (hAd.1 _ (by omega)) (hCw.x) rfl, B.pre _⟩ rfl rfl hl.1 rfl (lv_room (Nat.le_of_ble_eq_true rfl)) d_RR_deepenTo_20 ⟨by rw [hRc]; omega, by rw [hRs]; omega⟩) (fun g20 H locs hw B => ?_)
        obtain ⟨Iq, Aq, Rq, Zq, hCq, hqq, ⟨dnq, vnq, hd1q, hd2q, hd3q, hd4q⟩, hI6q, hApq⟩ := hw
        have hfrq : ∀ k, Awy ad k → g20 k = f k := fun k hk => (hqq k hk).trans (hfrw k hk)
        have B : Wb D vwCl (TY cs) L g20 (AL L s.heap.size) s H _ := B
        have hcrq := hcw.deep hp0 (i0 := i0) (by omega) hI6q hApq hd1q hd2q hd3q hd4q
        rw [va_up_self, up_self] at hd4q
        refine x_iinc (lv' := [(4, .int (iI (((bk : Int)) + 1))), (0, .ref ((ad 0))), (1, .ref ((ad (15 + p0)))), (2, .int (iI ((i0 : Int)))), (3, .int (iI ((bt : Int))))]) hx hb d_RR_deepenTo_23 hl (q := 0) rfl rfl (by decide) rfl (fun ls hl => ?_)
        refine lv_goto (tgt := 11) hx hb d_RR_deepenTo_26 (by decide) ?_
        exact ih_LA g20 Iq Aq Rq Zq (bk + 1) dnq vnq (by omega) hCq hfrq (fun i h1 h2 => by rw [hI6q i h1 h2]; exact hIw i h1 h2) (fun q hq => by rw [hApq q hq]; exact hAw q hq) (by rw [va_twice, up_twice] at hcrq; exact hcrq) (deep_chain hdk hd4q) (by rcases hd4q with ⟨q1, q2, _⟩ | ⟨q1, q2, _⟩ <;> omega) _ _ _ B (lv_sub hl [0, 1, 2, 3, 4] rfl)
  exact LA _ f If Af Rf Zf (dp i0) (dp i0) (v i0) (Nat.lt_succ_self _) hC hfr (fun i _ _ => rfl) (fun q _ => rfl) (by rw [va_same, up_same]; exact hcr) (⟨Nat.le_refl _, by rw [Nat.sub_self, Int.pow_zero, Int.ediv_one]⟩) (⟨Nat.le_refl _, Or.inl (Nat.le_refl _), by have := hpl0.2.1.1; omega⟩) _ _ _ B (lv_sub hl [0, 1, 2, 3, 4] rfl)
