/-! two roots: the same, or apart -/
theorem cg_dvi {A : Nat → Int} {d : Int} : ∀ n, (∀ j, j < n → d ∣ A j) → d ∣ ((cg A 0 n : Nat) : Int) := fun n h => by
  have := dvd_cg (p := d.natAbs) (B := A) n (fun j hj => Int.natAbs_dvd.mpr (h j hj))
  exact Int.natAbs_dvd.mp (Int.natCast_dvd_natCast.mpr this)
theorem cg_part {F h g : Nat → Int} (hF : cg F 0 6 = 1) (e : ∀ x, es F 6 x = es h 6 x * es g 6 x) : cg h 0 6 = 1 := by
  have hN : Nz F := by
    refine Classical.byContradiction (fun hn => ?_)
    have hz : ∀ j, j < 6 → F j = 0 := fun j hj => Classical.byContradiction (fun h => hn ⟨j, hj, h⟩)
    have h0 := cg_dvi (A := F) (d := 2) 6 (fun j hj => by rw [hz j hj]; exact ⟨0, rfl⟩)
    rw [hF] at h0
    omega
  obtain ⟨h', hp⟩ := PrimOf.ex (nz_parts hN e).2
  rcases hp with ⟨q1, _⟩ | ⟨c, hc, q1, q2, q3⟩
  · obtain ⟨j, hj, hjn⟩ := (nz_parts hN e).2
    exact absurd (q1 j hj) hjn
  · have hcv : ∀ j, j < 6 → F j = c * cv h' g 5 6 j := fun j hj => by
      have h1 := cv_of e j (by omega)
      rw [if_pos hj] at h1
      rw [← h1, ← cv_sc]
      exact cv_congr 6 q1
    have hd := cg_dvi (A := F) (d := c) 6 (fun j hj => ⟨_, hcv j hj⟩)
    rw [hF] at hd
    have hc1 : c.natAbs = 1 := by
      obtain ⟨q, hq⟩ := hd
      have h2 : (1 : Nat) = c.natAbs * q.natAbs := by
        have := congrArg Int.natAbs hq
        rw [Int.natAbs_mul] at this
        simpa using this
      exact Nat.eq_one_of_mul_eq_one_right h2.symm
    have := cg_mul q1 6 (Nat.le_refl _)
    rw [this, hc1, q2]
/-- roots of two in one cell of 2^-248 are one of their divisor's -/
theorem sep_pair {p1 p2 F1 F2 G : Nat → Int} {N1 N2 M : Rat → Int} (hP1 : Part p1 F1) (hP2 : Part p2 F2) (c1 : cg F1 0 6 = 1) (c2 : cg F2 0 6 = 1) (hG : Gcd F1 F2 G) (hN1 : NB F1 N1) (hN2 : NB F2 N2) (hM : NB G M) {v : Int} {b : Nat} (hb : 248 ≤ b) (j1 : N1 (Pt v b) < N1 (Pt (v + 1) b)) (j2 : N2 (Pt v b) < N2 (Pt (v + 1) b)) : M (Pt v b) < M (Pt (v + 1) b) := by
  rcases hG with ⟨g0, _⟩ | ⟨g1, g2, ⟨u, w, g3⟩, g4, g5⟩
  · obtain ⟨j, hj, hn⟩ := hP1.2.2.1.1
    exact absurd (g0 j hj) hn
  obtain ⟨⟨h1, e1⟩, q1⟩ := hP1.dv g1 g4
  obtain ⟨⟨h2, e2⟩, q2⟩ := hP2.dv g1 g5
  have k1 := cg_part c1 e1
  have k2 := cg_part c2 e2
  obtain ⟨_, r1⟩ := hP1.dv k1 ⟨il G 6, fun x => by rw [← es_ev, ← es_ev, ← es_ev, e1 x]; grind⟩
  obtain ⟨_, r2⟩ := hP2.dv k2 ⟨il G 6, fun x => by rw [← es_ev, ← es_ev, ← es_ev, e2 x]; grind⟩
  obtain ⟨K1, hK1⟩ := NB.ex r1.2.2.1.1
  obtain ⟨K2, hK2⟩ := NB.ex r2.2.2.1.1
  obtain ⟨w1, w2⟩ := Pt_w v hb
  have m1 := NB.mul hP1.2.2.1 e1 hN1 hM hK1 _ _ (Rat.le_of_lt w1)
  have m2 := NB.mul hP2.2.2.1 e2 hN2 hM hK2 _ _ (Rat.le_of_lt w1)
  refine Classical.byContradiction (fun hn => ?_)
  have j3 : K1 (Pt v b) < K1 (Pt (v + 1) b) := by omega
  have j4 : K2 (Pt v b) < K2 (Pt (v + 1) b) := by omega
  have hc : Cop (il h1 6) (il h2 6) := by
    refine ⟨u, w, fun x => ?_⟩
    have hz : ∀ x, (ev (padd (padd (pmul u (il h1 6)) (pmul w (il h2 6))) [-1]) x) * ev (il G 6) x = 0 := fun x => by
      have h3 := g3 x
      rw [e1 x, e2 x] at h3
      rw [ev_add, ev_add, ev_mul, ev_mul, ← es_ev, ← es_ev, ← es_ev]
      simp only [ev]
      grind
    rcases ev_dom hz with h3 | h3
    · have := h3 x
      rw [ev_add, ev_add, ev_mul, ev_mul] at this
      simp only [ev] at this
      grind
    · obtain ⟨j, hj, hjn⟩ := q1.2.2.1.1
      exact absurd (es_row (fun x => by rw [es_ev]; exact h3 x) j hj) hjn
  obtain ⟨a1, s1⟩ := r1.small
  obtain ⟨a2, s2⟩ := r2.small
  obtain ⟨n1, n2⟩ := NB.near r1 hK1 (Rat.le_trans w2 wcel1) j3
  have hab : 0 < a1 + a2 := by
    rcases Nat.eq_zero_or_pos (a1 + a2) with h0 | h0
    · exfalso
      have ha0 : a1 = 0 := by omega
      subst ha0
      obtain ⟨r, n, hsq, e⟩ := hK1
      have hn1 : n = 1 := by
        rcases hsq.2.2.2 with ⟨q, _⟩ | ⟨q, _⟩
        · exact q
        · exfalso
          obtain ⟨j, hj, hjn⟩ := q.2.2.2.1 1 (by have := q.1; omega)
          refine hjn ?_
          rw [q.2.2.1 j hj]
          exact dva_zero (n := 1) (fun j h3 h4 => s1.2.2.1 j (by omega) h4) j (by omega) hj
      subst hn1
      have := (one_const hsq).2
      rw [e, e, this, this] at j3
      omega
    · exact h0
  exact sep2 s1 s2 hab hc r1.2.2.1 r2.2.2.1 hK1 hK2 n1 n2 w1 w2 j3 j4
theorem Cell.down {F : Nat → Int} {N : Rat → Int} {i z : Int} {b k : Nat} (hN : NB F N) (hF : Sqf F) (h : Cell N i z (b + k)) : Cell N i (z / 2 ^ k) b := by
  obtain ⟨f1, f2⟩ := Pt_floor z b k
  have g1 := hN.mono hF f1
  have g2 := hN.mono hF f2
  obtain ⟨⟨r1, r2⟩, c1, c2⟩ := h
  have hp := pw2 k
  rw [pw2_add, ← Int.mul_assoc] at r1 r2
  refine ⟨⟨?_, Int.ediv_lt_of_lt_mul hp r2⟩, by omega, by omega⟩
  rw [show -(2048 * 2 ^ b * 2 ^ k : Int) = -(2048 * 2 ^ b) * 2 ^ k by rw [Int.neg_mul]] at r1
  exact (Int.le_ediv_iff_mul_le hp).mpr r1
theorem Cell.same {F : Nat → Int} {N : Rat → Int} {i c c' : Int} {b : Nat} (hN : NB F N) (hF : Sqf F) (h : Cell N i c b) (h' : Cell N i c' b) : c' = c := Cell.uniq (fun x y _ _ hxy => hN.mono hF hxy) h h'
theorem Cell.pre {F : Nat → Int} {N : Rat → Int} {i z v : Int} {b : Nat} (hN : NB F N) (hF : Sqf F) (hz : Cell N i z 256) (hb : b ≤ 248) (h : Cell N i v b) : v = z / 2 ^ (256 - b) := by
  have h1 : Cell N i (z / 2 ^ (256 - b)) b := Cell.down hN hF (by rw [show b + (256 - b) = 256 by omega]; exact hz)
  exact Cell.same hN hF h1 h
/-- where the first bits tell a difference the cells of 256 bits tell the same -/
theorem ord_ne {F1 F2 : Nat → Int} {N1 N2 : Rat → Int} {i j v u z y : Int} {d e : Nat} (h1 : NB F1 N1) (q1 : Sqf F1) (h2 : NB F2 N2) (q2 : Sqf F2) (hz : Cell N1 i z 256) (hy : Cell N2 j y 256) (hd : d ≤ 248) (he : e ≤ 248) (hv : Cell N1 i v d) (hu : Cell N2 j u e) (hne : cmq (v / 2 ^ (d - min d e)) (u / 2 ^ (e - min d e)) ≠ 0) : cmq (v / 2 ^ (d - min d e)) (u / 2 ^ (e - min d e)) = cmq z y := by
  have a1 := Cell.pre h1 q1 hz hd hv
  have a2 := Cell.pre h2 q2 hy he hu
  rw [a1, a2, ← div_pow_add, ← div_pow_add, show 256 - d + (d - min d e) = 256 - min d e by omega, show 256 - e + (e - min d e) = 256 - min d e by omega] at hne ⊢
  have hp := pw2 (256 - min d e)
  generalize (2 : Int) ^ (256 - min d e) = T at *
  have mono : ∀ a b : Int, a ≤ b → a / T ≤ b / T := fun a b hab => Int.ediv_le_ediv hp hab
  rcases Int.lt_trichotomy (z / T) (y / T) with c | c | c
  · rw [cmq_m1 c]
    exact (cmq_m1 (Classical.byContradiction (fun hn => by have := mono y z (by omega); omega))).symm
  · exact absurd (cmq_00 c) hne
  · rw [cmq_p1 c]
    exact (cmq_p1 (Classical.byContradiction (fun hn => by have := mono z y (by omega); omega))).symm
/-- a root that both have has one cell -/
theorem ord_eq {F1 F2 G a1 a2 : Nat → Int} {N1 N2 M : Rat → Int} {i j v z y : Int} {d : Nat} (h1 : NB F1 N1) (q1 : Sqf F1) (h2 : NB F2 N2) (q2 : Sqf F2) (e1 : ∀ x, es F1 6 x = es a1 6 x * es G 6 x) (e2 : ∀ x, es F2 6 x = es a2 6 x * es G 6 x) (hM : NB G M) (hd : d ≤ 248) (i1 : Iso N1 i v d) (i2 : Iso N2 j v d) (hj : M (Pt (v + 1) d) - M (Pt v d) = 1) (hz : Cell N1 i z 256) (hy : Cell N2 j y 256) : z = y := by
  have e1' : ∀ x, ((1 : Int) : Rat) * es F1 6 x = es a1 6 x * es G 6 x := fun x => by rw [show ((1 : Int) : Rat) = 1 from rfl, ← e1 x]; grind
  have e2' : ∀ x, ((1 : Int) : Rat) * es F2 6 x = es a2 6 x * es G 6 x := fun x => by rw [show ((1 : Int) : Rat) = 1 from rfl, ← e2 x]; grind
  obtain ⟨sg1, k1⟩ := jump_k q1 (by decide) e1' h1 hM
  obtain ⟨_, k2⟩ := jump_k q2 (by decide) e2' h2 hM
  obtain ⟨s1, l1, r1⟩ := i1.in h1 q1 (w := z) (k := 256 - d) (by rw [show d + (256 - d) = 256 by omega]; exact hz) (Cell.pre h1 q1 hz hd i1.cell).symm
  obtain ⟨s2, l2, r2⟩ := i2.in h2 q2 (w := y) (k := 256 - d) (by rw [show d + (256 - d) = 256 by omega]; exact hy) (Cell.pre h2 q2 hy hd i2.cell).symm
  rw [show d + (256 - d) = 256 by omega] at s1 l1 r1 s2 l2 r2
  have w1 : Pt z 256 < Pt (z + 1) 256 := Pt_lt (by omega)
  have w2 : Pt y 256 < Pt (y + 1) 256 := Pt_lt (by omega)
  have m1 := (k1 _ _ _ _ l1 (Rat.le_of_lt w1) r1 (by rw [i1.2.1, i1.2.2]; omega) (by rw [s1.2.1, s1.2.2]; omega)).1
  have m2 := (k2 _ _ _ _ l2 (Rat.le_of_lt w2) r2 (by rw [i2.2.1, i2.2.2]; omega) (by rw [s2.2.1, s2.2.2]; omega)).1
  rcases Int.lt_trichotomy z y with c | c | c
  · exfalso
    have o := hM.mono sg1 (x := Pt (z + 1) 256) (y := Pt y 256) (Pt_le (by omega))
    have o1 := hM.mono sg1 l1
    have o2 := hM.mono sg1 r2
    omega
  · exact c
  · exfalso
    have o := hM.mono sg1 (x := Pt (y + 1) 256) (y := Pt z 256) (Pt_le (by omega))
    have o1 := hM.mono sg1 l2
    have o2 := hM.mono sg1 r1
    omega
/-- asked, and the divisor has no root in the cell -/
def Ask (F1 F2 : Nat → Int) (v : Int) (d : Nat) : Prop := ∃ (G : Nat → Int) (M : Rat → Int), Gcd F1 F2 G ∧ NB G M ∧ M (Pt (v + 1) d) - M (Pt v d) = 0
theorem ord_sep {p1 p2 F1 F2 : Nat → Int} {N1 N2 : Rat → Int} {i j v v1 v2 : Int} {d : Nat} (hP1 : Part p1 F1) (hP2 : Part p2 F2) (c1 : cg F1 0 6 = 1) (c2 : cg F2 0 6 = 1) (hN1 : NB F1 N1) (hN2 : NB F2 N2) (ha : Ask F1 F2 v d) (hd : d ≤ 248) (hv : v1 / 2 ^ (248 - d) = v) (h1 : Cell N1 i v1 248) (h2 : Cell N2 j v2 248) (he : v1 = v2) : False := by
  obtain ⟨G, M, hG, hM, h0⟩ := ha
  subst he
  have j1 : N1 (Pt v1 248) < N1 (Pt (v1 + 1) 248) := by have a := h1.2.1; have b := h1.2.2; omega
  have j2 : N2 (Pt v1 248) < N2 (Pt (v1 + 1) 248) := by have a := h2.2.1; have b := h2.2.2; omega
  have hs := sep_pair hP1 hP2 c1 c2 hG hN1 hN2 hM (Nat.le_refl _) j1 j2
  have hqG : Sqf G := by
    rcases hG with ⟨g0, _⟩ | ⟨g1, _, _, g4, _⟩
    · obtain ⟨j, hj, hn⟩ := hP1.2.2.1.1
      exact absurd (g0 j hj) hn
    · exact (hP1.dv g1 g4).2.2.2.1
  obtain ⟨f1, f2⟩ := Pt_floor v1 d (248 - d)
  rw [hv, show d + (248 - d) = 248 by omega] at f1 f2
  have m1 := hM.mono hqG f1
  have m2 := hM.mono hqG f2
  omega
theorem Crv.keep {I I' : Nat → Int} {A A' : Nat → Nat → Int} {p nm : Nat} {N : Rat → Int} {dp : Nat → Nat} {v : Nat → Int} (h : Crv I A p nm N dp v) (h1 : A' (20 + p) = A (20 + p)) (h2 : A' (40 + p) = A (40 + p)) (h3 : I' (40 + p) = I (40 + p)) (h4 : ∀ i, i < 5 → I' (200 + (5 * p + i)) = I (200 + (5 * p + i)) ∧ I' (100 + (5 * p + i)) = I (100 + (5 * p + i)) ∧ A' (100 + (5 * p + i)) = A (100 + (5 * p + i))) : Crv I' A' p nm N dp v := by
  obtain ⟨g1, g2, g3, g4, g5, g6, g7, g8⟩ := h
  exact ⟨by rw [h1]; exact g1, by rw [h1, h2]; exact g2, by rw [h3]; exact g3, g4, by rw [h2]; exact g5, g6, g7.congr (fun i hi => ⟨(h4 i (by omega)).1, (h4 i (by omega)).2.1⟩) (fun i hi => (h4 i (by omega)).2.2), g8⟩
