/-! fractions at a root's cell -/
def FrP (c n d : Int) : Prop := (1 ≤ d ∧ d ≤ 1000 ∧ Nat.gcd n.natAbs d.natAbs = 1 ∧ c * d ≤ n * 2 ^ 256 ∧ n * 2 ^ 256 < (c + 1) * d) ∨ (n = 0 ∧ d = 0 ∧ ∀ m e : Int, 1 ≤ e → e ≤ 1000 → ¬ (c * e ≤ m * 2 ^ 256 ∧ m * 2 ^ 256 < (c + 1) * e))
theorem frac_le {n d c : Int} {b : Nat} (hd : 1 ≤ d) : c * d ≤ n * 2 ^ b ↔ Pt c b ≤ (n : Rat) / (d : Rat) := by
  have h := frac_lt (n := n) (c := c) (b := b) hd
  refine ⟨fun h1 => Classical.byContradiction (fun h2 => ?_), fun h1 => Classical.byContradiction (fun h2 => ?_)⟩
  · have h3 := h.mpr (by grind)
    exact absurd h3 (Int.not_lt.mpr h1)
  · have h3 := h.mp (Int.not_le.mp h2)
    grind
theorem Dg.lead {p : List Rat} {m : Nat} {c d : Rat} (h : Dg (ev p) m c) (h' : Dg (ev p) m d) : c = d := by
  obtain ⟨_, r, hr, e⟩ := h
  obtain ⟨_, r', hr', e'⟩ := h'
  refine Classical.byContradiction (fun hn => ?_)
  have : Dg (fun _ => (0 : Rat)) m (c - d) := ⟨by grind, padd r (psc (-1) r'), by
    have h8 := padd_len r (psc (-1) r')
    simp only [psc, List.length_map] at h8
    simp only [psc]
    omega, fun x => by
    rw [ev_add, ev_sc]
    have h8 := e x
    have h9 := e' x
    grind⟩
  exact this.ne (fun _ => rfl)
theorem lead_fac {p1 F : Nat → Int} (h : Part p1 F) {k : Nat} (hk : k < 6) (h0 : 0 < F k) (hz : ∀ j, k < j → j < 6 → F j = 0) : F k ≤ 1000 := by
  obtain ⟨h1, h2, h3, C, hC⟩ := h
  have hCN : Nz C := Classical.byContradiction (fun hn => by
    obtain ⟨t, ht, hp⟩ := h1
    refine hp (es_row (fun x => ?_) t ht)
    rw [hC x, es_zero (c := C) (fun k hk => Classical.byContradiction (fun hk2 => hn ⟨k, hk, hk2⟩))]
    grind)
  obtain ⟨t, ht, hCt, hCz⟩ := top_of hCN
  obtain ⟨s, hs, hps, hpz⟩ := top_of h1
  have d3 := (top_Dg ht hCt hCz).mul (top_Dg hk (show F k ≠ 0 by omega) hz)
  have d4 := top_Dg hs hps hpz
  have ef : (fun x => ev (il C 6) x * ev (il F 6) x) = ev (il p1 6) := funext (fun x => by rw [← es_ev, ← es_ev, ← es_ev]; exact (hC x).symm)
  rw [ef] at d3
  have m1 := Dg.dvd (Dv.refl _) d3 d4
  have m2 := Dg.dvd (Dv.refl _) d4 d3
  have m3 : t + k = s := by omega
  rw [m3] at d3
  have e1 := d3.lead d4
  have e2 : C t * F k = p1 s := by
    have e3 : ((C t * F k : Int) : Rat) = (p1 s : Rat) := by rw [Rat.intCast_mul]; exact e1
    exact Rat.intCast_inj.mp e3
  have b := h2 s hs
  rcases Int.lt_trichotomy (C t) 0 with c | c | c
  · have h5 := Int.mul_le_mul_of_nonneg_right (show 1 ≤ -(C t) by omega) (show 0 ≤ F k by omega)
    rw [Int.neg_mul, e2] at h5
    omega
  · exact absurd c hCt
  · have h5 := Int.mul_le_mul_of_nonneg_right (show 1 ≤ C t by omega) (show 0 ≤ F k by omega)
    rw [e2] at h5
    omega
theorem cop_dvd {x n d : Int} (hg : Nat.gcd n.natAbs d.natAbs = 1) (h : d ∣ x * n) : d ∣ x := by
  have h1 := Int.natAbs_dvd_natAbs.mpr h
  rw [Int.natAbs_mul] at h1
  have h2 : Nat.Coprime d.natAbs n.natAbs := by unfold Nat.Coprime; rw [Nat.gcd_comm]; exact hg
  exact Int.natAbs_dvd_natAbs.mp (h2.dvd_of_dvd_mul_right h1)
/-- the lower number of a root goes into the lead -/
theorem low_lead {F : Nat → Int} {a : Nat} {n d : Int} (hd : 1 ≤ d) (hg : Nat.gcd n.natAbs d.natAbs = 1) (ha : a < 6) (hz : ∀ j, a < j → j < 6 → F j = 0) (h0 : es F 6 ((n : Rat) / (d : Rat)) = 0) : d ∣ F a := by
  have he := hsum_es F a n d (by omega) a (Nat.le_refl a)
  have ef : (fun k => F (a - a + k)) = F := funext (fun k => by rw [Nat.sub_self, Nat.zero_add])
  rw [ef, ← es_more (c := F) (n := a + 1) ((n : Rat) / (d : Rat)) 6 (by omega) (fun j h1 h2 => hz j (by omega) h2), h0] at he
  have h1 : hsum F a n d a = 0 := by
    have : ((hsum F a n d a : Int) : Rat) = ((0 : Int) : Rat) := by rw [he]; grind
    exact Rat.intCast_inj.mp this
  have hm : ∀ i, d ∣ hsum F a n d i - F a * n ^ i := fun i => by
    induction i with
    | zero => rw [hsum, Int.pow_zero, Int.mul_one, Int.sub_self]; exact Int.dvd_zero _
    | succ i ih =>
      obtain ⟨q, hq⟩ := ih
      refine ⟨q * n + F (a - 1 - i) * d ^ i, ?_⟩
      rw [hsum, Int.pow_succ, Int.pow_succ]
      have : hsum F a n d i = d * q + F a * n ^ i := by omega
      rw [this]
      grind
  have h2 : d ∣ F a * n ^ a := by
    have := hm a
    rw [h1, Int.zero_sub] at this
    exact (Int.dvd_neg).mp this
  have h3 : ∀ i, d ∣ F a * n ^ i → d ∣ F a := fun i => by
    induction i with
    | zero => intro h; rw [Int.pow_zero, Int.mul_one] at h; exact h
    | succ i ih => intro h; rw [Int.pow_succ, ← Int.mul_assoc] at h; exact ih (cop_dvd hg h)
  exact h3 a h2
theorem lowest {n d : Int} (hd : 1 ≤ d) : ∃ g n' d' : Int, 1 ≤ g ∧ 1 ≤ d' ∧ n = g * n' ∧ d = g * d' ∧ Nat.gcd n'.natAbs d'.natAbs = 1 ∧ g = ((Nat.gcd n.natAbs d.natAbs : Nat) : Int) := by
  have hg : 0 < Nat.gcd n.natAbs d.natAbs := Nat.gcd_pos_of_pos_right _ (by omega)
  obtain ⟨n', hn⟩ := Int.dvd_natAbs.mp (Int.natCast_dvd_natCast.mpr (Nat.gcd_dvd_left n.natAbs d.natAbs))
  obtain ⟨d', hd'⟩ := Int.dvd_natAbs.mp (Int.natCast_dvd_natCast.mpr (Nat.gcd_dvd_right n.natAbs d.natAbs))
  have hg2 : Nat.gcd n.natAbs d.natAbs = Nat.gcd n.natAbs d.natAbs * Nat.gcd n'.natAbs d'.natAbs := by
    have e1 : n.natAbs = Nat.gcd n.natAbs d.natAbs * n'.natAbs := by
      have := congrArg Int.natAbs hn
      rw [Int.natAbs_mul, Int.natAbs_natCast] at this
      exact this
    have e2 : d.natAbs = Nat.gcd n.natAbs d.natAbs * d'.natAbs := by
      have := congrArg Int.natAbs hd'
      rw [Int.natAbs_mul, Int.natAbs_natCast] at this
      exact this
    have e3 := Nat.gcd_mul_left (Nat.gcd n.natAbs d.natAbs) n'.natAbs d'.natAbs
    rw [← e1, ← e2] at e3
    exact e3
  generalize Nat.gcd n.natAbs d.natAbs = g at *
  refine ⟨(g : Int), n', d', by omega, ?_, hn, hd', ?_, rfl⟩
  · rcases Int.lt_or_le 0 d' with c | c
    · omega
    · have := Int.mul_nonneg (show (0 : Int) ≤ (g : Int) by omega) (show 0 ≤ -d' by omega)
      rw [Int.mul_neg, ← hd'] at this
      omega
  · exact Nat.eq_of_mul_eq_mul_left hg (by rw [Nat.mul_one]; exact hg2.symm)
theorem frac_red {g n d : Int} (hg : 1 ≤ g) (hd : 1 ≤ d) : ((g * n : Int) : Rat) / ((g * d : Int) : Rat) = (n : Rat) / (d : Rat) := by
  have h1 := (frac_mul (n := n) hd)
  have h2 := (frac_mul (n := n) hg).2
  rw [Rat.intCast_mul, Rat.intCast_mul]
  have h3 : (g : Rat) ≠ 0 := by grind
  have h4 : (d : Rat) ≠ 0 := by grind
  have h5 : (g : Rat) * (d : Rat) ≠ 0 := by intro h; rcases Rat.mul_eq_zero.mp h with h | h; exact h3 h; exact h4 h
  grind
theorem fr_ceil {c t L : Int} (hL : 1 ≤ L ∧ L ≤ 1000) (h1 : c * L ≤ t * 2 ^ 256) (h2 : t * 2 ^ 256 < (c + 1) * L) : -((-(c / 2 ^ 246 * L)) / 1024) = t := by
  have hq : (0 : Int) < 2 ^ 246 := Int.pow_pos (by decide)
  rw [show (2 : Int) ^ 256 = 1024 * 2 ^ 246 from rfl] at h1 h2
  generalize (2 : Int) ^ 246 = Q at *
  have e1 := Int.mul_ediv_add_emod c Q
  have e2 := Int.emod_nonneg c (show Q ≠ 0 by omega)
  have e3 := Int.emod_lt_of_pos c hq
  generalize c / Q = s at *
  generalize c % Q = r at *
  have a1 : s * L * Q ≤ 1024 * t * Q := by
    have := Int.mul_nonneg e2 (show 0 ≤ L by omega)
    have e4 : c * L = s * L * Q + r * L := by rw [← e1]; grind
    have e5 : t * (1024 * Q) = 1024 * t * Q := by grind
    omega
  have a2 : 1024 * t * Q < (s + 1) * L * Q := by
    have h4 : (s + 1) * Q = Q * s + Q := by grind
    have h3 := Int.mul_le_mul_of_nonneg_right (show c + 1 ≤ (s + 1) * Q by omega) (show 0 ≤ L by omega)
    have e4 : (s + 1) * Q * L = (s + 1) * L * Q := by grind
    have e5 : t * (1024 * Q) = 1024 * t * Q := by grind
    omega
  have b1 := Int.le_of_mul_le_mul_right a1 hq
  have b2 := Int.lt_of_mul_lt_mul_right a2 (by omega)
  rw [Int.add_mul, Int.one_mul] at b2
  generalize s * L = X at *
  omega
/-- a fraction in a root's cell is the one that the lead and ten bits give -/
theorem fr_near {p1 F : Nat → Int} {N : Rat → Int} {i c m e : Int} {k : Nat} (hP : Part p1 F) (hN : NB F N) (hz : Cell N i c 256) (hk : k < 6) (h0 : 0 < F k) (hzz : ∀ j, k < j → j < 6 → F j = 0) (he : 1 ≤ e ∧ e ≤ 1000) (h1 : c * e ≤ m * 2 ^ 256) (h2 : m * 2 ^ 256 < (c + 1) * e) : es F 6 ((m : Rat) / (e : Rat)) = 0 ∧ ((-((-(c / 2 ^ 246 * F k)) / 1024) : Int) : Rat) / ((F k : Int) : Rat) = (m : Rat) / (e : Rat) := by
  have hr := rat_root hP hN ⟨he.1, by omega⟩ (Int.lt_of_le_of_lt hz.2.1 hz.2.2) ((frac_le he.1).mp h1) ((frac_lt he.1).mp h2)
  have hL := lead_fac hP hk h0 hzz
  refine ⟨hr, ?_⟩
  obtain ⟨g, m', e', hg, he', e1, e2, hc, _⟩ := lowest (n := m) (d := e) he.1
  have hr2 := hr
  rw [e1, e2, frac_red hg he'] at hr2
  obtain ⟨t', ht⟩ := low_lead he' hc hk hzz hr2
  have ke : t' * m' * e = F k * m := by rw [ht, e1, e2]; grind
  have q1 : c * F k ≤ t' * m' * 2 ^ 256 := by
    have a1 := Int.mul_le_mul_of_nonneg_right h1 (show 0 ≤ F k by omega)
    have a2 : c * e * F k = c * F k * e := by grind
    have a3 : m * 2 ^ 256 * F k = t' * m' * 2 ^ 256 * e := by
      rw [Int.mul_right_comm (t' * m'), ke]; grind
    rw [a2, a3] at a1
    exact Int.le_of_mul_le_mul_right a1 (by omega)
  have q2 : t' * m' * 2 ^ 256 < (c + 1) * F k := by
    have a1 := Int.mul_lt_mul_of_pos_right h2 h0
    have a2 : (c + 1) * e * F k = (c + 1) * F k * e := by grind
    have a3 : m * 2 ^ 256 * F k = t' * m' * 2 ^ 256 * e := by
      rw [Int.mul_right_comm (t' * m'), ke]; grind
    rw [a2, a3] at a1
    exact Int.lt_of_mul_lt_mul_right a1 (by omega)
  rw [fr_ceil ⟨by omega, hL⟩ q1 q2]
  obtain ⟨f1, f2⟩ := frac_mul (n := m) he.1
  obtain ⟨f3, f4⟩ := frac_mul (n := t' * m') (d := F k) (by omega)
  have ke2 : ((t' * m' : Int) : Rat) * (e : Rat) = ((F k : Int) : Rat) * (m : Rat) := by rw [← Rat.intCast_mul, ke, Rat.intCast_mul]
  generalize ((t' * m' : Int) : Rat) = T at *
  generalize ((F k : Int) : Rat) = K at *
  generalize (m : Rat) = U at *
  generalize (e : Rat) = W at *
  have w1 : W ≠ 0 := by grind
  have w2 : K ≠ 0 := by grind
  have w3 : K * W ≠ 0 := by intro h; rcases Rat.mul_eq_zero.mp h with h | h; exact w2 h; exact w1 h
  grind
theorem lin_es {G : Nat → Int} {a b : Int} (h0 : G 0 = -a) (h1 : G 1 = b) (hz : ∀ j, 2 ≤ j → j < 6 → G j = 0) (x : Rat) : es G 6 x = (b : Rat) * x - (a : Rat) := by
  rw [es_more (c := G) (n := 2) x 6 (by decide) (fun j h1 h2 => hz j h1 h2)]
  simp only [es]
  rw [h0, h1, Rat.intCast_neg]
  grind
theorem lin_dv {F G : Nat → Int} {a b : Int} (hb : 1 ≤ b) (h0 : G 0 = -a) (h1 : G 1 = b) (hz : ∀ j, 2 ≤ j → j < 6 → G j = 0) (hF : es F 6 ((a : Rat) / (b : Rat)) = 0) : ∃ (kk : Int) (h : Nat → Int), kk ≠ 0 ∧ ∀ x, (kk : Rat) * es F 6 x = es h 6 x * es G 6 x := by
  have hd := top_Dg (q := G) (D := 1) (by decide) (by rw [h1]; omega) (fun j h1 h2 => hz j (by omega) h2)
  obtain ⟨q, r, hr, hqr⟩ := hd.div (il F 6)
  obtain ⟨f1, f2⟩ := frac_mul (n := a) hb
  have g0 : es G 6 ((a : Rat) / (b : Rat)) = 0 := by rw [lin_es h0 h1 hz]; grind
  have hr0 : ∀ x, ev r x = 0 := by
    have e1 := hqr ((a : Rat) / (b : Rat))
    rw [← es_ev, ← es_ev, hF, g0] at e1
    match r, hr, e1 with
    | [], _, _ => exact fun x => rfl
    | [c0], _, e1 => 
      intro x
      simp only [ev] at e1 ⊢
      grind
  have hq2 : ∀ x, es F 6 x = ev q x * es G 6 x := fun x => by rw [es_ev, es_ev, hqr x, hr0 x]; grind
  obtain ⟨q6, h6, hq6⟩ := six_row ⟨1, by decide, by rw [h1]; omega⟩ hq2
  obtain ⟨m, hm, C, hC⟩ := one_lower q6
  refine ⟨(m : Int), C, by omega, fun x => ?_⟩
  have := hC x
  rw [h6] at this
  rw [← this, hq6 x, hq2 x]
  have e9 : ((m : Int) : Rat) = (m : Rat) := rfl
  rw [e9]
  grind
theorem lin_two {G : Nat → Int} {M : Rat → Int} (hM : NB G M) (hz : ∀ j, 2 ≤ j → j < 6 → G j = 0) (x y : Rat) : M y - M x ≤ 1 := by
  obtain ⟨r, n, hs, hN⟩ := hM
  rw [hN, hN]
  by_cases hn : n = 1
  · subst hn
    rw [(one_const hs).2, (one_const hs).2]
    omega
  · obtain ⟨_, _, _, h | ⟨h, _⟩⟩ := hs
    · exact absurd h.1 hn
    · have hn2 : n = 2 := by
        rcases Nat.lt_or_ge 2 n with h3 | h3
        · exfalso
          have hNR := h.2.2.2.2 0 (by omega)
          have hl := hNR.low (D := 0) (fun j h1 h2 => by
            rw [h.2.2.1 j h2]
            exact dva_zero (n := 2) hz j (by omega) h2)
          obtain ⟨j, hj, hj0⟩ := h.2.2.2.1 2 h3
          exact hj0 (hl j (by omega) hj)
        · have := h.1; omega
      subst hn2
      unfold NbF tn0
      generalize tn (fun k => sgL (r k)) 2 = T
      simp only [tn, lst]
      rcases sg_mem (es (r 0) 6 x) with a | a | a <;> rcases sg_mem (es (r 0) 6 y) with b | b | b <;> rcases sg_mem (es (r 1) 6 x) with c | c | c <;> rcases sg_mem (es (r 1) 6 y) with d | d | d <;> simp [a, b, c, d] <;> omega
/-- the root of a line, by its count -/
theorem lin_in {G : Nat → Int} {M : Rat → Int} {a b : Int} (hG : Sqf G) (hM : NB G M) (hb : 1 ≤ b) (h0 : G 0 = -a) (h1 : G 1 = b) (hz : ∀ j, 2 ≤ j → j < 6 → G j = 0) {x y : Rat} : (M y - M x = 1 → x ≤ (a : Rat) / (b : Rat) ∧ (a : Rat) / (b : Rat) < y) ∧ (M y - M x = 0 → ¬ (x ≤ (a : Rat) / (b : Rat) ∧ (a : Rat) / (b : Rat) < y)) := by
  obtain ⟨f1, f2⟩ := frac_mul (n := a) hb
  have g0 : es G 6 ((a : Rat) / (b : Rat)) = 0 := by rw [lin_es h0 h1 hz]; grind
  generalize (a : Rat) / (b : Rat) = w at *
  refine ⟨fun h => ?_, fun h ⟨c1, c2⟩ => ?_⟩
  · refine ⟨Classical.byContradiction (fun c => ?_), Classical.byContradiction (fun c => ?_)⟩
    · have h2 := hM.zero hG (show w < x by grind) g0
      have h3 := lin_two hM hz w y
      omega
    · have h2 := hM.mono hG (show y ≤ w by grind)
      have h3 := hM.zero hG (show w < w + 1 by grind) g0
      have h4 := lin_two hM hz x (w + 1)
      omega
  · have h2 := hM.mono hG c1
    have h3 := hM.zero hG c2 g0
    omega
/-- a root within a place's cell lies in the cell of 256 bits -/
theorem fr_cell {F : Nat → Int} {N : Rat → Int} {i c v a b : Int} {d : Nat} (hF : Sqf F) (hN : NB F N) (hz : Cell N i c 256) (hi : Iso N i v d) (hb : 1 ≤ b) (h0 : es F 6 ((a : Rat) / (b : Rat)) = 0) (h : Pt v d ≤ (a : Rat) / (b : Rat) ∧ (a : Rat) / (b : Rat) < Pt (v + 1) d) : c * b ≤ a * 2 ^ 256 ∧ a * 2 ^ 256 < (c + 1) * b := by
  rw [frac_le hb, frac_lt hb]
  have m1 := hN.mono hF h.1
  have m2 := hN.zero hF h.2 h0
  have i1 := hi.2.1
  have i2 := hi.2.2
  have z1 := hz.2.1
  have z2 := hz.2.2
  generalize (a : Rat) / (b : Rat) = w at *
  refine ⟨Classical.byContradiction (fun k => ?_), Classical.byContradiction (fun k => ?_)⟩
  · have h2 := hN.zero hF (show w < Pt c 256 by grind) h0
    omega
  · have h2 := hN.mono hF (show Pt (c + 1) 256 ≤ w by grind)
    omega
theorem fr_some {F : Nat → Int} {N : Rat → Int} {i c v a b : Int} {d : Nat} (hF : Sqf F) (hN : NB F N) (hz : Cell N i c 256) (hi : Iso N i v d) (hb : 1 ≤ b ∧ b ≤ 1000) (h0 : es F 6 ((a : Rat) / (b : Rat)) = 0) (h : Pt v d ≤ (a : Rat) / (b : Rat) ∧ (a : Rat) / (b : Rat) < Pt (v + 1) d) : FrP c (a / ((Nat.gcd a.natAbs b.natAbs : Nat) : Int)) (b / ((Nat.gcd a.natAbs b.natAbs : Nat) : Int)) := by
  obtain ⟨h1, h2⟩ := fr_cell hF hN hz hi hb.1 h0 h
  obtain ⟨g, a', b', hg, hb', e1, e2, hc, eg⟩ := lowest (n := a) (d := b) hb.1
  rw [← eg]
  have d1 : a / g = a' := by rw [e1]; exact Int.mul_ediv_cancel_left _ (by omega)
  have d2 : b / g = b' := by rw [e2]; exact Int.mul_ediv_cancel_left _ (by omega)
  rw [d1, d2]
  refine Or.inl ⟨hb', ?_, hc, ?_, ?_⟩
  · have := Int.mul_le_mul_of_nonneg_right hg (show 0 ≤ b' by omega)
    rw [← e2] at this
    omega
  · rw [e1, e2] at h1
    have a1 : c * (g * b') = c * b' * g := by grind
    have a2 : g * a' * 2 ^ 256 = a' * 2 ^ 256 * g := by grind
    rw [a1, a2] at h1
    exact Int.le_of_mul_le_mul_right h1 (by omega)
  · rw [e1, e2] at h2
    have a1 : (c + 1) * (g * b') = (c + 1) * b' * g := by grind
    have a2 : g * a' * 2 ^ 256 = a' * 2 ^ 256 * g := by grind
    rw [a1, a2] at h2
    exact Int.lt_of_mul_lt_mul_right h2 (by omega)
theorem fr_no1 {p1 F : Nat → Int} {N : Rat → Int} {i c : Int} {k : Nat} (hP : Part p1 F) (hN : NB F N) (hz : Cell N i c 256) (hk : k < 6) (h0 : 0 < F k) (hzz : ∀ j, k < j → j < 6 → F j = 0) (h : es F 6 (((-((-(c / 2 ^ 246 * F k)) / 1024) : Int) : Rat) / ((F k : Int) : Rat)) ≠ 0) : FrP c 0 0 := by
  refine Or.inr ⟨rfl, rfl, fun m e he1 he2 ⟨h1, h2⟩ => ?_⟩
  obtain ⟨q1, q2⟩ := fr_near hP hN hz hk h0 hzz ⟨he1, he2⟩ h1 h2
  rw [q2] at h
  exact h q1
theorem fr_no2 {p1 F : Nat → Int} {N : Rat → Int} {i c v : Int} {k d : Nat} (hP : Part p1 F) (hN : NB F N) (hz : Cell N i c 256) (hk : k < 6) (h0 : 0 < F k) (hzz : ∀ j, k < j → j < 6 → F j = 0) (hd : d ≤ 256) (hv : v = c / 2 ^ (256 - d)) (h : ¬ (Pt v d ≤ ((-((-(c / 2 ^ 246 * F k)) / 1024) : Int) : Rat) / ((F k : Int) : Rat) ∧ ((-((-(c / 2 ^ 246 * F k)) / 1024) : Int) : Rat) / ((F k : Int) : Rat) < Pt (v + 1) d)) : FrP c 0 0 := by
  refine Or.inr ⟨rfl, rfl, fun m e he1 he2 ⟨h1, h2⟩ => ?_⟩
  obtain ⟨q1, q2⟩ := fr_near hP hN hz hk h0 hzz ⟨he1, he2⟩ h1 h2
  rw [q2] at h
  have h3 := (frac_le he1).mp h1
  have h4 := (frac_lt he1).mp h2
  obtain ⟨f1, f2⟩ := Pt_floor c d (256 - d)
  rw [show d + (256 - d) = 256 by omega, ← hv] at f1 f2
  exact h ⟨Rat.le_trans f1 h3, by grind⟩
