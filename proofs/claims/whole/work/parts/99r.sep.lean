/-- a slope that keeps its sign: the polynomial goes one way -/
theorem mono_cell {F : Nat → Int} {x y ka s : Rat} (hk : 0 < ka) (hs : s = 1 ∨ s = -1) (hx : -1002 ≤ x) (hy : y ≤ 1002) (hD : ∀ z, x ≤ z → z ≤ y → ka ≤ s * es (dva F) 6 z) : ∀ u v, x ≤ u → u < v → v ≤ y → s * es F 6 u < s * es F 6 v := by
  intro u v hu huv hv
  obtain ⟨mu, K, hmu, hK, h⟩ := ev_der 1002 (by decide) (il F 6)
  obtain ⟨d, hd, hKd⟩ := rat_small (Rat.mul_pos hmu hk) hK
  have hR : rng 1002 u ∧ rng 1002 v := ⟨⟨by grind, by grind⟩, ⟨by grind, by grind⟩⟩
  refine walk_far (R := 1002) hd (fun u v => x ≤ u → v ≤ y → s * es F 6 u < s * es F 6 v) (fun u v h1 h2 h3 h4 h5 h6 => ?_) (fun u v w _ _ _ h1 h2 h3 h4 h5 h6 => ?_) u v hR.1 hR.2 huv hu hv
  · have q := h u v h1 h2 (by grind)
    rw [← es_ev, ← es_ev, dv_il] at q
    have k := hD u h5 (by grind)
    have ks := lip_keep hK h4 hKd
    rcases hs with rfl | rfl
    · have := der_up (a := es F 6 u) (b := es F 6 v) (q := es (dva F) 6 u) (by grind) hmu ks (by grind) q.1
      grind
    · have := der_down (a := es F 6 u) (b := es F 6 v) (q := es (dva F) 6 u) (by grind) hmu ks (by grind) q.2
      grind
  · have a1 := h3 h5 (by grind)
    have a2 := h4 (by grind) h6
    grind
theorem mono_count {F : Nat → Int} {N : Rat → Int} {x y s : Rat} (hN : NB F N) (hF : Sqf F) (hs : s = 1 ∨ s = -1) (hx : -1002 ≤ x) (hy : y ≤ 1002) (hxy : x < y) (hI : ∀ u v, x ≤ u → u < v → v ≤ y → s * es F 6 u < s * es F 6 v) : N y - N x ≤ 1 ∧ (N x < N y → s * es F 6 x ≤ 0 ∧ 0 < s * es F 6 y) := by
  obtain ⟨d, hd, h⟩ := hN.cnt hF (show (0 : Rat) ≤ 1002 by decide)
  have key : N y - N x ≤ 1 ∧ (¬ (s * es F 6 x ≤ 0 ∧ 0 < s * es F 6 y) → N y - N x ≤ 0) := by
    refine walk_far (R := 1002) hd (fun u v => x ≤ u → v ≤ y → N v - N u ≤ 1 ∧ (¬ (s * es F 6 u ≤ 0 ∧ 0 < s * es F 6 v) → N v - N u ≤ 0)) (fun u v h1 h2 h3 h4 h5 h6 => ?_) (fun u v w _ _ _ h1 h2 h3 h4 h5 h6 => ?_) x y ⟨hx, by grind⟩ ⟨by grind, hy⟩ hxy (by grind) (by grind)
    · have e : -N u = -N v + dl (sg (es F 6 u)) (sg (es F 6 v)) := h u v h1 h2 h3 h4
      have r := dl_range (sg (es F 6 u)) (sg (es F 6 v))
      have lt := hI u v h5 h3 h6
      refine ⟨by omega, fun hn => ?_⟩
      have e0 : dl (sg (es F 6 u)) (sg (es F 6 v)) = 0 := by
        unfold dl
        rcases sg_cases (es F 6 u) with ⟨p1, p2⟩ | ⟨p1, p2⟩ | ⟨p1, p2⟩ <;> rcases sg_cases (es F 6 v) with ⟨q1, q2⟩ | ⟨q1, q2⟩ | ⟨q1, q2⟩ <;> rw [p2, q2] <;> first | decide | (exfalso; rcases hs with rfl | rfl <;> grind)
      omega
    · have a1 := h3 h5 (by grind)
      have a2 := h4 (by grind) h6
      have l1 := hI u v h5 h1 (by grind)
      have l2 := hI v w (by grind) h2 h6
      by_cases c1 : s * es F 6 v ≤ 0
      · have b1 := a1.2 (by grind)
        refine ⟨by omega, fun hn => ?_⟩
        have b2 := a2.2 (by grind)
        omega
      · have b2 := a2.2 (by grind)
        refine ⟨by omega, fun hn => ?_⟩
        have b1 := a1.2 (by grind)
        omega
  refine ⟨key.1, fun hj => Classical.byContradiction (fun hn => ?_)⟩
  have := key.2 hn
  omega
theorem num1 : ∀ a, a < 6 → 0 < a → ((((a + 1) * ma a + a * (a * ma a)) ^ (a + (a - 1) - 1) * ((a + 1) * ma a + a * (a * ma a)) + 1) ^ ((a - 1) + a - 1) < (((a + 1) * ma a + a * (a * ma a)) ^ (a + (a - 1) - 1) + 1) ^ ((a - 1) + a)) ∧ (((((a + 1) * ma a + a * (a * ma a)) ^ (a + (a - 1) - 1) : Nat) : Rat) * geo 1002 (a - 1) * (((ma a : Nat) : Rat) * lpb 1002 (a + 1) * wcel) + ((((a + 1) * ma a + a * (a * ma a)) ^ (a + (a - 1) - 1) : Nat) : Rat) * geo 1002 a * (((a * ma a : Nat) : Rat) * lpb 1002 (a - 1 + 1) * wcel) < 1) := by decide +kernel
theorem dva_small {F : Nat → Int} {a : Nat} (h : Small F a) : ∀ j, j < 6 → -((a * ma a : Nat) : Int) ≤ dva F j ∧ dva F j ≤ ((a * ma a : Nat) : Int) := fun j hj => by
  have m0 : (0 : Int) ≤ ((a * ma a : Nat) : Int) := Int.natCast_nonneg _
  unfold dva
  by_cases h5 : j < 5
  · rw [if_pos h5]
    by_cases hja : j + 1 ≤ a
    · have b := h.2.2.2 (j + 1) (by omega)
      have : ((j : Int) + 1) ≤ (a : Int) := by omega
      rw [Int.natCast_mul]
      generalize (ma a : Int) = M at *
      generalize F (j + 1) = z at *
      have M0 : 0 ≤ M := by omega
      have t1 := Int.mul_le_mul_of_nonneg_left b.2 (show (0 : Int) ≤ (j : Int) + 1 by omega)
      have t2 := Int.mul_le_mul_of_nonneg_left b.1 (show (0 : Int) ≤ (j : Int) + 1 by omega)
      have t3 := Int.mul_le_mul_of_nonneg_right this M0
      rw [Int.mul_neg] at t2
      omega
    · rw [h.2.2.1 (j + 1) (by omega) (by omega)]
      omega
  · rw [if_neg h5]; omega
/-- two roots of one polynomial do not lie in one cell of 2^-248 -/
theorem sep1 {F : Nat → Int} {a : Nat} {N : Rat → Int} {x y : Rat} (hA : Small F a) (ha : 0 < a) (hF : Sqf F) (hN : NB F N) (hx : -1002 ≤ x ∧ x ≤ 1002) (hy : -1002 ≤ y ∧ y ≤ 1002) (hxy : x < y) (hw : y - x ≤ wcel) : N y - N x ≤ 1 ∧ (N x < N y → es F 6 y ≠ 0) := by
  by_cases hj : N x < N y
  · have m0 : (0 : Rat) ≤ ((ma a : Nat) : Rat) := by exact_mod_cast Nat.zero_le _
    have m1 : (0 : Rat) ≤ ((a * ma a : Nat) : Rat) := by exact_mod_cast Nat.zero_le _
    have w0 : (0 : Rat) ≤ wcel := by decide +kernel
    have l0 : ∀ n, 0 ≤ lpb 1002 n := lpb_nn (by decide)
    have s1 := jump_small hN hF hA.1 hA.2.2.1 m0 hA.rat hx hy hxy hw hj
    obtain ⟨n1, n2⟩ := num1 a hA.1 ha
    obtain ⟨t1, t2⟩ := dva_top hA.1 ha hA.2.1 hA.2.2.1
    have db := dva_small hA
    have L0 := Rat.mul_nonneg m1 (l0 (a - 1 + 1))
    have eD : ∀ z, es (dva F) 6 z = es (dva F) (a - 1 + 1) z := fun z => es_more z 6 (by have := hA.1; omega) (fun j h1 h2 => t2 j (by omega) h2)
    have sS : sm (fun i => ((F i).natAbs : Int)) (a + 1) + sm (fun i => ((dva F i).natAbs : Int)) (a - 1 + 1) ≤ (((a + 1) * ma a + a * (a * ma a) : Nat) : Int) := by
      have q1 := hA.sum
      have q2 := sm_bd (f := fun i => ((dva F i).natAbs : Int)) (m := ((a * ma a : Nat) : Int)) (a - 1 + 1) (fun k hk => by
        have := db k (by have := hA.1; omega)
        show ((dva F k).natAbs : Int) ≤ _
        omega)
      rw [show ((a - 1 + 1 : Nat) : Int) = (a : Int) by omega] at q2
      rw [Int.natCast_add, Int.natCast_mul a (a * ma a)]
      omega
    have key : ¬ (-(((a * ma a : Nat) : Rat) * lpb 1002 (a - 1 + 1) * wcel) ≤ es (dva F) 6 x ∧ es (dva F) 6 x ≤ ((a * ma a : Nat) : Rat) * lpb 1002 (a - 1 + 1) * wcel) := fun hk =>
      sep0 (b := a - 1) hA.2.1 (by omega) hA.1 (by have := hA.1; omega) hA.2.2.1 t2 hF.2 sS n1 n2 hx (Rat.mul_nonneg (Rat.mul_nonneg m0 (l0 _)) w0) (Rat.mul_nonneg L0 w0) s1 hk
    obtain ⟨s, hs, hlt⟩ : ∃ s : Rat, (s = 1 ∨ s = -1) ∧ ((a * ma a : Nat) : Rat) * lpb 1002 (a - 1 + 1) * wcel < s * es (dva F) 6 x := by
      by_cases c : ((a * ma a : Nat) : Rat) * lpb 1002 (a - 1 + 1) * wcel < es (dva F) 6 x
      · exact ⟨1, Or.inl rfl, by grind⟩
      · exact ⟨-1, Or.inr rfl, by grind⟩
    have hI := mono_cell (F := F) (ka := s * es (dva F) 6 x - ((a * ma a : Nat) : Rat) * lpb 1002 (a - 1 + 1) * wcel) (by grind) hs hx.1 hy.2 (fun z h1 h2 => by
      have l := es_lip (c := dva F) (show (0 : Rat) ≤ 1002 by decide) m1 hx (show -1002 ≤ z ∧ z ≤ 1002 by grind) h1 (a - 1 + 1) (fun k hk => cst_le (db k (by have := hA.1; omega)))
      rw [← eD, ← eD] at l
      have mm : ((a * ma a : Nat) : Rat) * lpb 1002 (a - 1 + 1) * (z - x) ≤ ((a * ma a : Nat) : Rat) * lpb 1002 (a - 1 + 1) * wcel := Rat.mul_le_mul_of_nonneg_left (by grind) L0
      rcases hs with rfl | rfl <;> grind)
    obtain ⟨c1, c2⟩ := mono_count hN hF hs hx.1 hy.2 hxy hI
    refine ⟨c1, fun _ h0 => ?_⟩
    have := c2 hj
    rw [h0] at this
    grind
  · exact ⟨by omega, fun h => absurd h hj⟩
