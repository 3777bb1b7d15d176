/-! both parts of a product of rows are small; where its coefficients stand -/
theorem cv_of {A C P : Nat → Int} (hAC : ∀ x, es A 6 x = es C 6 x * es P 6 x) : ∀ t, t < 11 → cv C P 5 6 t = (if t < 6 then A t else 0) := by
  have h1 := es_row (c := fun t => cv C P 5 6 t + -(if t < 6 then A t else 0)) (n := 11) (fun x => by
    rw [es_add, ← es_conv C P 5 x 6, ← hAC x]
    have e1 : es (fun t => -(if t < 6 then A t else 0)) 11 x = -(es A 6 x) := by
      rw [es_congr (d := fun t => (-1) * (if t < 6 then A t else 0)) (fun t _ => by rw [Int.neg_mul, Int.one_mul]) x, es_sc, es_more (n := 6) x 11 (by decide) (fun j h1 _ => if_neg (by omega)), es_congr (d := A) (fun t ht => if_pos ht) x]
      have e2 : ((-1 : Int) : Rat) = -1 := rfl
      rw [e2]
      grind
    rw [e1]
    grind)
  intro t ht
  have := h1 t ht
  omega
theorem fac_all {A C P : Nat → Int} {M : Int} (hA : ∃ t, t < 6 ∧ A t ≠ 0) (hb : ∀ j, j < 6 → -M ≤ A j ∧ A j ≤ M) (hAC : ∀ x, es A 6 x = es C 6 x * es P 6 x) : ∀ j, j < 6 → -(49 * M) ≤ P j ∧ P j ≤ 49 * M := by
  by_cases h5 : P 5 = 0
  · exact fac_bd hAC hA hb h5
  · -- degree 5: the other one is a number
    have hco : ∀ t, t < 11 → cv C P 5 6 t = (if t < 6 then A t else 0) := by
      have h1 := es_row (c := fun t => cv C P 5 6 t + -(if t < 6 then A t else 0)) (n := 11) (fun x => by
        rw [es_add, ← es_conv C P 5 x 6, ← hAC x]
        have e1 : es (fun t => -(if t < 6 then A t else 0)) 11 x = -(es A 6 x) := by
          rw [es_congr (d := fun t => (-1) * (if t < 6 then A t else 0)) (fun t _ => by rw [Int.neg_mul, Int.one_mul]) x, es_sc, es_more (n := 6) x 11 (by decide) (fun j h1 _ => if_neg (by omega)), es_congr (d := A) (fun t ht => if_pos ht) x]
          have e2 : ((-1 : Int) : Rat) = -1 := rfl
          rw [e2]
          grind
        rw [e1]
        grind)
      intro t ht
      have := h1 t ht
      omega
    have e10 : C 5 * P 5 = 0 := by
      have h1 := hco 10 (by decide)
      simp [cv, sm] at h1
      exact h1
    have c5 : C 5 = 0 := (Int.mul_eq_zero.mp e10).resolve_right h5
    have e9 : C 4 * P 5 = 0 := by
      have h1 := hco 9 (by decide)
      simp [cv, sm, c5] at h1
      exact h1
    have c4 : C 4 = 0 := (Int.mul_eq_zero.mp e9).resolve_right h5
    have e8 : C 3 * P 5 = 0 := by
      have h1 := hco 8 (by decide)
      simp [cv, sm, c5, c4] at h1
      exact h1
    have c3 : C 3 = 0 := (Int.mul_eq_zero.mp e8).resolve_right h5
    have e7 : C 2 * P 5 = 0 := by
      have h1 := hco 7 (by decide)
      simp [cv, sm, c5, c4, c3] at h1
      exact h1
    have c2 : C 2 = 0 := (Int.mul_eq_zero.mp e7).resolve_right h5
    have e6 : C 1 * P 5 = 0 := by
      have h1 := hco 6 (by decide)
      simp [cv, sm, c5, c4, c3, c2] at h1
      exact h1
    have c1 : C 1 = 0 := (Int.mul_eq_zero.mp e6).resolve_right h5
    have hA0 : ∀ t, t < 6 → A t = C 0 * P t := fun t ht => by
      have h1 := hco t (by omega)
      rw [if_pos ht] at h1
      rw [← h1]
      simp [cv, sm, c5, c4, c3, c2, c1]
      omega
    have hC0 : C 0 ≠ 0 := fun h => by
      obtain ⟨t, ht, hAt⟩ := hA
      exact hAt (by rw [hA0 t ht, h, Int.zero_mul])
    intro j hj
    have h1 := hb j hj
    have h2 : ((A j).natAbs : Int) = ((C 0).natAbs : Int) * ((P j).natAbs : Int) := by rw [hA0 j hj, Int.natAbs_mul, Int.natCast_mul]
    have h3 := Int.mul_le_mul_of_nonneg_right (show (1 : Int) ≤ ((C 0).natAbs : Int) by omega) (show (0 : Int) ≤ ((P j).natAbs : Int) by omega)
    omega
theorem fac_deg {A C P : Nat → Int} {nb : Nat} (hAC : ∀ x, es A 6 x = es C 6 x * es P 6 x) (hP : ∀ j, nb < j → j < 6 → P j = 0) (hPn : P nb ≠ 0) (hn : nb < 6) : ∀ j, j < 6 → C j ≠ 0 → j + nb ≤ 5 := by
  intro j hj hC
  obtain ⟨t0, h1, h2, h3⟩ := largest (P := fun j => C j ≠ 0) 6 ⟨j, hj, hC⟩
  have hD0 : ∀ j, t0 < j → j < 6 → C j = 0 := fun j h4 h5 => Classical.byContradiction (fun h => h3 j h4 h5 h)
  have h5 := cv_top (t := t0 + nb) hP hD0 h1 hn (Nat.le_refl _)
  rw [if_pos rfl, cv_of hAC (t0 + nb) (by omega)] at h5
  have h6 : C t0 * P nb ≠ 0 := Int.mul_ne_zero h2 hPn
  have hjt : j ≤ t0 := by
    rcases Nat.lt_or_ge t0 j with h | h
    · exact absurd (hD0 j h hj) hC
    · exact h
  rcases Nat.lt_or_ge (t0 + nb) 6 with h | h
  · omega
  · rw [if_neg (by omega)] at h5
    exact absurd h5.symm h6
