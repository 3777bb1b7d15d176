/-! how great the coefficients of a divisor can be -/
def shf (c : Int) (A : Nat → Int) : Nat → Int
  | 0 => A 0 + A 1 * c + A 2 * (c * c) + A 3 * (c * c * c) + A 4 * (c * c * c * c) + A 5 * (c * c * c * c * c)
  | 1 => A 1 + 2 * A 2 * c + 3 * A 3 * (c * c) + 4 * A 4 * (c * c * c) + 5 * A 5 * (c * c * c * c)
  | 2 => A 2 + 3 * A 3 * c + 6 * A 4 * (c * c) + 10 * A 5 * (c * c * c)
  | 3 => A 3 + 4 * A 4 * c + 10 * A 5 * (c * c)
  | 4 => A 4 + 5 * A 5 * c
  | 5 => A 5
  | _ => 0
theorem es6 (A : Nat → Int) (x : Rat) : es A 6 x = (A 0 : Rat) + (A 1 : Rat) * x + (A 2 : Rat) * (x * x) + (A 3 : Rat) * (x * x * x) + (A 4 : Rat) * (x * x * x * x) + (A 5 : Rat) * (x * x * x * x * x) := by
  simp only [es, Rat.pow_succ, Rat.pow_zero]
  grind
theorem es_shf (c : Int) (A : Nat → Int) (x : Rat) : es (shf c A) 6 x = es A 6 (x + (c : Rat)) := by
  rw [es6, es6]
  simp only [shf, Rat.intCast_add, Rat.intCast_mul]
  have h2 : ((2 : Int) : Rat) = 2 := rfl
  have h3 : ((3 : Int) : Rat) = 3 := rfl
  have h4 : ((4 : Int) : Rat) = 4 := rfl
  have h5 : ((5 : Int) : Rat) = 5 := rfl
  have h6 : ((6 : Int) : Rat) = 6 := rfl
  have h10 : ((10 : Int) : Rat) = 10 := rfl
  rw [h2, h3, h4, h5, h6, h10]
  generalize (A 0 : Rat) = a0
  generalize (A 1 : Rat) = a1
  generalize (A 2 : Rat) = a2
  generalize (A 3 : Rat) = a3
  generalize (A 4 : Rat) = a4
  generalize (A 5 : Rat) = a5
  generalize (c : Rat) = y
  grind
/-- the last coefficient of a divisor is no greater than some coefficient -/
theorem const_le {P C F : Nat → Int} (h : ∀ x, es P 6 x = es C 6 x * es F 6 x) (hP : ∃ t, t < 6 ∧ P t ≠ 0) : ∃ t, t < 6 ∧ ((F 0).natAbs : Int) ≤ ((P t).natAbs : Int) := by
  have hco : ∀ t, t < 11 → cv C F 5 6 t = (if t < 6 then P t else 0) := by
    have h1 := es_row (c := fun t => cv C F 5 6 t + -(if t < 6 then P t else 0)) (n := 11) (fun x => by
      rw [es_add, ← es_conv C F 5 x 6, ← h x]
      have e1 : es (fun t => -(if t < 6 then P t else 0)) 11 x = -(es P 6 x) := by
        rw [es_congr (d := fun t => (-1) * (if t < 6 then P t else 0)) (fun t _ => by rw [Int.neg_mul, Int.one_mul]) x, es_sc, es_more (n := 6) x 11 (by decide) (fun j h1 _ => if_neg (by omega)), es_congr (d := P) (fun t ht => if_pos ht) x]
        have e2 : ((-1 : Int) : Rat) = -1 := rfl
        rw [e2]
        grind
      rw [e1]
      grind)
    intro t ht
    have := h1 t ht
    omega
  have hC : ∃ i, i < 6 ∧ C i ≠ 0 := Classical.byContradiction (fun hn => by
    obtain ⟨t, ht, hPt⟩ := hP
    refine hPt ?_
    have h1 := hco t (by omega)
    rw [if_pos ht] at h1
    rw [← h1]
    have : ∀ n, n ≤ 6 → sm (fun k => if k ≤ t ∧ t - k ≤ 5 then C k * F (t - k) else 0) n = 0 := by
      intro n
      induction n with
      | zero => intro _; rfl
      | succ n ih =>
        intro hn2
        have hz : C n = 0 := Classical.byContradiction (fun hc => hn ⟨n, by omega, hc⟩)
        rw [sm, ih (by omega), hz]
        simp
    exact this 6 (Nat.le_refl _))
  obtain ⟨i, hi, hCi, hlow⟩ := least 6 hC
  refine ⟨i, hi, ?_⟩
  have h1 := hco i (by omega)
  rw [if_pos hi] at h1
  have h2 : cv C F 5 6 i = C i * F 0 := by
    have : ∀ n, n ≤ 6 → sm (fun k => if k ≤ i ∧ i - k ≤ 5 then C k * F (i - k) else 0) n = if i < n then C i * F 0 else 0 := by
      intro n
      induction n with
      | zero => intro _; rfl
      | succ n ih =>
        intro hn
        rw [sm, ih (by omega)]
        rcases Nat.lt_trichotomy n i with h3 | h3 | h3
        · have hz : C n = 0 := Classical.byContradiction (fun hc => hlow n h3 hc)
          rw [if_neg (show ¬ i < n by omega), if_neg (show ¬ i < n + 1 by omega), hz]
          simp
        · subst h3
          rw [if_neg (show ¬ n < n by omega), if_pos (show n ≤ n ∧ n - n ≤ 5 by omega), if_pos (show n < n + 1 by omega), Nat.sub_self]
          omega
        · rw [if_pos h3, if_neg (show ¬ (n ≤ i ∧ i - n ≤ 5) by omega), if_pos (show i < n + 1 by omega)]
          omega
    have h3 := this 6 (Nat.le_refl _)
    rw [if_pos hi] at h3
    exact h3
  rw [← h1, h2, Int.natAbs_mul, Int.natCast_mul]
  have := Int.mul_le_mul_of_nonneg_right (show (1 : Int) ≤ ((C i).natAbs : Int) by omega) (show (0 : Int) ≤ ((F 0).natAbs : Int) by omega)
  omega
theorem shf_ne {c : Int} {A : Nat → Int} (h : ∃ t, t < 6 ∧ A t ≠ 0) : ∃ t, t < 6 ∧ shf c A t ≠ 0 := Classical.byContradiction (fun hn => by
  obtain ⟨t, ht, hA⟩ := h
  refine hA ?_
  have hz : ∀ x, es (shf c A) 6 x = 0 := fun x => es_zero (fun k hk => Classical.byContradiction (fun hk2 => hn ⟨k, hk, hk2⟩)) x
  refine es_row (c := A) (n := 6) (fun x => ?_) t ht
  have h1 := hz (x - (c : Rat))
  rw [es_shf] at h1
  rw [show x - (c : Rat) + (c : Rat) = x by grind] at h1
  exact h1)
theorem fac_at {A C F : Nat → Int} (h : ∀ x, es A 6 x = es C 6 x * es F 6 x) (hA : ∃ t, t < 6 ∧ A t ≠ 0) (c : Int) : ∃ t, t < 6 ∧ ((shf c F 0).natAbs : Int) ≤ ((shf c A t).natAbs : Int) :=
  const_le (C := shf c C) (fun x => by rw [es_shf, es_shf, es_shf]; exact h _) (shf_ne hA)
theorem six_cases {t : Nat} (h : t < 6) : t = 0 ∨ t = 1 ∨ t = 2 ∨ t = 3 ∨ t = 4 ∨ t = 5 := by omega
/-- the coefficients of a divisor of degree 4 or less -/
theorem fac_bd {A C F : Nat → Int} (h : ∀ x, es A 6 x = es C 6 x * es F 6 x) (hA : ∃ t, t < 6 ∧ A t ≠ 0) {M : Int} (hb : ∀ j, j < 6 → -M ≤ A j ∧ A j ≤ M) (hF : F 5 = 0) : ∀ j, j < 6 → -(49 * M) ≤ F j ∧ F j ≤ 49 * M := by
  have b0 := hb 0 (by decide)
  have b1 := hb 1 (by decide)
  have b2 := hb 2 (by decide)
  have b3 := hb 3 (by decide)
  have b4 := hb 4 (by decide)
  have b5 := hb 5 (by decide)
  have v0 : -M ≤ F 0 ∧ F 0 ≤ M := by
    obtain ⟨t, ht, h1⟩ := fac_at h hA 0
    rcases six_cases ht with rfl | rfl | rfl | rfl | rfl | rfl <;> simp only [shf] at h1 <;> omega
  have v1 : -(20 * M) ≤ F 0 + F 1 + F 2 + F 3 + F 4 ∧ F 0 + F 1 + F 2 + F 3 + F 4 ≤ 20 * M := by
    obtain ⟨t, ht, h1⟩ := fac_at h hA 1
    rcases six_cases ht with rfl | rfl | rfl | rfl | rfl | rfl <;> simp only [shf, hF] at h1 <;> omega
  have w1 : -(20 * M) ≤ F 0 - F 1 + F 2 - F 3 + F 4 ∧ F 0 - F 1 + F 2 - F 3 + F 4 ≤ 20 * M := by
    obtain ⟨t, ht, h1⟩ := fac_at h hA (-1)
    rcases six_cases ht with rfl | rfl | rfl | rfl | rfl | rfl <;> simp only [shf, hF] at h1 <;> omega
  have v2 : -(131 * M) ≤ F 0 + 2 * F 1 + 4 * F 2 + 8 * F 3 + 16 * F 4 ∧ F 0 + 2 * F 1 + 4 * F 2 + 8 * F 3 + 16 * F 4 ≤ 131 * M := by
    obtain ⟨t, ht, h1⟩ := fac_at h hA 2
    rcases six_cases ht with rfl | rfl | rfl | rfl | rfl | rfl <;> simp only [shf, hF] at h1 <;> omega
  have w2 : -(131 * M) ≤ F 0 - 2 * F 1 + 4 * F 2 - 8 * F 3 + 16 * F 4 ∧ F 0 - 2 * F 1 + 4 * F 2 - 8 * F 3 + 16 * F 4 ≤ 131 * M := by
    obtain ⟨t, ht, h1⟩ := fac_at h hA (-2)
    rcases six_cases ht with rfl | rfl | rfl | rfl | rfl | rfl <;> simp only [shf, hF] at h1 <;> omega
  intro j hj
  rcases six_cases hj with rfl | rfl | rfl | rfl | rfl | rfl <;> omega
