/-! the line's length is the number of different cells -/
def csum (f : Nat → Bool) : Nat → Int
  | 0 => 0
  | m + 1 => csum f m + (if f m = true then 1 else 0)
theorem csum_congr {f g : Nat → Bool} : ∀ m : Nat, (∀ k, k < m → g k = f k) → csum g m = csum f m
  | 0, _ => rfl
  | m + 1, h => by rw [csum, csum, csum_congr m (fun k hk => h k (by omega)), h m (by omega)]
theorem csum_one {f g : Nat → Bool} {k0 : Nat} (h0 : f k0 = false) (h1 : g k0 = true) : ∀ m : Nat, k0 < m → (∀ k, k < m → k ≠ k0 → g k = f k) → csum g m = csum f m + 1
  | 0, hk, _ => absurd hk (Nat.not_lt_zero _)
  | m + 1, hk, h => by
    rw [csum, csum]
    by_cases c : k0 = m
    · subst c
      rw [csum_congr k0 (fun k hk => h k (by omega) (by omega)), h0, h1]
      simp
    · rw [csum_one h0 h1 m (by omega) (fun k hk => h k (by omega)), h m (by omega) (by omega)]
      omega
theorem csum_false : ∀ (f : Nat → Bool) (m : Nat), (∀ k, k < m → f k = false) → csum f m = 0
  | _, 0, _ => rfl
  | f, m + 1, h => by rw [csum, csum_false f m (fun k hk => h k (by omega)), h m (by omega)]; simp
theorem csum_upto {f : Nat → Bool} {k0 : Nat} : ∀ m : Nat, k0 ≤ m → (∀ k, k < m → (f k = true ↔ k < k0)) → csum f m = (k0 : Int)
  | 0, h, _ => by rw [show k0 = 0 by omega]; rfl
  | m + 1, h, hf => by
    rw [csum]
    by_cases c : k0 = m + 1
    · have e : csum f m = (m : Int) := csum_upto m (Nat.le_refl _) (fun k hk => by rw [hf k (by omega)]; omega)
      rw [e, if_pos ((hf m (by omega)).mpr (by omega)), c]
      omega
    · rw [csum_upto m (by omega) (fun k hk => hf k (by omega)), if_neg (fun h1 => by have := (hf m (by omega)).mp h1; omega)]
      omega
theorem eqin_iff {Z : Nat → Int} {c : Int} {q : Nat} : ∀ k : Nat, eqin Z c q k = true ↔ ∃ i, i < k ∧ Z (5 * q + i) = c
  | 0 => ⟨fun h => absurd h (by simp [eqin]), fun ⟨i, h, _⟩ => absurd h (Nat.not_lt_zero _)⟩
  | k + 1 => by
    rw [eqin, Bool.or_eq_true, eqin_iff k, decide_eq_true_eq]
    constructor
    · rintro (⟨i, h1, h2⟩ | h)
      · exact ⟨i, by omega, h2⟩
      · exact ⟨k, by omega, h⟩
    · rintro ⟨i, h1, h2⟩
      by_cases c : i = k
      · rw [c] at h2; exact Or.inr h2
      · exact Or.inl ⟨i, by omega, h2⟩
theorem old_iff {ro Z : Nat → Int} {c : Int} : ∀ q : Nat, old ro Z c q = true ↔ ∃ t, t < q ∧ ∃ i, i < (ro t).toNat ∧ Z (5 * t + i) = c
  | 0 => ⟨fun h => absurd h (by simp [old]), fun ⟨t, h, _⟩ => absurd h (Nat.not_lt_zero _)⟩
  | q + 1 => by
    rw [old, Bool.or_eq_true, old_iff q, eqin_iff]
    constructor
    · rintro (⟨t, h1, h2⟩ | h)
      · exact ⟨t, by omega, h2⟩
      · exact ⟨q, by omega, h⟩
    · rintro ⟨t, h1, h2⟩
      by_cases c : t = q
      · rw [c] at h2; exact Or.inr h2
      · exact Or.inl ⟨t, by omega, h2⟩
theorem inc_lt {w : Nat → Int} {m : Nat} (hs : ∀ k : Nat, k + 1 < m → w k < w (k + 1)) : ∀ b a : Nat, a < b → b < m → w a < w b
  | 0, a, h, _ => absurd h (Nat.not_lt_zero _)
  | b + 1, a, h, hb => by
    by_cases c : a = b
    · rw [c]; exact hs b hb
    · exact Int.lt_trans (inc_lt hs b a (by omega) (by omega)) (hs b hb)
theorem inc_inj {w : Nat → Int} {m : Nat} (hs : ∀ k : Nat, k + 1 < m → w k < w (k + 1)) {a b : Nat} (ha : a < m) (hb : b < m) (h : w a = w b) : a = b := by
  rcases Nat.lt_trichotomy a b with c | c | c
  · have := inc_lt hs b a c hb; omega
  · exact c
  · have := inc_lt hs a b c ha; omega
theorem cnt_csum {ro Z w : Nat → Int} {P : Int → Bool} {np m : Nat} (hs : ∀ k : Nat, k + 1 < m → w k < w (k + 1)) (h1 : ∀ k, k < m → ∃ q, q < np ∧ ∃ i, i < (ro q).toNat ∧ Z (5 * q + i) = w k) (h2 : ∀ q, q < np → ∀ i, i < (ro q).toNat → ∃ k, k < m ∧ w k = Z (5 * q + i)) (hd : ∀ q, q < np → ∀ i j, i < j → j < (ro q).toNat → Z (5 * q + i) ≠ Z (5 * q + j)) : cnt ro Z P np = csum (fun k => P (w k)) m := by
  have key : ∀ Q, Q ≤ np → cnt ro Z P Q = csum (fun k => P (w k) && old ro Z (w k) Q) m := by
    intro Q
    induction Q with
    | zero => exact fun _ => (csum_false _ m (fun k _ => by simp [old])).symm
    | succ Q ih =>
      intro hQ
      have inner : ∀ j, j ≤ (ro Q).toNat → csum (fun k => P (w k) && (old ro Z (w k) Q || eqin Z (w k) Q j)) m = cnt ro Z P Q + cntj ro Z P Q j := by
        intro j
        induction j with
        | zero =>
          intro _
          rw [ih (by omega), cntj, Int.add_zero]
          exact csum_congr m (fun k _ => by simp [eqin])
        | succ j ihj =>
          intro hj
          have i1 := ihj (by omega)
          obtain ⟨k0, hk0, hw0⟩ := h2 Q (by omega) j (by omega)
          have hne : eqin Z (w k0) Q j = false := by
            cases hb : eqin Z (w k0) Q j with
            | false => rfl
            | true =>
              obtain ⟨i, hi, he⟩ := (eqin_iff j).mp hb
              exact absurd (he.trans hw0) (hd Q (by omega) i j hi (by omega))
          have hoth : ∀ k, k < m → k ≠ k0 → (P (w k) && (old ro Z (w k) Q || eqin Z (w k) Q (j + 1))) = (P (w k) && (old ro Z (w k) Q || eqin Z (w k) Q j)) := fun k hk hkk => by
            rw [eqin, decide_eq_false (fun h => hkk (inc_inj hs hk hk0 (by rw [hw0, h]))), Bool.or_false]
          have hg : (P (w k0) && (old ro Z (w k0) Q || eqin Z (w k0) Q (j + 1))) = P (w k0) := by
            rw [eqin, decide_eq_true hw0.symm, Bool.or_true, Bool.or_true, Bool.and_true]
          have hf : (P (w k0) && (old ro Z (w k0) Q || eqin Z (w k0) Q j)) = (P (w k0) && old ro Z (w k0) Q) := by
            rw [hne, Bool.or_false]
          rw [cntj, ← hw0]
          by_cases c : P (w k0) = true ∧ old ro Z (w k0) Q = false
          · rw [if_pos c]
            have := csum_one (f := fun k => P (w k) && (old ro Z (w k) Q || eqin Z (w k) Q j)) (g := fun k => P (w k) && (old ro Z (w k) Q || eqin Z (w k) Q (j + 1))) (k0 := k0) (by show (P (w k0) && (old ro Z (w k0) Q || eqin Z (w k0) Q j)) = false; rw [hf, c.1, c.2]; rfl) (by show (P (w k0) && (old ro Z (w k0) Q || eqin Z (w k0) Q (j + 1))) = true; rw [hg, c.1]) m hk0 hoth
            omega
          · rw [if_neg c, Int.add_zero, ← i1]
            refine csum_congr m (fun k hk => ?_)
            by_cases q : k = k0
            · rw [q]
              show (P (w k0) && (old ro Z (w k0) Q || eqin Z (w k0) Q (j + 1))) = (P (w k0) && (old ro Z (w k0) Q || eqin Z (w k0) Q j))
              rw [hg, hf]
              cases hp : P (w k0) with
              | false => rfl
              | true =>
                cases ho : old ro Z (w k0) Q with
                | true => rfl
                | false => exact absurd ⟨hp, ho⟩ c
            · exact hoth k hk q
      rw [cnt, ← inner _ (Nat.le_refl _)]
      rfl
  rw [key np (Nat.le_refl _)]
  refine csum_congr m (fun k hk => ?_)
  show (P (w k) && old ro Z (w k) np) = P (w k)
  rw [(old_iff np).mpr (h1 k hk), Bool.and_true]
theorem cnt_all {ro Z w : Nat → Int} {np m : Nat} (hs : ∀ k : Nat, k + 1 < m → w k < w (k + 1)) (h1 : ∀ k, k < m → ∃ q, q < np ∧ ∃ i, i < (ro q).toNat ∧ Z (5 * q + i) = w k) (h2 : ∀ q, q < np → ∀ i, i < (ro q).toNat → ∃ k, k < m ∧ w k = Z (5 * q + i)) (hd : ∀ q, q < np → ∀ i j, i < j → j < (ro q).toNat → Z (5 * q + i) ≠ Z (5 * q + j)) : cnt ro Z (fun _ => true) np = (m : Int) := by
  rw [cnt_csum hs h1 h2 hd]
  exact csum_upto m (Nat.le_refl _) (fun k hk => ⟨fun _ => hk, fun _ => rfl⟩)
theorem cnt_rank {ro Z w : Nat → Int} {np m k0 : Nat} (hs : ∀ k : Nat, k + 1 < m → w k < w (k + 1)) (h1 : ∀ k, k < m → ∃ q, q < np ∧ ∃ i, i < (ro q).toNat ∧ Z (5 * q + i) = w k) (h2 : ∀ q, q < np → ∀ i, i < (ro q).toNat → ∃ k, k < m ∧ w k = Z (5 * q + i)) (hd : ∀ q, q < np → ∀ i j, i < j → j < (ro q).toNat → Z (5 * q + i) ≠ Z (5 * q + j)) (hk0 : k0 < m) : cnt ro Z (fun t => decide (t < w k0)) np = (k0 : Int) := by
  rw [cnt_csum hs h1 h2 hd]
  refine csum_upto m (by omega) (fun k hk => ?_)
  show decide (w k < w k0) = true ↔ k < k0
  rw [decide_eq_true_eq]
  constructor
  · intro h
    rcases Nat.lt_trichotomy k k0 with c | c | c
    · exact c
    · rw [c] at h; omega
    · have := inc_lt hs k k0 c hk; omega
  · intro h
    exact inc_lt hs k0 k h hk0
