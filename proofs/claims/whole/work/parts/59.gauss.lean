/-! Gauss's lemma -/
def Pr (p : Nat) : Prop := 1 < p ∧ ∀ d, d ∣ p → d = 1 ∨ d = p
theorem Pr.ex : ∀ (n m : Nat), m ≤ n → 1 < m → ∃ p, Pr p ∧ p ∣ m := by
  intro n
  induction n with
  | zero => intro m h1 h2; omega
  | succ n ih =>
    intro m h1 h2
    by_cases h : ∀ d, d ∣ m → d = 1 ∨ d = m
    · exact ⟨m, ⟨h2, h⟩, Nat.dvd_refl m⟩
    · obtain ⟨d, hd⟩ := Classical.not_forall.mp h
      have hd1 : d ∣ m := Classical.byContradiction (fun h3 => hd (fun h4 => absurd h4 h3))
      have hd2 : ¬ (d = 1 ∨ d = m) := fun h3 => hd (fun _ => h3)
      have hd3 := Nat.le_of_dvd (by omega) hd1
      have hd4 : d ≠ 0 := fun h3 => by rw [h3] at hd1; have := Nat.eq_zero_of_zero_dvd hd1; omega
      obtain ⟨p, hp, hpd⟩ := ih d (by omega) (by omega)
      exact ⟨p, hp, Nat.dvd_trans hpd hd1⟩
theorem Pr.euclid {p : Nat} (hp : Pr p) {x y : Int} (h : (p : Int) ∣ x * y) : (p : Int) ∣ x ∨ (p : Int) ∣ y := by
  rw [Int.ofNat_dvd_left, Int.natAbs_mul] at h
  rw [Int.ofNat_dvd_left, Int.ofNat_dvd_left]
  rcases hp.2 _ (Nat.gcd_dvd_left p x.natAbs) with h1 | h1
  · right
    exact Nat.Coprime.dvd_of_dvd_mul_left h1 h
  · left
    rw [← h1]
    exact Nat.gcd_dvd_right _ _
theorem least {P : Nat → Prop} : ∀ n, (∃ i, i < n ∧ P i) → ∃ i, i < n ∧ P i ∧ ∀ j, j < i → ¬ P j := by
  intro n
  induction n with
  | zero => intro ⟨i, h, _⟩; omega
  | succ n ih =>
    intro ⟨i, h, hp⟩
    by_cases hl : ∃ i, i < n ∧ P i
    · obtain ⟨j, h1, h2, h3⟩ := ih hl
      exact ⟨j, by omega, h2, h3⟩
    · exact ⟨i, h, hp, fun j hj hpj => hl ⟨j, by omega, hpj⟩⟩
theorem dvd_cg {p : Nat} {B : Nat → Int} : ∀ k, (∀ j, j < k → (p : Int) ∣ B j) → p ∣ cg B 0 k := by
  intro k
  induction k with
  | zero => intro _; exact Nat.dvd_zero _
  | succ k ih =>
    intro h
    rw [cg, Nat.zero_add]
    exact Nat.dvd_gcd (ih (fun j hj => h j (by omega))) (Int.ofNat_dvd_left.mp (h k (by omega)))
theorem sm_dvd {p : Int} {f : Nat → Int} {j : Nat} : ∀ n, (∀ k, k < n → k ≠ j → p ∣ f k) → (j < n → p ∣ sm f n - f j) ∧ (n ≤ j → p ∣ sm f n) := by
  intro n
  induction n with
  | zero => intro _; exact ⟨fun h => by omega, fun _ => Int.dvd_zero p⟩
  | succ n ih =>
    intro h
    obtain ⟨h1, h2⟩ := ih (fun k hk hj => h k (by omega) hj)
    refine ⟨fun hj => ?_, fun hj => ?_⟩
    · rw [sm]
      by_cases hn : n = j
      · subst hn
        rw [Int.add_sub_cancel]
        exact h2 (Nat.le_refl _)
      · rw [show sm f n + f n - f j = (sm f n - f j) + f n by omega]
        exact Int.dvd_add (h1 (by omega)) (h n (by omega) hn)
    · rw [sm]
      exact Int.dvd_add (h2 (by omega)) (h n (by omega) (by omega))
theorem gauss_prime {B C : Nat → Int} (hB : cg B 0 6 = 1) (hC : cg C 0 6 = 1) {p : Nat} (hp : Pr p) : ∃ t, t < 11 ∧ ¬ (p : Int) ∣ cv C B 5 6 t := by
  have ex : ∀ D : Nat → Int, cg D 0 6 = 1 → ∃ i, i < 6 ∧ ¬ (p : Int) ∣ D i ∧ ∀ j, j < i → ¬ ¬ (p : Int) ∣ D j := fun D hD => by
    refine least 6 (Classical.byContradiction (fun hn => ?_))
    have h1 : p ∣ cg D 0 6 := dvd_cg 6 (fun j hj => Classical.byContradiction (fun h => hn ⟨j, hj, h⟩))
    rw [hD] at h1
    have := Nat.le_of_dvd (by decide) h1
    have := hp.1
    omega
  obtain ⟨ib, hb1, hb2, hb3⟩ := ex B hB
  obtain ⟨jc, hc1, hc2, hc3⟩ := ex C hC
  refine ⟨jc + ib, by omega, fun hd => ?_⟩
  have h1 := (sm_dvd (p := (p : Int)) (f := fun k => if k ≤ jc + ib ∧ jc + ib - k ≤ 5 then C k * B (jc + ib - k) else 0) (j := jc) 6 (fun k hk hj => by
    show (p : Int) ∣ if k ≤ jc + ib ∧ jc + ib - k ≤ 5 then C k * B (jc + ib - k) else 0
    split
    · rename_i hh
      rcases Nat.lt_or_ge k jc with h2 | h2
      · exact Int.dvd_trans (Classical.not_not.mp (hc3 k h2)) (Int.dvd_mul_right _ _)
      · exact Int.dvd_trans (Classical.not_not.mp (hb3 (jc + ib - k) (by omega))) (Int.dvd_mul_left _ _)
    · exact Int.dvd_zero _)).1 hc1
  have h2 : (p : Int) ∣ C jc * B ib := by
    have h3 := Int.dvd_sub hd h1
    have e : cv C B 5 6 (jc + ib) - (sm (fun k => if k ≤ jc + ib ∧ jc + ib - k ≤ 5 then C k * B (jc + ib - k) else 0) 6 - (if jc ≤ jc + ib ∧ jc + ib - jc ≤ 5 then C jc * B (jc + ib - jc) else 0)) = C jc * B ib := by
      rw [if_pos (by omega), show jc + ib - jc = ib by omega]
      show sm _ 6 - (sm _ 6 - C jc * B ib) = _
      omega
    rw [← e]
    exact h3
  rcases hp.euclid h2 with h3 | h3
  · exact hc2 h3
  · exact hb2 h3
theorem es_cons (c : Nat → Int) (n : Nat) (x : Rat) : es c (n + 1) x = (c 0 : Rat) + x * es (fun j => c (j + 1)) n x := by
  induction n with
  | zero => simp only [es]; rw [Rat.pow_zero]; grind
  | succ n ih =>
    rw [es, ih]
    simp only [es, Rat.pow_succ]
    grind
theorem num_den (a : Rat) : (a.num : Rat) = a * (a.den : Rat) := by
  have h := Rat.num_divInt_den a
  have hd : (a.den : Rat) ≠ 0 := by
    have : (0 : Rat) < (a.den : Rat) := by exact_mod_cast a.den_pos
    grind
  have h2 : a = (a.num : Rat) / (a.den : Rat) := by
    conv => lhs; rw [← h]
    rw [Rat.divInt_eq_div]
    rfl
  have h3 : (a.num : Rat) / (a.den : Rat) * (a.den : Rat) = (a.num : Rat) := by grind
  rw [← h2] at h3
  exact h3.symm
/-- fractions with one lower number -/
theorem one_lower : ∀ l : List Rat, ∃ m : Nat, 0 < m ∧ ∃ C : Nat → Int, ∀ x, (m : Rat) * ev l x = es C l.length x
  | [] => ⟨1, by decide, fun _ => 0, fun x => by simp only [ev, List.length_nil, es]; grind⟩
  | a :: t => by
    obtain ⟨m, hm, C, h⟩ := one_lower t
    refine ⟨m * a.den, Nat.mul_pos hm a.den_pos, fun j => if j = 0 then a.num * (m : Int) else (a.den : Int) * C (j - 1), fun x => ?_⟩
    rw [List.length_cons, es_cons]
    have e1 : es (fun j => if j + 1 = 0 then a.num * (m : Int) else (a.den : Int) * C (j + 1 - 1)) t.length x = (a.den : Rat) * ((m : Rat) * ev t x) := by
      rw [es_congr (d := fun j => (a.den : Int) * C j) (fun j _ => by rw [if_neg (by omega), Nat.add_sub_cancel]) x, es_sc, h x]
      rfl
    have e2 := num_den a
    rw [e1, if_pos rfl, Rat.intCast_mul, e2]
    simp only [ev]
    have e3 : ((m * a.den : Nat) : Rat) = (m : Rat) * (a.den : Rat) := by simp
    have e4 : ((m : Int) : Rat) = (m : Rat) := rfl
    rw [e3, e4]
    grind
theorem cv_sc (C B : Nat → Int) (k : Int) (a t : Nat) : ∀ n, cv (fun j => k * C j) B a n t = k * cv C B a n t := by
  intro n
  induction n with
  | zero => simp [cv, sm]
  | succ n ih =>
    have h1 : ∀ D : Nat → Int, cv D B a (n + 1) t = cv D B a n t + (if n ≤ t ∧ t - n ≤ a then D n * B (t - n) else 0) := fun D => rfl
    rw [h1, h1, ih]
    split
    · grind
    · grind
theorem cv_congr {C D B : Nat → Int} {a t : Nat} : ∀ n, (∀ j, j < n → C j = D j) → cv C B a n t = cv D B a n t := by
  intro n h
  exact sm_congr (fun k hk => by rw [h k hk])
/-- what a primitive row goes into gives a row of whole numbers -/
theorem gauss_int {A B : Nat → Int} {q : List Rat} (hB : cg B 0 6 = 1) (hq : q.length = 6) (h : ∀ x, es A 6 x = ev q x * es B 6 x) : ∃ C : Nat → Int, ∀ x, ev q x = es C 6 x := by
  obtain ⟨m, hm, C0, hC0⟩ := one_lower q
  rw [hq] at hC0
  have hm' : (m : Rat) ≠ 0 := by
    have : (0 : Rat) < (m : Rat) := by exact_mod_cast hm
    grind
  -- coefficients of both sides
  have hco : ∀ t, t < 11 → cv C0 B 5 6 t = (m : Int) * (if t < 6 then A t else 0) := by
    have h1 := es_row (c := fun t => cv C0 B 5 6 t + -((m : Int) * (if t < 6 then A t else 0))) (n := 11) (fun x => by
      rw [es_add, ← es_conv C0 B 5 x 6, ← hC0 x]
      have e1 : es (fun t => -((m : Int) * (if t < 6 then A t else 0))) 11 x = -((m : Rat) * es A 6 x) := by
        rw [es_congr (d := fun t => (-(m : Int)) * (if t < 6 then A t else 0)) (fun t _ => by rw [Int.neg_mul]) x, es_sc, es_more (n := 6) x 11 (by decide) (fun j h1 _ => if_neg (by omega)), es_congr (d := A) (fun t ht => if_pos ht) x]
        have e2 : ((-(m : Int) : Int) : Rat) = -(m : Rat) := by rw [Rat.intCast_neg]; rfl
        rw [e2]
        grind
      rw [e1, h x]
      grind)
    intro t ht
    have := h1 t ht
    omega
  by_cases h0 : cg C0 0 6 = 0
  · refine ⟨fun _ => 0, fun x => ?_⟩
    have hz : es C0 6 x = 0 := es_zero (fun k hk => by have := cg_zero h0 k hk; rwa [Nat.zero_add] at this) x
    have h1 := hC0 x
    rw [hz] at h1
    rw [es_zero (fun k _ => rfl)]
    rcases Rat.mul_eq_zero.mp h1 with h2 | h2
    · exact absurd h2 hm'
    · exact h2
  · -- C0 = c * C1 with C1 primitive
    obtain ⟨C1, hC1⟩ : ∃ C1 : Nat → Int, ∀ j, j < 6 → C0 j = ((cg C0 0 6 : Nat) : Int) * C1 j := ⟨fun j => (C0 j).tdiv ((cg C0 0 6 : Nat) : Int), fun j hj => by
      have h1 := cg_dvd C0 0 6 j hj
      rw [Nat.zero_add] at h1
      exact (Int.mul_tdiv_cancel' (Int.ofNat_dvd_left.mpr h1)).symm⟩
    have hp1 : cg C1 0 6 = 1 := by
      have h1 : ∀ k, k ≤ 6 → cg C0 0 k = ((cg C0 0 6 : Nat) : Int).natAbs * cg C1 0 k := by
        intro k
        induction k with
        | zero => intro _; simp [cg]
        | succ k ih =>
          intro hk
          rw [cg, ih (by omega), Nat.zero_add, hC1 k (by omega), Int.natAbs_mul, Nat.gcd_mul_left]
          rw [show cg C1 0 (k + 1) = Nat.gcd (cg C1 0 k) (C1 (0 + k)).natAbs from rfl, Nat.zero_add]
      have h2 := h1 6 (Nat.le_refl _)
      rw [Int.natAbs_natCast] at h2
      exact Nat.eq_of_mul_eq_mul_left (Nat.pos_of_ne_zero h0) (by rw [← h2, Nat.mul_one])
    generalize cg C0 0 6 = c at *
    have hcv : ∀ t, t < 11 → (c : Int) * cv C1 B 5 6 t = (m : Int) * (if t < 6 then A t else 0) := fun t ht => by
      rw [← hco t ht, ← cv_sc]
      exact (cv_congr 6 (fun j hj => hC1 j hj)).symm
    -- m goes into c
    have hmc : m ∣ c := by
      have hd0 : 0 < Nat.gcd m c := Nat.gcd_pos_of_pos_left _ hm
      obtain ⟨m', hm1⟩ := Nat.gcd_dvd_left m c
      obtain ⟨c', hc1⟩ := Nat.gcd_dvd_right m c
      have hcop : Nat.Coprime m' c' := by
        have h1 : Nat.gcd (Nat.gcd m c * m') (Nat.gcd m c * c') = Nat.gcd m c := by rw [← hm1, ← hc1]
        rw [Nat.gcd_mul_left] at h1
        exact Nat.eq_of_mul_eq_mul_left hd0 (by rw [Nat.mul_one]; exact h1)
      have hm1' : m' = 1 := by
        refine Classical.byContradiction (fun hne => ?_)
        have hm0 : m' ≠ 0 := fun h => by rw [h, Nat.mul_zero] at hm1; omega
        obtain ⟨p, hp, hpm⟩ := Pr.ex m' m' (Nat.le_refl _) (by omega)
        obtain ⟨t, ht, hnd⟩ := gauss_prime hB hp1 hp
        refine hnd ?_
        have h1 := hcv t ht
        have h2 : (c' : Int) * cv C1 B 5 6 t = (m' : Int) * (if t < 6 then A t else 0) := by
          have e1 : (c : Int) = ((Nat.gcd m c : Nat) : Int) * (c' : Int) := by rw [← Int.natCast_mul, ← hc1]
          have e2 : (m : Int) = ((Nat.gcd m c : Nat) : Int) * (m' : Int) := by rw [← Int.natCast_mul, ← hm1]
          generalize ((Nat.gcd m c : Nat) : Int) = g at *
          have hg0 : g ≠ 0 := fun h => by rw [h, Int.zero_mul] at e2; omega
          rw [e1, e2, Int.mul_assoc, Int.mul_assoc] at h1
          exact Int.eq_of_mul_eq_mul_left hg0 h1
        have h3 : (m' : Int) ∣ (c' : Int) * cv C1 B 5 6 t := ⟨_, h2⟩
        rw [Int.ofNat_dvd_left, Int.natAbs_mul, Int.natAbs_natCast] at h3
        have h4 := Nat.Coprime.dvd_of_dvd_mul_left hcop h3
        rw [Int.ofNat_dvd_left]
        exact Nat.dvd_trans hpm h4
      rw [hm1', Nat.mul_one] at hm1
      rw [hm1]
      exact Nat.gcd_dvd_right m c
    obtain ⟨d, hd⟩ := hmc
    refine ⟨fun j => (d : Int) * C1 j, fun x => ?_⟩
    have h1 := hC0 x
    rw [es_congr (fun j hj => hC1 j hj) x, es_sc] at h1
    rw [es_sc]
    have e3 : ((c : Int) : Rat) = (m : Rat) * (d : Rat) := by
      rw [hd]
      show ((m * d : Nat) : Rat) = _
      simp
    rw [e3] at h1
    have e4 : ((d : Int) : Rat) = (d : Rat) := rfl
    rw [e4]
    have h2 : (m : Rat) * (ev q x - (d : Rat) * es C1 6 x) = 0 := by grind
    rcases Rat.mul_eq_zero.mp h2 with h3 | h3
    · exact absurd h3 hm'
    · grind
