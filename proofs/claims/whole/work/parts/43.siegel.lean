/-! more numbers than places: two share one -/
theorem pigeon : ∀ (M N : Nat) (f : Nat → Nat), M < N → (∀ i, i < N → f i < M) → ∃ i j, i < j ∧ j < N ∧ f i = f j := by
  intro M
  induction M with
  | zero => intro N f hN h; have := h 0 hN; omega
  | succ M ih =>
    intro N f hN h
    by_cases hl : ∃ i, i < N - 1 ∧ f i = f (N - 1)
    · obtain ⟨i, h1, h2⟩ := hl
      exact ⟨i, N - 1, by omega, by omega, h2⟩
    · -- the place of the last one is taken out
      obtain ⟨i, j, h1, h2, h3⟩ := ih (N - 1) (fun i => if f i < f (N - 1) then f i else f i - 1) (by omega) (fun i hi => by
        have h4 := h i (by omega)
        have h5 := h (N - 1) (by omega)
        have h6 : f i ≠ f (N - 1) := fun e => hl ⟨i, hi, e⟩
        show (if f i < f (N - 1) then f i else f i - 1) < M
        split <;> omega)
      have h6 : f i ≠ f (N - 1) := fun e => hl ⟨i, by omega, e⟩
      have h7 : f j ≠ f (N - 1) := fun e => hl ⟨j, h2, e⟩
      refine ⟨i, j, h1, by omega, ?_⟩
      have h3 : (if f i < f (N - 1) then f i else f i - 1) = (if f j < f (N - 1) then f j else f j - 1) := h3
      revert h3
      split <;> split <;> omega
/-- digits to the base b -/
def dig (b i k : Nat) : Nat := i / b ^ k % b
theorem dig_inj {b : Nat} (hb : 0 < b) : ∀ (d i j : Nat), i < b ^ d → j < b ^ d → (∀ k, k < d → dig b i k = dig b j k) → i = j := by
  intro d
  induction d with
  | zero => intro i j hi hj _; simp at hi hj; omega
  | succ d ih =>
    intro i j hi hj h
    have h0 := h 0 (by omega)
    simp only [dig, Nat.pow_zero, Nat.div_one] at h0
    have h1 : i / b = j / b := by
      refine ih (i / b) (j / b) ?_ ?_ (fun k hk => ?_)
      · rw [Nat.div_lt_iff_lt_mul hb, ← Nat.pow_succ]; exact hi
      · rw [Nat.div_lt_iff_lt_mul hb, ← Nat.pow_succ]; exact hj
      · have := h (k + 1) (by omega)
        simp only [dig, Nat.pow_succ, Nat.mul_comm (b ^ k) b, ← Nat.div_div_eq_div_mul] at this
        exact this
    have e1 := Nat.div_add_mod i b
    have e2 := Nat.div_add_mod j b
    rw [h1, h0] at e1
    omega
/-- digits put together -/
def enc (b : Nat) (y : Nat → Nat) : Nat → Nat
  | 0 => 0
  | d + 1 => y 0 + b * enc b (fun k => y (k + 1)) d
theorem enc_lt {b : Nat} : ∀ (d : Nat) (y : Nat → Nat), (∀ k, k < d → y k < b) → enc b y d < b ^ d ∨ (d = 0 ∧ enc b y d = 0)
  | 0, y, _ => Or.inr ⟨rfl, rfl⟩
  | d + 1, y, h => by
    left
    have h0 := h 0 (by omega)
    rcases enc_lt d (fun k => y (k + 1)) (fun k hk => h (k + 1) (by omega)) with h1 | ⟨h1, h2⟩
    · have h3 : enc b (fun k => y (k + 1)) d + 1 ≤ b ^ d := h1
      have h4 := Nat.mul_le_mul_left b h3
      rw [enc, Nat.pow_succ, Nat.mul_comm (b ^ d) b]
      rw [Nat.mul_add] at h4
      omega
    · subst h1
      rw [enc, h2]
      simp
      exact h0
theorem enc_inj {b : Nat} (hb : 0 < b) : ∀ (d : Nat) (y z : Nat → Nat), (∀ k, k < d → y k < b) → (∀ k, k < d → z k < b) → enc b y d = enc b z d → ∀ k, k < d → y k = z k
  | 0, _, _, _, _, _, k, hk => absurd hk (Nat.not_lt_zero _)
  | d + 1, y, z, hy, hz, h, k, hk => by
    rw [enc, enc] at h
    have y0 := hy 0 (by omega)
    have z0 := hz 0 (by omega)
    have h1 : y 0 = z 0 := by
      have := congrArg (· % b) h
      simp only [Nat.add_mul_mod_self_left, Nat.mod_eq_of_lt y0, Nat.mod_eq_of_lt z0] at this
      exact this
    have h2 : enc b (fun k => y (k + 1)) d = enc b (fun k => z (k + 1)) d := by
      rw [h1] at h
      exact Nat.eq_of_mul_eq_mul_left hb (by omega)
    cases k with
    | zero => exact h1
    | succ k => exact enc_inj hb d _ _ (fun k hk => hy (k + 1) (by omega)) (fun k hk => hz (k + 1) (by omega)) h2 k (by omega)
def sm (f : Nat → Int) : Nat → Int
  | 0 => 0
  | d + 1 => sm f d + f d
theorem sm_le {f g : Nat → Int} {d : Nat} (h : ∀ k, k < d → f k ≤ g k) : sm f d ≤ sm g d := by
  induction d with
  | zero => exact Int.le_refl _
  | succ d ih =>
    have := ih (fun k hk => h k (by omega))
    have := h d (by omega)
    simp only [sm]
    omega
theorem sm_mul (f : Nat → Int) (c : Int) (d : Nat) : sm (fun k => c * f k) d = c * sm f d := by
  induction d with
  | zero => simp [sm]
  | succ d ih => simp only [sm, ih]; grind
theorem sm_sub (f g : Nat → Int) (d : Nat) : sm (fun k => f k - g k) d = sm f d - sm g d := by
  induction d with
  | zero => simp [sm]
  | succ d ih => simp only [sm, ih]; omega
def npt (a : Int) : Int := if a < 0 then a else 0
theorem npt_ge (a : Int) : a - npt a = (if a < 0 then 0 else a) := by
  unfold npt
  split <;> omega
theorem form_low {a u X : Int} (h : 0 ≤ u ∧ u ≤ X) : X * npt a ≤ a * u ∧ a * u - X * npt a ≤ X * (a.natAbs : Int) := by
  unfold npt
  split
  · have h1 := Int.mul_nonneg (show 0 ≤ -a by omega) (show 0 ≤ X - u by omega)
    have h2 := Int.mul_nonneg (show 0 ≤ -a by omega) h.1
    have e : (a.natAbs : Int) = -a := by omega
    rw [e]
    constructor <;> grind
  · have h1 := Int.mul_nonneg (show 0 ≤ a by omega) (show 0 ≤ X - u by omega)
    have h2 := Int.mul_nonneg (show 0 ≤ a by omega) h.1
    have e : (a.natAbs : Int) = a := by omega
    rw [e]
    constructor <;> grind
/-- fewer equations than unknowns: a small solution -/
theorem siegel (d e S X : Nat) (a : Nat → Nat → Int) (hS : ∀ t, t < e → sm (fun k => ((a t k).natAbs : Int)) d ≤ S) (hX : (X * S + 1) ^ e < (X + 1) ^ d) : ∃ v : Nat → Int, (∃ k, k < d ∧ v k ≠ 0) ∧ (∀ k, -(X : Int) ≤ v k ∧ v k ≤ X) ∧ ∀ t, t < e → sm (fun k => a t k * v k) d = 0 := by
  let u : Nat → Nat → Int := fun i k => (dig (X + 1) i k : Int)
  have hu : ∀ i k, 0 ≤ u i k ∧ u i k ≤ X := fun i k => by
    have : dig (X + 1) i k < X + 1 := Nat.mod_lt _ (by omega)
    show 0 ≤ (dig (X + 1) i k : Int) ∧ (dig (X + 1) i k : Int) ≤ X
    omega
  let Lf : Nat → Nat → Int := fun i t => sm (fun k => a t k * u i k) d
  let mf : Nat → Int := fun t => sm (fun k => (X : Int) * npt (a t k)) d
  have hr : ∀ i t, t < e → 0 ≤ Lf i t - mf t ∧ Lf i t - mf t ≤ ((X * S : Nat) : Int) := fun i t ht => by
    have h1 : mf t ≤ Lf i t := sm_le (fun k _ => (form_low (hu i k)).1)
    have h2 : Lf i t - mf t ≤ sm (fun k => (X : Int) * ((a t k).natAbs : Int)) d := by
      show sm (fun k => a t k * u i k) d - sm (fun k => (X : Int) * npt (a t k)) d ≤ _
      rw [← sm_sub]
      exact sm_le (fun k _ => (form_low (hu i k)).2)
    rw [sm_mul] at h2
    have h3 := Int.mul_le_mul_of_nonneg_left (hS t ht) (show (0 : Int) ≤ X by omega)
    rw [Int.natCast_mul]
    omega
  let y : Nat → Nat → Nat := fun i t => (Lf i t - mf t).toNat
  have hy : ∀ i t, t < e → y i t < X * S + 1 := fun i t ht => by
    have := hr i t ht
    show (Lf i t - mf t).toNat < X * S + 1
    omega
  obtain ⟨i, j, hij, hj, hE⟩ := pigeon ((X * S + 1) ^ e) ((X + 1) ^ d) (fun i => enc (X * S + 1) (y i) e) hX (fun i _ => by
    rcases enc_lt e (y i) (hy i) with h | ⟨h1, h2⟩
    · exact h
    · show enc (X * S + 1) (y i) e < _
      rw [h2, h1]; simp)
  have hE2 := enc_inj (by omega) e (y i) (y j) (hy i) (hy j) hE
  refine ⟨fun k => u j k - u i k, ?_, fun k => ?_, fun t ht => ?_⟩
  · refine Classical.byContradiction (fun hn => ?_)
    have h1 : ∀ k, k < d → dig (X + 1) i k = dig (X + 1) j k := fun k hk => by
      refine Classical.byContradiction (fun hne => hn ⟨k, hk, fun h0 => hne ?_⟩)
      have h0 : (dig (X + 1) j k : Int) - (dig (X + 1) i k : Int) = 0 := h0
      omega
    have := dig_inj (by omega) d i j (by omega) hj h1
    omega
  · have h1 := hu i k
    have h2 := hu j k
    show -(X : Int) ≤ u j k - u i k ∧ u j k - u i k ≤ X
    omega
  · have h1 := hE2 t ht
    have h2 := hr i t ht
    have h3 := hr j t ht
    have h1 : (Lf i t - mf t).toNat = (Lf j t - mf t).toNat := h1
    have h4 : Lf j t - Lf i t = 0 := by omega
    have h5 : sm (fun k => a t k * u j k - a t k * u i k) d = Lf j t - Lf i t := sm_sub _ _ d
    rw [show (fun k => a t k * (u j k - u i k)) = (fun k => a t k * u j k - a t k * u i k) from funext (fun k => Int.mul_sub _ _ _), h5]
    exact h4
/-! whole polynomials at fractions -/
def es (c : Nat → Int) : Nat → Rat → Rat
  | 0, _ => 0
  | n + 1, x => es c n x + (c n : Rat) * x ^ n
theorem es_congr {c d : Nat → Int} {n : Nat} (h : ∀ k, k < n → c k = d k) (x : Rat) : es c n x = es d n x := by
  induction n with
  | zero => rfl
  | succ n ih => rw [es, es, ih (fun k hk => h k (by omega)), h n (by omega)]
theorem es_add (c d : Nat → Int) (n : Nat) (x : Rat) : es (fun k => c k + d k) n x = es c n x + es d n x := by
  induction n with
  | zero => simp only [es]; grind
  | succ n ih => simp only [es, ih, Rat.intCast_add]; grind
theorem es_zero {c : Nat → Int} {n : Nat} (h : ∀ k, k < n → c k = 0) (x : Rat) : es c n x = 0 := by
  induction n with
  | zero => rfl
  | succ n ih => rw [es, ih (fun k hk => h k (by omega)), h n (by omega)]; simp; grind
theorem rpow_add' (x : Rat) (m n : Nat) : x ^ (m + n) = x ^ m * x ^ n := by
  induction n with
  | zero => simp
  | succ n ih => rw [← Nat.add_assoc, Rat.pow_succ, ih, Rat.pow_succ]; grind
/-- one coefficient times a polynomial -/
theorem es_shift (A : Nat → Int) (u : Int) (b n : Nat) (x : Rat) : es (fun t => if b ≤ t then u * A (t - b) else 0) (b + n) x = (u : Rat) * x ^ b * es A n x := by
  induction n with
  | zero =>
    rw [es_zero (fun k hk => by rw [if_neg (by omega)])]
    simp only [es]; grind
  | succ n ih =>
    rw [← Nat.add_assoc, es, ih, es, if_pos (by omega), show b + n - b = n by omega, rpow_add', Rat.intCast_mul]
    grind
def cv (U A : Nat → Int) (a b t : Nat) : Int := sm (fun k => if k ≤ t ∧ t - k ≤ a then U k * A (t - k) else 0) b
theorem es_conv (U A : Nat → Int) (a : Nat) (x : Rat) (b : Nat) : es U b x * es A (a + 1) x = es (cv U A a b) (a + b) x := by
  induction b with
  | zero =>
    rw [es_zero (c := cv U A a 0) (fun k hk => rfl)]
    simp only [es]; grind
  | succ b ih =>
    have h1 : ∀ t, cv U A a (b + 1) t = cv U A a b t + (if b ≤ t ∧ t - b ≤ a then U b * A (t - b) else 0) := fun t => rfl
    have h2 : es (cv U A a b) (a + b + 1) x = es (cv U A a b) (a + b) x := by
      have h3 : cv U A a b (a + b) = 0 := by
        have : ∀ n, n ≤ b → sm (fun k => if k ≤ a + b ∧ a + b - k ≤ a then U k * A (a + b - k) else 0) n = 0 := by
          intro n
          induction n with
          | zero => intro _; rfl
          | succ n ihn => intro hn; rw [sm, ihn (by omega), if_neg (by omega)]; rfl
        exact this b (Nat.le_refl _)
      rw [es, h3]; simp; grind
    have h4 : es (fun t => if b ≤ t ∧ t - b ≤ a then U b * A (t - b) else 0) (a + b + 1) x = (U b : Rat) * x ^ b * es A (a + 1) x := by
      rw [← es_shift A (U b) b (a + 1) x, show b + (a + 1) = a + b + 1 by omega]
      exact es_congr (fun t ht => by
        by_cases hb : b ≤ t
        · rw [if_pos ⟨hb, by omega⟩, if_pos hb]
        · rw [if_neg (fun h => hb h.1), if_neg hb]) x
    rw [show a + (b + 1) = a + b + 1 by omega, show cv U A a (b + 1) = fun t => cv U A a b t + (if b ≤ t ∧ t - b ≤ a then U b * A (t - b) else 0) from funext h1, es_add, h2, h4, ← ih, es]
    grind
/-- the row of the equations of U * A + W * B = r -/
def syl (A B : Nat → Int) (a b t k : Nat) : Int := if k < b then (if k ≤ t + 1 ∧ t + 1 - k ≤ a then A (t + 1 - k) else 0) else (if k - b ≤ t + 1 ∧ t + 1 - (k - b) ≤ b then B (t + 1 - (k - b)) else 0)
theorem sm_split (f : Nat → Int) (m n : Nat) : sm f (m + n) = sm f m + sm (fun k => f (m + k)) n := by
  induction n with
  | zero => simp [sm]
  | succ n ih => rw [← Nat.add_assoc, sm, ih, sm]; omega
theorem sm_congr {f g : Nat → Int} {d : Nat} (h : ∀ k, k < d → f k = g k) : sm f d = sm g d := by
  induction d with
  | zero => rfl
  | succ d ih => rw [sm, sm, ih (fun k hk => h k (by omega)), h d (by omega)]
theorem syl_form (A B v : Nat → Int) (a b t : Nat) : sm (fun k => syl A B a b t k * v k) (b + a) = cv v A a b (t + 1) + cv (fun k => v (b + k)) B b a (t + 1) := by
  rw [sm_split]
  congr 1
  · refine sm_congr (fun k hk => ?_)
    show syl A B a b t k * v k = _
    rw [syl, if_pos hk]
    split
    · rename_i h; rw [Int.mul_comm]
    · simp
  · refine sm_congr (fun k hk => ?_)
    show syl A B a b t (b + k) * v (b + k) = _
    rw [syl, if_neg (by omega), show b + k - b = k by omega]
    split
    · rw [Int.mul_comm]
    · simp
/-- a part of a sum of sizes: indices t + 1 - k, each once -/
theorem sm_part (A : Nat → Int) (a t : Nat) : ∀ n, sm (fun k => if k ≤ t ∧ t - k ≤ a then ((A (t - k)).natAbs : Int) else 0) n ≤ sm (fun i => if t + 1 ≤ i + n ∧ i ≤ t then ((A i).natAbs : Int) else 0) (a + 1) := by
  intro n
  induction n with
  | zero =>
    rw [sm]
    have : ∀ m, 0 ≤ sm (fun i => if t + 1 ≤ i + 0 ∧ i ≤ t then ((A i).natAbs : Int) else 0) m := by
      intro m
      induction m with
      | zero => exact Int.le_refl _
      | succ m ih => rw [sm]; have : (0 : Int) ≤ (if t + 1 ≤ m + 0 ∧ m ≤ t then ((A m).natAbs : Int) else 0) := by split <;> omega
                     omega
    exact this _
  | succ n ih =>
    rw [sm]
    -- one index more: i = t - n
    have key : sm (fun i => if t + 1 ≤ i + n ∧ i ≤ t then ((A i).natAbs : Int) else 0) (a + 1) + (if n ≤ t ∧ t - n ≤ a then ((A (t - n)).natAbs : Int) else 0) ≤ sm (fun i => if t + 1 ≤ i + (n + 1) ∧ i ≤ t then ((A i).natAbs : Int) else 0) (a + 1) := by
      by_cases hc : n ≤ t ∧ t - n ≤ a
      · rw [if_pos hc]
        have : ∀ m, sm (fun i => if t + 1 ≤ i + n ∧ i ≤ t then ((A i).natAbs : Int) else 0) m + (if t - n < m then ((A (t - n)).natAbs : Int) else 0) ≤ sm (fun i => if t + 1 ≤ i + (n + 1) ∧ i ≤ t then ((A i).natAbs : Int) else 0) m := by
          intro m
          induction m with
          | zero => simp [sm]
          | succ m ihm =>
            rw [sm, sm]
            by_cases hm : m = t - n
            · subst hm
              rw [if_neg (by omega)] at ihm
              rw [if_neg (by omega), if_pos (by omega), if_pos (by omega)]
              omega
            · by_cases h1 : t - n < m
              · rw [if_pos h1] at ihm
                rw [if_pos (show t - n < m + 1 by omega)]
                by_cases h2 : m ≤ t
                · rw [if_pos (show t + 1 ≤ m + n ∧ m ≤ t by omega), if_pos (show t + 1 ≤ m + (n + 1) ∧ m ≤ t by omega)]; omega
                · rw [if_neg (show ¬ (t + 1 ≤ m + n ∧ m ≤ t) by omega), if_neg (show ¬ (t + 1 ≤ m + (n + 1) ∧ m ≤ t) by omega)]; omega
              · rw [if_neg h1] at ihm
                rw [if_neg (show ¬ t - n < m + 1 by omega), if_neg (show ¬ (t + 1 ≤ m + n ∧ m ≤ t) by omega), if_neg (show ¬ (t + 1 ≤ m + (n + 1) ∧ m ≤ t) by omega)]; omega
        have h3 := this (a + 1)
        rw [if_pos (show t - n < a + 1 by omega)] at h3
        exact h3
      · rw [if_neg hc]
        have : ∀ m, sm (fun i => if t + 1 ≤ i + n ∧ i ≤ t then ((A i).natAbs : Int) else 0) m ≤ sm (fun i => if t + 1 ≤ i + (n + 1) ∧ i ≤ t then ((A i).natAbs : Int) else 0) m := fun m => sm_le (fun i _ => by
          by_cases h1 : t + 1 ≤ i + n ∧ i ≤ t
          · rw [if_pos h1, if_pos (by omega)]; exact Int.le_refl _
          · rw [if_neg h1]; split <;> omega)
        have := this (a + 1)
        omega
    omega
theorem sm_le_all (A : Nat → Int) (a t n : Nat) : sm (fun k => if k ≤ t ∧ t - k ≤ a then ((A (t - k)).natAbs : Int) else 0) n ≤ sm (fun i => ((A i).natAbs : Int)) (a + 1) := by
  refine Int.le_trans (sm_part A a t n) (sm_le (fun i _ => ?_))
  split <;> omega
theorem syl_size (A B : Nat → Int) (a b t S : Nat) (hS : sm (fun i => ((A i).natAbs : Int)) (a + 1) + sm (fun i => ((B i).natAbs : Int)) (b + 1) ≤ S) : sm (fun k => ((syl A B a b t k).natAbs : Int)) (b + a) ≤ S := by
  rw [sm_split]
  have h1 : sm (fun k => ((syl A B a b t k).natAbs : Int)) b = sm (fun k => if k ≤ t + 1 ∧ t + 1 - k ≤ a then ((A (t + 1 - k)).natAbs : Int) else 0) b := sm_congr (fun k hk => by
    rw [syl, if_pos hk]; split <;> rfl)
  have h2 : sm (fun k => ((syl A B a b t (b + k)).natAbs : Int)) a = sm (fun k => if k ≤ t + 1 ∧ t + 1 - k ≤ b then ((B (t + 1 - k)).natAbs : Int) else 0) a := sm_congr (fun k hk => by
    rw [syl, if_neg (by omega), show b + k - b = k by omega]; split <;> rfl)
  have h3 := sm_le_all A a (t + 1) b
  have h4 := sm_le_all B b (t + 1) a
  omega
/-- small U, W with U * A + W * B a whole number -/
theorem small_comb (A B : Nat → Int) (a b S X : Nat) (hab : 0 < a + b) (hS : sm (fun i => ((A i).natAbs : Int)) (a + 1) + sm (fun i => ((B i).natAbs : Int)) (b + 1) ≤ S) (hX : (X * S + 1) ^ (b + a - 1) < (X + 1) ^ (b + a)) : ∃ (U W : Nat → Int) (r : Int), ((∃ k, k < b ∧ U k ≠ 0) ∨ (∃ k, k < a ∧ W k ≠ 0)) ∧ (∀ k, -(X : Int) ≤ U k ∧ U k ≤ X) ∧ (∀ k, -(X : Int) ≤ W k ∧ W k ≤ X) ∧ ∀ x, es U b x * es A (a + 1) x + es W a x * es B (b + 1) x = (r : Rat) := by
  obtain ⟨v, ⟨k0, hk0, hv0⟩, hv, hz⟩ := siegel (b + a) (b + a - 1) S X (syl A B a b) (fun t _ => syl_size A B a b t S hS) hX
  refine ⟨v, fun k => v (b + k), cv v A a b 0 + cv (fun k => v (b + k)) B b a 0, ?_, hv, fun k => hv (b + k), fun x => ?_⟩
  · by_cases h : k0 < b
    · exact Or.inl ⟨k0, h, hv0⟩
    · exact Or.inr ⟨k0 - b, by omega, by show v (b + (k0 - b)) ≠ 0; rw [show b + (k0 - b) = k0 by omega]; exact hv0⟩
  · rw [es_conv, es_conv, show b + a = a + b by omega, ← es_add]
    obtain ⟨n, hn⟩ : ∃ n, a + b = n + 1 := ⟨a + b - 1, by omega⟩
    have hc : ∀ m, m ≤ n → es (fun k => cv v A a b k + cv (fun k => v (b + k)) B b a k) (m + 1) x = ((cv v A a b 0 + cv (fun k => v (b + k)) B b a 0 : Int) : Rat) := by
      intro m
      induction m with
      | zero =>
        intro _
        simp only [es]
        rw [Rat.pow_zero]
        grind
      | succ m ih =>
        intro hm
        rw [es, ih (by omega)]
        have h1 := hz m (by omega)
        rw [syl_form] at h1
        rw [h1]
        simp
        grind
    rw [hn]
    exact hc n (Nat.le_refl _)
