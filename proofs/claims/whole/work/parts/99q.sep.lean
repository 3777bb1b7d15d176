/-! roots of polynomials with small coefficients are not near each other -/
theorem cst_le {n : Nat} {z : Int} (h : -(n : Int) ≤ z ∧ z ≤ (n : Int)) : -(n : Rat) ≤ (z : Rat) ∧ (z : Rat) ≤ (n : Rat) := by
  have h1 : ((-(n : Int) : Int) : Rat) ≤ (z : Rat) := Rat.intCast_le_intCast.mpr h.1
  have h2 : (z : Rat) ≤ ((n : Int) : Rat) := Rat.intCast_le_intCast.mpr h.2
  rw [Rat.intCast_neg, Rat.intCast_natCast] at h1
  rw [Rat.intCast_natCast] at h2
  exact ⟨h1, h2⟩
theorem int_m1 {r : Int} (h : r ≤ -1) : (r : Rat) ≤ -1 := by
  have h1 : (r : Rat) ≤ ((-1 : Int) : Rat) := Rat.intCast_le_intCast.mpr h
  exact h1
def geo (B : Rat) : Nat → Rat
  | 0 => 0
  | n + 1 => geo B n + B ^ n
def klp (B : Rat) : Nat → Rat
  | 0 => 0
  | n + 1 => klp B n * B + B ^ n
def lpb (B : Rat) : Nat → Rat
  | 0 => 0
  | n + 1 => lpb B n + klp B n
theorem pw_bd {B x : Rat} (hB : 0 ≤ B) (hx : -B ≤ x ∧ x ≤ B) : ∀ n : Nat, 0 ≤ B ^ n ∧ -(B ^ n) ≤ x ^ n ∧ x ^ n ≤ B ^ n
  | 0 => by
    rw [Rat.pow_zero, Rat.pow_zero]
    grind
  | n + 1 => by
    have ih := pw_bd hB hx n
    rw [Rat.pow_succ, Rat.pow_succ]
    exact ⟨Rat.mul_nonneg ih.1 hB, mul_bd ih.1 hB ih.2 hx⟩
theorem es_bd {c : Nat → Int} {M B x : Rat} (hB : 0 ≤ B) (hM : 0 ≤ M) (hx : -B ≤ x ∧ x ≤ B) : ∀ n : Nat, (∀ k, k < n → -M ≤ (c k : Rat) ∧ (c k : Rat) ≤ M) → -(M * geo B n) ≤ es c n x ∧ es c n x ≤ M * geo B n
  | 0, _ => by
    simp only [es, geo]
    grind
  | n + 1, h => by
    have ih := es_bd hB hM hx n (fun k hk => h k (by omega))
    have p := pw_bd hB hx n
    have q := mul_bd hM p.1 (h n (by omega)) p.2
    simp only [es, geo]
    grind
theorem pw_lip {B x y : Rat} (hB : 0 ≤ B) (hx : -B ≤ x ∧ x ≤ B) (hy : -B ≤ y ∧ y ≤ B) (hxy : x ≤ y) : ∀ n : Nat, 0 ≤ klp B n ∧ -(klp B n * (y - x)) ≤ y ^ n - x ^ n ∧ y ^ n - x ^ n ≤ klp B n * (y - x)
  | 0 => by
    rw [Rat.pow_zero, Rat.pow_zero]
    simp only [klp]
    grind
  | n + 1 => by
    have ih := pw_lip hB hx hy hxy n
    have hd : 0 ≤ y - x := by grind
    have p := pw_bd hB hx n
    have m1 := mul_bd (Rat.mul_nonneg ih.1 hd) hB ih.2 hy
    have m2 := mul_bd p.1 hd p.2 (show -(y - x) ≤ y - x ∧ y - x ≤ y - x by grind)
    have k0 := Rat.mul_nonneg ih.1 hB
    rw [Rat.pow_succ, Rat.pow_succ]
    simp only [klp]
    grind
theorem lpb_nn {B : Rat} (hB : 0 ≤ B) : ∀ n : Nat, 0 ≤ lpb B n
  | 0 => by simp only [lpb]; grind
  | n + 1 => by
    have ih := lpb_nn hB n
    have k := pw_lip hB (x := 0) (y := 0) (by grind) (by grind) (by grind) n
    simp only [lpb]
    grind
theorem es_lip {c : Nat → Int} {M B x y : Rat} (hB : 0 ≤ B) (hM : 0 ≤ M) (hx : -B ≤ x ∧ x ≤ B) (hy : -B ≤ y ∧ y ≤ B) (hxy : x ≤ y) : ∀ n : Nat, (∀ k, k < n → -M ≤ (c k : Rat) ∧ (c k : Rat) ≤ M) → -(M * lpb B n * (y - x)) ≤ es c n y - es c n x ∧ es c n y - es c n x ≤ M * lpb B n * (y - x)
  | 0, _ => by
    simp only [es, lpb]
    grind
  | n + 1, h => by
    have ih := es_lip hB hM hx hy hxy n (fun k hk => h k (by omega))
    have hd : 0 ≤ y - x := by grind
    have p := pw_lip hB hx hy hxy n
    have q := mul_bd hM (Rat.mul_nonneg p.1 hd) (h n (by omega)) p.2
    simp only [es, lpb]
    grind
/-- where a count jumps the polynomial is small -/
theorem jump_small {A : Nat → Int} {N : Rat → Int} {a : Nat} {M w x y : Rat} (hN : NB A N) (hA : Sqf A) (ha : a < 6) (hz : ∀ j, a < j → j < 6 → A j = 0) (hM : 0 ≤ M) (hb : ∀ j, j < 6 → -M ≤ (A j : Rat) ∧ (A j : Rat) ≤ M) (hx : -1002 ≤ x ∧ x ≤ 1002) (hy : -1002 ≤ y ∧ y ≤ 1002) (hxy : x < y) (hw : y - x ≤ w) (hj : N x < N y) : -(M * lpb 1002 (a + 1) * w) ≤ es A 6 x ∧ es A 6 x ≤ M * lpb 1002 (a + 1) * w := by
  have hB : (0 : Rat) ≤ 1002 := by decide
  have e6 : ∀ z, es A 6 z = es A (a + 1) z := fun z => es_more z 6 (by omega) (fun j h1 h2 => hz j (by omega) h2)
  have hL := Rat.mul_nonneg hM (lpb_nn hB (a + 1))
  have hR : rng 1002 x ∧ rng 1002 y := ⟨hx, hy⟩
  have key : ∀ s : Rat, (s = 1 ∨ s = -1) → ¬ M * lpb 1002 (a + 1) * w < s * es A 6 x := fun s hs hlt => by
    have hcl := Cnt.clear (e := s * es A 6 x - M * lpb 1002 (a + 1) * w) (hN.cnt hA hB) (by rw [show es A 6 = ev (il A 6) from funext (es_ev A 6)]; exact ev_lip 1002 hB _) (by grind) x y hR.1 hR.2 (by grind) (fun z h1 h2 => by
      have hzr : -1002 ≤ z ∧ z ≤ 1002 := by grind
      have l := es_lip hB hM hx hzr h1 (a + 1) (fun k hk => hb k (by omega))
      rw [← e6 z, ← e6 x] at l
      have m : M * lpb 1002 (a + 1) * (z - x) ≤ M * lpb 1002 (a + 1) * w := Rat.mul_le_mul_of_nonneg_left (by grind) hL
      rcases hs with rfl | rfl
      · left; grind
      · right; grind)
    have : -N x = -N y := hcl
    omega
  have k1 := key 1 (Or.inl rfl)
  have k2 := key (-1) (Or.inr rfl)
  grind
theorem sm_bd {f : Nat → Int} {m : Int} : ∀ n : Nat, (∀ k, k < n → f k ≤ m) → sm f n ≤ (n : Int) * m
  | 0, _ => by simp [sm]
  | n + 1, h => by
    have ih := sm_bd n (fun k hk => h k (by omega))
    have h1 := h n (by omega)
    rw [sm]
    have : ((n + 1 : Nat) : Int) * m = (n : Int) * m + m := by rw [Int.natCast_add, Int.add_mul]; omega
    omega
/-- two that share no root are nowhere both small -/
theorem sep0 {A B : Nat → Int} {a b S X : Nat} {mA mB x : Rat} (haN : A a ≠ 0) (hab : 0 < a + b) (ha : a < 6) (hb : b < 6) (hAz : ∀ j, a < j → j < 6 → A j = 0) (hBz : ∀ j, b < j → j < 6 → B j = 0) (hc : Cop (il A 6) (il B 6)) (hS : sm (fun i => ((A i).natAbs : Int)) (a + 1) + sm (fun i => ((B i).natAbs : Int)) (b + 1) ≤ S) (hX : (X * S + 1) ^ (b + a - 1) < (X + 1) ^ (b + a)) (hw : (X : Rat) * geo 1002 b * mA + (X : Rat) * geo 1002 a * mB < 1) (hx : -1002 ≤ x ∧ x ≤ 1002) (h0A : 0 ≤ mA) (h0B : 0 ≤ mB) (hA : -mA ≤ es A 6 x ∧ es A 6 x ≤ mA) (hB : -mB ≤ es B 6 x ∧ es B 6 x ≤ mB) : False := by
  have hBB : (0 : Rat) ≤ 1002 := by decide
  have eA : ∀ z, es A 6 z = es A (a + 1) z := fun z => es_more z 6 (by omega) (fun j h1 h2 => hAz j (by omega) h2)
  have eB : ∀ z, es B 6 z = es B (b + 1) z := fun z => es_more z 6 (by omega) (fun j h1 h2 => hBz j (by omega) h2)
  obtain ⟨U, W, r, hne, hU, hW, h1⟩ := small_comb A B a b S X hab hS hX
  have hc' : Cop (il A (a + 1)) (il B (b + 1)) := by
    obtain ⟨u, v, h2⟩ := hc
    refine ⟨u, v, fun z => ?_⟩
    have h3 := h2 z
    rw [← es_ev, ← es_ev, eA, eB, es_ev, es_ev] at h3
    exact h3
  have hr := comb_ne haN hc' hne h1
  have X0 : (0 : Rat) ≤ (X : Rat) := by exact_mod_cast Nat.zero_le X
  have cU : ∀ k, -(X : Rat) ≤ (U k : Rat) ∧ (U k : Rat) ≤ (X : Rat) := fun k => cst_le (hU k)
  have cW : ∀ k, -(X : Rat) ≤ (W k : Rat) ∧ (W k : Rat) ≤ (X : Rat) := fun k => cst_le (hW k)
  have bU := es_bd hBB X0 hx b (fun k _ => cU k)
  have bW := es_bd hBB X0 hx a (fun k _ => cW k)
  have g0 : ∀ n, 0 ≤ geo 1002 n := fun n => by
    have := es_bd (c := fun _ => 0) hBB (show (0 : Rat) ≤ 1 by decide) (x := 0) (by grind) n (fun k _ => by show -1 ≤ ((0 : Int) : Rat) ∧ ((0 : Int) : Rat) ≤ 1; decide)
    grind
  have p1 := mul_bd (Rat.mul_nonneg X0 (g0 b)) h0A bU hA
  have p2 := mul_bd (Rat.mul_nonneg X0 (g0 a)) h0B bW hB
  have h2 := h1 x
  rw [← eA, ← eB] at h2
  rcases Int.lt_or_gt_of_ne hr with h3 | h3
  · have : (r : Rat) ≤ -1 := int_m1 (by omega)
    grind
  · have : (1 : Rat) ≤ (r : Rat) := by exact_mod_cast (show 1 ≤ r by omega)
    grind
def ma (a : Nat) : Nat := if a = 5 then 1000 else 49000
def Small (A : Nat → Int) (a : Nat) : Prop := a < 6 ∧ A a ≠ 0 ∧ (∀ j, a < j → j < 6 → A j = 0) ∧ ∀ j, j < 6 → -(ma a : Int) ≤ A j ∧ A j ≤ (ma a : Int)
def wcel : Rat := 1 / 2 ^ 248
theorem num2 : ∀ a, a < 6 → ∀ b, b < 6 → 0 < a + b → ((((a + 1) * ma a + (b + 1) * ma b) ^ (a + b - 1) * ((a + 1) * ma a + (b + 1) * ma b) + 1) ^ (b + a - 1) < (((a + 1) * ma a + (b + 1) * ma b) ^ (a + b - 1) + 1) ^ (b + a)) ∧ (((((a + 1) * ma a + (b + 1) * ma b) ^ (a + b - 1) : Nat) : Rat) * geo 1002 b * (((ma a : Nat) : Rat) * lpb 1002 (a + 1) * wcel) + ((((a + 1) * ma a + (b + 1) * ma b) ^ (a + b - 1) : Nat) : Rat) * geo 1002 a * (((ma b : Nat) : Rat) * lpb 1002 (b + 1) * wcel) < 1) := by decide +kernel
theorem Small.rat {A : Nat → Int} {a : Nat} (h : Small A a) : ∀ j, j < 6 → -((ma a : Nat) : Rat) ≤ (A j : Rat) ∧ (A j : Rat) ≤ ((ma a : Nat) : Rat) := fun j hj => cst_le (h.2.2.2 j hj)
theorem Small.sum {A : Nat → Int} {a : Nat} (h : Small A a) : sm (fun i => ((A i).natAbs : Int)) (a + 1) ≤ (((a + 1) * ma a : Nat) : Int) := by
  have h1 := h.1
  have := sm_bd (f := fun i => ((A i).natAbs : Int)) (m := (ma a : Int)) (a + 1) (fun k hk => by
    have := h.2.2.2 k (by omega)
    show ((A k).natAbs : Int) ≤ _
    omega)
  rw [Int.natCast_mul]
  exact this
/-- roots of two that share none do not lie in one cell of 2^-248 -/
theorem sep2 {A B : Nat → Int} {a b : Nat} {N M : Rat → Int} {x y : Rat} (hA : Small A a) (hB : Small B b) (hab : 0 < a + b) (hc : Cop (il A 6) (il B 6)) (qA : Sqf A) (qB : Sqf B) (hN : NB A N) (hM : NB B M) (hx : -1002 ≤ x ∧ x ≤ 1002) (hy : -1002 ≤ y ∧ y ≤ 1002) (hxy : x < y) (hw : y - x ≤ wcel) (j1 : N x < N y) (j2 : M x < M y) : False := by
  have m0 : ∀ n : Nat, (0 : Rat) ≤ ((ma n : Nat) : Rat) := fun n => by exact_mod_cast Nat.zero_le _
  have w0 : (0 : Rat) ≤ wcel := by decide +kernel
  have l0 : ∀ n, 0 ≤ lpb 1002 n := lpb_nn (by decide)
  have s1 := jump_small hN qA hA.1 hA.2.2.1 (m0 a) hA.rat hx hy hxy hw j1
  have s2 := jump_small hM qB hB.1 hB.2.2.1 (m0 b) hB.rat hx hy hxy hw j2
  obtain ⟨n1, n2⟩ := num2 a hA.1 b hB.1 hab
  exact sep0 hA.2.1 hab hA.1 hB.1 hA.2.2.1 hB.2.2.1 hc (by have t1 := hA.sum; have t2 := hB.sum; rw [Int.natCast_add]; omega) n1 n2 hx (Rat.mul_nonneg (Rat.mul_nonneg (m0 a) (l0 _)) w0) (Rat.mul_nonneg (Rat.mul_nonneg (m0 b) (l0 _)) w0) s1 s2
