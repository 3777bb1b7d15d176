/-! far from 0 the lead tells the sign -/
theorem cauchy_pos {M L x : Rat} (hx : 1 ≤ x) (h : M ≤ L * (x - 1)) : ∀ (D : Nat) (c : Nat → Int), (∀ j, j < D → -M ≤ (c j : Rat) ∧ (c j : Rat) ≤ M) → (c D : Rat) = L → L ≤ es c (D + 1) x
  | 0, c, _, h2 => by simp only [es]; grind
  | D + 1, c, h1, h2 => by
    rw [es_front]
    have ih := cauchy_pos hx h D (fun k => c (k + 1)) (fun j hj => h1 (j + 1) (by omega)) h2
    have h3 := h1 0 (by omega)
    have h4 : x * L ≤ x * es (fun k => c (k + 1)) (D + 1) x := Rat.mul_le_mul_of_nonneg_left ih (by grind)
    grind
theorem neg_rpow (x : Rat) (n : Nat) : (-x) ^ n = if n % 2 = 0 then x ^ n else -(x ^ n) := by
  induction n with
  | zero => simp
  | succ n ih =>
    rw [Rat.pow_succ, Rat.pow_succ, ih]
    by_cases h : n % 2 = 0
    · rw [if_pos h, if_neg (by omega)]; grind
    · rw [if_neg h, if_pos (by omega)]; grind
def flp (c : Nat → Int) : Nat → Int := fun j => if j % 2 = 0 then c j else -c j
theorem es_flp (c : Nat → Int) (n : Nat) (x : Rat) : es c n (-x) = es (flp c) n x := by
  induction n with
  | zero => rfl
  | succ n ih =>
    rw [es, es, ih, neg_rpow, flp]
    by_cases h : n % 2 = 0
    · rw [if_pos h, if_pos h]
    · rw [if_neg h, if_neg h, Rat.intCast_neg]; grind
theorem cauchy_abs {c : Nat → Int} {D : Nat} {M : Int} {x : Rat} (hD : D < 6) (hc : c D ≠ 0) (hz : ∀ j, D < j → j < 6 → c j = 0) (hb : ∀ j, j < D → -M ≤ c j ∧ c j ≤ M) (hx : 1 ≤ x) (h : (M : Rat) ≤ (((c D).natAbs : Int) : Rat) * (x - 1)) : (((c D).natAbs : Int) : Rat) ≤ (((c D).sign : Int) : Rat) * es c 6 x := by
  have e : es c 6 x = es c (D + 1) x := es_more x 6 (by omega) (fun j h1 h2 => hz j (by omega) h2)
  rw [e]
  rcases Int.lt_trichotomy (c D) 0 with h0 | h0 | h0
  · have h1 := cauchy_pos hx h D (fun j => -1 * c j) (fun j hj => by
      have h2 := hb j hj
      constructor
      · have : -M ≤ -1 * c j := by omega
        exact_mod_cast this
      · have : -1 * c j ≤ M := by omega
        exact_mod_cast this) (by
      have : -1 * c D = ((c D).natAbs : Int) := by omega
      rw [this])
    rw [es_sc] at h1
    rw [Int.sign_eq_neg_one_of_neg h0]
    exact h1
  · exact absurd h0 hc
  · have h1 := cauchy_pos hx h D c (fun j hj => by
      have h2 := hb j hj
      constructor
      · exact_mod_cast h2.1
      · exact_mod_cast h2.2) (by
      have : c D = ((c D).natAbs : Int) := by omega
      exact congrArg _ this)
    rw [Int.sign_eq_one_of_pos h0]
    have : ((1 : Int) : Rat) * es c (D + 1) x = es c (D + 1) x := by
      have : ((1 : Int) : Rat) = 1 := rfl
      rw [this]; grind
    rw [this]
    exact h1
theorem sgR_top {c : Nat → Int} {D : Nat} (hD : D < 6) (hc : c D ≠ 0) (hz : ∀ j, D < j → j < 6 → c j = 0) : sgR c = (c D).sign ∧ sgL c = (flp c D).sign := by
  have h1 := dgn_eq (c := c) (k := D + 1) (fun _ => by rw [Nat.add_sub_cancel]; exact hc) 6 (by omega) (fun j h1 h2 => hz j (by omega) h2)
  have h2 : sgR c = (c D).sign := by rw [sgR, h1, Nat.add_sub_cancel]
  refine ⟨h2, ?_⟩
  rw [sgL, h2, h1, Nat.add_sub_cancel, flp]
  split
  · rfl
  · rw [Int.sign_neg]
theorem flp_abs (c : Nat → Int) (j : Nat) : (flp c j).natAbs = (c j).natAbs := by
  unfold flp
  split
  · rfl
  · rw [Int.natAbs_neg]
theorem cauchy_left {c : Nat → Int} {D : Nat} {M : Int} {x : Rat} (hD : D < 6) (hc : c D ≠ 0) (hz : ∀ j, D < j → j < 6 → c j = 0) (hb : ∀ j, j < D → -M ≤ c j ∧ c j ≤ M) (hx : 1 ≤ x) (h : (M : Rat) ≤ (((c D).natAbs : Int) : Rat) * (x - 1)) : (((c D).natAbs : Int) : Rat) ≤ (((flp c D).sign : Int) : Rat) * es c 6 (-x) := by
  rw [es_flp, ← flp_abs]
  refine cauchy_abs (M := M) hD (fun h9 => hc (by have := flp_abs c D; rw [h9] at this; omega)) (fun j h1 h2 => by have := flp_abs c j; rw [hz j h1 h2] at this; simp at this; exact this) (fun j hj => ?_) hx (by rw [flp_abs]; exact h)
  have h1 := hb j hj
  unfold flp
  split <;> omega
theorem sg_of_prod {s : Int} {a y : Rat} (hs : s = 1 ∨ s = -1) (ha : 0 < a) (h : a ≤ (s : Rat) * y) : sg y = s := by
  rcases hs with rfl | rfl
  · have : ((1 : Int) : Rat) = 1 := rfl
    rw [this] at h
    exact sg_pos (by grind)
  · have : ((-1 : Int) : Rat) = -1 := rfl
    rw [this] at h
    exact sg_neg (by grind)
def sab (c : Nat → Int) : Nat → Int
  | 0 => 0
  | n + 1 => sab c n + ((c n).natAbs : Int)
theorem sab_le (c : Nat → Int) (n j : Nat) (hj : j < n) : ((c j).natAbs : Int) ≤ sab c n := by
  induction n with
  | zero => omega
  | succ n ih =>
    rw [sab]
    have h0 : ∀ m, 0 ≤ sab c m := fun m => by
      induction m with
      | zero => exact Int.le_refl _
      | succ m ih => rw [sab]; omega
    have := h0 n
    by_cases h : j = n
    · rw [h]; omega
    · have := ih (by omega); omega
theorem far_sg {c : Nat → Int} (h : Nz c) : ∃ R : Rat, 1 ≤ R ∧ (∀ x, R ≤ x → sg (es c 6 x) = sgR c) ∧ ∀ x, R ≤ x → sg (es c 6 (-x)) = sgL c := by
  obtain ⟨D, hD, hc, hz⟩ := top_of h
  have hS : ∀ j, j < D → -(sab c 6) ≤ c j ∧ c j ≤ sab c 6 := fun j hj => by
    have := sab_le c 6 j (by omega)
    omega
  have h0 : 0 ≤ sab c 6 := by have := sab_le c 6 0 (by omega); omega
  have h0' : (0 : Rat) ≤ (sab c 6 : Rat) := by exact_mod_cast h0
  have hA : (1 : Rat) ≤ (((c D).natAbs : Int) : Rat) := by
    have : (1 : Int) ≤ ((c D).natAbs : Int) := by omega
    exact_mod_cast this
  have key : ∀ x : Rat, 1 + (sab c 6 : Rat) ≤ x → 1 ≤ x ∧ (sab c 6 : Rat) ≤ (((c D).natAbs : Int) : Rat) * (x - 1) := fun x hx => by
    refine ⟨by grind, ?_⟩
    have := Rat.mul_le_mul_of_nonneg_right hA (show 0 ≤ x - 1 by grind)
    grind
  obtain ⟨t1, t2⟩ := sgR_top hD hc hz
  refine ⟨1 + (sab c 6 : Rat), by grind, fun x hx => ?_, fun x hx => ?_⟩
  · obtain ⟨k1, k2⟩ := key x hx
    rw [t1]
    exact sg_of_prod (by rcases sign_cases (c D) with h | h | h; exact Or.inl h; exact Or.inr h; exact absurd (Int.sign_eq_zero_iff_zero.mp h) hc) (by grind) (cauchy_abs hD hc hz hS k1 k2)
  · obtain ⟨k1, k2⟩ := key x hx
    rw [t2]
    exact sg_of_prod (by rcases sign_cases (flp c D) with h | h | h; exact Or.inl h; exact Or.inr h; exact absurd (Int.sign_eq_zero_iff_zero.mp h) (fun h9 => hc (by have := flp_abs c D; rw [h9] at this; omega))) (by grind) (cauchy_left hD hc hz hS k1 k2)
theorem far_all (r : Nat → Nat → Int) : ∀ n, (∀ k, k < n → Nz (r k)) → ∃ R : Rat, 1 ≤ R ∧ ∀ k, k < n → (∀ x, R ≤ x → sg (es (r k) 6 x) = sgR (r k)) ∧ ∀ x, R ≤ x → sg (es (r k) 6 (-x)) = sgL (r k)
  | 0, _ => ⟨1, Rat.le_refl, fun k hk => by omega⟩
  | n + 1, h => by
    obtain ⟨R, hR, h1⟩ := far_all r n (fun k hk => h k (by omega))
    obtain ⟨S, hS, h2, h3⟩ := far_sg (h n (by omega))
    refine ⟨R + S, by grind, fun k hk => ?_⟩
    by_cases hkn : k = n
    · rw [hkn]
      exact ⟨fun x hx => h2 x (by grind), fun x hx => h3 x (by grind)⟩
    · exact ⟨fun x hx => (h1 k (by omega)).1 x (by grind), fun x hx => (h1 k (by omega)).2 x (by grind)⟩
/-- how many roots lie below x -/
def NbF (r : Nat → Nat → Int) (n : Nat) (x : Rat) : Int := tn (fun k => sgL (r k)) n - tn0 (fun k => sg (es (r k) 6 x)) n
theorem away_part {R B : Rat} {F P : Rat → Rat} {H : List Rat} {k : Rat} (hR : 0 ≤ R) (hk : k ≠ 0) (hP : ∀ x, F x * ev H x = k * P x) (hB : ∀ x, B ≤ x ∨ x ≤ -B → 1 ≤ P x ∨ P x ≤ -1) : ∃ e : Rat, 0 < e ∧ ∀ x, rng R x → (B ≤ x ∨ x ≤ -B) → e ≤ F x ∨ F x ≤ -e := by
  obtain ⟨M, hM, h1⟩ := ev_bd R hR H
  have hk2 : ∃ k2 : Rat, 0 < k2 ∧ (k = k2 ∨ k = -k2) := by
    rcases rat_tri k 0 with h | h | h
    · exact ⟨-k, by grind, by grind⟩
    · exact absurd h hk
    · exact ⟨k, h, by grind⟩
  obtain ⟨k2, hk3, hk4⟩ := hk2
  have hM1 : 0 < M + 1 := by grind
  have hMi : 0 < (M + 1)⁻¹ := Rat.inv_pos.mpr hM1
  have hMM : (M + 1)⁻¹ * (M + 1) = 1 := Rat.inv_mul_cancel _ (by grind)
  refine ⟨k2 * (M + 1)⁻¹, Rat.mul_pos hk3 hMi, fun x hx hBx => ?_⟩
  rcases Classical.em (k2 * (M + 1)⁻¹ ≤ F x ∨ F x ≤ -(k2 * (M + 1)⁻¹)) with h | h
  · exact h
  · exfalso
    have h2 := h1 x hx
    have h3 := mul_bd (a := F x) (b := ev H x) (M := k2 * (M + 1)⁻¹) (e := M) (by have := Rat.mul_pos hk3 hMi; grind) hM ⟨by grind, by grind⟩ h2
    have h4 : k2 * (M + 1)⁻¹ * M < k2 := by
      have e1 : k2 * (M + 1)⁻¹ * M = k2 - k2 * (M + 1)⁻¹ := by grind
      have := Rat.mul_pos hk3 hMi
      grind
    rw [hP x] at h3
    have h5 := hB x hBx
    have h6 : k2 ≤ k2 * P x ∨ k2 * P x ≤ -k2 := by
      rcases h5 with h5 | h5
      · left
        have := Rat.mul_le_mul_of_nonneg_left h5 (Rat.le_of_lt hk3)
        grind
      · right
        have := Rat.mul_le_mul_of_nonneg_left h5 (Rat.le_of_lt hk3)
        grind
    rcases hk4 with hk4 | hk4 <;> rw [hk4] at h3 <;> grind
theorem Sseq.unit {F : Nat → Int} {r : Nat → Nat → Int} {n : Nat} (h : Sseq F r n) (hn : 2 ≤ n) (hc : Cop (il F 6) (il (dva F) 6)) : ∃ k : Rat, k ≠ 0 ∧ ∀ x, es (r (n - 1)) 6 x = k := by
  rcases h.2.2.2 with ⟨h1, _⟩ | ⟨h1, h2⟩
  · omega
  have e0 : il (r 0) 6 = il F 6 := il_congr6 h1.2.1
  have e1 : il (r 1) 6 = il (dva F) 6 := il_congr6 h1.2.2.1
  have key : ∀ m, m + 2 ≤ n → Dv (il (r (n - 1)) 6) (il (r (n - 2 - m)) 6) ∧ Dv (il (r (n - 1)) 6) (il (r (n - 2 - m + 1)) 6) := by
    intro m
    induction m with
    | zero => intro _; exact ⟨h2, by rw [show n - 2 - 0 + 1 = n - 1 by omega]; exact Dv.refl _⟩
    | succ m ih =>
      intro hm
      obtain ⟨i1, i2⟩ := ih (by omega)
      obtain ⟨⟨la, Q, hla, e⟩, _⟩ := h1.2.2.2.2 (n - 2 - (m + 1)) (by omega)
      rw [show n - 2 - (m + 1) + 1 = n - 2 - m by omega, show n - 2 - (m + 1) + 2 = n - 2 - m + 1 by omega] at e
      rw [show n - 2 - (m + 1) + 1 = n - 2 - m by omega]
      have hl : la⁻¹ * la = 1 := Rat.inv_mul_cancel la (by grind)
      refine ⟨Dv.comb i1 i2 (psc la⁻¹ Q) [-la⁻¹] (fun x => ?_), i1⟩
      have := e x
      rw [ev_sc, ← es_ev, ← es_ev, ← es_ev]
      simp only [ev]
      grind
  have h3 := key (n - 2) (by omega)
  rw [show n - 2 - (n - 2) = 0 by omega, e0, show r (0 + 1) = r 1 from rfl, e1] at h3
  obtain ⟨k, hk, h4⟩ := unit_of_dv hc h3.1 h3.2
  exact ⟨k, hk, fun x => by rw [es_ev]; exact h4 x⟩
theorem sg_ne {x : Rat} (h : x ≠ 0) : sg x ≠ 0 := by
  rcases sg_cases x with ⟨_, h8⟩ | ⟨h8, _⟩ | ⟨_, h8⟩
  · omega
  · exact absurd h8 h
  · omega
theorem sg_eq0 {x : Rat} (h : sg x = 0) : x = 0 := by
  rcases sg_cases x with ⟨_, h8⟩ | ⟨h8, _⟩ | ⟨_, h8⟩
  · omega
  · exact h8
  · omega
theorem Sseq.nbok {F : Nat → Int} {r : Nat → Nat → Int} {n : Nat} (h : Sseq F r n) (hn : 2 ≤ n) (hc : Cop (il F 6) (il (dva F) 6)) {R : Rat} (hR : 0 ≤ R) : NbOk R (fun x => es F 6 x) (NbF r n) := by
  have hC := h.cnt hn hc hR
  have e0 : ∀ x, es (r 0) 6 x = es F 6 x := fun x => es_congr h.zero x
  refine ⟨fun x y hx hy hxy => ?_, fun x y hx hy hxy h0 => ?_, fun x y hx hy hxy h0 h1 => ?_⟩
  · rcases rat_tri x y with h3 | h3 | h3
    · have := Cnt.mono hC x y hx hy h3
      simp only [NbF] at this ⊢
      omega
    · rw [h3]; exact Int.le_refl _
    · grind
  · have hne : ¬ ∀ x, ev (il F 6) x = 0 := fun h9 => by
      obtain ⟨j, hj, hFj⟩ := h.2.2.1
      exact hFj (es_row (fun x => by rw [es_ev]; exact h9 x) j hj)
    have hC2 : Cnt R (ev (il F 6)) (fun x => tn0 (fun k => sg (es (r k) 6 x)) n) := by
      rw [show ev (il F 6) = es F 6 from funext (fun x => (es_ev F 6 x).symm)]; exact hC
    have := Cnt.root hC2 (by rw [il_len]; exact Nat.le_refl _) hne x y hx hy hxy (by rw [← es_ev]; exact sg_eq0 h0)
    simp only [NbF]
    omega
  · have h0 : sg (es F 6 x) ≠ 0 := h0
    have h1 : sg (es F 6 y) ≠ 0 := h1
    show sg (es F 6 x) = sg (es F 6 y) ↔ _
    obtain ⟨k, hk, hu⟩ := h.unit hn hc
    have par : ∀ z, sg (es F 6 z) ≠ 0 → (tn0 (fun k => sg (es (r k) 6 z)) n % 2 = 0 ↔ sg (es F 6 z) = sg k) := fun z hz => by
      have hs0 : sg (es (r 0) 6 z) ≠ 0 := by rw [e0 z]; exact hz
      have h5 := (tn_par (s := fun k => sg (es (r k) 6 z)) (fun k => sg_mem _) hs0 (n - 1)).2
      rw [lst_of (s := fun k => sg (es (r k) 6 z)) (k := n - 1) (by rw [hu z]; exact sg_ne hk), hu z, e0 z, show n - 1 + 1 = n by omega] at h5
      rw [tn0, if_neg hs0, Int.add_zero]
      exact h5
    have p1 := par x h0
    have p2 := par y h1
    have m1 := sg_mem (es F 6 x)
    have m2 := sg_mem (es F 6 y)
    have m3 := sg_mem k
    simp only [NbF]
    constructor
    · intro h9
      rw [h9] at p1
      by_cases h8 : sg (es F 6 y) = sg k
      · have := p1.mpr h8; have := p2.mpr h8; omega
      · have q1 : ¬ tn0 (fun k => sg (es (r k) 6 x)) n % 2 = 0 := fun h7 => h8 (p1.mp h7)
        have q2 : ¬ tn0 (fun k => sg (es (r k) 6 y)) n % 2 = 0 := fun h7 => h8 (p2.mp h7)
        omega
    · intro h9
      have hk0 := sg_ne hk
      by_cases h8 : sg (es F 6 y) = sg k
      · have := p2.mpr h8
        have := p1.mp (by omega)
        omega
      · have q2 : ¬ tn0 (fun k => sg (es (r k) 6 y)) n % 2 = 0 := fun h7 => h8 (p2.mp h7)
        have q1 : ¬ sg (es F 6 x) = sg k := fun h7 => by have := p1.mpr h7; omega
        omega
theorem Sseq.ends {F : Nat → Int} {r : Nat → Nat → Int} {n : Nat} (h : Sseq F r n) (hn : 2 ≤ n) (hc : Cop (il F 6) (il (dva F) 6)) {P : Rat → Rat} {H : List Rat} {k B : Rat} (hk : k ≠ 0) (hP : ∀ x, es F 6 x * ev H x = k * P x) (hB0 : 0 ≤ B) (hB : ∀ x, B ≤ x ∨ x ≤ -B → 1 ≤ P x ∨ P x ≤ -1) : (∀ x, x ≤ -B → NbF r n x = 0) ∧ ∀ x, B ≤ x → NbF r n x = tn (fun k => sgL (r k)) n - tn (fun k => sgR (r k)) n := by
  obtain ⟨R0, hR0, hfar⟩ := far_all r n h.nz
  have hn0 : Nz (r 0) := h.nz 0 (by omega)
  obtain ⟨D, hD, hcD, hzD⟩ := top_of hn0
  obtain ⟨t1, t2⟩ := sgR_top hD hcD hzD
  have w0 : sgR (r 0) ≠ 0 := by rw [t1]; exact fun h9 => hcD (Int.sign_eq_zero_iff_zero.mp h9)
  have w1 : sgL (r 0) ≠ 0 := by
    rw [sgL]
    split <;> omega
  refine ⟨fun x hx => ?_, fun x hx => ?_⟩
  · have hS : 0 ≤ R0 - x := by grind
    obtain ⟨e, he, haw⟩ := away_part (R := R0 - x) (F := es F 6) hS hk hP hB
    have r1 : rng (R0 - x) (-(R0 - x)) := ⟨by grind, by grind⟩
    have r2 : rng (R0 - x) x := ⟨by grind, by grind⟩
    have hlip : Lip (R0 - x) (es F 6) := by rw [show es F 6 = ev (il F 6) from funext (es_ev F 6)]; exact ev_lip _ hS _
    have h1 := Cnt.clear (h.cnt hn hc hS) hlip he (-(R0 - x)) x r1 r2 (by grind) (fun z h2 h3 => haw z ⟨by grind, by grind⟩ (Or.inr (by grind)))
    have h4 : tn0 (fun k => sg (es (r k) 6 (-(R0 - x)))) n = tn (fun k => sgL (r k)) n := by
      rw [tn0_congr (t := fun k => sgL (r k)) (by omega) (fun k hk => (hfar k hk).2 (R0 - x) (by grind)), tn0, if_neg w1, Int.add_zero]
    have h5 : tn0 (fun k => sg (es (r k) 6 (-(R0 - x)))) n = tn0 (fun k => sg (es (r k) 6 x)) n := h1
    rw [NbF]
    omega
  · have hS : 0 ≤ R0 + x := by grind
    obtain ⟨e, he, haw⟩ := away_part (R := R0 + x) (F := es F 6) hS hk hP hB
    have r1 : rng (R0 + x) (R0 + x) := ⟨by grind, by grind⟩
    have r2 : rng (R0 + x) x := ⟨by grind, by grind⟩
    have hlip : Lip (R0 + x) (es F 6) := by rw [show es F 6 = ev (il F 6) from funext (es_ev F 6)]; exact ev_lip _ hS _
    have h1 := Cnt.clear (h.cnt hn hc hS) hlip he x (R0 + x) r2 r1 (by grind) (fun z h2 h3 => haw z ⟨by grind, by grind⟩ (Or.inl (by grind)))
    have h4 : tn0 (fun k => sg (es (r k) 6 (R0 + x))) n = tn (fun k => sgR (r k)) n := by
      rw [tn0_congr (t := fun k => sgR (r k)) (by omega) (fun k hk => (hfar k hk).1 (R0 + x) (by grind)), tn0, if_neg w0, Int.add_zero]
    have h5 : tn0 (fun k => sg (es (r k) 6 x)) n = tn0 (fun k => sg (es (r k) 6 (R0 + x))) n := h1
    rw [NbF]
    omega
/-- two rows of one polynomial count alike -/
theorem NbF_same {F : Nat → Int} {r r' : Nat → Nat → Int} {n n' : Nat} (h : Sseq F r n) (h' : Sseq F r' n') (x : Rat) : NbF r' n' x = NbF r n x := by
  have e := h.len h'
  subst e
  have hp := h.pp h'
  have := h.1
  rw [NbF, NbF, (tn_congr (fun k hk => (hp k hk).left)).1, tn0_congr (by omega) (fun k hk => (hp k hk).same x)]
