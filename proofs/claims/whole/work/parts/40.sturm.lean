/-! signs, changes of sign, and a step along the line -/
def sg (x : Rat) : Int := if 0 < x then 1 else if x < 0 then -1 else 0
theorem sg_pos {x : Rat} (h : 0 < x) : sg x = 1 := by simp [sg, h]
theorem sg_neg {x : Rat} (h : x < 0) : sg x = -1 := by
  have : ¬ 0 < x := by grind
  simp [sg, h, this]
theorem sg_zero : sg 0 = 0 := by decide
theorem sg_cases (x : Rat) : (0 < x ∧ sg x = 1) ∨ (x = 0 ∧ sg x = 0) ∨ (x < 0 ∧ sg x = -1) := by
  by_cases h1 : 0 < x
  · left; exact ⟨h1, sg_pos h1⟩
  · by_cases h2 : x < 0
    · right; right; exact ⟨h2, sg_neg h2⟩
    · right; left
      have : x = 0 := by grind
      exact ⟨this, by rw [this]; exact sg_zero⟩
/-- how often the sign changes, the last one that was not 0 being l -/
def turns : Int → List Int → Int
  | _, [] => 0
  | l, a :: t => (if a * l < 0 then 1 else 0) + turns (if a ≠ 0 then a else l) t
/-- two rows of signs behind the same sign l: they differ only where the neighbours stand against each other -/
def nearf (n : Nat) (l : Int) (t u : List Int) : Prop :=
  match n with
  | 0 => t = [] ∧ u = []
  | n + 1 => (t = [] ∧ u = []) ∨ (∃ a t' u', (a = 1 ∨ a = -1) ∧ t = a :: t' ∧ u = a :: u' ∧ nearf n a t' u') ∨ (∃ a b t' u', (a = 1 ∨ a = 0 ∨ a = -1) ∧ (b = 1 ∨ b = 0 ∨ b = -1) ∧ t = a :: -l :: t' ∧ u = b :: -l :: u' ∧ nearf n (-l) t' u')
theorem nearf_turns (n : Nat) : ∀ (l : Int) (t u : List Int), (l = 1 ∨ l = -1) → nearf n l t u → turns l t = turns l u := by
  induction n with
  | zero => intro l t u _ h; rw [h.1, h.2]
  | succ n ih =>
    intro l t u hl h
    rcases h with ⟨h1, h2⟩ | ⟨a, t', u', ha, rfl, rfl, h⟩ | ⟨a, b, t', u', ha, hb, rfl, rfl, h⟩
    · rw [h1, h2]
    · have := ih a t' u' ha h
      have ha0 : a ≠ 0 := by omega
      simp only [turns, if_pos ha0, this]
    · have h1 := ih (-l) t' u' (by omega) h
      rcases hl with rfl | rfl <;> rcases ha with rfl | rfl | rfl <;> rcases hb with rfl | rfl | rfl <;> simp [turns] at h1 ⊢ <;> omega
/-- changes of sign, a 0 in front counted as one -/
def turns0 (t : List Int) : Int := turns 0 t + (match t with | a :: _ => if a = 0 then 1 else 0 | [] => 0)
/-- what a step from a to b tells of the first function: 1 if it is 0 at the start or has another sign at the end -/
def dl (a b : Int) : Int := if a = b ∧ a ≠ 0 then 0 else if b = 0 then 0 else 1
theorem turns_step {n : Nat} {a b l : Int} {t u : List Int} (hl : l = 1 ∨ l = -1) (h : nearf n l t u) (hab : (a = b ∧ (a = 1 ∨ a = -1)) ∨ (a = -l ∧ b = 0) ∨ (a = -l ∧ b = l) ∨ (a = 0 ∧ b = l)) : turns0 (a :: l :: t) = turns0 (b :: l :: u) + dl a b := by
  have h1 := nearf_turns n l t u hl h
  rcases hl with rfl | rfl <;> rcases hab with ⟨rfl, rfl | rfl⟩ | ⟨rfl, rfl⟩ | ⟨rfl, rfl⟩ | ⟨rfl, rfl⟩ <;> simp [turns0, turns, dl] at h1 ⊢ <;> omega
theorem turns_same {n : Nat} {l : Int} {t u : List Int} (hl : l = 1 ∨ l = -1) (h : nearf n l t u) : turns0 (l :: u) = turns0 (l :: t) := by
  have h1 := nearf_turns n l t u hl h
  rcases hl with rfl | rfl <;> simp [turns0, turns] at h1 ⊢ <;> omega
/-! rows of functions, each next one made from the two before it -/
def rng (R x : Rat) : Prop := -R ≤ x ∧ x ≤ R
def Lip (R : Rat) (f : Rat → Rat) : Prop := ∃ L : Rat, 0 ≤ L ∧ ∀ x y, rng R x → rng R y → x ≤ y → -(L * (y - x)) ≤ f y - f x ∧ f y - f x ≤ L * (y - x)
def Rel (R : Rat) (p q r : Rat → Rat) : Prop := ∃ (la M : Rat) (Q : Rat → Rat), 0 < la ∧ 0 ≤ M ∧ ∀ x, rng R x → -M ≤ Q x ∧ Q x ≤ M ∧ r x = Q x * q x - la * p x
def Chl (R : Rat) : List (Rat → Rat) → Prop
  | [] => False
  | [p] => ∃ c : Rat, c ≠ 0 ∧ ∀ x, p x = c
  | [p, q] => Lip R p ∧ ∃ c : Rat, c ≠ 0 ∧ ∀ x, q x = c
  | p :: q :: r :: t => Lip R p ∧ Rel R p q r ∧ Chl R (q :: r :: t)
theorem mul_bd {a b M e : Rat} (_ : 0 ≤ M) (_ : 0 ≤ e) (ha : -M ≤ a ∧ a ≤ M) (hb : -e ≤ b ∧ b ≤ e) : -(M * e) ≤ a * b ∧ a * b ≤ M * e := by
  have h1 := Rat.mul_nonneg (show 0 ≤ M - a by grind) (show 0 ≤ e - b by grind)
  have h2 := Rat.mul_nonneg (show 0 ≤ M - a by grind) (show 0 ≤ e + b by grind)
  have h3 := Rat.mul_nonneg (show 0 ≤ M + a by grind) (show 0 ≤ e - b by grind)
  have h4 := Rat.mul_nonneg (show 0 ≤ M + a by grind) (show 0 ≤ e + b by grind)
  constructor <;> grind
theorem rat_small {e L : Rat} (he : 0 < e) (hL : 0 ≤ L) : ∃ d : Rat, 0 < d ∧ L * d < e := by
  have h0 : 0 < L + 1 := by grind
  have h1 : 0 < (L + 1)⁻¹ := Rat.inv_pos.mpr h0
  have h2 := Rat.mul_pos he h1
  refine ⟨e * (L + 1)⁻¹, h2, ?_⟩
  have h3 : e * (L + 1)⁻¹ * (L + 1) = e := by grind
  grind
/-- two neighbours are nowhere both small -/
theorem Chl.low {R : Rat} : ∀ (t : List (Rat → Rat)) (p q : Rat → Rat), Chl R (p :: q :: t) → ∃ e : Rat, 0 < e ∧ ∀ x, rng R x → (-e < p x ∧ p x < e) → (-e < q x ∧ q x < e) → False := by
  intro t
  induction t with
  | nil =>
    intro p q h
    obtain ⟨_, c, hc, hq⟩ := h
    by_cases h0 : 0 < c
    · exact ⟨c, h0, fun x _ _ h2 => by rw [hq x] at h2; grind⟩
    · exact ⟨-c, by grind, fun x _ _ h2 => by rw [hq x] at h2; grind⟩
  | cons r t ih =>
    intro p q h
    obtain ⟨_, ⟨la, M, Q, h1, h2, h3⟩, h4⟩ := h
    obtain ⟨e, he, h5⟩ := ih q r h4
    -- small enough for q, for Q * q and for la * p
    obtain ⟨d, hd, h6⟩ := rat_small (e := e) (L := M + la + 1) he (by grind)
    have hMd := Rat.mul_nonneg h2 (show 0 ≤ d by grind)
    have hld := Rat.mul_pos h1 hd
    refine ⟨d, hd, fun x hx hp hq => h5 x hx (by grind) ?_⟩
    obtain ⟨h7, h8, h9⟩ := h3 x hx
    have h10 := mul_bd h2 (show 0 ≤ d by grind) ⟨h7, h8⟩ (show -d ≤ q x ∧ q x ≤ d by grind)
    have h11 := Rat.mul_pos h1 (show 0 < d - p x by grind)
    have h12 := Rat.mul_pos h1 (show 0 < d + p x by grind)
    rw [h9]
    constructor <;> grind
/-- a function that has not the same sign, other than 0, at both is small at both -/
theorem small_of {a b d : Rat} (h : ¬ (sg a = sg b ∧ sg a ≠ 0)) (hd : -d ≤ b - a ∧ b - a ≤ d) : (-d ≤ a ∧ a ≤ d) ∧ (-d ≤ b ∧ b ≤ d) := by
  rcases sg_cases a with ⟨h1, h2⟩ | ⟨h1, h2⟩ | ⟨h1, h2⟩ <;> rcases sg_cases b with ⟨h3, h4⟩ | ⟨h3, h4⟩ | ⟨h3, h4⟩ <;> rw [h2, h4] at h <;> (first | (exfalso; exact h ⟨rfl, by decide⟩) | (constructor <;> constructor <;> grind))
def sgs (t : List (Rat → Rat)) (x : Rat) : List Int := t.map (fun f => sg (f x))
theorem sg_mem (x : Rat) : sg x = 1 ∨ sg x = 0 ∨ sg x = -1 := by
  rcases sg_cases x with ⟨_, h⟩ | ⟨_, h⟩ | ⟨_, h⟩ <;> simp [h]
theorem Chl.tail {R : Rat} {p q : Rat → Rat} {t : List (Rat → Rat)} (h : Chl R (p :: q :: t)) : Chl R (q :: t) := by
  cases t with
  | nil => exact h.2
  | cons r t => exact h.2.2
theorem Chl.lip {R : Rat} {p : Rat → Rat} {t : List (Rat → Rat)} (h : Chl R (p :: t)) : Lip R p := by
  cases t with
  | nil =>
    obtain ⟨c, _, hc⟩ := h
    exact ⟨0, by grind, fun x y _ _ _ => by rw [hc x, hc y]; grind⟩
  | cons q t =>
    cases t with
    | nil => exact h.1
    | cons r t => exact h.1
theorem lip_le {L d a : Rat} (hL : 0 ≤ L) (ha : a ≤ d) : L * a ≤ L * d := by
  have := Rat.mul_nonneg hL (show 0 ≤ d - a by grind)
  grind
theorem Chl.near {R : Rat} (n : Nat) : ∀ (t : List (Rat → Rat)) (p : Rat → Rat), t.length ≤ n → Chl R (p :: t) → ∃ d : Rat, 0 < d ∧ ∀ x y, rng R x → rng R y → x ≤ y → y - x ≤ d → ∀ l : Int, (l = 1 ∨ l = -1) → sg (p x) = l → sg (p y) = l → nearf n l (sgs t x) (sgs t y) := by
  induction n with
  | zero =>
    intro t p ht _
    have : t = [] := List.length_eq_zero_iff.mp (by omega)
    subst this
    exact ⟨1, by decide, fun x y _ _ _ _ l _ _ _ => ⟨rfl, rfl⟩⟩
  | succ n ih =>
    intro t p ht h
    cases t with
    | nil => exact ⟨1, by decide, fun x y _ _ _ _ l _ _ _ => Or.inl ⟨rfl, rfl⟩⟩
    | cons q t =>
      obtain ⟨d1, hd1, h1⟩ := ih t q (by simp at ht; omega) h.tail
      cases t with
      | nil =>
        refine ⟨d1, hd1, fun x y hx hy hxy hd l hl h2 h3 => Or.inr (Or.inl ?_)⟩
        obtain ⟨c, hc, hq⟩ := h.2
        refine ⟨sg c, [], [], ?_, by simp [sgs, hq], by simp [sgs, hq], by cases n <;> first | exact ⟨rfl, rfl⟩ | exact Or.inl ⟨rfl, rfl⟩⟩
        rcases sg_cases c with ⟨_, h⟩ | ⟨h0, _⟩ | ⟨_, h⟩
        · exact Or.inl h
        · exact absurd h0 hc
        · exact Or.inr h
      | cons r t =>
        obtain ⟨d2, hd2, h2⟩ := ih t r (by simp at ht; omega) h.tail.tail
        obtain ⟨e, he, hlow⟩ := Chl.low _ p q h
        obtain ⟨L, hL, hlip⟩ := h.tail.lip
        obtain ⟨_, ⟨la, M, Q, hla, hM, hrel⟩, _⟩ := h
        have hle := Rat.mul_pos hla he
        obtain ⟨d3, hd3, h3⟩ := rat_small (e := e) (L := L) he hL
        obtain ⟨d4, hd4, h4⟩ := rat_small (e := la * e) (L := M * L) hle (Rat.mul_nonneg hM hL)
        obtain ⟨d, hd, hle1, hle2, hle3, hle4⟩ : ∃ d : Rat, 0 < d ∧ d ≤ d1 ∧ d ≤ d2 ∧ d ≤ d3 ∧ d ≤ d4 := by
          have m : ∀ a b : Rat, 0 < a → 0 < b → ∃ c : Rat, 0 < c ∧ c ≤ a ∧ c ≤ b := fun a b ha hb => by
            by_cases hab : a ≤ b
            · exact ⟨a, ha, by grind, hab⟩
            · exact ⟨b, hb, by grind, by grind⟩
          obtain ⟨u, hu, u1, u2⟩ := m d1 d2 hd1 hd2
          obtain ⟨v, hv, v1, v2⟩ := m d3 d4 hd3 hd4
          obtain ⟨w, hw, w1, w2⟩ := m u v hu hv
          exact ⟨w, hw, by grind, by grind, by grind, by grind⟩
        refine ⟨d, hd, fun x y hx hy hxy hyd l hl hpx hpy => ?_⟩
        by_cases hq : sg (q x) = sg (q y) ∧ sg (q x) ≠ 0
        · right; left
          have hqm : sg (q x) = 1 ∨ sg (q x) = -1 := by have := sg_mem (q x); omega
          exact ⟨sg (q x), sgs (r :: t) x, sgs (r :: t) y, hqm, rfl, by rw [sgs, List.map_cons, ← hq.1]; rfl, h1 x y hx hy hxy (by grind) _ hqm rfl hq.1.symm⟩
        · right; right
          have hqs := hlip x y hx hy hxy
          have hLd : L * (y - x) ≤ L * d := lip_le hL hyd
          have hLd3 : L * d ≤ L * d3 := lip_le hL hle3
          have hsm := small_of (d := L * d) hq (by constructor <;> grind)
          have hLd0 : 0 ≤ L * d := Rat.mul_nonneg hL (by grind)
          have hMd4 : M * L * d ≤ M * L * d4 := lip_le (Rat.mul_nonneg hM hL) hle4
          have key : ∀ z, rng R z → (-(L * d) ≤ q z ∧ q z ≤ L * d) → sg (p z) = l → sg (r z) = -l := by
            intro z hz hqz hpz
            obtain ⟨g1, g2, g3⟩ := hrel z hz
            have g4 := mul_bd hM hLd0 ⟨g1, g2⟩ hqz
            have g5 : ¬ (-e < p z ∧ p z < e) := fun hh => hlow z hz hh (by constructor <;> grind)
            rcases hl with rfl | rfl
            · have g6 : 0 < p z := by
                rcases sg_cases (p z) with ⟨h, _⟩ | ⟨_, h⟩ | ⟨_, h⟩
                · exact h
                · rw [h] at hpz; omega
                · rw [h] at hpz; omega
              have g7 : e ≤ p z := by grind
              have g8 := Rat.mul_nonneg (Rat.le_of_lt hla) (show 0 ≤ p z - e by grind)
              apply sg_neg
              rw [g3]
              grind
            · have g6 : p z < 0 := by
                rcases sg_cases (p z) with ⟨_, h⟩ | ⟨_, h⟩ | ⟨h, _⟩
                · rw [h] at hpz; omega
                · rw [h] at hpz; omega
                · exact h
              have g7 : p z ≤ -e := by grind
              have g8 := Rat.mul_nonneg (Rat.le_of_lt hla) (show 0 ≤ -e - p z by grind)
              apply sg_pos
              rw [g3]
              grind
          have kx := key x hx hsm.1 hpx
          have ky := key y hy hsm.2 hpy
          exact ⟨sg (q x), sg (q y), sgs t x, sgs t y, sg_mem _, sg_mem _, by rw [← kx]; rfl, by rw [← ky]; rfl, h2 x y hx hy hxy (by grind) (-l) (by omega) kx ky⟩
/-- p is made with its slope q: a step of p is nearly the step times q -/
def Der (R : Rat) (p q : Rat → Rat) : Prop := ∃ mu K : Rat, 0 < mu ∧ 0 ≤ K ∧ ∀ x y, rng R x → rng R y → x ≤ y → -(K * (y - x) * (y - x)) ≤ p y - p x - mu * (y - x) * q x ∧ p y - p x - mu * (y - x) * q x ≤ K * (y - x) * (y - x)
theorem min2 {a b : Rat} (ha : 0 < a) (hb : 0 < b) : ∃ c : Rat, 0 < c ∧ c ≤ a ∧ c ≤ b := by
  by_cases hab : a ≤ b
  · exact ⟨a, ha, by grind, hab⟩
  · exact ⟨b, hb, by grind, by grind⟩
theorem up_cases {a b : Rat} (hp : ¬ (sg a = sg b ∧ sg a ≠ 0)) (h : a < b) : (sg a = sg b ∧ (sg a = 1 ∨ sg a = -1)) ∨ (sg a = -1 ∧ sg b = 0) ∨ (sg a = -1 ∧ sg b = 1) ∨ (sg a = 0 ∧ sg b = 1) := by
  rcases sg_cases a with ⟨a1, a2⟩ | ⟨a1, a2⟩ | ⟨a1, a2⟩ <;> rcases sg_cases b with ⟨b1, b2⟩ | ⟨b1, b2⟩ | ⟨b1, b2⟩ <;> rw [a2, b2] at hp ⊢ <;> (first | (exfalso; exact hp ⟨rfl, by decide⟩) | (exfalso; clear hp a2 b2; grind) | simp)
theorem down_cases {a b : Rat} (hp : ¬ (sg a = sg b ∧ sg a ≠ 0)) (h : b < a) : (sg a = sg b ∧ (sg a = 1 ∨ sg a = -1)) ∨ (sg a = - -1 ∧ sg b = 0) ∨ (sg a = - -1 ∧ sg b = -1) ∨ (sg a = 0 ∧ sg b = -1) := by
  rcases sg_cases a with ⟨a1, a2⟩ | ⟨a1, a2⟩ | ⟨a1, a2⟩ <;> rcases sg_cases b with ⟨b1, b2⟩ | ⟨b1, b2⟩ | ⟨b1, b2⟩ <;> rw [a2, b2] at hp ⊢ <;> (first | (exfalso; exact hp ⟨rfl, by decide⟩) | (exfalso; clear hp a2 b2; grind) | simp)
theorem der_up {a b q mu K e s : Rat} (hs : 0 < s) (hmu : 0 < mu) (hK : K * s < mu * e) (hq : e ≤ q) (h1 : -(K * s * s) ≤ b - a - mu * s * q) : a < b := by
  have g1 := Rat.mul_pos (show 0 < mu * e - K * s by grind) hs
  have g2 := Rat.mul_nonneg (Rat.mul_nonneg (Rat.le_of_lt hmu) (Rat.le_of_lt hs)) (show 0 ≤ q - e by grind)
  grind
theorem der_down {a b q mu K e s : Rat} (hs : 0 < s) (hmu : 0 < mu) (hK : K * s < mu * e) (hq : q ≤ -e) (h1 : b - a - mu * s * q ≤ K * s * s) : b < a := by
  have g1 := Rat.mul_pos (show 0 < mu * e - K * s by grind) hs
  have g2 := Rat.mul_nonneg (Rat.mul_nonneg (Rat.le_of_lt hmu) (Rat.le_of_lt hs)) (show 0 ≤ -e - q by grind)
  grind
theorem lip_keep {L s d e : Rat} (hL : 0 ≤ L) (hs : s ≤ d) (h : L * d < e) : L * s < e := by
  have := lip_le hL hs
  grind
theorem lt_in {a d e : Rat} (h : -d ≤ a ∧ a ≤ d) (hd : d < e) : -e < a ∧ a < e := by constructor <;> grind
theorem away {q e : Rat} (he : 0 < e) (h : ¬ (-e < q ∧ q < e)) : (0 < q ∧ e ≤ q) ∨ (q < 0 ∧ q ≤ -e) := by grind
theorem keep_pos {a b d e : Rat} (h : -d ≤ b - a ∧ b - a ≤ d) (hd : d < e) (ha : e ≤ a) : 0 < b := by grind
theorem keep_neg {a b d e : Rat} (h : -d ≤ b - a ∧ b - a ≤ d) (hd : d < e) (ha : a ≤ -e) : b < 0 := by grind
theorem sub_pos' {x y : Rat} (h : x < y) : 0 < y - x := by grind
theorem Chl.cell {R : Rat} {p q : Rat → Rat} {t : List (Rat → Rat)} (h : Chl R (p :: q :: t)) (hD : Der R p q) : ∃ d : Rat, 0 < d ∧ ∀ x y, rng R x → rng R y → x < y → y - x ≤ d → turns0 (sgs (p :: q :: t) x) = turns0 (sgs (p :: q :: t) y) + dl (sg (p x)) (sg (p y)) := by
  obtain ⟨d1, hd1, h1⟩ := Chl.near _ (q :: t) p (Nat.le_refl _) h
  obtain ⟨d2, hd2, h2⟩ := Chl.near _ t q (Nat.le_refl _) h.tail
  obtain ⟨e, he, hlow⟩ := Chl.low _ p q h
  obtain ⟨L, hL, hlip⟩ := h.lip
  obtain ⟨L1, hL1, hlip1⟩ := h.tail.lip
  obtain ⟨mu, K, hmu, hK, hder⟩ := hD
  obtain ⟨d3, hd3, h3⟩ := rat_small (e := e) (L := L) he hL
  obtain ⟨d4, hd4, h4⟩ := rat_small (e := e) (L := L1) he hL1
  obtain ⟨d5, hd5, h5⟩ := rat_small (e := mu * e) (L := K) (Rat.mul_pos hmu he) hK
  obtain ⟨u, hu, u1, u2⟩ := min2 hd1 hd2
  obtain ⟨v, hv, v1, v2⟩ := min2 hd3 hd4
  obtain ⟨w, hw, w1, w2⟩ := min2 hu hv
  obtain ⟨d, hd, e1, e2⟩ := min2 hw hd5
  have hdu := Rat.le_trans e1 w1
  have hdv := Rat.le_trans e1 w2
  refine ⟨d, hd, fun x y hx hy hxy hyd => ?_⟩
  have hle : x ≤ y := Rat.le_of_lt hxy
  by_cases hp : sg (p x) = sg (p y) ∧ sg (p x) ≠ 0
  · have hpm : sg (p x) = 1 ∨ sg (p x) = -1 := by have := sg_mem (p x); omega
    have hn := h1 x y hx hy hle (Rat.le_trans hyd (Rat.le_trans hdu u1)) _ hpm rfl hp.1.symm
    have := turns_same hpm hn
    have hdl : dl (sg (p x)) (sg (p y)) = 0 := by rw [dl, if_pos hp]
    rw [hdl, show sgs (p :: q :: t) y = sg (p x) :: sgs (q :: t) y by rw [hp.1]; rfl, show sgs (p :: q :: t) x = sg (p x) :: sgs (q :: t) x from rfl, this]
    omega
  · have hps := hlip x y hx hy hle
    have c3 := lip_keep hL (Rat.le_trans hyd (Rat.le_trans hdv v1)) h3
    have c4 := lip_keep hL1 (Rat.le_trans hyd (Rat.le_trans hdv v2)) h4
    have c5 := lip_keep hK (Rat.le_trans hyd e2) h5
    have hsm := small_of (d := L * (y - x)) hp hps
    have hsx : -e < p x ∧ p x < e := lt_in hsm.1 c3
    have hqx : ¬ (-e < q x ∧ q x < e) := fun hh => hlow x hx hsx hh
    have hqs := hlip1 x y hx hy hle
    have hyx : 0 < y - x := sub_pos' hxy
    have hdd := hder x y hx hy hle
    have hn2 := h2 x y hx hy hle (Rat.le_trans hyd (Rat.le_trans hdu u2))
    have hpm : (0 < q x ∧ e ≤ q x) ∨ (q x < 0 ∧ q x ≤ -e) := away he hqx
    rcases hpm with ⟨g1, g2⟩ | ⟨g1, g2⟩
    · have sx := sg_pos g1
      have sy : sg (q y) = 1 := sg_pos (keep_pos hqs c4 g2)
      have g4 : p x < p y := der_up hyx hmu c5 g2 hdd.1
      have hn := hn2 1 (Or.inl rfl) sx sy
      rw [show sgs (p :: q :: t) y = sg (p y) :: 1 :: sgs t y by rw [← sy]; rfl, show sgs (p :: q :: t) x = sg (p x) :: 1 :: sgs t x by rw [← sx]; rfl]
      exact turns_step (Or.inl rfl) hn (up_cases hp g4)
    · have sx := sg_neg g1
      have sy : sg (q y) = -1 := sg_neg (keep_neg hqs c4 g2)
      have g4 : p y < p x := der_down hyx hmu c5 g2 hdd.2
      have hn := hn2 (-1) (Or.inr rfl) sx sy
      rw [show sgs (p :: q :: t) y = sg (p y) :: -1 :: sgs t y by rw [← sy]; rfl, show sgs (p :: q :: t) x = sg (p x) :: -1 :: sgs t x by rw [← sx]; rfl]
      exact turns_step (Or.inr rfl) hn (down_cases hp g4)
theorem dl_range (a b : Int) : 0 ≤ dl a b ∧ dl a b ≤ 1 := by
  unfold dl
  split
  · omega
  · split <;> omega
theorem Chl.small {R : Rat} {p q : Rat → Rat} {t : List (Rat → Rat)} (h : Chl R (p :: q :: t)) (hD : Der R p q) : ∃ d : Rat, 0 < d ∧ ∀ x y, rng R x → rng R y → x < y → y - x ≤ d → turns0 (sgs (p :: q :: t) y) ≤ turns0 (sgs (p :: q :: t) x) := by
  obtain ⟨d, hd, h⟩ := Chl.cell h hD
  refine ⟨d, hd, fun x y hx hy hxy hyd => ?_⟩
  have h1 := h x y hx hy hxy hyd
  have h2 := dl_range (sg (p x)) (sg (p y))
  omega
theorem rat_nat (r : Rat) : ∃ N : Nat, r ≤ (N : Rat) := by
  refine ⟨r.ceil.toNat, ?_⟩
  have h1 : r ≤ (r.ceil : Rat) := Rat.le_ceil
  have h2 : (r.ceil : Rat) ≤ ((r.ceil.toNat : Int) : Rat) := Rat.intCast_le_intCast.mpr (by omega)
  exact Rat.le_trans h1 h2
/-- small steps make a long one -/
theorem walk_down {R d : Rat} (hd : 0 < d) (V : Rat → Int) (h : ∀ x y, rng R x → rng R y → x < y → y - x ≤ d → V y ≤ V x) (n : Nat) : ∀ x y, rng R x → rng R y → x < y → y - x ≤ (n : Rat) * d → V y ≤ V x := by
  induction n with
  | zero => intro x y _ _ hxy h0; exfalso; simp at h0; grind
  | succ n ih =>
    intro x y hx hy hxy hn
    by_cases hs : y - x ≤ d
    · exact h x y hx hy hxy hs
    · have hz : rng R (x + d) := ⟨by have := hx.1; grind, by have := hy.2; grind⟩
      have h1 := h x (x + d) hx hz (by grind) (by grind)
      have h2 := ih (x + d) y hz hy (by grind) (by
        have : ((n + 1 : Nat) : Rat) * d = (n : Rat) * d + d := by rw [show ((n + 1 : Nat) : Rat) = (n : Rat) + 1 by simp]; grind
        grind)
      omega
theorem Chl.mono {R : Rat} {p q : Rat → Rat} {t : List (Rat → Rat)} (h : Chl R (p :: q :: t)) (hD : Der R p q) (x y : Rat) (hx : rng R x) (hy : rng R y) (hxy : x < y) : turns0 (sgs (p :: q :: t) y) ≤ turns0 (sgs (p :: q :: t) x) := by
  obtain ⟨d, hd, hs⟩ := Chl.small h hD
  obtain ⟨N, hN⟩ := rat_nat ((y - x) * d⁻¹)
  refine walk_down hd (fun z => turns0 (sgs (p :: q :: t) z)) hs N x y hx hy hxy ?_
  have h1 := Rat.mul_nonneg (show 0 ≤ (N : Rat) - (y - x) * d⁻¹ by grind) (Rat.le_of_lt hd)
  have h2 : (y - x) * d⁻¹ * d = y - x := by
    have : d ≠ 0 := by grind
    grind
  grind
/-! polynomials as rows of fractions, the least power first -/
def ev : List Rat → Rat → Rat
  | [], _ => 0
  | c :: t, x => c + x * ev t x
def padd : List Rat → List Rat → List Rat
  | [], b => b
  | a, [] => a
  | a :: s, b :: t => (a + b) :: padd s t
theorem ev_add : ∀ (a b : List Rat) (x : Rat), ev (padd a b) x = ev a x + ev b x
  | [], b, x => by simp only [padd, ev]; grind
  | a :: s, [], x => by simp only [padd, ev]; grind
  | a :: s, b :: t, x => by
    simp only [padd, ev, ev_add s t x]
    grind
def psc (k : Rat) (a : List Rat) : List Rat := a.map (fun c => k * c)
theorem ev_sc (k : Rat) (a : List Rat) (x : Rat) : ev (psc k a) x = k * ev a x := by
  induction a with
  | nil => simp [psc, ev]
  | cons c t ih =>
    simp only [psc, List.map_cons, ev] at ih ⊢
    rw [ih]
    grind
def pmul : List Rat → List Rat → List Rat
  | [], _ => []
  | a :: s, b => padd (psc a b) (0 :: pmul s b)
theorem ev_mul (a b : List Rat) (x : Rat) : ev (pmul a b) x = ev a x * ev b x := by
  induction a with
  | nil => simp [pmul, ev]
  | cons c t ih =>
    simp only [pmul, ev_add, ev_sc, ev, ih]
    grind
/-- the derivative -/
def dv : List Rat → List Rat
  | [] => []
  | _ :: t => padd t (0 :: dv t)
theorem ev_dv (c : Rat) (t : List Rat) (x : Rat) : ev (dv (c :: t)) x = ev t x + x * ev (dv t) x := by
  simp only [dv, ev_add, ev]
  grind
theorem ev_bd (R : Rat) (hR : 0 ≤ R) (p : List Rat) : ∃ M : Rat, 0 ≤ M ∧ ∀ x, rng R x → -M ≤ ev p x ∧ ev p x ≤ M := by
  induction p with
  | nil => exact ⟨0, by grind, fun x _ => by simp [ev]⟩
  | cons c t ih =>
    obtain ⟨M, hM, h⟩ := ih
    have hRM := Rat.mul_nonneg hR hM
    by_cases hc : 0 ≤ c
    · refine ⟨c + R * M, by grind, fun x hx => ?_⟩
      have := mul_bd hR hM hx (h x hx)
      simp only [ev]
      constructor <;> grind
    · refine ⟨-c + R * M, by grind, fun x hx => ?_⟩
      have := mul_bd hR hM hx (h x hx)
      simp only [ev]
      constructor <;> grind
theorem ev_lip (R : Rat) (hR : 0 ≤ R) (p : List Rat) : Lip R (ev p) := by
  induction p with
  | nil => exact ⟨0, by grind, fun x y _ _ _ => by simp only [ev]; grind⟩
  | cons c t ih =>
    obtain ⟨M, hM, hb⟩ := ev_bd R hR t
    obtain ⟨L, hL, h⟩ := ih
    have hRL := Rat.mul_nonneg hR hL
    refine ⟨M + R * L, by grind, fun x y hx hy hxy => ?_⟩
    have h0 : 0 ≤ y - x := by grind
    have h1 := mul_bd h0 hM (show -(y - x) ≤ y - x ∧ y - x ≤ y - x by constructor <;> grind) (hb y hy)
    have h2 := mul_bd hR (Rat.mul_nonneg hL h0) hx (h x y hx hy hxy)
    have e1 : ev (c :: t) y - ev (c :: t) x = (y - x) * ev t y + x * (ev t y - ev t x) := by
      simp only [ev]
      grind
    rw [e1]
    constructor <;> grind
theorem ev_der (R : Rat) (hR : 0 ≤ R) (p : List Rat) : Der R (ev p) (ev (dv p)) := by
  suffices h : ∃ K : Rat, 0 ≤ K ∧ ∀ x y, rng R x → rng R y → x ≤ y → -(K * (y - x) * (y - x)) ≤ ev p y - ev p x - (y - x) * ev (dv p) x ∧ ev p y - ev p x - (y - x) * ev (dv p) x ≤ K * (y - x) * (y - x) by
    obtain ⟨K, hK, h⟩ := h
    refine ⟨1, K, by decide, hK, fun x y hx hy hxy => ?_⟩
    have := h x y hx hy hxy
    rw [show (1 : Rat) * (y - x) = y - x by grind]
    exact this
  induction p with
  | nil => exact ⟨0, by grind, fun x y _ _ _ => by simp only [ev, dv]; grind⟩
  | cons c t ih =>
    obtain ⟨L, hL, hl⟩ := ev_lip R hR t
    obtain ⟨K, hK, h⟩ := ih
    have hRK := Rat.mul_nonneg hR hK
    refine ⟨L + R * K, by grind, fun x y hx hy hxy => ?_⟩
    have h0 : 0 ≤ y - x := by grind
    have h1 := mul_bd h0 (Rat.mul_nonneg hL h0) (show -(y - x) ≤ y - x ∧ y - x ≤ y - x by constructor <;> grind) (hl x y hx hy hxy)
    have h2 := mul_bd hR (Rat.mul_nonneg (Rat.mul_nonneg hK h0) h0) hx (h x y hx hy hxy)
    have e1 : ev (c :: t) y - ev (c :: t) x - (y - x) * ev (dv (c :: t)) x = (y - x) * (ev t y - ev t x) + x * (ev t y - ev t x - (y - x) * ev (dv t) x) := by
      rw [ev_dv]
      simp only [ev]
      grind
    rw [e1]
    constructor <;> grind
