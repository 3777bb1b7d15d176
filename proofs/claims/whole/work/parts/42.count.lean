/-! rows of polynomials, each next one a remainder with the other sign -/
def Rows : List Rat → List Rat → List (List Rat) → Prop
  | p, q, [] => Dv q p
  | p, q, r :: t => (∃ (la : Rat) (Q : List Rat), 0 < la ∧ ∀ x, ev r x = ev Q x * ev q x - la * ev p x) ∧ Rows q r t
/-- the last one goes into all -/
theorem Rows.last : ∀ (t : List (List Rat)) (p q : List Rat), Rows p q t → Dv ((q :: t).getLast (by simp)) p ∧ Dv ((q :: t).getLast (by simp)) q
  | [], p, q, h => ⟨h, Dv.refl q⟩
  | r :: t, p, q, h => by
    obtain ⟨⟨la, Q, hla, h1⟩, h2⟩ := h
    have ih := Rows.last t q r h2
    rw [List.getLast_cons (by simp)]
    refine ⟨?_, ih.1⟩
    have hl : la⁻¹ * la = 1 := Rat.inv_mul_cancel la (by grind)
    exact Dv.comb ih.1 ih.2 (psc la⁻¹ Q) [-la⁻¹] (fun x => by
      have := h1 x
      rw [ev_sc]
      simp only [ev]
      grind)
theorem unit_of_dv {a b : List Rat} (h : Cop a b) {g : List Rat} (ha : Dv g a) (hb : Dv g b) : ∃ k : Rat, k ≠ 0 ∧ ∀ x, ev g x = k := by
  obtain ⟨u, w, h⟩ := h
  have h1 : Dv g [1] := Dv.comb ha hb u w (fun x => by rw [h x]; simp only [ev]; grind)
  have h2 : Dg (ev [1]) 0 1 := ⟨by decide, [], by simp, fun x => by simp only [ev]; rw [Rat.pow_zero]; grind⟩
  rcases Dg.or _ g (Nat.le_refl _) with hz | ⟨m, c, _, hg⟩
  · obtain ⟨q, hq⟩ := h1
    exact absurd (fun x => by rw [hq x, hz x]; grind) h2.ne
  · have := Dg.dvd h1 hg h2
    have hm : m = 0 := by omega
    subst hm
    exact hg.unit
theorem Cop.next {p q r Q : List Rat} {la : Rat} (hla : la ≠ 0) (h : Cop p q) (hr : ∀ x, ev r x = ev Q x * ev q x - la * ev p x) : Cop q r := by
  obtain ⟨u, w, h⟩ := h
  have hl : la⁻¹ * la = 1 := Rat.inv_mul_cancel la hla
  refine ⟨padd w (psc la⁻¹ (pmul u Q)), psc (-la⁻¹) u, fun x => ?_⟩
  have h1 := h x
  have h2 := hr x
  rw [ev_add, ev_sc, ev_sc, ev_mul, h2]
  grind
theorem Rows.chl {R : Rat} (hR : 0 ≤ R) : ∀ (t : List (List Rat)) (p q : List Rat), Rows p q t → Cop p q → Chl R ((p :: q :: t).map ev)
  | [], p, q, h, hc => by
    obtain ⟨k, hk, hq⟩ := unit_of_dv hc h (Dv.refl q)
    exact ⟨ev_lip R hR p, k, hk, hq⟩
  | r :: t, p, q, h, hc => by
    obtain ⟨⟨la, Q, hla, h1⟩, h2⟩ := h
    obtain ⟨M, hM, hQ⟩ := ev_bd R hR Q
    refine ⟨ev_lip R hR p, ⟨la, M, ev Q, hla, hM, fun x hx => ⟨(hQ x hx).1, (hQ x hx).2, h1 x⟩⟩, ?_⟩
    exact Rows.chl hR t q r h2 (Cop.next (by grind) hc h1)
/-! counting: V is less by one behind each root -/
def Cnt (R : Rat) (p : Rat → Rat) (V : Rat → Int) : Prop := ∃ d : Rat, 0 < d ∧ ∀ x y, rng R x → rng R y → x < y → y - x ≤ d → V x = V y + dl (sg (p x)) (sg (p y))
theorem Cnt.of_seq {R : Rat} (hR : 0 ≤ R) {p : List Rat} {t : List (List Rat)} (h : Rows p (dv p) t) (hc : Cop p (dv p)) : Cnt R (ev p) (fun x => turns0 (sgs ((p :: dv p :: t).map ev) x)) := Chl.cell (Rows.chl hR t p (dv p) h hc) (ev_der R hR p)
theorem walk_far {R d : Rat} (hd : 0 < d) (P : Rat → Rat → Prop) (h1 : ∀ x y, rng R x → rng R y → x < y → y - x ≤ d → P x y) (h2 : ∀ x y z, rng R x → rng R y → rng R z → x < y → y < z → P x y → P y z → P x z) (x y : Rat) (hx : rng R x) (hy : rng R y) (hxy : x < y) : P x y := by
  obtain ⟨N, hN⟩ := rat_nat ((y - x) * d⁻¹)
  have hN2 : y - x ≤ (N : Rat) * d := by
    have h1 := Rat.mul_nonneg (show 0 ≤ (N : Rat) - (y - x) * d⁻¹ by grind) (Rat.le_of_lt hd)
    have h2 : (y - x) * d⁻¹ * d = y - x := by
      have : d ≠ 0 := by grind
      grind
    grind
  clear hN
  induction N generalizing x with
  | zero => exfalso; simp at hN2; grind
  | succ n ih =>
    by_cases hs : y - x ≤ d
    · exact h1 x y hx hy hxy hs
    · have hz : rng R (x + d) := ⟨by have := hx.1; grind, by have := hy.2; grind⟩
      have hz2 : x + d < y := by grind
      refine h2 x (x + d) y hx hz hy (by grind) hz2 (h1 x (x + d) hx hz (by grind) (by grind)) (ih (x + d) hz hz2 ?_)
      have : ((n + 1 : Nat) : Rat) * d = (n : Rat) * d + d := by rw [show ((n + 1 : Nat) : Rat) = (n : Rat) + 1 by simp]; grind
      grind
theorem Cnt.mono {R : Rat} {p : Rat → Rat} {V : Rat → Int} (h : Cnt R p V) (x y : Rat) (hx : rng R x) (hy : rng R y) (hxy : x < y) : V y ≤ V x := by
  obtain ⟨d, hd, h⟩ := h
  refine walk_far hd (fun a b => V b ≤ V a) (fun a b ha hb hab hs => ?_) (fun a b c _ _ _ _ _ h1 h2 => Int.le_trans h2 h1) x y hx hy hxy
  have := h a b ha hb hab hs
  have := dl_range (sg (p a)) (sg (p b))
  omega
/-- two counts of one function differ by the same everywhere -/
theorem Cnt.uniq {R : Rat} {p : Rat → Rat} {V U : Rat → Int} (h : Cnt R p V) (k : Cnt R p U) (x y : Rat) (hx : rng R x) (hy : rng R y) (hxy : x < y) : V x - V y = U x - U y := by
  obtain ⟨d, hd, h⟩ := h
  obtain ⟨e, he, k⟩ := k
  obtain ⟨c, hc, c1, c2⟩ := min2 hd he
  refine walk_far hc (fun a b => V a - V b = U a - U b) (fun a b ha hb hab hs => ?_) (fun a b c _ _ _ _ _ h1 h2 => ?_) x y hx hy hxy
  · have := h a b ha hb hab (Rat.le_trans hs c1)
    have := k a b ha hb hab (Rat.le_trans hs c2)
    omega
  · have h1 : V a - V b = U a - U b := h1
    have h2 : V b - V c = U b - U c := h2
    omega
/-- where the sign stays the same nothing is counted -/
theorem Cnt.keep {R : Rat} {p : Rat → Rat} {V : Rat → Int} (h : Cnt R p V) {l : Int} (hl : l ≠ 0) (x y : Rat) (hx : rng R x) (hy : rng R y) (hxy : x < y) (hs : ∀ z, x ≤ z → z ≤ y → sg (p z) = l) : V x = V y := by
  obtain ⟨d, hd, h⟩ := h
  have := walk_far hd (fun a b => (∀ z, a ≤ z → z ≤ b → sg (p z) = l) → V a = V b) (fun a b ha hb hab hs2 hk => ?_) (fun a b c _ _ _ hab hbc h1 h2 hk => ?_) x y hx hy hxy
  · exact this hs
  · have h3 := h a b ha hb hab hs2
    rw [hk a (by grind) (by grind), hk b (by grind) (by grind), dl, if_pos ⟨rfl, hl⟩] at h3
    omega
  · exact (h1 (fun z hz1 hz2 => hk z hz1 (by grind))).trans (h2 (fun z hz1 hz2 => hk z (by grind) hz2))
/-- the sign of a product -/
theorem sg_mul (a b : Rat) : sg (a * b) = sg a * sg b := by
  rcases sg_cases a with ⟨a1, a2⟩ | ⟨a1, a2⟩ | ⟨a1, a2⟩ <;> rcases sg_cases b with ⟨b1, b2⟩ | ⟨b1, b2⟩ | ⟨b1, b2⟩ <;> rw [a2, b2]
  · exact sg_pos (Rat.mul_pos a1 b1)
  · rw [b1, Rat.mul_zero]; rfl
  · have := Rat.mul_pos a1 (show 0 < -b by grind)
    exact sg_neg (by grind)
  · rw [a1, Rat.zero_mul]; rfl
  · rw [a1, Rat.zero_mul]; rfl
  · rw [a1, Rat.zero_mul]; rfl
  · have := Rat.mul_pos (show 0 < -a by grind) b1
    exact sg_neg (by grind)
  · rw [b1, Rat.mul_zero]; rfl
  · have := Rat.mul_pos (show 0 < -a by grind) (show 0 < -b by grind)
    exact sg_pos (by grind)
/-- two polynomials that share no root are nowhere both small -/
theorem Cop.low {R : Rat} (hR : 0 ≤ R) {p q : List Rat} (h : Cop p q) : ∃ e : Rat, 0 < e ∧ ∀ x, rng R x → (-e < ev p x ∧ ev p x < e) → (-e < ev q x ∧ ev q x < e) → False := by
  obtain ⟨u, w, h⟩ := h
  obtain ⟨M, hM, hu⟩ := ev_bd R hR u
  obtain ⟨K, hK, hw⟩ := ev_bd R hR w
  obtain ⟨e, he, h1⟩ := rat_small (e := 1) (L := M + K) (by decide) (by grind)
  refine ⟨e, he, fun x hx hp hq => ?_⟩
  have g1 := mul_bd hM (show 0 ≤ e by grind) (hu x hx) (show -e ≤ ev p x ∧ ev p x ≤ e by grind)
  have g2 := mul_bd hK (show 0 ≤ e by grind) (hw x hx) (show -e ≤ ev q x ∧ ev q x ≤ e by grind)
  have g3 := h x
  grind
/-- the roots of a product are those of both -/
theorem Cnt.mul {R : Rat} (hR : 0 ≤ R) {p q : List Rat} (hc : Cop p q) {V U : Rat → Int} (h : Cnt R (ev p) V) (k : Cnt R (ev q) U) : Cnt R (fun x => ev p x * ev q x) (fun x => V x + U x) := by
  obtain ⟨d, hd, h⟩ := h
  obtain ⟨d2, hd2, k⟩ := k
  obtain ⟨e, he, hlow⟩ := hc.low hR
  obtain ⟨L, hL, hp⟩ := ev_lip R hR p
  obtain ⟨L2, hL2, hq⟩ := ev_lip R hR q
  obtain ⟨d3, hd3, h3⟩ := rat_small he hL
  obtain ⟨d4, hd4, h4⟩ := rat_small he hL2
  obtain ⟨a, ha, a1, a2⟩ := min2 hd hd2
  obtain ⟨b, hb, b1, b2⟩ := min2 hd3 hd4
  obtain ⟨c, hc, c1, c2⟩ := min2 ha hb
  refine ⟨c, hc, fun x y hx hy hxy hs => ?_⟩
  have g1 := h x y hx hy hxy (Rat.le_trans hs (Rat.le_trans c1 a1))
  have g2 := k x y hx hy hxy (Rat.le_trans hs (Rat.le_trans c1 a2))
  have l1 := hp x y hx hy (Rat.le_of_lt hxy)
  have l2 := hq x y hx hy (Rat.le_of_lt hxy)
  have s1 := lip_keep hL (Rat.le_trans hs (Rat.le_trans c2 b1)) h3
  have s2 := lip_keep hL2 (Rat.le_trans hs (Rat.le_trans c2 b2)) h4
  simp only [sg_mul]
  have hor : (sg (ev p x) = sg (ev p y) ∧ sg (ev p x) ≠ 0) ∨ (sg (ev q x) = sg (ev q y) ∧ sg (ev q x) ≠ 0) := by
    by_cases hpp : sg (ev p x) = sg (ev p y) ∧ sg (ev p x) ≠ 0
    · exact Or.inl hpp
    · right
      have m1 := lt_in (small_of hpp l1).1 s1
      by_cases hqq : sg (ev q x) = sg (ev q y) ∧ sg (ev q x) ≠ 0
      · exact hqq
      · exact absurd (lt_in (small_of hqq l2).1 s2) (fun m2 => hlow x hx m1 m2)
  have dm : ∀ (l a b : Int), (l = 1 ∨ l = -1) → (a = 1 ∨ a = 0 ∨ a = -1) → (b = 1 ∨ b = 0 ∨ b = -1) → dl (l * a) (l * b) = dl a b := by
    intro l a b hl ha hb
    rcases hl with rfl | rfl <;> rcases ha with rfl | rfl | rfl <;> rcases hb with rfl | rfl | rfl <;> decide
  have dz : ∀ a : Int, a ≠ 0 → dl a a = 0 := fun a ha => by rw [dl, if_pos ⟨rfl, ha⟩]
  rcases hor with ⟨e1, e2⟩ | ⟨e1, e2⟩
  · rw [← e1] at g1 ⊢
    rw [dz _ e2] at g1
    rw [dm _ _ _ (by have := sg_mem (ev p x); omega) (sg_mem _) (sg_mem _)]
    omega
  · rw [← e1] at g2 ⊢
    rw [dz _ e2] at g2
    rw [Int.mul_comm _ (sg (ev q x)), Int.mul_comm _ (sg (ev q x)), dm _ _ _ (by have := sg_mem (ev q x); omega) (sg_mem _) (sg_mem _)]
    omega
