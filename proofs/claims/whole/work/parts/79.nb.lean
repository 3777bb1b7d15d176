/-! how many roots lie below a place, by a row of signs -/
def rl (r : Nat → Nat → Int) : Nat → Nat → List (List Rat)
  | _, 0 => []
  | i, m + 1 => il (r (i + 2)) 6 :: rl r (i + 1) m
def sl (s : Nat → Int) : Nat → Nat → List Int
  | _, 0 => []
  | i, m + 1 => s i :: sl s (i + 1) m
theorem rows_of (r : Nat → Nat → Int) : ∀ m i, (∀ k, i ≤ k → k < i + m → NR (r k) (r (k + 1)) (r (k + 2))) → Dv (il (r (i + m + 1)) 6) (il (r (i + m)) 6) → Rows (il (r i) 6) (il (r (i + 1)) 6) (rl r i m)
  | 0, i, _, h2 => h2
  | m + 1, i, h1, h2 => by
    rw [rl]
    obtain ⟨⟨la, Q, hla, e⟩, _⟩ := h1 i (Nat.le_refl _) (by omega)
    refine ⟨⟨la, Q, hla, fun x => by rw [← es_ev, ← es_ev, ← es_ev]; exact e x⟩, ?_⟩
    refine rows_of r m (i + 1) (fun k h3 h4 => h1 k (by omega) (by omega)) ?_
    rw [show i + 1 + m + 1 = i + (m + 1) + 1 by omega, show i + 1 + m = i + (m + 1) by omega]
    exact h2
theorem sgs_rl (r : Nat → Nat → Int) (x : Rat) : ∀ m i, sgs ((rl r i m).map ev) x = sl (fun k => sg (es (r k) 6 x)) (i + 2) m
  | 0, i => rfl
  | m + 1, i => by
    rw [rl, sl]
    simp only [sgs, List.map_cons]
    rw [es_ev]
    have := sgs_rl r x m (i + 1)
    simp only [sgs] at this
    rw [this, show i + 1 + 2 = i + 2 + 1 by omega]
theorem turns_tn (s : Nat → Int) : ∀ m i, tn s i + turns (lst s i) (sl s i m) = tn s (i + m)
  | 0, i => by rw [sl, turns]; exact Int.add_zero _
  | m + 1, i => by
    have ih := turns_tn s m (i + 1)
    rw [sl, turns, show i + (m + 1) = i + 1 + m by omega, ← ih, tn, lst]
    omega
theorem turns0_tn0 (s : Nat → Int) (m : Nat) : turns0 (s 0 :: s 1 :: sl s 2 m) = tn0 s (m + 2) := by
  have h := turns_tn s (m + 2) 0
  have e : sl s 0 (m + 2) = s 0 :: s 1 :: sl s 2 m := rfl
  rw [e, Nat.zero_add, show tn s 0 = 0 from rfl, show lst s 0 = 0 from rfl, Int.zero_add] at h
  rw [turns0, tn0, h]
theorem tn_less (s : Nat → Int) (k : Nat) : 0 ≤ tn s (k + 1) ∧ tn s (k + 1) ≤ k := by
  induction k with
  | zero =>
    rw [tn, lst]
    simp [tn]
  | succ k ih =>
    rw [tn]
    split <;> omega
theorem lst_of {s : Nat → Int} {k : Nat} (h : s k ≠ 0) : lst s (k + 1) = s k := by rw [lst, if_pos h]
/-- changes are even just where the last sign is the first -/
theorem tn_par {s : Nat → Int} (hm : ∀ k, s k = 1 ∨ s k = 0 ∨ s k = -1) (h0 : s 0 ≠ 0) (k : Nat) : lst s (k + 1) ≠ 0 ∧ (tn s (k + 1) % 2 = 0 ↔ s 0 = lst s (k + 1)) := by
  induction k with
  | zero =>
    rw [lst, if_pos h0]
    refine ⟨h0, ?_⟩
    simp [tn, lst]
  | succ k ih =>
    obtain ⟨i1, i2⟩ := ih
    have m1 := hm (k + 1)
    have m2 := lst_mem hm (k + 1)
    have m0 := hm 0
    have e := tn_mul m1 m2
    rw [tn, lst]
    by_cases hz : s (k + 1) = 0
    · rw [if_neg (by simp [hz]), if_neg (by rw [hz]; simp)]
      exact ⟨i1, by rw [Int.add_zero]; exact i2⟩
    · rw [if_pos hz]
      refine ⟨hz, ?_⟩
      by_cases hs : s (k + 1) = lst s (k + 1)
      · rw [if_neg (fun h => (e.mp h).2.2 hs), hs, Int.add_zero]
        exact i2
      · rw [if_pos (e.mpr ⟨hz, i1, hs⟩)]
        constructor
        · intro h
          have : ¬ s 0 = lst s (k + 1) := fun h2 => by have := i2.mpr h2; omega
          omega
        · intro h
          have : ¬ tn s (k + 1) % 2 = 0 := fun h2 => by have := i2.mp h2; omega
          omega
/-- V falls by one behind each root -/
theorem Sseq.cnt {F : Nat → Int} {r : Nat → Nat → Int} {n : Nat} (h : Sseq F r n) (hn : 2 ≤ n) (hc : Cop (il F 6) (il (dva F) 6)) {R : Rat} (hR : 0 ≤ R) : Cnt R (es F 6) (fun x => tn0 (fun k => sg (es (r k) 6 x)) n) := by
  rcases h.2.2.2 with ⟨h1, _⟩ | ⟨h1, h2⟩
  · omega
  obtain ⟨m, rfl⟩ : ∃ m, n = m + 2 := ⟨n - 2, by omega⟩
  have e0 : il (r 0) 6 = il F 6 := il_congr6 h1.2.1
  have e1 : il (r 1) 6 = il (dva F) 6 := il_congr6 h1.2.2.1
  have hr := rows_of r m 0 (fun k _ h4 => h1.2.2.2.2 k (by omega)) (by
    rw [show 0 + m + 1 = m + 2 - 1 by omega, show 0 + m = m + 2 - 2 by omega]; exact h2)
  rw [e0, show r (0 + 1) = r 1 from rfl, e1] at hr
  have hch := Rows.chl hR _ _ _ hr hc
  have ed : ev (il (dva F) 6) = ev (dv (il F 6)) := funext (fun x => by rw [dv_il, ← es_ev])
  have hD : Der R (ev (il F 6)) (ev (il (dva F) 6)) := by rw [ed]; exact ev_der R hR _
  simp only [List.map_cons] at hch
  obtain ⟨d, hd, hcell⟩ := Chl.cell hch hD
  refine ⟨d, hd, fun x y hx hy h3 h4 => ?_⟩
  have key : ∀ z, turns0 (sgs (ev (il F 6) :: ev (il (dva F) 6) :: (rl r 0 m).map ev) z) = tn0 (fun k => sg (es (r k) 6 z)) (m + 2) := fun z => by
    have h9 := turns0_tn0 (fun k => sg (es (r k) 6 z)) m
    rw [← h9]
    have h8 := sgs_rl r z m 0
    simp only [sgs, List.map_cons] at h8 ⊢
    rw [h8, ← es_ev, ← es_ev, es_congr (fun j hj => (h1.2.1 j hj).symm) z, es_congr (fun j hj => (h1.2.2.1 j hj).symm) z]
  have h5 := hcell x y hx hy h3 h4
  rw [key x, key y, ← es_ev, ← es_ev] at h5
  exact h5
/-- a root is counted behind it -/
theorem Cnt.root {R : Rat} {p : List Rat} {V : Rat → Int} (h : Cnt R (ev p) V) (hp : p.length ≤ 6) (hne : ¬ ∀ x, ev p x = 0) (x y : Rat) (hx : rng R x) (hy : rng R y) (hxy : x < y) (h0 : ev p x = 0) : V y < V x := by
  obtain ⟨d, hd, hc⟩ := h
  obtain ⟨e, he, he1, he2⟩ := min2 hd (sub_pos' hxy)
  have key : ∃ z, x < z ∧ z ≤ x + e ∧ ev p z ≠ 0 := by
    rcases Classical.em (∃ z, x < z ∧ z ≤ x + e ∧ ev p z ≠ 0) with hh | hh
    · exact hh
    · exfalso
      refine hne (ev_roots 6 p [x + e, x + e / 2, x + e / 3, x + e / 4, x + e / 5, x + e / 6] hp rfl ?_ ?_)
      · simp only [List.nodup_cons, List.mem_cons, List.not_mem_nil, or_false, not_or, List.nodup_nil, not_false_eq_true, and_true]
        refine ⟨⟨?_, ?_, ?_, ?_, ?_⟩, ⟨?_, ?_, ?_, ?_⟩, ⟨?_, ?_, ?_⟩, ⟨?_, ?_⟩, ?_⟩ <;> grind
      · have all : ∀ z, x < z → z ≤ x + e → ev p z = 0 := fun z h1 h2 => by
          rcases Classical.em (ev p z = 0) with h3 | h3
          · exact h3
          · exact absurd ⟨z, h1, h2, h3⟩ hh
        intro z hz
        simp only [List.mem_cons, List.not_mem_nil, or_false] at hz
        rcases hz with rfl | rfl | rfl | rfl | rfl | rfl <;> exact all _ (by grind) (by grind)
  obtain ⟨z, z1, z2, z3⟩ := key
  have hz : rng R z := ⟨by have := hx.1; grind, by have := hy.2; grind⟩
  have h1 := hc x z hx hz z1 (by grind)
  have h2 : dl (sg (ev p x)) (sg (ev p z)) = 1 := by
    rw [h0, sg_zero]
    have : sg (ev p z) ≠ 0 := fun h9 => by
      rcases sg_cases (ev p z) with ⟨_, h8⟩ | ⟨h8, _⟩ | ⟨_, h8⟩
      · omega
      · exact z3 h8
      · omega
    unfold dl
    rw [if_neg (by simp), if_neg this]
  rw [h2] at h1
  rcases rat_tri z y with h3 | h3 | h3
  · have := Cnt.mono ⟨d, hd, hc⟩ z y hz hy h3
    omega
  · rw [← h3]; omega
  · grind
/-- no root where the first stays away from 0 -/
theorem Cnt.clear {R : Rat} {p : Rat → Rat} {V : Rat → Int} (h : Cnt R p V) (hL : Lip R p) {e : Rat} (he : 0 < e) (x y : Rat) (hx : rng R x) (hy : rng R y) (hxy : x ≤ y) (hs : ∀ z, x ≤ z → z ≤ y → e ≤ p z ∨ p z ≤ -e) : V x = V y := by
  rcases rat_tri x y with hlt | hlt | hlt
  · obtain ⟨d, hd, hc⟩ := h
    obtain ⟨L, hL0, hL1⟩ := hL
    obtain ⟨d2, hd2, hd3⟩ := rat_small he hL0
    obtain ⟨d3, hd4, hd5, hd6⟩ := min2 hd hd2
    refine walk_far hd4 (fun a b => x ≤ a → b ≤ y → V a = V b) (fun a b ha hb hab hab2 h1 h2 => ?_) (fun a b c ha hb hcc hab hbc h1 h2 h3 h4 => (h1 h3 (by grind)).trans (h2 (by grind) h4)) x y hx hy hlt Rat.le_refl Rat.le_refl
    have h3 := hc a b ha hb hab (by grind)
    have h4 := hL1 a b ha hb (Rat.le_of_lt hab)
    have h5 : L * (b - a) ≤ L * d2 := lip_le hL0 (by grind)
    have h6 := hs a h1 (by grind)
    have h7 := hs b (by grind) h2
    have h8 : sg (p a) = sg (p b) ∧ sg (p a) ≠ 0 := by
      rcases h6 with h6 | h6 <;> rcases h7 with h7 | h7
      · rw [sg_pos (show 0 < p a by grind), sg_pos (show 0 < p b by grind)]; simp
      · grind
      · grind
      · rw [sg_neg (show p a < 0 by grind), sg_neg (show p b < 0 by grind)]; simp
    rw [h3]
    unfold dl
    rw [if_pos h8, Int.add_zero]
  · rw [hlt]
  · grind
