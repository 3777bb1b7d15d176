/-! two rows of signs of one polynomial: the same length, each a positive multiple of the other -/
def Pp (r r' : Nat → Int) : Prop := ∃ u v : Int, 0 < u ∧ 0 < v ∧ ∀ j, j < 6 → u * r' j = v * r j
theorem Pp.refl (r : Nat → Int) : Pp r r := ⟨1, 1, by decide, by decide, fun _ _ => rfl⟩
theorem Pp.of_eq {r r' : Nat → Int} (h : ∀ j, j < 6 → r' j = r j) : Pp r r' := ⟨1, 1, by decide, by decide, fun j hj => by rw [h j hj]⟩
theorem Pp.symm {r r' : Nat → Int} (h : Pp r r') : Pp r' r := by
  obtain ⟨u, v, hu, hv, h1⟩ := h
  exact ⟨v, u, hv, hu, fun j hj => (h1 j hj).symm⟩
theorem Pp.rat {r r' : Nat → Int} (h : Pp r r') : ∃ c : Rat, 0 < c ∧ ∀ x, es r' 6 x = c * es r 6 x := by
  obtain ⟨u, v, hu, hv, h1⟩ := h
  have hu' : (0 : Rat) < (u : Rat) := by exact_mod_cast hu
  have hv' : (0 : Rat) < (v : Rat) := by exact_mod_cast hv
  have hi : (0 : Rat) < (u : Rat)⁻¹ := Rat.inv_pos.mpr hu'
  have huu : (u : Rat)⁻¹ * (u : Rat) = 1 := Rat.inv_mul_cancel _ (by grind)
  refine ⟨(u : Rat)⁻¹ * (v : Rat), Rat.mul_pos hi hv', fun x => ?_⟩
  have e : (u : Rat) * es r' 6 x = (v : Rat) * es r 6 x := by rw [← es_sc, ← es_sc]; exact es_congr (fun j hj => h1 j hj) x
  have : es r' 6 x = (u : Rat)⁻¹ * ((u : Rat) * es r' 6 x) := by grind
  rw [this, e]
  grind
theorem Pp.of_es {r r' : Nat → Int} {c : Rat} (hc : 0 < c) (h : ∀ x, es r' 6 x = c * es r 6 x) : Pp r r' := by
  have hn : 0 < c.num := by
    have h1 := (Rat.lt_iff 0 c).mp hc
    simpa using h1
  have hd : (0 : Int) < (c.den : Int) := by exact_mod_cast c.den_pos
  have e0 : (c.den : Rat) * c = (c.num : Rat) := by rw [num_den c]; exact Rat.mul_comm _ _
  refine ⟨(c.den : Int), c.num, hd, hn, fun j hj => ?_⟩
  have h2 := es_row (c := fun j => (c.den : Int) * r' j + (-c.num) * r j) (n := 6) (fun x => by
    rw [es_add, es_sc, es_sc, h x]
    have e1 : (((c.den : Int) : Int) : Rat) = (c.den : Rat) := by first | rfl | exact_mod_cast rfl
    have e2 : ((-c.num : Int) : Rat) = -(c.num : Rat) := by simp
    rw [e1, e2, ← e0]
    grind) j hj
  have h3 : (c.den : Int) * r' j + -c.num * r j = 0 := h2
  have h4 : -c.num * r j = -(c.num * r j) := Int.neg_mul _ _
  omega
theorem Pp.sign {r r' : Nat → Int} (h : Pp r r') (j : Nat) (hj : j < 6) : (r' j).sign = (r j).sign := by
  obtain ⟨u, v, hu, hv, h1⟩ := h
  have h2 := congrArg Int.sign (h1 j hj)
  rwa [Int.sign_mul, Int.sign_mul, Int.sign_eq_one_of_pos hu, Int.sign_eq_one_of_pos hv, Int.one_mul, Int.one_mul] at h2
theorem Pp.zero {r r' : Nat → Int} (h : Pp r r') {j : Nat} (hj : j < 6) (hz : r j = 0) : r' j = 0 := by
  have h1 := h.sign j hj
  rw [hz] at h1
  exact Int.sign_eq_zero_iff_zero.mp h1
theorem Pp.same {r r' : Nat → Int} (h : Pp r r') (x : Rat) : sg (es r' 6 x) = sg (es r 6 x) := by
  obtain ⟨c, hc, h1⟩ := h.rat
  rw [h1 x, sg_pmul hc]
theorem top_of {q : Nat → Int} (h : Nz q) : ∃ D, D < 6 ∧ q D ≠ 0 ∧ ∀ j, D < j → j < 6 → q j = 0 := by
  have key : ∀ n, (∃ j, j < n ∧ q j ≠ 0) → ∃ D, D < n ∧ q D ≠ 0 ∧ ∀ j, D < j → j < n → q j = 0 := by
    intro n
    induction n with
    | zero => rintro ⟨j, hj, _⟩; omega
    | succ n ih =>
      rintro ⟨j, hj, hq⟩
      by_cases hn : q n = 0
      · obtain ⟨D, h1, h2, h3⟩ := ih ⟨j, by
          by_cases hjn : j = n
          · rw [hjn] at hq; exact absurd hn hq
          · omega, hq⟩
        exact ⟨D, by omega, h2, fun i hi hi2 => by
          by_cases hin : i = n
          · rw [hin]; exact hn
          · exact h3 i hi (by omega)⟩
      · exact ⟨n, by omega, hn, fun i hi hi2 => by omega⟩
  exact key 6 h
theorem top_Dg {q : Nat → Int} {D : Nat} (hD : D < 6) (h : q D ≠ 0) (hz : ∀ j, D < j → j < 6 → q j = 0) : Dg (ev (il q 6)) D (q D : Rat) := by
  have h1 := es_Dg (c := q) (n := D) h
  have e : ev (il q 6) = ev (il q (D + 1)) := funext (fun x => by rw [← es_ev, ← es_ev]; exact es_more x 6 (by omega) (fun j h2 h3 => hz j (by omega) h3))
  rw [e]
  exact h1
/-- a multiple of q of less degree is 0 -/
theorem less_zero {q : Nat → Int} {D : Nat} (hD : D < 6) (hq : q D ≠ 0) (hz : ∀ j, D < j → j < 6 → q j = 0) {s t : Nat → Int} (hs : ∀ j, D ≤ j → j < 6 → s j = 0) (ht : ∀ j, D ≤ j → j < 6 → t j = 0) {k : Rat} {Q : List Rat} (h : ∀ x, ev Q x * es q 6 x = es s 6 x - k * es t 6 x) : ∀ x, es s 6 x = k * es t 6 x := by
  have hl : (padd (il s D) (psc (-k) (il t D))).length ≤ D := by
    have := padd_len (il s D) (psc (-k) (il t D))
    simp only [psc, List.length_map, il_len] at this ⊢
    omega
  have hv : ∀ x, ev (padd (il s D) (psc (-k) (il t D))) x = es s 6 x - k * es t 6 x := fun x => by
    rw [ev_add, ev_sc, ← es_ev, ← es_ev, es_more x 6 (by omega) hs, es_more x 6 (by omega) ht]
    grind
  have h1 := (Dg.uniq (top_Dg hD hq hz) Q _ hl (fun x => by rw [hv x, ← es_ev]; exact h x)).2
  intro x
  have := h1 x
  rw [hv x] at this
  grind
theorem NR.low {p q s : Nat → Int} (h : NR p q s) {D : Nat} (hz : ∀ j, D < j → j < 6 → q j = 0) : ∀ j, D ≤ j → j < 6 → s j = 0 := by
  obtain ⟨_, d, hd, h1, h2⟩ := h
  intro j hj hj6
  refine h2 j ?_ hj6
  by_cases hdD : d ≤ D
  · omega
  · exact absurd (hz d (by omega) hd) h1
theorem Pp.next {p q s p' q' s' : Nat → Int} (hq : Nz q) (h : NR p q s) (h' : NR p' q' s') (hp : Pp p p') (hqq : Pp q q') : Pp s s' := by
  obtain ⟨D, hD, hqD, hqz⟩ := top_of hq
  have l1 := h.low hqz
  have l2 := h'.low (D := D) (fun j h1 h2 => hqq.zero h2 (hqz j h1 h2))
  obtain ⟨⟨la, Q, hla, e1⟩, _⟩ := h
  obtain ⟨⟨la', Q', hla', e2⟩, _⟩ := h'
  obtain ⟨c0, hc0, e3⟩ := hp.rat
  obtain ⟨c1, hc1, e4⟩ := hqq.rat
  have hl : la⁻¹ * la = 1 := Rat.inv_mul_cancel la (by grind)
  have hli : 0 < la⁻¹ := Rat.inv_pos.mpr hla
  have hm : 0 < la' * c0 * la⁻¹ := Rat.mul_pos (Rat.mul_pos hla' hc0) hli
  refine Pp.of_es hm (less_zero hD hqD hqz l2 l1 (Q := padd (psc c1 Q') (psc (-(la' * c0 * la⁻¹)) Q)) (fun x => ?_))
  have a1 := e1 x
  have a2 := e2 x
  rw [e3 x, e4 x] at a2
  rw [ev_add, ev_sc, ev_sc, a2, a1]
  grind
theorem not_end {p q s p' q' : Nat → Int} (hq : Nz q) (hs : Nz s) (h : NR p q s) (hp : Pp p p') (hqq : Pp q q') (hd : Dv (il q' 6) (il p' 6)) : False := by
  obtain ⟨D, hD, hqD, hqz⟩ := top_of hq
  have l1 := h.low hqz
  obtain ⟨⟨la, Q, hla, e1⟩, _⟩ := h
  obtain ⟨w, hw⟩ := hd
  obtain ⟨c0, hc0, e3⟩ := hp.rat
  obtain ⟨c1, hc1, e4⟩ := hqq.rat
  have hc : c0⁻¹ * c0 = 1 := Rat.inv_mul_cancel c0 (by grind)
  have h1 := less_zero (k := 0) hD hqD hqz l1 l1 (Q := padd Q (psc (-(la * c0⁻¹ * c1)) w)) (fun x => by
    have a1 := e1 x
    have a2 := hw x
    rw [← es_ev, ← es_ev, e3 x, e4 x] at a2
    have a3 : es p 6 x = c0⁻¹ * (c0 * es p 6 x) := by grind
    rw [ev_add, ev_sc, a1, a3, a2]
    grind)
  obtain ⟨j, hj, hsj⟩ := hs
  exact hsj (es_row (fun x => by rw [h1 x]; grind) j hj)
theorem Sseq.nz {a : Nat → Int} {r : Nat → Nat → Int} {n : Nat} (h : Sseq a r n) : ∀ k, k < n → Nz (r k) := by
  obtain ⟨h1, h2, h3, h4⟩ := h
  rcases h4 with ⟨h5, h6, _⟩ | ⟨h5, _⟩
  · intro k hk
    rw [show k = 0 by omega]
    exact h3.congr h6
  · exact h5.2.2.2.1
theorem Sseq.zero {a : Nat → Int} {r : Nat → Nat → Int} {n : Nat} (h : Sseq a r n) : ∀ j, j < 6 → r 0 j = a j := by
  rcases h.2.2.2 with ⟨_, h6, _⟩ | ⟨h5, _⟩
  · exact h6
  · exact h5.2.1
theorem Sseq.same {a : Nat → Int} {r r' : Nat → Nat → Int} {n n' : Nat} (h : Sseq a r n) (h' : Sseq a r' n') : ∀ m k, k ≤ m → k < n → k < n' ∧ Pp (r k) (r' k) := by
  have p0 : Pp (r 0) (r' 0) := Pp.of_eq (fun j hj => (h'.zero j hj).trans (h.zero j hj).symm)
  intro m
  induction m with
  | zero => intro k hk hkn; rw [show k = 0 by omega]; exact ⟨by have := h'.1; omega, p0⟩
  | succ m ih =>
    intro k hk hkn
    by_cases hkm : k ≤ m
    · exact ih k hkm hkn
    have hz := h.nz
    rcases h.2.2.2 with ⟨h5, _⟩ | ⟨h5, h6⟩
    · omega
    have hk1 : k = m + 1 := by omega
    rcases h'.2.2.2 with ⟨g5, _, g6⟩ | ⟨g5, g6⟩
    · exfalso
      obtain ⟨j, hj, hjn⟩ := hz 1 (by omega)
      exact hjn (by rw [h5.2.2.1 j hj]; exact g6 j hj)
    by_cases hk2 : k = 1
    · subst hk2
      exact ⟨by have := g5.1; omega, Pp.of_eq (fun j hj => (g5.2.2.1 j hj).trans (h5.2.2.1 j hj).symm)⟩
    obtain ⟨i, rfl⟩ : ∃ i, k = i + 2 := ⟨k - 2, by omega⟩
    have q0 := ih i (by omega) (by omega)
    have q1 := ih (i + 1) (by omega) (by omega)
    have nr := h5.2.2.2.2 i hkn
    by_cases hn' : i + 2 < n'
    · exact ⟨hn', Pp.next (hz (i + 1) (by omega)) nr (g5.2.2.2.2 i hn') q0.2 q1.2⟩
    · exfalso
      have e : n' = i + 2 := by omega
      rw [e] at g6
      exact not_end (hz (i + 1) (by omega)) (hz (i + 2) hkn) nr q0.2 q1.2 g6
theorem Sseq.len {a : Nat → Int} {r r' : Nat → Nat → Int} {n n' : Nat} (h : Sseq a r n) (h' : Sseq a r' n') : n = n' := by
  have h1 := (h.same h' n (n - 1) (by omega) (by have := h.1; omega)).1
  have h2 := (h'.same h n' (n' - 1) (by omega) (by have := h'.1; omega)).1
  have := h.1
  have := h'.1
  omega
theorem Sseq.pp {a : Nat → Int} {r r' : Nat → Nat → Int} {n n' : Nat} (h : Sseq a r n) (h' : Sseq a r' n') : ∀ k, k < n → Pp (r k) (r' k) := fun k hk => (h.same h' k k (Nat.le_refl _) hk).2
theorem Pp.deg {r r' : Nat → Int} (h : Pp r r') : ∀ n, n ≤ 6 → dgn r' n = dgn r n := by
  intro n
  induction n with
  | zero => intro _; rfl
  | succ n ih =>
    intro hn
    rw [dgn, dgn, ih (by omega)]
    by_cases hz : r n = 0
    · rw [if_neg (by simp [h.zero (by omega) hz]), if_neg (by simp [hz])]
    · rw [if_pos (fun h2 => hz (h.symm.zero (by omega) h2)), if_pos hz]
theorem Pp.right {r r' : Nat → Int} (h : Pp r r') : sgR r' = sgR r := by
  unfold sgR
  rw [h.deg 6 (Nat.le_refl _)]
  refine h.sign _ ?_
  have : ∀ n, dgn r n ≤ n := fun n => by
    induction n with
    | zero => exact Nat.le_refl _
    | succ n ih => rw [dgn]; split <;> omega
  have := this 6
  omega
theorem Pp.left {r r' : Nat → Int} (h : Pp r r') : sgL r' = sgL r := by
  unfold sgL
  rw [h.deg 6 (Nat.le_refl _), h.right]
