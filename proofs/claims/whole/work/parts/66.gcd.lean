/-! the greatest common divisor by remainders -/
def Cmb (A B P : Nat → Int) : Prop := ∃ u w : List Rat, ∀ x, es P 6 x = ev u x * es A 6 x + ev w x * es B 6 x
def GI (A B P Q : Nat → Int) : Prop := Cmb A B P ∧ Cmb A B Q ∧ ∀ D : List Rat, Dv D (il P 6) → Dv D (il Q 6) → Dv D (il A 6) ∧ Dv D (il B 6)
theorem GI.first (A B : Nat → Int) : GI A B A B := ⟨⟨[1], [], fun x => by simp only [ev]; grind⟩, ⟨[], [1], fun x => by simp only [ev]; grind⟩, fun D h1 h2 => ⟨h1, h2⟩⟩
theorem GI.step {A B P Q R : Nat → Int} (h : GI A B P Q) (hR : Rem P Q R) : GI A B Q R := by
  obtain ⟨⟨u, w, h1⟩, ⟨u2, w2, h2⟩, h3⟩ := h
  obtain ⟨la, S, hla, hr⟩ := hR
  have hl : la⁻¹ * la = 1 := Rat.inv_mul_cancel la (by grind)
  refine ⟨⟨u2, w2, h2⟩, ⟨padd (psc la u) (pmul S u2), padd (psc la w) (pmul S w2), fun x => ?_⟩, fun D hQ hRD => h3 D ?_ hQ⟩
  · rw [hr x, h1 x, h2 x, ev_add, ev_add, ev_sc, ev_sc, ev_mul, ev_mul]
    grind
  · refine Dv.comb hRD hQ [la⁻¹] (psc (-la⁻¹) S) (fun x => ?_)
    have := hr x
    rw [← es_ev, ← es_ev, ← es_ev, ev_sc, this]
    simp only [ev]
    grind
/-- with the second one 0 the first one is the divisor -/
theorem GI.last {A B P Q : Nat → Int} (h : GI A B P Q) (hQ : ∀ j, j < 6 → Q j = 0) : Cmb A B P ∧ Dv (il P 6) (il A 6) ∧ Dv (il P 6) (il B 6) := by
  obtain ⟨h1, _, h3⟩ := h
  have h4 := h3 (il P 6) (Dv.refl _) ⟨[], fun x => by rw [← es_ev, es_zero hQ]; simp only [ev]; grind⟩
  exact ⟨h1, h4.1, h4.2⟩
/-- a row as one of just six -/
theorem six_row {q : List Rat} {P A : Nat → Int} (hP : ∃ j, j < 6 ∧ P j ≠ 0) (h : ∀ x, es A 6 x = ev q x * es P 6 x) : ∃ q6 : List Rat, q6.length = 6 ∧ ∀ x, ev q6 x = ev q x := by
  have pad : ∀ (n : Nat) (l : List Rat), l.length ≤ n → ∃ l' : List Rat, l'.length = n ∧ ∀ x, ev l' x = ev l x := by
    intro n
    induction n with
    | zero => intro l hl; exact ⟨l, by omega, fun x => rfl⟩
    | succ n ih =>
      intro l hl
      cases l with
      | nil =>
        obtain ⟨l', h1, h2⟩ := ih [] (by simp)
        exact ⟨0 :: l', by simp [h1], fun x => by simp only [ev, h2 x]; grind⟩
      | cons a t =>
        obtain ⟨l', h1, h2⟩ := ih t (by simpa using hl)
        exact ⟨a :: l', by simp [h1], fun x => by simp only [ev, h2 x]⟩
  rcases Dg.or _ q (Nat.le_refl _) with hz | ⟨m, c, _, hq⟩
  · obtain ⟨l', h1, h2⟩ := pad 6 [] (by simp)
    exact ⟨l', h1, fun x => by rw [h2 x, hz x]; rfl⟩
  · rcases Dg.or 6 (il P 6) (by rw [il_len]; exact Nat.le_refl _) with hz | ⟨n, d, _, hPn⟩
    · obtain ⟨j, hj, hPj⟩ := hP
      exact absurd (es_row (fun x => by rw [es_ev]; exact hz x) j hj) hPj
    · have h5 := hq.mul hPn
      have hm : m < 6 := by
        rcases Nat.lt_or_ge m 6 with h6 | h6
        · exact h6
        · exfalso
          obtain ⟨hne, s, hs, hh⟩ := h5
          have h7 := ev_zero_row (padd (padd s (psc (-1) (il A 6))) (mono (m + n) (c * d))) (fun x => by
            have g1 := hh x
            have g2 := h x
            rw [es_ev, es_ev] at g2
            rw [ev_add, ev_add, ev_sc, ev_mono, g2]
            grind)
          refine hne (h7 _ (mem_mono _ _ _ ?_))
          have h8 := padd_len s (psc (-1) (il A 6))
          simp only [psc, List.length_map, il_len] at h8
          simp only [psc]
          omega
      obtain ⟨hc, r, hr, hqr⟩ := hq
      obtain ⟨l', h1, h2⟩ := pad 6 (padd r (mono m c)) (by
        have h8 := padd_len r (mono m c)
        simp only [mono, List.length_append, List.length_replicate, List.length_cons, List.length_nil] at h8
        simp only [mono]
        omega)
      exact ⟨l', h1, fun x => by rw [h2 x, ev_add, ev_mono, hqr x]; grind⟩
/-- a primitive divisor of a row of small numbers has small numbers -/
theorem prim_small {A P : Nat → Int} {M : Int} (hM : 0 ≤ M) (hA : ∃ t, t < 6 ∧ A t ≠ 0) (hb : ∀ j, j < 6 → -M ≤ A j ∧ A j ≤ M) (hP : cg P 0 6 = 1) (hd : Dv (il P 6) (il A 6)) : (∃ C : Nat → Int, ∀ x, es A 6 x = es C 6 x * es P 6 x) ∧ ∀ j, j < 6 → -(49 * M) ≤ P j ∧ P j ≤ 49 * M := by
  obtain ⟨q, hq⟩ := hd
  have hq2 : ∀ x, es A 6 x = ev q x * es P 6 x := fun x => by rw [es_ev, es_ev]; exact hq x
  have hP0 : ∃ j, j < 6 ∧ P j ≠ 0 := Classical.byContradiction (fun hn => by
    obtain ⟨t, ht, hAt⟩ := hA
    refine hAt (es_row (fun x => ?_) t ht)
    rw [hq2 x, es_zero (c := P) (fun k hk => Classical.byContradiction (fun hk2 => hn ⟨k, hk, hk2⟩))]
    grind)
  obtain ⟨q6, h6, hq6⟩ := six_row hP0 hq2
  obtain ⟨C, hC⟩ := gauss_int (A := A) hP h6 (fun x => by rw [hq6 x]; exact hq2 x)
  have hAC : ∀ x, es A 6 x = es C 6 x * es P 6 x := fun x => by rw [← hC x, hq6 x]; exact hq2 x
  refine ⟨⟨C, hAC⟩, ?_⟩
  by_cases h5 : P 5 = 0
  · exact fac_bd hAC hA hb h5
  · -- degree 5: the other one is a number
    have hco : ∀ t, t < 11 → cv C P 5 6 t = (if t < 6 then A t else 0) := by
      have h1 := es_row (c := fun t => cv C P 5 6 t + -(if t < 6 then A t else 0)) (n := 11) (fun x => by
        rw [es_add, ← es_conv C P 5 x 6, ← hAC x]
        have e1 : es (fun t => -(if t < 6 then A t else 0)) 11 x = -(es A 6 x) := by
          rw [es_congr (d := fun t => (-1) * (if t < 6 then A t else 0)) (fun t _ => by rw [Int.neg_mul, Int.one_mul]) x, es_sc, es_more (n := 6) x 11 (by decide) (fun j h1 _ => if_neg (by omega)), es_congr (d := A) (fun t ht => if_pos ht) x]
          have e2 : ((-1 : Int) : Rat) = -1 := rfl
          rw [e2]
          grind
        rw [e1]
        grind)
      intro t ht
      have := h1 t ht
      omega
    have e10 : C 5 * P 5 = 0 := by
      have h1 := hco 10 (by decide)
      simp [cv, sm] at h1
      exact h1
    have c5 : C 5 = 0 := (Int.mul_eq_zero.mp e10).resolve_right h5
    have e9 : C 4 * P 5 = 0 := by
      have h1 := hco 9 (by decide)
      simp [cv, sm, c5] at h1
      exact h1
    have c4 : C 4 = 0 := (Int.mul_eq_zero.mp e9).resolve_right h5
    have e8 : C 3 * P 5 = 0 := by
      have h1 := hco 8 (by decide)
      simp [cv, sm, c5, c4] at h1
      exact h1
    have c3 : C 3 = 0 := (Int.mul_eq_zero.mp e8).resolve_right h5
    have e7 : C 2 * P 5 = 0 := by
      have h1 := hco 7 (by decide)
      simp [cv, sm, c5, c4, c3] at h1
      exact h1
    have c2 : C 2 = 0 := (Int.mul_eq_zero.mp e7).resolve_right h5
    have e6 : C 1 * P 5 = 0 := by
      have h1 := hco 6 (by decide)
      simp [cv, sm, c5, c4, c3, c2] at h1
      exact h1
    have c1 : C 1 = 0 := (Int.mul_eq_zero.mp e6).resolve_right h5
    have hA0 : ∀ t, t < 6 → A t = C 0 * P t := fun t ht => by
      have h1 := hco t (by omega)
      rw [if_pos ht] at h1
      rw [← h1]
      simp [cv, sm, c5, c4, c3, c2, c1]
      omega
    have hC0 : C 0 ≠ 0 := fun h => by
      obtain ⟨t, ht, hAt⟩ := hA
      exact hAt (by rw [hA0 t ht, h, Int.zero_mul])
    intro j hj
    have h1 := hb j hj
    have h2 : ((A j).natAbs : Int) = ((C 0).natAbs : Int) * ((P j).natAbs : Int) := by rw [hA0 j hj, Int.natAbs_mul, Int.natCast_mul]
    have h3 := Int.mul_le_mul_of_nonneg_right (show (1 : Int) ≤ ((C 0).natAbs : Int) by omega) (show (0 : Int) ≤ ((P j).natAbs : Int) by omega)
    omega
