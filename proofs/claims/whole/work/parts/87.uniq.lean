/-! what is found is the same on both sides -/
theorem prim_eq {G G' : Nat → Int} {u v : Int} (hu : 0 < u) (hv : 0 < v) (h : ∀ j, j < 6 → u * G' j = v * G j) (h1 : cg G 0 6 = 1) (h2 : cg G' 0 6 = 1) : ∀ j, j < 6 → G' j = G j := by
  have e1 := cg_mul (A := fun j => u * G' j) (B := G') (c := u) (n := 6) (fun _ _ => rfl) 6 (Nat.le_refl _)
  have e2 := cg_mul (A := fun j => u * G' j) (B := G) (c := v) (n := 6) (fun j hj => h j hj) 6 (Nat.le_refl _)
  rw [h2] at e1
  rw [h1] at e2
  have e3 : u = v := by omega
  intro j hj
  have h3 := h j hj
  rw [e3] at h3
  exact Int.eq_of_mul_eq_mul_left (by omega) h3
theorem PrimOf.uniq {A C C' : Nat → Int} (h : PrimOf A C) (h' : PrimOf A C') : ∀ j, j < 6 → C' j = C j := by
  rcases h with ⟨h1, h2⟩ | ⟨c, hc, h1, h2, k, hk, h3, h4⟩
  · rcases h' with ⟨_, g2⟩ | ⟨d, hd, g1, g2, l, hl, g3, g4⟩
    · intro j hj; rw [h2 j hj, g2 j hj]
    · exfalso
      have := g1 l hl
      rw [h1 l hl] at this
      rcases Int.mul_eq_zero.mp this.symm with h9 | h9 <;> omega
  · rcases h' with ⟨g1, _⟩ | ⟨d, hd, g1, g2, l, hl, g3, g4⟩
    · exfalso
      have := h1 k hk
      rw [g1 k hk] at this
      rcases Int.mul_eq_zero.mp this.symm with h9 | h9 <;> omega
    · have hkl : k = l := by
        rcases Nat.lt_trichotomy k l with h9 | h9 | h9
        · exfalso
          have e := g1 l hl
          rw [h1 l hl, h4 l h9 hl, Int.mul_zero] at e
          rcases Int.mul_eq_zero.mp e.symm with h8 | h8 <;> omega
        · exact h9
        · exfalso
          have e := h1 k hk
          rw [g1 k hk, g4 k h9 hk, Int.mul_zero] at e
          rcases Int.mul_eq_zero.mp e.symm with h8 | h8 <;> omega
      subst hkl
      have e : ∀ j, j < 6 → d * C' j = c * C j := fun j hj => (g1 j hj).symm.trans (h1 j hj)
      rcases Int.lt_or_gt_of_ne hd with hd0 | hd0 <;> rcases Int.lt_or_gt_of_ne hc with hc0 | hc0
      · exact prim_eq (u := -d) (v := -c) (by omega) (by omega) (fun j hj => by rw [Int.neg_mul, Int.neg_mul, e j hj]) h2 g2
      · exfalso
        have := Int.mul_pos hc0 h3
        have := Int.mul_neg_of_neg_of_pos hd0 g3
        have := e k hk
        omega
      · exfalso
        have := Int.mul_neg_of_neg_of_pos hc0 h3
        have := Int.mul_pos hd0 g3
        have := e k hk
        omega
      · exact prim_eq (u := d) (v := c) (by omega) (by omega) e h2 g2
theorem dv_deg {G G' : Nat → Int} {k l : Nat} (hk : k < 6) (hG : G k ≠ 0) (hz : ∀ j, k < j → j < 6 → G j = 0) (hl : l < 6) (hG' : G' l ≠ 0) (hz' : ∀ j, l < j → j < 6 → G' j = 0) (h : Dv (il G 6) (il G' 6)) : k ≤ l := Dg.dvd h (top_Dg hk hG hz) (top_Dg hl hG' hz')
theorem Gcd.uniq {A B G G' : Nat → Int} (h : Gcd A B G) (h' : Gcd A B G') : ∀ j, j < 6 → G' j = G j := by
  rcases h with ⟨h1, h2, h3⟩ | ⟨h1, ⟨k, hk, h2, h3⟩, h4, h5, h6⟩
  · rcases h' with ⟨_, _, g3⟩ | ⟨_, ⟨l, hl, g2, _⟩, ⟨u, w, g4⟩, _, _⟩
    · intro j hj; rw [h3 j hj, g3 j hj]
    · exfalso
      have : G' l = 0 := es_row (fun x => by rw [g4 x, es_zero h1, es_zero h2]; grind) l hl
      omega
  · rcases h' with ⟨g1, g2, _⟩ | ⟨g1, ⟨l, hl, g2, g3⟩, g4, g5, g6⟩
    · exfalso
      obtain ⟨u, w, h4⟩ := h4
      have : G k = 0 := es_row (fun x => by rw [h4 x, es_zero g1, es_zero g2]; grind) k hk
      omega
    · have d1 : Dv (il G 6) (il G' 6) := by
        obtain ⟨u, w, g4⟩ := g4
        exact Dv.comb h5 h6 u w (fun x => by rw [← es_ev, ← es_ev, ← es_ev]; exact g4 x)
      have d2 : Dv (il G' 6) (il G 6) := by
        obtain ⟨u, w, h4⟩ := h4
        exact Dv.comb g5 g6 u w (fun x => by rw [← es_ev, ← es_ev, ← es_ev]; exact h4 x)
      have e1 := dv_deg hk (by omega) h3 hl (by omega) g3 d1
      have e2 := dv_deg hl (by omega) g3 hk (by omega) h3 d2
      have e : k = l := by omega
      subst e
      obtain ⟨q, hq⟩ := d1
      have hz := less_zero (q := G) (D := k) (s := fun j => G k * G' j + (-G' k) * G j) (t := fun _ => 0) (k := 0) hk (by omega) h3 (fun j j1 j2 => by
        by_cases hj : j = k
        · rw [hj, Int.neg_mul, Int.mul_comm (G' k)]; omega
        · rw [h3 j (by omega) j2, g3 j (by omega) j2]; simp) (fun _ _ _ => rfl) (Q := padd (psc (G k : Rat) q) [((-G' k : Int) : Rat)]) (fun x => by
          have e1 := hq x
          rw [← es_ev, ← es_ev] at e1
          rw [es_add, es_sc, es_sc, e1, ev_add, ev_sc]
          simp only [ev]
          grind)
      refine prim_eq (u := G k) (v := G' k) h2 g2 (fun j hj => ?_) h1 g1
      have h9 := es_row (c := fun j => G k * G' j + (-G' k) * G j) (n := 6) (fun x => by rw [hz x]; grind) j hj
      have h8 : G k * G' j + -G' k * G j = 0 := h9
      rw [Int.neg_mul] at h8
      omega
theorem FreeOf.uniq {A F F' : Nat → Int} (hA : Nz A) (h : FreeOf A F) (h' : FreeOf A F') : ∀ j, j < 6 → F' j = F j := by
  obtain ⟨G, p1, C, h1, h2, h3, h4⟩ := h
  obtain ⟨G', p1', C', g1, g2, g3, g4⟩ := h'
  have eG := h1.uniq g1
  have ep := h2.uniq g2
  have hG0 : ¬ ∀ x, ev (il G 6) x = 0 := fun h9 => by
    rcases h1 with ⟨k1, _, _⟩ | ⟨_, ⟨k, hk, k2, _⟩, _, _, _⟩
    · obtain ⟨t, ht, hAt⟩ := hA
      exact hAt (k1 t ht)
    · have : G k = 0 := es_row (fun x => by rw [es_ev]; exact h9 x) k hk
      omega
  have eC : ∀ j, j < 6 → C' j = C j := by
    have hd : (∀ x, ev (padd (il C' 6) (psc (-1) (il C 6))) x = 0) ∨ ∀ x, ev (il G 6) x = 0 := ev_dom (fun x => by
      rw [ev_add, ev_sc, ← es_ev, ← es_ev, ← es_ev]
      have a1 := h3 x
      have a2 := g3 x
      rw [es_congr eG x, es_congr ep x] at a2
      grind)
    rcases hd with hd | hd
    · intro j hj
      have h9 := es_row (c := fun j => C' j + (-1) * C j) (n := 6) (fun x => by
        have := hd x
        rw [ev_add, ev_sc, ← es_ev, ← es_ev] at this
        rw [es_add, es_sc]
        exact this) j hj
      have h8 : C' j + -1 * C j = 0 := h9
      omega
    · exact absurd hd hG0
  exact h4.uniq (g4.congr (fun j hj => (eC j hj).symm))
theorem Cell.uniq {Nb : Rat → Int} {i c c' : Int} {b : Nat} (hm : ∀ x y, rng 2048 x → rng 2048 y → x ≤ y → Nb x ≤ Nb y) (h : Cell Nb i c b) (h' : Cell Nb i c' b) : c' = c := by
  obtain ⟨⟨a1, a2⟩, a3, a4⟩ := h
  obtain ⟨⟨b1, b2⟩, b3, b4⟩ := h'
  rcases Int.lt_trichotomy c c' with h9 | h9 | h9
  · have := hm _ _ (Pt_rng (R := 2048) (t := c + 1) (b := b) (by omega) (by omega)) (Pt_rng (R := 2048) (t := c') (b := b) (by omega) (by omega)) (Pt_le (by omega))
    omega
  · exact h9.symm
  · have := hm _ _ (Pt_rng (R := 2048) (t := c' + 1) (b := b) (by omega) (by omega)) (Pt_rng (R := 2048) (t := c) (b := b) (by omega) (by omega)) (Pt_le (by omega))
    omega
theorem Cell.congr {Nb Nb' : Rat → Int} {i c : Int} {b : Nat} (h : Cell Nb i c b) (hN : ∀ x, Nb' x = Nb x) : Cell Nb' i c b := ⟨h.1, by rw [hN]; exact h.2.1, by rw [hN]; exact h.2.2⟩
theorem Laid.uniq {A F F' c c' : Nat → Int} {nr nr' : Int} (hM : ∀ j, j < 6 → -1000 ≤ A j ∧ A j ≤ 1000) (h : Laid A F nr c) (h' : Laid A F' nr' c') : nr' = nr ∧ (∀ j, j < 6 → F' j = F j) ∧ ∀ i : Nat, (i : Int) < nr → c' i = c i := by
  rcases h with ⟨h1, h2, h3⟩ | ⟨h1, h2, h3⟩
  · rcases h' with ⟨_, g2, g3⟩ | ⟨⟨t, ht, g1⟩, _, _⟩
    · exact ⟨by omega, fun j hj => by rw [h2 j hj, g2 j hj], fun i hi => by omega⟩
    · exact absurd (h1 t ht) g1
  · rcases h' with ⟨g1, _, _⟩ | ⟨g1, g2, g3⟩
    · obtain ⟨t, ht, h1⟩ := h1
      exact absurd (g1 t ht) h1
    · have eF := h2.uniq h1 g2
      rcases h3 with ⟨k1, k2⟩ | ⟨⟨j, j1, j2, j3⟩, r, n, k1, k2, k3⟩
      · rcases g3 with ⟨_, l2⟩ | ⟨⟨j, j1, j2, j3⟩, _⟩
        · exact ⟨by omega, eF, fun i hi => by omega⟩
        · exact absurd ((eF j j2).trans (k1 j j1 j2)) j3
      · rcases g3 with ⟨l1, l2⟩ | ⟨_, r', n', l1, l2, l3⟩
        · exact absurd ((eF j j2).symm.trans (l1 j j1 j2)) j3
        · have l1 := l1.congr (a' := F) (fun j hj => (eF j hj).symm)
          have hn := k1.len l1
          subst hn
          have hp := k1.pp l1
          have e : nr' = nr := by
            rw [l2, k2, (tn_congr (fun k hk => (hp k hk).left)).1, (tn_congr (fun k hk => (hp k hk).right)).1]
          refine ⟨e, eF, fun i hi => ?_⟩
          have hok := (lay_facts h1 hM h2 k1 (k1.two ⟨j, j1, j2, j3⟩)).1 2048 (by decide)
          exact Cell.uniq hok.1 (k3 i hi) ((l3 i (by omega)).congr (fun x => (NbF_same k1 l1 x).symm))
