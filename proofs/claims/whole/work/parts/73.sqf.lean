/-! the row that squareFree leaves has no repeated factor -/
theorem dv_il (A : Nat → Int) (x : Rat) : ev (dv (il A 6)) x = es (dva A) 6 x := by
  have e : il A 6 = [(A 0 : Rat), (A 1 : Rat), (A 2 : Rat), (A 3 : Rat), (A 4 : Rat), (A 5 : Rat)] := rfl
  rw [e, es6]
  simp only [ev_dv, ev]
  have d0 : dva A 0 = 1 * A 1 := rfl
  have d1 : dva A 1 = 2 * A 2 := rfl
  have d2 : dva A 2 = 3 * A 3 := rfl
  have d3 : dva A 3 = 4 * A 4 := rfl
  have d4 : dva A 4 = 5 * A 5 := rfl
  have d5 : dva A 5 = 0 := rfl
  rw [d0, d1, d2, d3, d4, d5]
  simp only [Rat.intCast_mul]
  have h1 : ((1 : Int) : Rat) = 1 := rfl
  have h2 : ((2 : Int) : Rat) = 2 := rfl
  have h3 : ((3 : Int) : Rat) = 3 := rfl
  have h4 : ((4 : Int) : Rat) = 4 := rfl
  have h5 : ((5 : Int) : Rat) = 5 := rfl
  have h6 : ((0 : Int) : Rat) = 0 := rfl
  have h7 : ev (dv []) x = 0 := rfl
  rw [h1, h2, h3, h4, h5, h6, h7]
  grind
theorem cop_scale {a b : List Rat} {k : Rat} (h : ∀ x, ev a x = k * ev b x) (hc : Cop a (dv a)) : Cop b (dv b) := by
  obtain ⟨u, w, hc⟩ := hc
  refine ⟨psc k u, psc k w, fun x => ?_⟩
  have h1 := hc x
  have h2 : ev (dv a) x = k * ev (dv b) x := by rw [dv_congr (q := psc k b) (fun y => by rw [ev_sc]; exact h y) x, dv_sc]
  rw [h x, h2] at h1
  rw [ev_sc, ev_sc]
  grind
theorem sqf_cop {A G p1 C F : Nat → Int} (hA : ∃ t, t < 6 ∧ A t ≠ 0) (hG : Gcd A (dva A) G) (hp : PrimOf A p1) (hC : ∀ x, es p1 6 x = es C 6 x * es G 6 x) (hF : PrimOf C F) : Cop (il F 6) (dv (il F 6)) := by
  obtain ⟨t, ht, hAt⟩ := hA
  rcases hG with ⟨g1, _, _⟩ | ⟨_, _, ⟨u, w, g3⟩, _, _⟩
  · exact absurd (g1 t ht) hAt
  rcases hp with ⟨p2, _⟩ | ⟨c, hc, p2, _, _⟩
  · exact absurd (p2 t ht) hAt
  have hAes : ∀ x, es A 6 x = (c : Rat) * es p1 6 x := fun x => by rw [← es_sc]; exact es_congr p2 x
  have hne : ¬ ∀ x, ev (il A 6) x = 0 := fun h => hAt (es_row (fun x => by rw [es_ev]; exact h x) t ht)
  have h1 : Cop (psc (c : Rat) (il C 6)) (dv (psc (c : Rat) (il C 6))) := by
    refine sq_free (a := il A 6) (G := il G 6) (U := u) (W0 := w) hne (fun x => ?_) (fun x => ?_)
    · rw [dv_il, ← es_ev, ← es_ev]; exact g3 x
    · rw [ev_sc, ← es_ev, ← es_ev, ← es_ev, hAes x, hC x]; grind
  rcases hF with ⟨f1, _⟩ | ⟨d, hd, f2, _, _⟩
  · exfalso
    refine hne (fun x => ?_)
    rw [← es_ev, hAes x, hC x, es_zero f1]
    grind
  · refine cop_scale (k := (c : Rat) * (d : Rat)) (fun x => ?_) h1
    rw [ev_sc, ← es_ev, ← es_ev, es_congr f2 x, es_sc]
    grind
