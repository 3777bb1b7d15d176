def il (c : Nat → Int) (n : Nat) : List Rat := (List.range n).map (fun k => (c k : Rat))
theorem ev_snoc (l : List Rat) (c x : Rat) : ev (l ++ [c]) x = ev l x + c * x ^ l.length := by
  induction l with
  | nil => simp only [List.nil_append, ev, List.length_nil]; rw [Rat.pow_zero]; grind
  | cons a t ih => simp only [List.cons_append, ev, ih, List.length_cons, Rat.pow_succ]; grind
theorem il_len (c : Nat → Int) (n : Nat) : (il c n).length = n := by simp [il]
theorem es_ev (c : Nat → Int) (n : Nat) (x : Rat) : es c n x = ev (il c n) x := by
  induction n with
  | zero => rfl
  | succ n ih =>
    have : il c (n + 1) = il c n ++ [(c n : Rat)] := by simp [il, List.range_succ]
    rw [this, ev_snoc, il_len, es, ih]
theorem es_Dg {c : Nat → Int} {n : Nat} (h : c n ≠ 0) : Dg (ev (il c (n + 1))) n (c n : Rat) := by
  refine ⟨fun h0 => h (by exact_mod_cast h0), il c n, by rw [il_len]; exact Nat.le_refl _, fun x => ?_⟩
  rw [← es_ev, es, es_ev]
  grind
theorem es_row {c : Nat → Int} {n : Nat} (h : ∀ x, es c n x = 0) : ∀ k, k < n → c k = 0 := by
  intro k hk
  have h1 := ev_zero_row (il c n) (fun x => by rw [← es_ev]; exact h x) (c k : Rat) (by
    rw [il, List.mem_map]
    exact ⟨k, List.mem_range.mpr hk, rfl⟩)
  exact_mod_cast h1
/-- for two that share no root the number is not 0 -/
theorem comb_ne {A B U W : Nat → Int} {a b : Nat} {r : Int} (ha : A a ≠ 0) (hc : Cop (il A (a + 1)) (il B (b + 1))) (hne : (∃ k, k < b ∧ U k ≠ 0) ∨ (∃ k, k < a ∧ W k ≠ 0)) (h : ∀ x, es U b x * es A (a + 1) x + es W a x * es B (b + 1) x = (r : Rat)) : r ≠ 0 := by
  intro hr
  subst hr
  have hd : Dv (il A (a + 1)) (pmul (il B (b + 1)) (il W a)) := ⟨psc (-1) (il U b), fun x => by
    have := h x
    rw [es_ev, es_ev, es_ev, es_ev] at this
    rw [ev_mul, ev_sc]
    have h0 : ((0 : Int) : Rat) = 0 := rfl
    rw [h0] at this
    grind⟩
  obtain ⟨q, hq⟩ := hc.euclid hd
  have hu := (es_Dg ha).uniq q (il W a) (by rw [il_len]; exact Nat.le_refl _) (fun x => (hq x).symm)
  have hW : ∀ k, k < a → W k = 0 := es_row (fun x => by rw [es_ev]; exact hu.2 x)
  have hU : ∀ k, k < b → U k = 0 := by
    refine es_row (fun x => ?_)
    have h1 : ∀ x, ev (il U b) x * ev (il A (a + 1)) x = 0 := fun x => by
      have := h x
      rw [es_ev, es_ev, es_ev, es_ev, hu.2 x] at this
      have h0 : ((0 : Int) : Rat) = 0 := rfl
      rw [h0] at this
      grind
    rcases ev_dom h1 with h2 | h2
    · rw [es_ev]; exact h2 x
    · exact absurd h2 (es_Dg ha).ne
  rcases hne with ⟨k, hk, h1⟩ | ⟨k, hk, h1⟩
  · exact h1 (hU k hk)
  · exact h1 (hW k hk)
