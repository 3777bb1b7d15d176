/-! a polynomial keeps its sign where its part without repeats has no root -/
theorem pow_nz {D : List Rat} (hD : ¬ ∀ x, ev D x = 0) : ∀ n : Nat, ¬ ∀ x, ev (ppow D n) x = 0 := by
  intro n
  induction n with
  | zero => intro h; have := h 0; simp only [ppow, ev] at this; grind
  | succ n ihn =>
    intro h
    rcases ev_dom (p := D) (q := ppow D n) (fun x => by rw [← ev_mul]; exact h x) with h | h
    · exact hD h
    · exact ihn h
/-- a divisor without divisors of a goes into what is left when the common divisor with the derivative is taken out -/
theorem irr_free {a G F D : List Rat} (ha : ¬ ∀ x, ev a x = 0) (hF : ∀ x, ev a x = ev F x * ev G x) (hGd : Dv G (dv a)) (hD : Irr D) (hDa : Dv D a) : Dv D F := by
  refine Classical.byContradiction (fun hn => ?_)
  have hc : Cop D F := (hD.cop F).resolve_left hn
  obtain ⟨⟨j, k, hj, hDj⟩, _⟩ := id hD
  rcases Dg.or _ a (Nat.le_refl _) with hz | ⟨n, b, _, hna⟩
  · exact ha hz
  obtain ⟨e, u, he, hu⟩ := mult_ex hj hDj _ a n b (Nat.le_refl _) hna
  rcases Nat.eq_zero_or_pos e with he0 | he0
  · subst he0
    obtain ⟨q, hq⟩ := hDa
    exact hu ⟨q, fun x => by rw [← hq x, he x, Rat.pow_zero]; grind⟩
  have hGi : ∀ i, i ≤ e → ∃ q : List Rat, ∀ x, ev G x = ev D x ^ i * ev q x := by
    intro i
    induction i with
    | zero => exact fun _ => ⟨G, fun x => by rw [Rat.pow_zero]; grind⟩
    | succ i ih =>
      intro hi
      obtain ⟨q, hq⟩ := ih (by omega)
      obtain ⟨t, rfl⟩ : ∃ t, e = i + (t + 1) := ⟨e - i - 1, by omega⟩
      have hz : ∀ x, ev (ppow D i) x * ev (padd (pmul F q) (psc (-1) (pmul (ppow D (t + 1)) u))) x = 0 := fun x => by
        have g1 := he x
        have g2 := hF x
        have g3 := hq x
        rw [ev_pow, ev_add, ev_mul, ev_sc, ev_mul, ev_pow]
        have g4 : ev D x ^ (i + (t + 1)) = ev D x ^ i * ev D x ^ (t + 1) := rpow_add _ _ _
        rw [g4] at g1
        grind
      rcases ev_dom hz with h | h
      · exact absurd h (pow_nz hDj.ne i)
      · have hd : Dv D (pmul F q) := ⟨pmul (ppow D t) u, fun x => by
          have := h x
          rw [ev_add, ev_mul, ev_sc, ev_mul, ev_pow, Rat.pow_succ] at this
          rw [ev_mul, ev_mul, ev_pow]
          grind⟩
        obtain ⟨q2, hq2⟩ := hc.euclid hd
        exact ⟨q2, fun x => by rw [hq x, hq2 x, Rat.pow_succ]; grind⟩
  obtain ⟨q, hq⟩ := hGi e (Nat.le_refl _)
  obtain ⟨s, hs⟩ := hGd
  obtain ⟨i, rfl⟩ : ∃ i, e = i + 1 := ⟨e - 1, by omega⟩
  have hz : ∀ x, ev (ppow D i) x * ev (padd (psc ((i + 1 : Nat) : Rat) (pmul (dv D) u)) (pmul D (padd (dv u) (psc (-1) (pmul s q))))) x = 0 := fun x => by
    have g1 := hs x
    rw [dv_congr (q := pmul (ppow D (i + 1)) u) (fun y => by rw [ev_mul, ev_pow]; exact he y) x, dv_mul, dv_pow, ev_pow, hq x, Rat.pow_succ] at g1
    rw [ev_pow]
    simp only [ev_add, ev_mul, ev_sc]
    grind
  have hi : ((i + 1 : Nat) : Rat) ≠ 0 := by
    intro h
    have : i + 1 = 0 := by exact_mod_cast h
    omega
  have hii : ((i + 1 : Nat) : Rat)⁻¹ * ((i + 1 : Nat) : Rat) = 1 := Rat.inv_mul_cancel _ hi
  rcases ev_dom hz with h | h
  · exact absurd h (pow_nz hDj.ne i)
  · have hDD : ¬ Dv D (dv D) := fun h => by
      obtain ⟨i, rfl⟩ : ∃ i, j = i + 1 := ⟨j - 1, by omega⟩
      have := Dg.dvd h hDj hDj.deriv
      omega
    have hcop : Cop D (dv D) := (hD.cop (dv D)).resolve_left hDD
    refine hu (hcop.euclid ⟨psc (((i + 1 : Nat) : Rat)⁻¹) (padd (pmul s q) (psc (-1) (dv u))), fun x => ?_⟩)
    have := h x
    simp only [ev_add, ev_mul, ev_sc] at this ⊢
    generalize ((i + 1 : Nat) : Rat) = K at *
    grind
theorem irr_in {V F : Nat → Int} (hV : Nz V) (h : FreeOf V F) {D : List Rat} (hD : Irr D) (hd : Dv D (il V 6)) : Dv D (il F 6) := by
  obtain ⟨G, p1, C, h1, h2, h3, h4⟩ := h
  obtain ⟨t, ht, hVt⟩ := hV
  rcases h1 with ⟨g1, _, _⟩ | ⟨_, _, _, _, g5⟩
  · exact absurd (g1 t ht) hVt
  rcases h2 with ⟨p2, _⟩ | ⟨c, hc, p2, _, _⟩
  · exact absurd (p2 t ht) hVt
  have hne : ¬ ∀ x, ev (il V 6) x = 0 := fun h => hVt (es_row (fun x => by rw [es_ev]; exact h x) t ht)
  have hAes : ∀ x, es V 6 x = (c : Rat) * es p1 6 x := fun x => by rw [← es_sc]; exact es_congr p2 x
  have hk := irr_free (a := il V 6) (G := il G 6) (F := psc (c : Rat) (il C 6)) hne (fun x => by rw [ev_sc, ← es_ev, ← es_ev, ← es_ev, hAes x, h3 x]; grind) (by
    obtain ⟨q, hq⟩ := g5
    exact ⟨q, fun x => by rw [dv_il, es_ev]; exact hq x⟩) hD hd
  rcases h4 with ⟨f1, _⟩ | ⟨d, hd0, f2, _, _⟩
  · exfalso
    refine hne (fun x => ?_)
    rw [← es_ev, hAes x, h3 x, es_zero f1]
    grind
  · obtain ⟨q, hq⟩ := hk
    have hcd : (c : Rat) * (d : Rat) ≠ 0 := fun h0 => by
      have : c * d = 0 := by exact_mod_cast h0
      rcases Int.mul_eq_zero.mp this with h | h
      · exact hc h
      · exact hd0 h
    have hcc : ((c : Rat) * (d : Rat))⁻¹ * ((c : Rat) * (d : Rat)) = 1 := Rat.inv_mul_cancel _ hcd
    refine ⟨psc (((c : Rat) * (d : Rat))⁻¹) q, fun x => ?_⟩
    have := hq x
    rw [ev_sc, ← es_ev, es_congr f2 x, es_sc] at this
    rw [ev_sc, ← es_ev]
    generalize ((c : Rat) * (d : Rat))⁻¹ = K at *
    grind
/-- whole coefficients for a list of degree below 6 -/
theorem row_of {D : List Rat} {m : Nat} {c : Rat} (hm : m < 6) (h : Dg (ev D) m c) : ∃ (P : Nat → Int) (k : Nat), 0 < k ∧ ∀ x, es P 6 x = (k : Rat) * ev D x := by
  obtain ⟨_, r, hr, e⟩ := h
  obtain ⟨k, hk, C, hC⟩ := one_lower (padd r (mono m c))
  have hl := padd_len r (mono m c)
  have hl2 : (padd r (mono m c)).length ≤ 6 := by
    simp only [mono, List.length_append, List.length_replicate, List.length_cons, List.length_nil] at hl ⊢
    omega
  refine ⟨fun j => if j < (padd r (mono m c)).length then C j else 0, k, hk, fun x => ?_⟩
  have e1 := es_more (c := fun j => if j < (padd r (mono m c)).length then C j else 0) (n := (padd r (mono m c)).length) x 6 hl2 (fun j h1 h2 => if_neg (by omega))
  have e2 : es (fun j => if j < (padd r (mono m c)).length then C j else 0) (padd r (mono m c)).length x = es C (padd r (mono m c)).length x := es_congr (fun k hk => if_pos hk) x
  rw [e1, e2, ← hC x, ev_add, ev_mono, e x]
  grind
theorem sg_kmul {k : Nat} (hk : 0 < k) (b : Rat) : sg ((k : Rat) * b) = sg b := sg_pmul (by exact_mod_cast hk)
theorem sc_dv {F : Nat → Int} {N : Rat → Int} {x w : Rat} (hF : Sqf F) (hN : NB F N) (hxw : x < w) (hNe : N x = N w) (fx : es F 6 x ≠ 0) (fw : es F 6 w ≠ 0) {D : List Rat} (hd : Dv D (il F 6)) : sg (ev D x) = sg (ev D w) := by
  obtain ⟨q, hq⟩ := hd
  have e0 : ∀ y, es F 6 y = ev q y * ev D y := fun y => by rw [es_ev]; exact hq y
  obtain ⟨t, ht, hFt, hFz⟩ := top_of hF.1
  have hFd := top_Dg ht hFt hFz
  have hnz := hFd.ne
  rcases Dg.or _ D (Nat.le_refl _) with hz | ⟨m, c, _, hDm⟩
  · exact absurd (fun y => by rw [hq y, hz y]; grind) hnz
  rcases Dg.or _ q (Nat.le_refl _) with hz | ⟨i, b, _, hqi⟩
  · exact absurd (fun y => by rw [hq y, hz y]; grind) hnz
  have d1 := Dg.dvd ⟨q, hq⟩ hDm hFd
  have d2 := Dg.dvd ⟨D, fun y => by rw [hq y, Rat.mul_comm]⟩ hqi hFd
  obtain ⟨P, k1, hk1, hP⟩ := row_of (show m < 6 by omega) hDm
  obtain ⟨H, k2, hk2, hH⟩ := row_of (show i < 6 by omega) hqi
  have hk : ((k1 * k2 : Nat) : Int) ≠ 0 := by
    have := Nat.mul_pos hk1 hk2
    omega
  have e : ∀ y, es (fun j => ((k1 * k2 : Nat) : Int) * F j) 6 y = es H 6 y * es P 6 y := fun y => by
    rw [es_sc, e0 y, hP y, hH y]
    have : (((k1 * k2 : Nat) : Int) : Rat) = (k1 : Rat) * (k2 : Rat) := by push_cast; rfl
    rw [this]
    grind
  have hF2 := hF.scl hk
  obtain ⟨s1, s2, s3⟩ := hF2.parts e
  obtain ⟨N2, hN2⟩ := NB.ex hF2.1
  obtain ⟨M, hM⟩ := NB.ex s1.1
  obtain ⟨K, hK⟩ := NB.ex s2.1
  have a1 := NB.scl hk hF hN hN2 (Rat.le_of_lt hxw)
  have a2 := NB.mul hF2 e hN2 hM hK x w (Rat.le_of_lt hxw)
  have a3 := hM.mono s1 (Rat.le_of_lt hxw)
  have a4 := hK.mono s2 (Rat.le_of_lt hxw)
  have nzP : ∀ y, es F 6 y ≠ 0 → sg (es P 6 y) ≠ 0 := fun y hy => sg_ne (fun h => hy (by
    have h1 := hP y
    rw [h] at h1
    have h2 : (k1 : Rat) ≠ 0 := by
      intro h3
      have : k1 = 0 := by exact_mod_cast h3
      omega
    rcases Rat.mul_eq_zero.mp h1.symm with h3 | h3
    · exact absurd h3 h2
    · rw [e0 y, h3]; grind))
  have := (hM.par s1 hxw (nzP x fx) (nzP w fw)).mpr (by omega)
  rw [hP, hP, sg_kmul hk1, sg_kmul hk1] at this
  exact this
theorem sc_all {F : Nat → Int} {N : Rat → Int} {x w : Rat} (hF : Sqf F) (hN : NB F N) (hxw : x < w) (hNe : N x = N w) (fx : es F 6 x ≠ 0) (fw : es F 6 w ≠ 0) : ∀ (n : Nat) (a : List Rat) (m : Nat) (c : Rat), m ≤ n → Dg (ev a) m c → (∀ D, Irr D → Dv D a → Dv D (il F 6)) → sg (ev a x) = sg (ev a w) := by
  intro n
  induction n with
  | zero =>
    intro a m c hm ha _
    obtain rfl : m = 0 := by omega
    obtain ⟨k, _, hk⟩ := ha.unit
    rw [hk, hk]
  | succ n ih =>
    intro a m c hm ha hirr
    rcases Nat.eq_zero_or_pos m with h0 | h0
    · subst h0
      obtain ⟨k, _, hk⟩ := ha.unit
      rw [hk, hk]
    · obtain ⟨D, hD, hDa⟩ := Irr.ex _ a m c (Nat.le_refl _) h0 ha
      have hDF := hirr D hD hDa
      obtain ⟨q, hq⟩ := id hDa
      obtain ⟨⟨j, k, hj, hDj⟩, _⟩ := id hD
      rcases Dg.or _ q (Nat.le_refl _) with hz | ⟨i, b, _, hqi⟩
      · exact absurd (fun y => by rw [hq y, hz y]; grind) ha.ne
      have hm2 : Dg (ev a) (i + j) (b * k) := by
        have := hqi.mul hDj
        rw [← show ev a = fun x => ev q x * ev D x from funext hq] at this
        exact this
      have hle := Dg.dvd (Dv.refl a) hm2 ha
      have h1 := ih q i b (by omega) hqi (fun E hE hEq => hirr E hE (hEq.trans ⟨D, fun y => by rw [hq y, Rat.mul_comm]⟩))
      have h2 := sc_dv hF hN hxw hNe fx fw hDF
      rw [hq x, hq w, sg_mul, sg_mul, h1, h2]
/-- the sign of V is the same at two places with no root between -/
theorem sg_keep {V F : Nat → Int} {N : Rat → Int} {x w : Rat} (hV : Nz V) (hf : FreeOf V F) (hF : Sqf F) (hN : NB F N) (hxw : x ≤ w) (hNe : N x = N w) (fx : es F 6 x ≠ 0) (fw : es F 6 w ≠ 0) : sg (es V 6 x) = sg (es V 6 w) := by
  rcases Rat.le_iff_lt_or_eq.mp hxw with hlt | rfl
  · obtain ⟨t, ht, hVt, hVz⟩ := top_of hV
    rw [es_ev, es_ev]
    exact sc_all hF hN hlt hNe fx fw _ (il V 6) t _ (Nat.le_refl _) (top_Dg ht hVt hVz) (fun D hD hd => irr_in hV hf hD hd)
  · rfl
