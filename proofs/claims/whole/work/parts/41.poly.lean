/-! polynomials as functions -/
/-- division by x - a -/
def pd : List Rat → Rat → List Rat
  | [], _ => []
  | _ :: t, a => padd t (psc a (pd t a))
theorem pd_len (p : List Rat) (a : Rat) : (pd p a).length ≤ p.length - 1 := by
  induction p with
  | nil => simp [pd]
  | cons c t ih =>
    have h : ∀ (u v : List Rat), (padd u v).length ≤ max u.length v.length := by
      intro u
      induction u with
      | nil => intro v; simp [padd]
      | cons b s ih2 =>
        intro v
        cases v with
        | nil => simp [padd]
        | cons d w => simp only [padd, List.length_cons]; have := ih2 w; omega
    have h1 := h t (psc a (pd t a))
    simp only [pd, List.length_cons]
    simp only [psc, List.length_map] at h1 ⊢
    omega
theorem ev_pd (p : List Rat) (a x : Rat) : ev p x - ev p a = (x - a) * ev (pd p a) x := by
  induction p with
  | nil => simp [ev, pd]; grind
  | cons c t ih =>
    simp only [pd, ev_add, ev_sc, ev]
    grind
/-- a polynomial of n coefficients that is 0 at n different places is 0 everywhere -/
theorem ev_roots : ∀ (n : Nat) (p : List Rat) (xs : List Rat), p.length ≤ n → xs.length = n → xs.Nodup → (∀ x ∈ xs, ev p x = 0) → ∀ x, ev p x = 0 := by
  intro n
  induction n with
  | zero =>
    intro p xs hp _ _ _ x
    rw [List.length_eq_zero_iff.mp (show p.length = 0 by omega)]
    rfl
  | succ n ih =>
    intro p xs hp hx hN h x
    cases xs with
    | nil => simp at hx
    | cons a t =>
      have ha := h a (by simp)
      have h1 := pd_len p a
      have h2 := ih (pd p a) t (by omega) (by simpa using hx) (List.nodup_cons.mp hN).2 (fun y hy => by
        have e := ev_pd p a y
        rw [h y (by simp [hy]), ha] at e
        have hya : y - a ≠ 0 := fun hh => (List.nodup_cons.mp hN).1 (by rw [show a = y by grind]; exact hy)
        have e2 : (y - a) * ev (pd p a) y = 0 := by grind
        rcases Rat.mul_eq_zero.mp e2 with h3 | h3
        · exact absurd h3 hya
        · exact h3)
      have e := ev_pd p a x
      rw [h2 x, ha] at e
      grind
/-- zero as a function: zero as a row -/
theorem ev_zero_row (p : List Rat) (h : ∀ x, ev p x = 0) : ∀ c ∈ p, c = 0 := by
  induction p with
  | nil => intro c hc; simp at hc
  | cons a t ih =>
    have h0 := h 0
    simp only [ev] at h0
    have ha : a = 0 := by grind
    subst ha
    have ht : ∀ x, ev t x = 0 := by
      have hne : ∀ n : Nat, ev t ((n : Rat) + 1) = 0 := by
        intro n
        have h1 := h ((n : Rat) + 1)
        simp only [ev] at h1
        have h2 : ((n : Rat) + 1) ≠ 0 := by
          have : (0 : Rat) ≤ (n : Rat) := by exact_mod_cast Nat.zero_le n
          grind
        rcases Rat.mul_eq_zero.mp (show ((n : Rat) + 1) * ev t ((n : Rat) + 1) = 0 by grind) with h3 | h3
        · exact absurd h3 h2
        · exact h3
      refine ev_roots t.length t ((List.range t.length).map (fun n : Nat => ((n : Rat) + 1))) (Nat.le_refl _) (by simp) ?_ ?_
      · rw [List.nodup_iff_pairwise_ne, List.pairwise_map]
        refine List.Pairwise.imp ?_ List.nodup_range
        intro x y hxy hh
        apply hxy
        have : (x : Rat) = (y : Rat) := by grind
        exact_mod_cast this
      · intro x hx
        obtain ⟨n, _, rfl⟩ := List.mem_map.mp hx
        exact hne n
    intro c hc
    rcases List.mem_cons.mp hc with h1 | h1
    · exact h1
    · exact ih ht c h1
def mono (m : Nat) (c : Rat) : List Rat := List.replicate m 0 ++ [c]
theorem ev_mono (m : Nat) (c x : Rat) : ev (mono m c) x = c * x ^ m := by
  induction m with
  | zero => simp [mono, ev]; grind
  | succ m ih =>
    have : mono (m + 1) c = 0 :: mono m c := rfl
    rw [this, ev, ih, Rat.pow_succ]
    grind
theorem mem_mono : ∀ (m : Nat) (c : Rat) (r : List Rat), r.length ≤ m → c ∈ padd r (mono m c)
  | 0, c, r, h => by
    rw [List.length_eq_zero_iff.mp (show r.length = 0 by omega)]
    simp [padd, mono]
  | m + 1, c, [], _ => by simp [padd, mono]
  | m + 1, c, a :: r, h => by
    have : mono (m + 1) c = 0 :: mono m c := rfl
    rw [this]
    simp only [padd]
    exact List.mem_cons_of_mem _ (mem_mono m c r (by simpa using h))
/-- degree m with the lead c -/
def Dg (f : Rat → Rat) (m : Nat) (c : Rat) : Prop := c ≠ 0 ∧ ∃ r : List Rat, r.length ≤ m ∧ ∀ x, f x = c * x ^ m + ev r x
theorem Dg.ne {f : Rat → Rat} {m : Nat} {c : Rat} (h : Dg f m c) : ¬ ∀ x, f x = 0 := by
  obtain ⟨hc, r, hr, h⟩ := h
  intro h0
  have h1 := ev_zero_row (padd r (mono m c)) (fun x => by rw [ev_add, ev_mono, ← h0 x, h x]; grind)
  exact hc (h1 c (mem_mono m c r hr))
/-- a row with the top power taken apart -/
theorem top_split : ∀ (m : Nat) (p : List Rat), p.length ≤ m + 1 → ∃ (c : Rat) (r : List Rat), r.length ≤ m ∧ ∀ x, ev p x = c * x ^ m + ev r x
  | 0, p, h => by
    cases p with
    | nil => exact ⟨0, [], by simp, fun x => by simp [ev]; grind⟩
    | cons a t =>
      have : t = [] := List.length_eq_zero_iff.mp (by simp at h; simpa using h)
      subst this
      exact ⟨a, [], by simp, fun x => by simp only [ev]; grind⟩
  | m + 1, p, h => by
    cases p with
    | nil => exact ⟨0, [], by simp, fun x => by simp only [ev]; grind⟩
    | cons a t =>
      obtain ⟨c, r, hr, hh⟩ := top_split m t (by simpa using h)
      exact ⟨c, a :: r, by simpa using hr, fun x => by simp only [ev, hh x, Rat.pow_succ]; grind⟩
theorem Dg.or (n : Nat) : ∀ (p : List Rat), p.length ≤ n → (∀ x, ev p x = 0) ∨ ∃ m c, m < n ∧ Dg (ev p) m c := by
  induction n with
  | zero =>
    intro p h
    rw [List.length_eq_zero_iff.mp (show p.length = 0 by omega)]
    exact Or.inl (fun x => rfl)
  | succ n ih =>
    intro p h
    obtain ⟨c, r, hr, hh⟩ := top_split n p h
    by_cases hc : c = 0
    · rcases ih r hr with h1 | ⟨m, d, hm, hd, r2, h2, h3⟩
      · left
        intro x
        rw [hh x, h1 x, hc]
        grind
      · right
        exact ⟨m, d, by omega, hd, r2, h2, fun x => by rw [hh x, hc, ← h3 x]; grind⟩
    · right
      exact ⟨n, c, by omega, hc, r, hr, hh⟩
def psh (m : Nat) (p : List Rat) : List Rat := List.replicate m 0 ++ p
theorem ev_sh (m : Nat) (p : List Rat) (x : Rat) : ev (psh m p) x = x ^ m * ev p x := by
  induction m with
  | zero => simp [psh]
  | succ m ih =>
    have : psh (m + 1) p = 0 :: psh m p := rfl
    rw [this, ev, ih, Rat.pow_succ]
    grind
theorem padd_len : ∀ (u v : List Rat), (padd u v).length ≤ max u.length v.length := by
  intro u
  induction u with
  | nil => intro v; simp [padd]
  | cons b s ih2 =>
    intro v
    cases v with
    | nil => simp [padd]
    | cons d w => simp only [padd, List.length_cons]; have := ih2 w; omega
theorem pmul_len (u v : List Rat) : (pmul u v).length ≤ u.length + v.length := by
  induction u with
  | nil => simp [pmul]
  | cons a t ih =>
    have h1 := padd_len (psc a v) (0 :: pmul t v)
    simp only [psc, List.length_map, List.length_cons] at h1
    simp only [pmul, List.length_cons, psc] at h1 ⊢
    omega
theorem rpow_add (x : Rat) (m n : Nat) : x ^ (m + n) = x ^ m * x ^ n := by
  induction n with
  | zero => simp
  | succ n ih => rw [← Nat.add_assoc, Rat.pow_succ, ih, Rat.pow_succ]; grind
theorem Dg.mul {f g : Rat → Rat} {m n : Nat} {c d : Rat} (hf : Dg f m c) (hg : Dg g n d) : Dg (fun x => f x * g x) (m + n) (c * d) := by
  obtain ⟨hc, r, hr, h⟩ := hf
  obtain ⟨hd, s, hs, k⟩ := hg
  have hcd : c * d ≠ 0 := fun hh => by
    rcases Rat.mul_eq_zero.mp hh with h | h
    · exact hc h
    · exact hd h
  refine ⟨hcd, padd (padd (psh m (psc c s)) (psh n (psc d r))) (pmul r s), ?_, fun x => ?_⟩
  · have h1 := padd_len (padd (psh m (psc c s)) (psh n (psc d r))) (pmul r s)
    have h2 := padd_len (psh m (psc c s)) (psh n (psc d r))
    have h3 := pmul_len r s
    simp only [psh, psc, List.length_append, List.length_replicate, List.length_map] at h1 h2
    simp only [psh, psc] at h1 h2 ⊢
    omega
  · simp only [ev_add, ev_sh, ev_sc, ev_mul, h x, k x, rpow_add]
    grind
/-- the remainder is 0 if it has fewer powers than the divisor -/
theorem Dg.uniq {f : Rat → Rat} {m : Nat} {c : Rat} (hf : Dg f m c) (q r : List Rat) (hr : r.length ≤ m) (h : ∀ x, ev q x * f x = ev r x) : (∀ x, ev q x = 0) ∧ ∀ x, ev r x = 0 := by
  rcases Dg.or _ q (Nat.le_refl _) with h0 | ⟨n, d, _, hq⟩
  · exact ⟨h0, fun x => by rw [← h x, h0 x]; grind⟩
  · exfalso
    obtain ⟨hne, s, hs, hh⟩ := hq.mul hf
    have h1 := ev_zero_row (padd (padd s (psc (-1) r)) (mono (n + m) (d * c))) (fun x => by
      have := hh x
      rw [ev_add, ev_add, ev_sc, ev_mono, ← h x]
      grind)
    refine hne (h1 _ (mem_mono _ _ _ ?_))
    have h2 := padd_len s (psc (-1) r)
    simp only [psc, List.length_map] at h2 ⊢
    omega
/-- division -/
theorem Dg.div {d : List Rat} {m : Nat} {c : Rat} (hd : Dg (ev d) m c) (f : List Rat) : ∃ q r : List Rat, r.length ≤ m ∧ ∀ x, ev f x = ev q x * ev d x + ev r x := by
  induction f with
  | nil => exact ⟨[], [], by simp, fun x => by simp only [ev]; grind⟩
  | cons a t ih =>
    obtain ⟨q, r, hr, h⟩ := ih
    obtain ⟨k, s, hs, hk⟩ := top_split m (a :: r) (by simpa using hr)
    obtain ⟨hc, u, hu, hd⟩ := hd
    refine ⟨padd (0 :: q) [k * c⁻¹], padd s (psc (-(k * c⁻¹)) u), ?_, fun x => ?_⟩
    · have h2 := padd_len s (psc (-(k * c⁻¹)) u)
      simp only [psc, List.length_map] at h2 ⊢
      omega
    · have h3 := hk x
      simp only [ev] at h3
      simp only [ev_add, ev_sc, ev, h x]
      have h4 := hd x
      have hcc : c⁻¹ * c = 1 := Rat.inv_mul_cancel c hc
      rw [h4]
      grind
/-! divisors -/
def Dv (a b : List Rat) : Prop := ∃ q : List Rat, ∀ x, ev b x = ev q x * ev a x
theorem Dv.refl (a : List Rat) : Dv a a := ⟨[1], fun x => by simp only [ev]; grind⟩
theorem Dv.trans {a b c : List Rat} (h : Dv a b) (k : Dv b c) : Dv a c := by
  obtain ⟨q, hq⟩ := h
  obtain ⟨r, hr⟩ := k
  exact ⟨pmul r q, fun x => by rw [hr x, hq x, ev_mul]; grind⟩
theorem Dv.comb {a b c d : List Rat} (h : Dv a b) (k : Dv a c) (u w : List Rat) (hd : ∀ x, ev d x = ev u x * ev b x + ev w x * ev c x) : Dv a d := by
  obtain ⟨q, hq⟩ := h
  obtain ⟨r, hr⟩ := k
  exact ⟨padd (pmul u q) (pmul w r), fun x => by rw [hd x, hq x, hr x, ev_add, ev_mul, ev_mul]; grind⟩
theorem Dv.mulr {a b : List Rat} (h : Dv a b) (c : List Rat) : Dv a (pmul b c) := by
  obtain ⟨q, hq⟩ := h
  exact ⟨pmul q c, fun x => by rw [ev_mul, ev_mul, hq x]; grind⟩
/-- a greatest common divisor, with what makes it of the two -/
theorem gcd_ex (n : Nat) : ∀ (a b : List Rat), b.length ≤ n → ¬ (∀ x, ev a x = 0) ∨ ¬ (∀ x, ev b x = 0) → ∃ g u w : List Rat, (∀ x, ev g x = ev u x * ev a x + ev w x * ev b x) ∧ Dv g a ∧ Dv g b ∧ ¬ ∀ x, ev g x = 0 := by
  induction n with
  | zero =>
    intro a b hb h
    have hb0 : ∀ x, ev b x = 0 := fun x => by rw [List.length_eq_zero_iff.mp (show b.length = 0 by omega)]; rfl
    exact ⟨a, [1], [], fun x => by simp only [ev]; grind, Dv.refl a, ⟨[], fun x => by rw [hb0 x]; simp only [ev]; grind⟩, h.elim id (fun h1 => absurd hb0 h1)⟩
  | succ n ih =>
    intro a b hb h
    rcases Dg.or _ b hb with h0 | ⟨m, c, hm, hd⟩
    · exact ⟨a, [1], [], fun x => by simp only [ev]; grind, Dv.refl a, ⟨[], fun x => by rw [h0 x]; simp only [ev]; grind⟩, h.elim id (fun h1 => absurd h0 h1)⟩
    · obtain ⟨q, r, hr, hq⟩ := hd.div a
      obtain ⟨g, u, w, h1, h2, h3, h4⟩ := ih b r (by omega) (Or.inl hd.ne)
      refine ⟨g, w, padd u (psc (-1) (pmul w q)), fun x => ?_, Dv.comb h2 h3 q [1] (fun x => ?_), h2, h4⟩
      · rw [h1 x, ev_add, ev_sc, ev_mul, hq x]
        grind
      · rw [hq x]; simp only [ev]; grind
def Cop (a b : List Rat) : Prop := ∃ u w : List Rat, ∀ x, ev u x * ev a x + ev w x * ev b x = 1
/-- no more than a number: degree 0 -/
theorem Dg.unit {g : List Rat} {c : Rat} (h : Dg (ev g) 0 c) : ∃ k : Rat, k ≠ 0 ∧ ∀ x, ev g x = k := by
  obtain ⟨hc, r, hr, h⟩ := h
  refine ⟨c, hc, fun x => ?_⟩
  rw [h x, List.length_eq_zero_iff.mp (show r.length = 0 by omega)]
  simp only [ev]
  grind
/-- D has no divisor but numbers and its own multiples -/
def Irr (D : List Rat) : Prop := (∃ m c, 0 < m ∧ Dg (ev D) m c) ∧ ∀ d : List Rat, Dv d D → (∃ k : Rat, k ≠ 0 ∧ ∀ x, ev d x = k) ∨ Dv D d
theorem Irr.cop {D : List Rat} (hD : Irr D) (a : List Rat) : Dv D a ∨ Cop D a := by
  obtain ⟨⟨m, c, hm, hd⟩, h⟩ := hD
  obtain ⟨g, u, w, h1, h2, h3, h4⟩ := gcd_ex _ D a (Nat.le_refl _) (Or.inl hd.ne)
  rcases h g h2 with ⟨k, hk, hg⟩ | h5
  · right
    refine ⟨psc k⁻¹ u, psc k⁻¹ w, fun x => ?_⟩
    have := h1 x
    rw [hg x] at this
    have hkk : k⁻¹ * k = 1 := Rat.inv_mul_cancel k hk
    rw [ev_sc, ev_sc]
    grind
  · left
    exact h5.trans h3
theorem Cop.euclid {D a b : List Rat} (h : Cop D a) (hd : Dv D (pmul a b)) : Dv D b := by
  obtain ⟨u, w, h⟩ := h
  obtain ⟨q, hq⟩ := hd
  refine ⟨padd (pmul u b) (pmul w q), fun x => ?_⟩
  have h1 := h x
  have h2 := hq x
  rw [ev_mul] at h2
  rw [ev_add, ev_mul, ev_mul]
  have h3 : ev b x = (ev u x * ev D x + ev w x * ev a x) * ev b x := by rw [h1]; grind
  rw [h3]
  grind
/-- degrees of divisors -/
theorem Dg.dvd {a b : List Rat} {m n : Nat} {c d : Rat} (h : Dv a b) (ha : Dg (ev a) m c) (hb : Dg (ev b) n d) : m ≤ n := by
  obtain ⟨q, hq⟩ := h
  rcases Nat.lt_or_ge n m with hlt | hge
  · exfalso
    obtain ⟨hd, r, hr, hh⟩ := hb
    have h1 := ha.uniq q (padd r (mono n d)) (by
      have h2 := padd_len r (mono n d)
      simp only [mono, List.length_append, List.length_replicate, List.length_cons, List.length_nil] at h2
      simp only [mono]
      omega) (fun x => by rw [← hq x, ev_add, ev_mono, hh x]; grind)
    exact (Dg.ne ⟨hd, r, hr, hh⟩) (fun x => by rw [hq x, h1.1 x]; grind)
  · exact hge
/-- each polynomial that is no number has a divisor without divisors -/
theorem Irr.ex (n : Nat) : ∀ (p : List Rat) (m : Nat) (c : Rat), m ≤ n → 0 < m → Dg (ev p) m c → ∃ D, Irr D ∧ Dv D p := by
  induction n with
  | zero => intro p m c h1 h2; omega
  | succ n ih =>
    intro p m c hm h0 hp
    by_cases hI : ∀ d : List Rat, Dv d p → (∃ k : Rat, k ≠ 0 ∧ ∀ x, ev d x = k) ∨ Dv p d
    · exact ⟨p, ⟨⟨m, c, h0, hp⟩, hI⟩, Dv.refl p⟩
    · obtain ⟨d, hd⟩ := Classical.not_forall.mp hI
      have hd1 : Dv d p := Classical.byContradiction (fun h => hd (fun h2 => absurd h2 h))
      have hd2 : ¬ ((∃ k : Rat, k ≠ 0 ∧ ∀ x, ev d x = k) ∨ Dv p d) := fun h => hd (fun _ => h)
      rcases Dg.or _ d (Nat.le_refl _) with hz | ⟨j, e, _, hj⟩
      · obtain ⟨q, hq⟩ := hd1
        exact absurd (fun x => by rw [hq x, hz x]; grind) hp.ne
      · have hjm := Dg.dvd hd1 hj hp
        have hj0 : 0 < j := by
          rcases Nat.eq_zero_or_pos j with hj1 | hj1
          · subst hj1
            exact absurd (Or.inl hj.unit) hd2
          · exact hj1
        have hjlt : j < m := by
          rcases Nat.lt_or_ge j m with h | h
          · exact h
          · exfalso
            have hjm2 : j = m := by omega
            subst hjm2
            -- then the quotient is a number, and p goes into d
            obtain ⟨q, hq⟩ := hd1
            rcases Dg.or _ q (Nat.le_refl _) with hz | ⟨i, f, _, hi⟩
            · exact hp.ne (fun x => by rw [hq x, hz x]; grind)
            · have h5 := hi.mul hj
              have hi0 : i = 0 := by
                rcases Nat.eq_zero_or_pos i with h6 | h6
                · exact h6
                · exfalso
                  obtain ⟨hne, s, hs, hh⟩ := h5
                  obtain ⟨hc, r, hr, hpp⟩ := hp
                  have h7 := ev_zero_row (padd (padd s (psc (-1) (padd r (mono j c)))) (mono (i + j) (f * e))) (fun x => by
                    have g1 := hh x
                    have g2 := hpp x
                    have g3 := hq x
                    rw [ev_add, ev_add, ev_sc, ev_add, ev_mono, ev_mono]
                    grind)
                  refine hne (h7 _ (mem_mono _ _ _ ?_))
                  have h8 := padd_len s (psc (-1) (padd r (mono j c)))
                  have h9 := padd_len r (mono j c)
                  simp only [psc, mono, List.length_map, List.length_append, List.length_replicate, List.length_cons, List.length_nil] at h8 h9
                  simp only [psc, mono]
                  omega
              subst hi0
              obtain ⟨k, hk, hqk⟩ := hi.unit
              refine hd2 (Or.inr ⟨[k⁻¹], fun x => ?_⟩)
              have hkk : k⁻¹ * k = 1 := Rat.inv_mul_cancel k hk
              rw [hq x, hqk x]
              simp only [ev]
              grind
        obtain ⟨D, hD, hDd⟩ := ih d j e (by omega) hj0 hj
        exact ⟨D, hD, hDd.trans hd1⟩
/-! derivatives and repeated factors -/
theorem ev_dom {p q : List Rat} (h : ∀ x, ev p x * ev q x = 0) : (∀ x, ev p x = 0) ∨ ∀ x, ev q x = 0 := by
  rcases Dg.or _ p (Nat.le_refl _) with h1 | ⟨m, c, _, hp⟩
  · exact Or.inl h1
  · rcases Dg.or _ q (Nat.le_refl _) with h2 | ⟨n, d, _, hq⟩
    · exact Or.inr h2
    · exact absurd h (hp.mul hq).ne
theorem dv_add : ∀ (p q : List Rat) (x : Rat), ev (dv (padd p q)) x = ev (dv p) x + ev (dv q) x
  | [], q, x => by simp only [padd, dv, ev]; grind
  | a :: s, [], x => by simp only [padd, dv, ev]; grind
  | a :: s, b :: t, x => by
    simp only [padd, ev_dv, ev_add, dv_add s t x]
    grind
theorem dv_sc (k : Rat) (p : List Rat) (x : Rat) : ev (dv (psc k p)) x = k * ev (dv p) x := by
  induction p with
  | nil => simp [psc, dv, ev]
  | cons a t ih =>
    have : psc k (a :: t) = (k * a) :: psc k t := rfl
    rw [this, ev_dv, ev_dv, ih, ev_sc]
    grind
theorem dv_mul (p q : List Rat) (x : Rat) : ev (dv (pmul p q)) x = ev (dv p) x * ev q x + ev p x * ev (dv q) x := by
  induction p with
  | nil => simp only [pmul, dv, ev]; grind
  | cons a t ih =>
    simp only [pmul, dv_add, dv_sc, ev_dv, ih, ev_mul, ev]
    grind
theorem dv_zero (p : List Rat) (h : ∀ x, ev p x = 0) : ∀ x, ev (dv p) x = 0 := by
  have h1 := ev_zero_row p h
  clear h
  induction p with
  | nil => intro x; rfl
  | cons a t ih =>
    intro x
    have ht : ∀ c ∈ t, c = 0 := fun c hc => h1 c (List.mem_cons_of_mem _ hc)
    have ez : ∀ (u : List Rat), (∀ c ∈ u, c = 0) → ev u x = 0 := by
      intro u
      induction u with
      | nil => intro _; rfl
      | cons b s ih2 =>
        intro hb
        simp only [ev]
        rw [hb b (by simp), ih2 (fun c hc => hb c (List.mem_cons_of_mem _ hc))]
        grind
    rw [ev_dv, ez t ht, ih ht x]
    grind
theorem dv_congr {p q : List Rat} (h : ∀ x, ev p x = ev q x) (x : Rat) : ev (dv p) x = ev (dv q) x := by
  have h1 := dv_zero (padd p (psc (-1) q)) (fun y => by rw [ev_add, ev_sc, h y]; grind) x
  rw [dv_add, dv_sc] at h1
  grind
theorem dv_len (p : List Rat) : ∃ s : List Rat, s.length ≤ p.length - 1 ∧ ∀ x, ev s x = ev (dv p) x := by
  induction p with
  | nil => exact ⟨[], by simp, fun x => rfl⟩
  | cons a t ih =>
    obtain ⟨s, hs, h⟩ := ih
    cases t with
    | nil => exact ⟨[], by simp, fun x => by simp only [dv, padd, ev]; grind⟩
    | cons b u =>
      refine ⟨padd (b :: u) (0 :: s), ?_, fun x => ?_⟩
      · have h1 := padd_len (b :: u) (0 :: s)
        simp only [List.length_cons] at h1 hs ⊢
        omega
      · rw [ev_dv, ev_add]
        simp only [ev]
        rw [h x]
        grind
theorem dv_mono (m : Nat) (c x : Rat) : ev (dv (mono (m + 1) c)) x = (((m + 1 : Nat) : Rat) * c) * x ^ m := by
  induction m with
  | zero =>
    have : mono 1 c = [0, c] := rfl
    rw [this]
    simp only [dv, padd, ev]
    rw [Rat.pow_zero]
    have : ((0 + 1 : Nat) : Rat) = 1 := rfl
    rw [this]
    grind
  | succ m ih =>
    have : mono (m + 1 + 1) c = 0 :: mono (m + 1) c := rfl
    rw [this, ev_dv, ih, ev_mono, Rat.pow_succ]
    have h1 : ((m + 1 + 1 : Nat) : Rat) = ((m + 1 : Nat) : Rat) + 1 := by simp
    rw [h1]
    grind
theorem Dg.deriv {p : List Rat} {m : Nat} {c : Rat} (h : Dg (ev p) (m + 1) c) : Dg (ev (dv p)) m (((m + 1 : Nat) : Rat) * c) := by
  obtain ⟨hc, r, hr, h⟩ := h
  obtain ⟨s, hs, h2⟩ := dv_len r
  have hm : ((m + 1 : Nat) : Rat) ≠ 0 := by
    have : (0 : Rat) ≤ (m : Rat) := by exact_mod_cast Nat.zero_le m
    have h1 : ((m + 1 : Nat) : Rat) = (m : Rat) + 1 := by simp
    rw [h1]
    grind
  refine ⟨fun hh => ?_, s, by omega, fun x => ?_⟩
  · rcases Rat.mul_eq_zero.mp hh with h3 | h3
    · exact hm h3
    · exact hc h3
  · rw [dv_congr (q := padd (mono (m + 1) c) r) (fun y => by rw [h y, ev_add, ev_mono]) x, dv_add, dv_mono, h2 x]
def ppow (D : List Rat) : Nat → List Rat
  | 0 => [1]
  | n + 1 => pmul D (ppow D n)
theorem ev_pow (D : List Rat) (n : Nat) (x : Rat) : ev (ppow D n) x = ev D x ^ n := by
  induction n with
  | zero => simp only [ppow, ev]; rw [Rat.pow_zero]; grind
  | succ n ih => rw [ppow, ev_mul, ih, Rat.pow_succ]; grind
theorem dv_pow (D : List Rat) (n : Nat) (x : Rat) : ev (dv (ppow D (n + 1))) x = ((n + 1 : Nat) : Rat) * (ev D x ^ n * ev (dv D) x) := by
  induction n with
  | zero =>
    rw [ppow, dv_mul]
    have h1 : ((0 + 1 : Nat) : Rat) = 1 := rfl
    rw [h1, Rat.pow_zero]
    simp only [ppow, ev, dv, padd]
    grind
  | succ n ih =>
    rw [ppow, dv_mul, ih, ev_pow, Rat.pow_succ]
    have h1 : ((n + 1 + 1 : Nat) : Rat) = ((n + 1 : Nat) : Rat) + 1 := by simp
    rw [h1]
    grind
/-- how often D goes into a -/
theorem mult_ex {D : List Rat} {j : Nat} {k : Rat} (hj : 0 < j) (hD : Dg (ev D) j k) (n : Nat) : ∀ (a : List Rat) (m : Nat) (c : Rat), m ≤ n → Dg (ev a) m c → ∃ (e : Nat) (u : List Rat), (∀ x, ev a x = ev D x ^ e * ev u x) ∧ ¬ Dv D u := by
  induction n with
  | zero =>
    intro a m c hm ha
    refine ⟨0, a, fun x => by rw [Rat.pow_zero]; grind, fun h => ?_⟩
    have := Dg.dvd h hD ha
    omega
  | succ n ih =>
    intro a m c hm ha
    by_cases h : Dv D a
    · obtain ⟨q, hq⟩ := h
      rcases Dg.or _ q (Nat.le_refl _) with hz | ⟨i, f, _, hi⟩
      · exact absurd (fun x => by rw [hq x, hz x]; grind) ha.ne
      · have hle : i ≤ n := by
          -- the degrees add up
          have h5 := hi.mul hD
          rcases Nat.lt_or_ge m (i + j) with hlt | hge
          · exfalso
            obtain ⟨hne, s, hs, hh⟩ := h5
            obtain ⟨hc, r, hr, hpp⟩ := ha
            have h7 := ev_zero_row (padd (padd s (psc (-1) (padd r (mono m c)))) (mono (i + j) (f * k))) (fun x => by
              have g1 := hh x
              have g2 := hpp x
              have g3 := hq x
              rw [ev_add, ev_add, ev_sc, ev_add, ev_mono, ev_mono]
              grind)
            refine hne (h7 _ (mem_mono _ _ _ ?_))
            have h8 := padd_len s (psc (-1) (padd r (mono m c)))
            have h9 := padd_len r (mono m c)
            simp only [psc, mono, List.length_map, List.length_append, List.length_replicate, List.length_cons, List.length_nil] at h8 h9
            simp only [psc, mono]
            omega
          · omega
        obtain ⟨e, u, h1, h2⟩ := ih q i f hle hi
        exact ⟨e + 1, u, fun x => by rw [hq x, h1 x, Rat.pow_succ]; grind, h2⟩
    · exact ⟨0, a, fun x => by rw [Rat.pow_zero]; grind, h⟩
/-- what is left of a when its common divisor with its derivative is taken out has no repeated factor -/
theorem sq_free {a G F U W0 : List Rat} (ha : ¬ ∀ x, ev a x = 0) (hG : ∀ x, ev G x = ev U x * ev a x + ev W0 x * ev (dv a) x) (hF : ∀ x, ev a x = ev F x * ev G x) : Cop F (dv F) := by
  have hF0 : ¬ ∀ x, ev F x = 0 := fun h => ha (fun x => by rw [hF x, h x]; grind)
  obtain ⟨g, u, w, h1, h2, h3, h4⟩ := gcd_ex _ F (dv F) (Nat.le_refl _) (Or.inl hF0)
  rcases Dg.or _ g (Nat.le_refl _) with hz | ⟨m, c, _, hg⟩
  · exact absurd hz h4
  rcases Nat.eq_zero_or_pos m with hm | hm
  · subst hm
    obtain ⟨k, hk, hgk⟩ := hg.unit
    refine ⟨psc k⁻¹ u, psc k⁻¹ w, fun x => ?_⟩
    have := h1 x
    rw [hgk x] at this
    have hkk : k⁻¹ * k = 1 := Rat.inv_mul_cancel k hk
    rw [ev_sc, ev_sc]
    grind
  exfalso
  obtain ⟨D, hD, hDg⟩ := Irr.ex _ g m c (Nat.le_refl _) hm hg
  have hDF := hDg.trans h2
  have hDF' := hDg.trans h3
  obtain ⟨⟨j, k, hj, hDj⟩, _⟩ := id hD
  rcases Dg.or _ a (Nat.le_refl _) with hz | ⟨n, b, _, hna⟩
  · exact ha hz
  obtain ⟨e, v, he, hv⟩ := mult_ex hj hDj _ a n b (Nat.le_refl _) hna
  -- D goes into F twice
  obtain ⟨F1, hF1⟩ := hDF
  have hDD : ¬ Dv D (dv D) := fun h => by
    obtain ⟨i, rfl⟩ : ∃ i, j = i + 1 := ⟨j - 1, by omega⟩
    have := Dg.dvd h hDj hDj.deriv
    omega
  have hDF1 : Dv D F1 := by
    have hcop : Cop D (dv D) := (hD.cop (dv D)).resolve_left hDD
    refine hcop.euclid ?_
    obtain ⟨q, hq⟩ := hDF'
    refine ⟨padd q (psc (-1) (dv F1)), fun x => ?_⟩
    have g1 := hq x
    rw [dv_congr (q := pmul F1 D) (fun y => by rw [ev_mul]; exact hF1 y) x, dv_mul] at g1
    rw [ev_mul, ev_add, ev_sc]
    grind
  obtain ⟨F2, hF2⟩ := hDF1
  -- and e - 1 times into G
  rcases Nat.eq_zero_or_pos e with he0 | he0
  · subst he0
    refine hv ⟨pmul (pmul F1 G) [1], fun x => ?_⟩
    have g1 := he x
    rw [Rat.pow_zero, hF x, hF1 x] at g1
    rw [ev_mul, ev_mul]
    simp only [ev]
    grind
  obtain ⟨i, rfl⟩ : ∃ i, e = i + 1 := ⟨e - 1, by omega⟩
  have hG1 : ∃ G1 : List Rat, ∀ x, ev G x = ev G1 x * ev D x ^ i := by
    refine ⟨padd (pmul U (pmul D v)) (pmul W0 (padd (psc ((i + 1 : Nat) : Rat) (pmul (dv D) v)) (pmul D (dv v)))), fun x => ?_⟩
    have g1 := hG x
    rw [dv_congr (q := pmul (ppow D (i + 1)) v) (fun y => by rw [ev_mul, ev_pow]; exact he y) x, dv_mul, dv_pow, ev_pow, he x, Rat.pow_succ] at g1
    rw [g1]
    simp only [ev_add, ev_mul, ev_sc]
    grind
  obtain ⟨G1, hG1⟩ := hG1
  have hzero : ∀ x, ev (ppow D (i + 1)) x * ev (padd v (psc (-1) (pmul (pmul F2 G1) D))) x = 0 := fun x => by
    have g1 := he x
    have g2 := hF x
    rw [hF1 x, hF2 x, hG1 x] at g2
    rw [ev_pow, ev_add, ev_sc, ev_mul, ev_mul]
    rw [Rat.pow_succ] at *
    grind
  rcases ev_dom hzero with hz | hz
  · have hpow : ∀ n : Nat, (∀ x, ev (ppow D n) x = 0) → False := by
      intro n
      induction n with
      | zero => intro h; have := h 0; simp only [ppow, ev] at this; grind
      | succ n ihn =>
        intro h
        rcases ev_dom (p := D) (q := ppow D n) (fun x => by rw [← ev_mul]; exact h x) with h | h
        · exact hDj.ne h
        · exact ihn h
    exact hpow _ hz
  · refine hv ⟨pmul F2 G1, fun x => ?_⟩
    have := hz x
    rw [ev_add, ev_sc, ev_mul] at this
    grind
