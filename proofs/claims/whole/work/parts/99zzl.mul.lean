/-! how often a root is one -/
def Ex (P : List Rat) (m : Nat) (a : List Rat) : Prop := ∃ u : List Rat, (∀ x, ev a x = ev P x ^ m * ev u x) ∧ ¬ Dv P u
theorem Ex.dvd {P a : List Rat} {m : Nat} (h : Ex P m a) : Dv P a ↔ 1 ≤ m := by
  obtain ⟨u, h1, h2⟩ := h
  refine ⟨fun hd => ?_, fun hm => ?_⟩
  · rcases Nat.eq_zero_or_pos m with c | c
    · exfalso
      subst c
      obtain ⟨q, hq⟩ := hd
      exact h2 ⟨q, fun x => by rw [← hq x, h1 x, Rat.pow_zero]; grind⟩
    · exact c
  · obtain ⟨k, rfl⟩ : ∃ k, m = k + 1 := ⟨m - 1, by omega⟩
    exact ⟨pmul (ppow P k) u, fun x => by rw [h1 x, ev_mul, ev_pow, Rat.pow_succ]; grind⟩
theorem Irr.nz {P : List Rat} (h : Irr P) : ¬ ∀ x, ev P x = 0 := by
  obtain ⟨⟨m, c, hm, hd⟩, _⟩ := h
  exact hd.ne
theorem Irr.prime {P a b : List Rat} (h : Irr P) (hd : Dv P (pmul a b)) : Dv P a ∨ Dv P b := by
  rcases h.cop a with c | c
  · exact Or.inl c
  · exact Or.inr (c.euclid hd)
theorem Irr.ndv {P : List Rat} (h : Irr P) : ¬ Dv P (dv P) := by
  obtain ⟨⟨m, c, hm, hd⟩, _⟩ := h
  obtain ⟨k, rfl⟩ : ∃ k, m = k + 1 := ⟨m - 1, by omega⟩
  intro hh
  have := Dg.dvd hh hd hd.deriv
  omega
theorem Ex.deriv {P a : List Rat} {m : Nat} (hP : Irr P) (h : Ex P (m + 1) a) : Ex P m (dv a) := by
  obtain ⟨u, h1, h2⟩ := h
  have e : ∀ x, ev a x = ev (pmul (ppow P (m + 1)) u) x := fun x => by rw [ev_mul, ev_pow]; exact h1 x
  refine ⟨padd (psc ((m + 1 : Nat) : Rat) (pmul (dv P) u)) (pmul P (dv u)), fun x => ?_, fun hd => ?_⟩
  · rw [dv_congr e x, dv_mul, dv_pow, ev_pow, ev_add, ev_sc, ev_mul, ev_mul, Rat.pow_succ]
    grind
  · have hk : ((m + 1 : Nat) : Rat) ≠ 0 := by
      have : (0 : Rat) < ((m + 1 : Nat) : Rat) := by exact_mod_cast Nat.succ_pos m
      grind
    have h3 : Dv P (pmul (dv P) u) := by
      obtain ⟨q, hq⟩ := hd
      refine ⟨psc ((m + 1 : Nat) : Rat)⁻¹ (padd q (psc (-1) (dv u))), fun x => ?_⟩
      have h4 := hq x
      have h5 : ((m + 1 : Nat) : Rat)⁻¹ * ((m + 1 : Nat) : Rat) = 1 := Rat.inv_mul_cancel _ hk
      rw [ev_add, ev_sc, ev_mul, ev_mul] at h4
      rw [ev_sc, ev_add, ev_sc, ev_mul]
      generalize ((m + 1 : Nat) : Rat) = K at *
      generalize K⁻¹ = J at *
      grind
    rcases hP.prime h3 with c | c
    · exact hP.ndv c
    · exact h2 c
theorem Ex.cut {P a b u t q : List Rat} {m : Nat} (hP : Irr P) (ha : ∀ x, ev a x = ev P x ^ m * ev u x) (hn : ¬ Dv P u) (hb : ∀ x, ev b x = ev P x ^ m * ev t x) (hd : ∀ x, ev a x = ev q x * ev b x) : Ex P m b := by
  refine ⟨t, hb, fun ht => ?_⟩
  have h0 : ∀ x, ev (ppow P m) x * ev (padd u (psc (-1) (pmul q t))) x = 0 := fun x => by
    have h1 := ha x
    have h2 := hb x
    have h3 := hd x
    rw [ev_pow, ev_add, ev_sc, ev_mul]
    grind
  rcases ev_dom h0 with c | c
  · exact pow_nz hP.nz m c
  · refine hn ?_
    obtain ⟨w, hw⟩ := ht
    refine ⟨pmul q w, fun x => ?_⟩
    have h4 := c x
    have h5 := hw x
    rw [ev_add, ev_sc, ev_mul] at h4
    rw [ev_mul]
    grind
theorem Ex.gcd {P a G u w : List Rat} {m : Nat} (hP : Irr P) (h : Ex P (m + 1) a) (hG : ∀ x, ev G x = ev u x * ev a x + ev w x * ev (dv a) x) (hd : Dv G (dv a)) : Ex P m G := by
  obtain ⟨u1, k1, k2⟩ := h.deriv hP
  obtain ⟨u0, h1, h2⟩ := h
  obtain ⟨q, hq⟩ := hd
  refine Ex.cut (q := q) (t := padd (pmul u (pmul P u0)) (pmul w u1)) hP k1 k2 (fun x => ?_) hq
  rw [hG x, h1 x, k1 x, ev_add, ev_mul, ev_mul, ev_mul, Rat.pow_succ]
  grind
theorem Ex.const {P a : List Rat} {m : Nat} (hP : Irr P) (h : Ex P m a) (hc : ∀ x, ev a x = ev a 0) : m = 0 := by
  rcases Nat.eq_zero_or_pos m with c | c
  · exact c
  · exfalso
    have hd := h.dvd.mpr c
    by_cases k : ev a 0 = 0
    · obtain ⟨u, h1, h2⟩ := h
      rcases ev_dom (p := ppow P m) (q := u) (fun x => by rw [ev_pow, ← h1 x, hc x]; exact k) with c | c
      · exact pow_nz hP.nz m c
      · exact h2 ⟨[], fun x => by rw [c x]; simp only [ev]; grind⟩
    · obtain ⟨⟨j, cc, hj, hdg⟩, _⟩ := hP
      have := Dg.dvd hd hdg (show Dg (ev a) 0 (ev a 0) from ⟨k, [], Nat.le_refl _, fun x => by rw [hc x, Rat.pow_zero]; simp only [ev]; grind⟩)
      omega
/-- a primitive row for a divisor without divisors -/
theorem irr_row {F : Nat → Int} (hF : Nz F) {D : List Rat} (hD : Irr D) (hd : Dv D (il F 6)) : ∃ P : Nat → Int, cg P 0 6 = 1 ∧ Irr (il P 6) ∧ Dv (il P 6) (il F 6) := by
  obtain ⟨t, ht, hFt, hFz⟩ := top_of hF
  obtain ⟨m, c, hm, hdg⟩ := hD.1
  have hmt := Dg.dvd hd hdg (top_Dg ht hFt hFz)
  obtain ⟨P0, k, hk, e0⟩ := row_of (by omega) hdg
  have hk0 : (k : Rat) ≠ 0 := by
    have : (0 : Rat) < (k : Rat) := by exact_mod_cast hk
    grind
  have hN0 : Nz P0 := Classical.byContradiction (fun hn => hdg.ne (fun x => by
    have h1 := e0 x
    rw [es_zero (c := P0) (fun j hj => Classical.byContradiction (fun h => hn ⟨j, hj, h⟩))] at h1
    rcases Rat.mul_eq_zero.mp h1.symm with h | h
    · exact absurd h hk0
    · exact h))
  obtain ⟨P, hP⟩ := PrimOf.ex hN0
  rcases hP with ⟨h, _⟩ | ⟨q, hq, h1, h2, _⟩
  · obtain ⟨j, hj, hn⟩ := hN0; exact absurd (h j hj) hn
  · have hq0 : (q : Rat) ≠ 0 := fun h => hq (by exact_mod_cast h)
    obtain ⟨K, hK0, hK⟩ : ∃ K : Rat, K ≠ 0 ∧ ∀ x, es P 6 x = K * ev D x := by
      refine ⟨(q : Rat)⁻¹ * (k : Rat), fun h => ?_, fun x => ?_⟩
      · rcases Rat.mul_eq_zero.mp h with h | h
        · have := Rat.inv_mul_cancel _ hq0
          rw [h] at this
          grind
        · exact hk0 h
      · have e1 := e0 x
        rw [es_congr h1 x, es_sc] at e1
        have := Rat.inv_mul_cancel _ hq0
        grind
    have hK1 := Rat.inv_mul_cancel _ hK0
    have d1 : Dv D (il P 6) := ⟨[K], fun x => by rw [← es_ev, hK x]; simp only [ev]; grind⟩
    have d2 : Dv (il P 6) D := ⟨[K⁻¹], fun x => by rw [← es_ev, hK x]; simp only [ev]; grind⟩
    refine ⟨P, h2, ⟨⟨m, K * c, hm, ?_⟩, fun d hdd => ?_⟩, d2.trans hd⟩
    · obtain ⟨hc, r, hr, e⟩ := hdg
      refine ⟨fun h => ?_, psc K r, by simp only [psc, List.length_map]; exact hr, fun x => ?_⟩
      · rcases Rat.mul_eq_zero.mp h with h | h
        · exact hK0 h
        · exact hc h
      · rw [← es_ev, hK x, e x, ev_sc]
        grind
    · rcases hD.2 d (hdd.trans d2) with h | h
      · exact Or.inl h
      · exact Or.inr (d2.trans h)
/-- where F has one root, one divisor without divisors has it -/
theorem jump_irr {p1 F : Nat → Int} {x y : Rat} (hP : Part p1 F) (hxy : x < y) : ∀ (n : Nat) (g : Nat → Int) (M : Rat → Int), cg g 0 6 = 1 → Dv (il g 6) (il F 6) → (∀ j, n ≤ j → j < 6 → g j = 0) → NB g M → M y - M x = 1 → ∃ P : Nat → Int, cg P 0 6 = 1 ∧ Irr (il P 6) ∧ Dv (il P 6) (il F 6) ∧ ∀ K, NB P K → K y - K x = 1 := by
  intro n
  induction n with
  | zero =>
    intro g M hg hd hz hM hj
    obtain ⟨j, h1, h2, h3⟩ := jump_deg ((hP.dv hg hd).2.2.2.1) hM hxy (by omega)
    exact absurd (hz j (Nat.zero_le _) h2) h3
  | succ n ih =>
    intro g M hg hd hz hM hj
    have hPg := (hP.dv hg hd).2
    obtain ⟨j, h1, h2, h3⟩ := jump_deg hPg.2.2.1 hM hxy (by omega)
    obtain ⟨t, ht, hgt, hgz⟩ := top_of hPg.2.2.1.1
    have htj : j ≤ t := Classical.byContradiction (fun h => h3 (hgz j (by omega) h2))
    have dgg := top_Dg ht hgt hgz
    obtain ⟨D, hD, hDg⟩ := Irr.ex _ (il g 6) t _ (Nat.le_refl _) (by omega) dgg
    obtain ⟨P, c1, c2, c3⟩ := irr_row hPg.2.2.1.1 hD hDg
    obtain ⟨⟨h0, e⟩, hPP⟩ := hPg.dv c1 c3
    have hh1 := cg_part hg e
    obtain ⟨K, hK⟩ := NB.ex hPP.2.2.1.1
    have hq := (hPg.2.2.1.parts e).2.1
    obtain ⟨L0, hL⟩ := NB.ex hq.1
    have hm := NB.mul hPg.2.2.1 e hM hK hL x y (Rat.le_of_lt hxy)
    have k0 := hK.mono hPP.2.2.1 (Rat.le_of_lt hxy)
    have l0 := hL.mono hq (Rat.le_of_lt hxy)
    by_cases hk : K y - K x = 1
    · exact ⟨P, c1, c2, c3.trans hd, fun K' hK' => by rw [NB.uniq hK hK', NB.uniq hK hK']; exact hk⟩
    · have dh : Dv (il h0 6) (il g 6) := ⟨il P 6, fun z => by rw [← es_ev, ← es_ev, ← es_ev, e z]; grind⟩
      refine ih h0 L0 hh1 (dh.trans hd) (fun j hj1 hj2 => Classical.byContradiction (fun hne => ?_)) hL (by omega)
      obtain ⟨s, hs, hhs, hhz⟩ := top_of hq.1
      obtain ⟨a, cc, ha, hPd⟩ := c2.1
      have d3 := (top_Dg hs hhs hhz).mul hPd
      have ef : (fun z => ev (il h0 6) z * ev (il P 6) z) = ev (il g 6) := funext (fun z => by rw [← es_ev, ← es_ev, ← es_ev]; exact (e z).symm)
      rw [ef] at d3
      have m1 := Dg.dvd (Dv.refl _) d3 dgg
      have hts : t ≤ n := Classical.byContradiction (fun h => hgt (hz t (by omega) ht))
      have hjs : j ≤ s := Classical.byContradiction (fun h => hne (hhz j (by omega) hj2))
      omega
theorem Cop.swap {a b : List Rat} (h : Cop a b) : Cop b a := by
  obtain ⟨u, w, h⟩ := h
  exact ⟨w, u, fun x => by have := h x; grind⟩
theorem jump_iff {p1 F P g : Nat → Int} {N M K : Rat → Int} {x y : Rat} (hP : Part p1 F) (hF : cg F 0 6 = 1) (hN : NB F N) (hxy : x < y) (hj : N y - N x = 1) (c1 : cg P 0 6 = 1) (c2 : Irr (il P 6)) (c3 : Dv (il P 6) (il F 6)) (hK : NB P K) (hKj : K y - K x = 1) (hg : cg g 0 6 = 1) (hd : Dv (il g 6) (il F 6)) (hM : NB g M) : (Dv (il P 6) (il g 6) → M y - M x = 1) ∧ (¬ Dv (il P 6) (il g 6) → M y - M x = 0) := by
  have hle := Rat.le_of_lt hxy
  obtain ⟨⟨h0, e0⟩, hPg⟩ := hP.dv hg hd
  obtain ⟨⟨e1, f1⟩, hPP⟩ := hP.dv c1 c3
  have hq0 := (hP.2.2.1.parts e0).2.1
  obtain ⟨L0, hL0⟩ := NB.ex hq0.1
  have a1 := NB.mul hP.2.2.1 e0 hN hM hL0 x y hle
  have a2 := hL0.mono hq0 hle
  have a3 := hM.mono hPg.2.2.1 hle
  refine ⟨fun hv => ?_, fun hv => ?_⟩
  · obtain ⟨⟨h1, e⟩, _⟩ := hPg.dv c1 hv
    have hq1 := (hPg.2.2.1.parts e).2.1
    obtain ⟨L1, hL1⟩ := NB.ex hq1.1
    have b1 := NB.mul hPg.2.2.1 e hM hK hL1 x y hle
    have b2 := hL1.mono hq1 hle
    omega
  · have hc : Cop (il P 6) (il g 6) := (c2.cop _).resolve_left hv
    have hge : Dv (il g 6) (il e1 6) := hc.swap.euclid (by
      obtain ⟨q, hq⟩ := hd
      exact ⟨q, fun z => by rw [ev_mul, ← hq z, ← es_ev, ← es_ev, ← es_ev, f1 z]; grind⟩)
    have hq1 := (hP.2.2.1.parts f1).2.1
    have he1 : Dv (il e1 6) (il F 6) := ⟨il P 6, fun z => by rw [← es_ev, ← es_ev, ← es_ev, f1 z]; grind⟩
    have hPe := (hP.dv (cg_part hF f1) he1).2
    obtain ⟨L1, hL1⟩ := NB.ex hq1.1
    have b1 := NB.mul hP.2.2.1 f1 hN hK hL1 x y hle
    obtain ⟨⟨h2, e2⟩, _⟩ := hPe.dv hg hge
    have hq2 := (hPe.2.2.1.parts e2).2.1
    obtain ⟨L2, hL2⟩ := NB.ex hq2.1
    have b3 := NB.mul hPe.2.2.1 e2 hL1 hM hL2 x y hle
    have b4 := hL2.mono hq2 hle
    omega
theorem cg_nz {G : Nat → Int} (h : cg G 0 6 = 1) : Nz G := Classical.byContradiction (fun hn => by
  have hz : ∀ j, j < 6 → G j = 0 := fun j hj => Classical.byContradiction (fun h => hn ⟨j, hj, h⟩)
  have h0 := cg_dvi (A := G) (d := 2) 6 (fun j hj => by rw [hz j hj]; exact ⟨0, rfl⟩)
  rw [h] at h0
  omega)
theorem cell_j {p1 F : Nat → Int} {N : Rat → Int} {i c : Int} (hP : Part p1 F) (hN : NB F N) (hz : Cell N i c 256) : N (Pt (c + 1) 256) - N (Pt c 256) = 1 := by
  have := (cell_one hP hN (show 248 ≤ 256 by omega) (Int.lt_of_le_of_lt hz.2.1 hz.2.2)).1
  omega
/-- what makes a root: one divisor without divisors that has it -/
def Rt (F P : Nat → Int) (c : Int) : Prop := cg P 0 6 = 1 ∧ Irr (il P 6) ∧ Dv (il P 6) (il F 6) ∧ ∀ K, NB P K → K (Pt (c + 1) 256) - K (Pt c 256) = 1
theorem Rt.ex {p1 F : Nat → Int} {N : Rat → Int} {i c : Int} (hP : Part p1 F) (hF : cg F 0 6 = 1) (hN : NB F N) (hz : Cell N i c 256) : ∃ P, Rt F P c := by
  obtain ⟨P, h1, h2, h3, h4⟩ := jump_irr hP (Pt_lt (b := 256) (show c < c + 1 by omega)) 6 F N hF (Dv.refl _) (fun j h1 h2 => by omega) hN (cell_j hP hN hz)
  exact ⟨P, h1, h2, h3, h4⟩
theorem van_iff {p1 F P S G : Nat → Int} {N M : Rat → Int} {i c v : Int} {d : Nat} (hP : Part p1 F) (hF : cg F 0 6 = 1) (hN : NB F N) (hz : Cell N i c 256) (hi : Iso N i v d) (hd : d ≤ 256) (hv : v = c / 2 ^ (256 - d)) (hR : Rt F P c) (hG : Gcd F S G) (hM : NB G M) : (Dv (il P 6) (il S 6) → M (Pt (v + 1) d) - M (Pt v d) = 1) ∧ (¬ Dv (il P 6) (il S 6) → M (Pt (v + 1) d) - M (Pt v d) = 0) := by
  obtain ⟨c1, c2, c3, c4⟩ := hR
  have hlt : Pt c 256 < Pt (c + 1) 256 := Pt_lt (by omega)
  rcases hG with ⟨h, _⟩ | ⟨g1, _, ⟨u, w, g3⟩, g4, g5⟩
  · obtain ⟨j, hj, hn⟩ := hP.2.2.1.1; exact absurd (h j hj) hn
  · obtain ⟨⟨h0, e0⟩, hPg⟩ := hP.dv g1 g4
    obtain ⟨K, hK⟩ := NB.ex (cg_nz c1)
    have hj := cell_j hP hN hz
    obtain ⟨j1, j2⟩ := jump_iff hP hF hN hlt hj c1 c2 c3 hK (c4 K hK) g1 g4 hM
    obtain ⟨f1, f2⟩ := Pt_floor c d (256 - d)
    rw [show d + (256 - d) = 256 by omega, ← hv] at f1 f2
    have hk := (jump_k hP.2.2.1 (show (1 : Int) ≠ 0 by decide) (g := G) (h := h0) (fun x => by rw [← e0 x, show ((1 : Int) : Rat) = 1 from rfl]; grind) hN hM).2 _ _ _ _ f1 (Rat.le_of_lt hlt) f2 (by rw [hi.2.1, hi.2.2]; omega) hj
    rw [hk.1]
    refine ⟨fun h => j1 (Dv.comb c3 h u w (fun x => by rw [← es_ev, ← es_ev, ← es_ev]; exact g3 x)), fun h => j2 (fun h2 => h (h2.trans g5))⟩
theorem row_bd (A : Nat → Int) : ∃ M : Int, 0 ≤ M ∧ ∀ j, j < 6 → -M ≤ A j ∧ A j ≤ M := by
  refine ⟨((A 0).natAbs + (A 1).natAbs + (A 2).natAbs + (A 3).natAbs + (A 4).natAbs + (A 5).natAbs : Nat), by omega, fun j hj => ?_⟩
  rcases (show j = 0 ∨ j = 1 ∨ j = 2 ∨ j = 3 ∨ j = 4 ∨ j = 5 by omega) with h | h | h | h | h | h <;> rw [h] <;> omega
theorem free_in {R G : Nat → Int} (hR : Nz R) (hg : FreeOf R G) : Dv (il G 6) (il R 6) ∧ cg G 0 6 = 1 ∧ Sqf G := by
  obtain ⟨M, _, hM⟩ := row_bd R
  obtain ⟨f1, f2, _, H, k, hk, f3⟩ := hg.facts hR hM
  have hkk := Rat.inv_mul_cancel _ hk
  refine ⟨⟨psc k⁻¹ H, fun x => ?_⟩, ?_, f1, f2⟩
  · have := f3 x
    rw [ev_sc, ← es_ev, ← es_ev]
    grind
  · obtain ⟨_, _, C, _, _, _, hp⟩ := hg
    rcases hp with ⟨_, h⟩ | ⟨_, _, _, h, _⟩
    · obtain ⟨j, hj, hn⟩ := f1; exact absurd (h j hj) hn
    · exact h
/-- the free part of a divisor goes into the free part -/
theorem free_dv {V F R G : Nat → Int} (hV : Nz V) (hf : FreeOf V F) (hR : Nz R) (hg : FreeOf R G) (hd : Dv (il R 6) (il V 6)) : Dv (il G 6) (il F 6) := by
  obtain ⟨i1, i2, i3, i4⟩ := free_in hR hg
  have hGV := i1.trans hd
  have hGn : ¬ ∀ x, ev (il G 6) x = 0 := fun h => by
    obtain ⟨j, hj, hn⟩ := i3
    exact hn (es_row (fun x => by rw [es_ev]; exact h x) j hj)
  obtain ⟨g, u, w, h1, h2, h3, h4⟩ := gcd_ex _ (il G 6) (il F 6) (Nat.le_refl _) (Or.inl hGn)
  obtain ⟨H, hH⟩ := h2
  rcases Dg.or _ H (Nat.le_refl _) with h | ⟨m, cc, _, hm⟩
  · exact absurd (fun x => by rw [hH x, h x]; grind) hGn
  · rcases Nat.eq_zero_or_pos m with h0 | h0
    · subst h0
      obtain ⟨k, hk, e⟩ := hm.unit
      have hkk := Rat.inv_mul_cancel _ hk
      exact Dv.trans ⟨[k⁻¹], fun x => by
        have := hH x
        rw [e x] at this
        simp only [ev]
        grind⟩ h3
    · exfalso
      obtain ⟨D, hD, hDH⟩ := Irr.ex _ H m cc (Nat.le_refl _) h0 hm
      obtain ⟨a, ha⟩ := hDH
      have hDG : Dv D (il G 6) := ⟨pmul a g, fun x => by rw [hH x, ha x, ev_mul]; grind⟩
      have hDF := irr_in hV hf hD (hDG.trans hGV)
      obtain ⟨b, hb⟩ := Dv.comb hDG hDF u w h1
      have e1 : ∀ x, ev (il G 6) x = ev (pmul (pmul a D) (pmul b D)) x := fun x => by rw [hH x, ha x, hb x, ev_mul, ev_mul, ev_mul]
      have hDd : Dv D (il (dva G) 6) := ⟨padd (pmul (dv (pmul a D)) b) (pmul a (dv (pmul b D))), fun x => by
        rw [← es_ev, ← dv_il, dv_congr e1 x, dv_mul, ev_mul, ev_mul, ev_add, ev_mul, ev_mul]
        grind⟩
      obtain ⟨k, hk, hu⟩ := unit_of_dv i4 hDG hDd
      obtain ⟨j, c, hj, hdg⟩ := hD.1
      have := Dg.dvd (Dv.refl D) hdg (show Dg (ev D) 0 k from ⟨hk, [], Nat.le_refl _, fun x => by rw [hu x, Rat.pow_zero]; simp only [ev]; grind⟩)
      omega
theorem has_jump {p1 G : Nat → Int} {M : Rat → Int} {c : Int} (hP : Part p1 G) (hM : NB G M) (h0 : M (Pt (c + 1) 256) - M (Pt c 256) = 0) : ¬ HasP G c := by
  have hF := hP.2.2.1
  have hlt : Pt c 256 < Pt (c + 1) 256 := Pt_lt (by omega)
  rintro ⟨_, h | ⟨h1, h2⟩⟩
  · have := hM.zero hF hlt (sg_eq0 h)
    omega
  · by_cases k : sg (es G 6 (Pt c 256)) = 0
    · have := hM.zero hF hlt (sg_eq0 k)
      omega
    · exact h2 ((hM.par hF hlt k h1).mpr (by omega))
theorem has_jump1 {p1 G : Nat → Int} {M : Rat → Int} {c : Int} (hP : Part p1 G) (hM : NB G M) (h0 : M (Pt (c + 1) 256) - M (Pt c 256) = 1) : HasP G c := by
  have hF := hP.2.2.1
  obtain ⟨h1, h2⟩ := cell_one hP hM (show 248 ≤ 256 by omega) (show M (Pt c 256) < M (Pt (c + 1) 256) by omega)
  have hlt : Pt c 256 < Pt (c + 1) 256 := Pt_lt (by omega)
  refine ⟨jump_deg hF hM hlt h1, ?_⟩
  by_cases k : sg (es G 6 (Pt c 256)) = 0
  · exact Or.inl k
  · refine Or.inr ⟨sg_ne h2, fun e => ?_⟩
    have := (hM.par hF hlt k (sg_ne h2)).mp e
    omega
/-- the reference's question at a divisor of the polynomial -/
theorem has_iff {p1 V F P R G : Nat → Int} {N : Rat → Int} {i c : Int} (hV : Nz V) (hf : FreeOf V F) (hP : Part p1 F) (hF : cg F 0 6 = 1) (hN : NB F N) (hz : Cell N i c 256) (hR : Rt F P c) (hRn : Nz R) (hg : FreeOf R G) (hd : Dv (il R 6) (il V 6)) : HasP G c ↔ Dv (il P 6) (il R 6) := by
  obtain ⟨c1, c2, c3, c4⟩ := hR
  have hlt : Pt c 256 < Pt (c + 1) 256 := Pt_lt (by omega)
  obtain ⟨i1, i2, i3, i4⟩ := free_in hRn hg
  have hGF := free_dv hV hf hRn hg hd
  have hPG := (hP.dv i2 hGF).2
  obtain ⟨M, hM⟩ := NB.ex i3
  obtain ⟨K, hK⟩ := NB.ex (cg_nz c1)
  obtain ⟨j1, j2⟩ := jump_iff hP hF hN hlt (cell_j hP hN hz) c1 c2 c3 hK (c4 K hK) i2 hGF hM
  refine ⟨fun h => Classical.byContradiction (fun hn => has_jump hPG hM (j2 (fun h2 => hn (h2.trans i1))) h), fun h => has_jump1 hPG hM (j1 (irr_in hRn hg c2 h))⟩
theorem times_eq {p1 V F P : Nat → Int} {N : Rat → Int} {i c : Int} {mu n : Nat} (hV : Nz V) (hf : FreeOf V F) (hP : Part p1 F) (hF : cg F 0 6 = 1) (hN : NB F N) (hz : Cell N i c 256) (hR : Rt F P c) (hE : Ex (il P 6) mu (il V 6)) (hT : TF V c n) : n = mu := by
  obtain ⟨x, ⟨R, G, r0, r1, r2⟩, hx⟩ := hT
  have key : ∀ k, k ≤ n → k ≤ mu ∧ Ex (il P 6) (mu - k) (il (R k) 6) ∧ Dv (il (R k) 6) (il V 6) ∧ Nz (R k) := by
    intro k
    induction k with
    | zero =>
      intro _
      have e := il_congr6 r0
      rw [e]
      refine ⟨Nat.zero_le _, hE, Dv.refl _, ?_⟩
      obtain ⟨j, hj, hn⟩ := hV
      exact ⟨j, hj, by rw [r0 j hj]; exact hn⟩
    | succ k ih =>
      intro hk
      obtain ⟨a1, a2, a3, a4⟩ := ih (by omega)
      obtain ⟨b1, b2, b3⟩ := r1 k (by omega)
      have hd := (has_iff hV hf hP hF hN hz hR a4 b2 a3).mp b3
      have h1 := a2.dvd.mp hd
      rcases b1 with ⟨h, _⟩ | ⟨g1, _, ⟨u, w, g3⟩, g4, g5⟩
      · obtain ⟨j, hj, hn⟩ := a4; exact absurd (h j hj) hn
      · refine ⟨by omega, ?_, g4.trans a3, cg_nz g1⟩
        have a5 : Ex (il P 6) (mu - (k + 1) + 1) (il (R k) 6) := by rw [show mu - (k + 1) + 1 = mu - k by omega]; exact a2
        refine Ex.gcd (u := u) (w := w) hR.2.1 a5 (fun x => ?_) ?_
        · rw [dv_il, ← es_ev, ← es_ev]; exact g3 x
        · obtain ⟨q, hq⟩ := g5
          exact ⟨q, fun x => by rw [dv_il, es_ev]; exact hq x⟩
  obtain ⟨a1, a2, a3, a4⟩ := key n (Nat.le_refl _)
  rcases hx with ⟨G2, g1, g2⟩ | ⟨h0, hc⟩
  · have g3 : FreeOf (R n) G2 := g1.congr (fun j hj => (r2 j hj).symm) (fun _ _ => rfl)
    have h2 := mt (has_iff hV hf hP hF hN hz hR a4 g3 a3).mpr g2
    have h3 := mt a2.dvd.mpr h2
    omega
  · have h3 := a2.const hR.2.1 (fun x => by
      rw [← es_ev, ← es_ev, es_more (c := R n) (n := 1) x 6 (by decide) (fun j h1 h2 => by rw [← r2 j h2]; exact hc j h1 h2), es_more (c := R n) (n := 1) 0 6 (by decide) (fun j h1 h2 => by rw [← r2 j h2]; exact hc j h1 h2)]
      simp only [es]
      rw [Rat.pow_zero, Rat.pow_zero])
    omega
theorem mul_start {V F P : Nat → Int} {c : Int} (hV : Nz V) (hf : FreeOf V F) (hR : Rt F P c) : ∃ mu, 1 ≤ mu ∧ Ex (il P 6) mu (il V 6) := by
  obtain ⟨c1, c2, c3, c4⟩ := hR
  obtain ⟨t, ht, hVt, hVz⟩ := top_of hV
  obtain ⟨j, k, hj, hD⟩ := c2.1
  obtain ⟨e, u, h1, h2⟩ := mult_ex hj hD _ (il V 6) t _ (Nat.le_refl _) (top_Dg ht hVt hVz)
  have hE : Ex (il P 6) e (il V 6) := ⟨u, h1, h2⟩
  exact ⟨e, hE.dvd.mp (c3.trans (free_in hV hf).1), hE⟩
def sbd : Nat → Int
  | 0 => 1000
  | 1 => 5000
  | 2 => 20000
  | 3 => 60000
  | _ => 120000
theorem der_bd {a b : Nat → Int} {n : Nat} (hn : n < 5) (h : ∀ j, j < 6 → (-(sbd n) ≤ a j ∧ a j ≤ sbd n) ∧ (6 ≤ j + n → a j = 0)) (h1 : ∀ j : Nat, j < 5 → b j = a (j + 1) * ((j + 1 : Nat) : Int)) (h2 : b 5 = 0) : ∀ j, j < 6 → (-(sbd (n + 1)) ≤ b j ∧ b j ≤ sbd (n + 1)) ∧ (6 ≤ j + (n + 1) → b j = 0) := fun j hj => by
  have s0 : sbd 0 = 1000 := rfl
  have s1 : sbd 1 = 5000 := rfl
  have s2 : sbd 2 = 20000 := rfl
  have s3 : sbd 3 = 60000 := rfl
  have s4 : sbd 4 = 120000 := rfl
  have t1 : sbd (0 + 1) = 5000 := rfl
  have t2 : sbd (1 + 1) = 20000 := rfl
  have t3 : sbd (2 + 1) = 60000 := rfl
  have t4 : sbd (3 + 1) = 120000 := rfl
  have t5 : sbd (4 + 1) = 120000 := rfl
  have g0 : b 0 = a 1 * 1 := h1 0 (by decide)
  have g1 : b 1 = a 2 * 2 := h1 1 (by decide)
  have g2 : b 2 = a 3 * 3 := h1 2 (by decide)
  have g3 : b 3 = a 4 * 4 := h1 3 (by decide)
  have g4 : b 4 = a 5 * 5 := h1 4 (by decide)
  have k1 := h 1 (by decide)
  have k2 := h 2 (by decide)
  have k3 := h 3 (by decide)
  have k4 := h 4 (by decide)
  have k5 := h 5 (by decide)
  clear h h1
  rcases (show n = 0 ∨ n = 1 ∨ n = 2 ∨ n = 3 ∨ n = 4 by omega) with e | e | e | e | e <;> subst e <;> rcases (show j = 0 ∨ j = 1 ∨ j = 2 ∨ j = 3 ∨ j = 4 ∨ j = 5 by omega) with e | e | e | e | e | e <;> subst e <;> omega
theorem der_dva {a b : Nat → Int} (h1 : ∀ j : Nat, j < 5 → b j = a (j + 1) * ((j + 1 : Nat) : Int)) (h2 : b 5 = 0) : ∀ j, j < 6 → b j = dva a j := fun j hj => by
  unfold dva
  rcases (show j < 5 ∨ j = 5 by omega) with h | h
  · rw [if_pos h, h1 j h, Int.mul_comm]
    rfl
  · rw [h, if_neg (by decide), h2]
theorem Ex.row {P a b : Nat → Int} {m : Nat} (hP : Irr (il P 6)) (h : Ex (il P 6) (m + 1) (il a 6)) (hb : ∀ j, j < 6 → b j = dva a j) : Ex (il P 6) m (il b 6) := by
  obtain ⟨u, h1, h2⟩ := h.deriv hP
  exact ⟨u, fun x => by rw [← es_ev, es_congr hb x, ← dv_il]; exact h1 x, h2⟩
