/-! a row of remainders is there for each polynomial -/
theorem NR.dv0 {p q s : Nat → Int} (h : NR p q s) (hz : ∀ j, j < 6 → s j = 0) : Dv (il q 6) (il p 6) := by
  obtain ⟨⟨la, Q, hla, e⟩, _⟩ := h
  refine ⟨psc (1 / la) Q, fun x => ?_⟩
  have e1 := e x
  rw [es_zero hz x, es_ev, es_ev] at e1
  have hne : la ≠ 0 := fun h => by rw [h] at hla; exact absurd hla (by decide)
  rw [ev_sc]
  grind
theorem nr_ex {P q : Nat → Int} {d : Nat} (hd : d < 6) (hq : q d ≠ 0) (hz : ∀ j, d < j → j < 6 → q j = 0) : ∃ s : Nat → Int, NR P q s := by
  obtain ⟨Q, R, hR, e⟩ := (top_Dg hd hq hz).div (il P 6)
  obtain ⟨m, hm, C, hC⟩ := one_lower R
  have hm0 : (0 : Rat) < (m : Rat) := by exact_mod_cast hm
  refine ⟨fun j => if j < R.length then -1 * C j else 0, ⟨(m : Rat), psc (m : Rat) Q, hm0, fun x => ?_⟩, d, hd, hq, fun j h1 h2 => ?_⟩
  · have e1 : es (fun j => if j < R.length then -1 * C j else 0) 6 x = es (fun j => if j < R.length then -1 * C j else 0) R.length x := es_more x 6 (by omega) (fun j h1 h2 => if_neg (by omega))
    have e2 : es (fun j => if j < R.length then -1 * C j else 0) R.length x = es (fun j => -1 * C j) R.length x := es_congr (fun k hk => if_pos hk) x
    have e3 := es_sc (-1) C R.length x
    have e4 := hC x
    have e5 := e x
    rw [e1, e2, e3, ← e4, ev_sc, es_ev, es_ev]
    grind
  · exact if_neg (by omega)
theorem sseq_ext {a : Nat → Int} (ha : Nz a) : ∀ (f d : Nat) (r : Nat → Nat → Int) (n : Nat), d < f → Spre a r n → n + d ≤ 6 → r (n - 1) d ≠ 0 → (∀ j, d < j → j < 6 → r (n - 1) j = 0) → ∃ (r' : Nat → Nat → Int) (n' : Nat), Sseq a r' n'
  | 0, d, r, n, h, _, _, _, _ => absurd h (Nat.not_lt_zero _)
  | f + 1, d, r, n, h, hS, hn, hl, hz => by
    have hn2 := hS.1
    obtain ⟨s, hs⟩ := nr_ex (P := r (n - 2)) (show d < 6 by omega) hl hz
    by_cases h0 : Nz s
    · obtain ⟨d2, h1, h2, h3⟩ := top_of h0
      have hd2 : d2 < d := Classical.byContradiction (fun h9 => h2 (hs.low hz d2 (by omega) h1))
      have hS2 : Spre a (fun k => if k = n then s else r k) (n + 1) := hS.snoc (fun k hk j _ => by rw [if_neg (by omega)]) (by rw [if_pos rfl]; exact hs) (by rw [if_pos rfl]; exact h0)
      exact sseq_ext ha f d2 _ (n + 1) (by omega) hS2 (by omega) (by rw [Nat.add_sub_cancel, if_pos rfl]; exact h2) (by rw [Nat.add_sub_cancel, if_pos rfl]; exact h3)
    · have hz0 : ∀ j, j < 6 → s j = 0 := fun j hj => Classical.byContradiction (fun h9 => h0 ⟨j, hj, h9⟩)
      exact ⟨r, n, by omega, by omega, ha, Or.inr ⟨hS, hs.dv0 hz0⟩⟩
theorem dva_top {a : Nat → Int} {D : Nat} (hD : D < 6) (h0 : 0 < D) (ha : a D ≠ 0) (hz : ∀ j, D < j → j < 6 → a j = 0) : dva a (D - 1) ≠ 0 ∧ ∀ j, D - 1 < j → j < 6 → dva a j = 0 := by
  refine ⟨fun h => ha ?_, fun j h1 h2 => dva_zero (n := D + 1) (fun j h3 h4 => hz j (by omega) h4) j (by omega) h2⟩
  rcases (show D = 1 ∨ D = 2 ∨ D = 3 ∨ D = 4 ∨ D = 5 by omega) with rfl | rfl | rfl | rfl | rfl <;> simp only [dva] at h <;> simp at h <;> omega
theorem Sseq.ex {a : Nat → Int} (ha : Nz a) : ∃ (r : Nat → Nat → Int) (n : Nat), Sseq a r n := by
  obtain ⟨D, hD, h1, h2⟩ := top_of ha
  by_cases h0 : D = 0
  · subst h0
    exact ⟨fun _ => a, 1, by omega, by omega, ha, Or.inl ⟨rfl, fun _ _ => rfl, fun j hj => dva_zero (n := 1) (fun j h3 h4 => h2 j (by omega) h4) j (by omega) hj⟩⟩
  · obtain ⟨h3, h4⟩ := dva_top hD (by omega) h1 h2
    refine sseq_ext ha 6 (D - 1) (fun k => if k = 0 then a else dva a) 2 (by omega) ⟨Nat.le_refl _, fun j _ => rfl, fun j _ => rfl, fun k hk => ?_, fun k hk => by omega⟩ (by omega) h3 h4
    rcases (show k = 0 ∨ k = 1 by omega) with rfl | rfl
    · exact ha
    · exact ⟨D - 1, by omega, h3⟩
/-- N x: how many roots of F lie below x -/
def NB (F : Nat → Int) (N : Rat → Int) : Prop := ∃ (r : Nat → Nat → Int) (n : Nat), Sseq F r n ∧ ∀ x, N x = NbF r n x
def Sqf (F : Nat → Int) : Prop := Nz F ∧ Cop (il F 6) (il (dva F) 6)
theorem NB.ex {F : Nat → Int} (h : Nz F) : ∃ N, NB F N := by
  obtain ⟨r, n, hs⟩ := Sseq.ex h
  exact ⟨NbF r n, r, n, hs, fun _ => rfl⟩
theorem NB.uniq {F : Nat → Int} {N N' : Rat → Int} (h : NB F N) (h' : NB F N') (x : Rat) : N' x = N x := by
  obtain ⟨r, n, hs, e⟩ := h
  obtain ⟨r', n', hs', e'⟩ := h'
  rw [e, e', NbF_same hs hs']
theorem one_const {F : Nat → Int} {r : Nat → Nat → Int} (h : Sseq F r 1) : (∃ c : Rat, c ≠ 0 ∧ ∀ x, es F 6 x = c) ∧ ∀ x, NbF r 1 x = 0 := by
  obtain ⟨_, _, hN, h1⟩ := h
  rcases h1 with ⟨_, h2, h3⟩ | ⟨h2, _⟩
  · have hz : ∀ j, 1 ≤ j → j < 6 → F j = 0 := fun j hj1 hj2 => by
      have h4 := h3 (j - 1) (by omega)
      rcases (show j = 1 ∨ j = 2 ∨ j = 3 ∨ j = 4 ∨ j = 5 by omega) with rfl | rfl | rfl | rfl | rfl <;> simp only [dva] at h4 <;> simp at h4 <;> omega
    have h0 : F 0 ≠ 0 := fun h => by
      obtain ⟨j, hj, hn⟩ := hN
      by_cases hj0 : j = 0
      · exact hn (by rw [hj0]; exact h)
      · exact hn (hz j (by omega) hj)
    have e : ∀ x, es F 6 x = (F 0 : Rat) := fun x => by
      rw [es_more (n := 1) x 6 (by omega) (fun j h5 h6 => hz j h5 h6)]
      simp only [es]
      grind
    have hne : (F 0 : Rat) ≠ 0 := fun h => h0 (by exact_mod_cast h)
    refine ⟨⟨(F 0 : Rat), hne, e⟩, fun x => ?_⟩
    have e1 : sg (es (r 0) 6 x) ≠ 0 := by rw [es_congr h2 x, e x]; exact sg_ne hne
    unfold NbF tn0 tn
    simp only [tn, lst, Int.mul_zero]
    rw [if_neg e1]
    simp
  · exact absurd h2.1 (by omega)
theorem NB.cnt {F : Nat → Int} {N : Rat → Int} (h : NB F N) (hF : Sqf F) {R : Rat} (hR : 0 ≤ R) : Cnt R (es F 6) (fun x => -N x) := by
  obtain ⟨r, n, hs, e⟩ := h
  by_cases hn : n = 1
  · subst hn
    obtain ⟨⟨c, hc, e1⟩, e2⟩ := one_const hs
    refine ⟨1, by decide, fun x y _ _ _ _ => ?_⟩
    show -N x = -N y + dl (sg (es F 6 x)) (sg (es F 6 y))
    rw [e x, e y, e2 x, e2 y, e1 x, e1 y]
    unfold dl
    rw [if_pos ⟨rfl, sg_ne hc⟩]
    rfl
  · have hn1 := hs.1
    obtain ⟨d, hd, h1⟩ := hs.cnt (show 2 ≤ n by omega) hF.2 hR
    refine ⟨d, hd, fun x y hx hy hxy hd => ?_⟩
    have h2 : tn0 (fun k => sg (es (r k) 6 x)) n = tn0 (fun k => sg (es (r k) 6 y)) n + dl (sg (es F 6 x)) (sg (es F 6 y)) := h1 x y hx hy hxy hd
    show -N x = -N y + dl (sg (es F 6 x)) (sg (es F 6 y))
    rw [e x, e y]
    unfold NbF
    omega
theorem NB.ok {F : Nat → Int} {N : Rat → Int} (h : NB F N) (hF : Sqf F) {R : Rat} (hR : 0 ≤ R) : NbOk R (fun x => es F 6 x) N := by
  obtain ⟨r, n, hs, e⟩ := h
  have eN : N = NbF r n := funext e
  rw [eN]
  by_cases hn : n = 1
  · subst hn
    obtain ⟨⟨c, hc, e1⟩, e2⟩ := one_const hs
    refine ⟨fun x y _ _ _ => by rw [e2, e2]; exact Int.le_refl _, fun x y _ _ _ h0 => ?_, fun x y _ _ _ _ _ => ?_⟩
    · exact absurd h0 (by show sg (es F 6 x) ≠ 0; rw [e1]; exact sg_ne hc)
    · show sg (es F 6 x) = sg (es F 6 y) ↔ _
      rw [e1, e1, e2, e2]
      simp
  · have hn1 := hs.1
    exact hs.nbok (by omega) hF.2 hR
theorem rng_max (x y : Rat) : ∃ R : Rat, 0 ≤ R ∧ rng R x ∧ rng R y := by
  obtain ⟨a, ha⟩ := rat_nat x
  obtain ⟨b, hb⟩ := rat_nat (-x)
  obtain ⟨c, hc⟩ := rat_nat y
  obtain ⟨d, hd⟩ := rat_nat (-y)
  have a0 : (0 : Rat) ≤ (a : Rat) := by exact_mod_cast Nat.zero_le a
  have b0 : (0 : Rat) ≤ (b : Rat) := by exact_mod_cast Nat.zero_le b
  have c0 : (0 : Rat) ≤ (c : Rat) := by exact_mod_cast Nat.zero_le c
  have d0 : (0 : Rat) ≤ (d : Rat) := by exact_mod_cast Nat.zero_le d
  refine ⟨(a : Rat) + b + c + d, by grind, ⟨by grind, by grind⟩, ⟨by grind, by grind⟩⟩
theorem NB.mono {F : Nat → Int} {N : Rat → Int} (h : NB F N) (hF : Sqf F) {x y : Rat} (hxy : x ≤ y) : N x ≤ N y := by
  obtain ⟨R, hR, hx, hy⟩ := rng_max x y
  exact (h.ok hF hR).1 x y hx hy hxy
theorem NB.zero {F : Nat → Int} {N : Rat → Int} (h : NB F N) (hF : Sqf F) {x y : Rat} (hxy : x < y) (h0 : es F 6 x = 0) : N x < N y := by
  obtain ⟨R, hR, hx, hy⟩ := rng_max x y
  exact (h.ok hF hR).2.1 x y hx hy hxy (by show sg (es F 6 x) = 0; rw [h0]; rfl)
theorem NB.par {F : Nat → Int} {N : Rat → Int} (h : NB F N) (hF : Sqf F) {x y : Rat} (hxy : x < y) (hx0 : sg (es F 6 x) ≠ 0) (hy0 : sg (es F 6 y) ≠ 0) : sg (es F 6 x) = sg (es F 6 y) ↔ (N y - N x) % 2 = 0 := by
  obtain ⟨R, hR, hx, hy⟩ := rng_max x y
  exact (h.ok hF hR).2.2 x y hx hy hxy hx0 hy0
/-- the parts of a polynomial without repeats -/
theorem cop_parts {F g h : Nat → Int} (hF : Cop (il F 6) (il (dva F) 6)) (e : ∀ x, es F 6 x = es h 6 x * es g 6 x) : Cop (il g 6) (il (dva g) 6) ∧ Cop (il h 6) (il (dva h) 6) ∧ Cop (il h 6) (il g 6) := by
  obtain ⟨u, w, h1⟩ := hF
  have e1 : ∀ x, ev (il F 6) x = ev (pmul (il h 6) (il g 6)) x := fun x => by rw [ev_mul, ← es_ev, ← es_ev, ← es_ev]; exact e x
  have e2 : ∀ x, es (dva F) 6 x = es (dva h) 6 x * es g 6 x + es h 6 x * es (dva g) 6 x := fun x => by
    rw [← dv_il F x, dv_congr e1 x, dv_mul, dv_il, dv_il, ← es_ev, ← es_ev]
  have h2 : ∀ x, ev u x * (es h 6 x * es g 6 x) + ev w x * (es (dva h) 6 x * es g 6 x + es h 6 x * es (dva g) 6 x) = 1 := fun x => by
    have h3 := h1 x
    rw [← es_ev, ← es_ev, e x, e2 x] at h3
    exact h3
  refine ⟨⟨padd (pmul u (il h 6)) (pmul w (il (dva h) 6)), pmul w (il h 6), fun x => ?_⟩, ⟨padd (pmul u (il g 6)) (pmul w (il (dva g) 6)), pmul w (il g 6), fun x => ?_⟩, ⟨padd (pmul u (il g 6)) (pmul w (il (dva g) 6)), pmul w (il (dva h) 6), fun x => ?_⟩⟩
  · have h3 := h2 x
    simp only [ev_add, ev_mul, ← es_ev]
    grind
  · have h3 := h2 x
    simp only [ev_add, ev_mul, ← es_ev]
    grind
  · have h3 := h2 x
    simp only [ev_add, ev_mul, ← es_ev]
    grind
theorem nz_parts {F g h : Nat → Int} (hF : Nz F) (e : ∀ x, es F 6 x = es h 6 x * es g 6 x) : Nz g ∧ Nz h := by
  obtain ⟨j, hj, hn⟩ := hF
  refine ⟨Classical.byContradiction (fun h0 => hn ?_), Classical.byContradiction (fun h0 => hn ?_)⟩
  · have hz : ∀ j, j < 6 → g j = 0 := fun j hj => Classical.byContradiction (fun h9 => h0 ⟨j, hj, h9⟩)
    exact es_row (n := 6) (fun x => by rw [e x, es_zero hz x]; grind) j hj
  · have hz : ∀ j, j < 6 → h j = 0 := fun j hj => Classical.byContradiction (fun h9 => h0 ⟨j, hj, h9⟩)
    exact es_row (n := 6) (fun x => by rw [e x, es_zero hz x]; grind) j hj
theorem Sqf.parts {F g h : Nat → Int} (hF : Sqf F) (e : ∀ x, es F 6 x = es h 6 x * es g 6 x) : Sqf g ∧ Sqf h ∧ Cop (il h 6) (il g 6) := by
  obtain ⟨h1, h2, h3⟩ := cop_parts hF.2 e
  obtain ⟨h4, h5⟩ := nz_parts hF.1 e
  exact ⟨⟨h4, h1⟩, ⟨h5, h2⟩, h3⟩
/-- the roots of a product are those of both -/
theorem NB.mul {F g h : Nat → Int} {N M K : Rat → Int} (hF : Sqf F) (e : ∀ x, es F 6 x = es h 6 x * es g 6 x) (hN : NB F N) (hM : NB g M) (hK : NB h K) (x y : Rat) (hxy : x ≤ y) : N y - N x = (M y - M x) + (K y - K x) := by
  rcases Rat.le_iff_lt_or_eq.mp hxy with hlt | rfl
  · obtain ⟨R, hR, hx, hy⟩ := rng_max x y
    obtain ⟨h1, h2, h3⟩ := hF.parts e
    have eh : es h 6 = ev (il h 6) := funext (es_ev h 6)
    have eg : es g 6 = ev (il g 6) := funext (es_ev g 6)
    have c1 := Cnt.mul hR h3 (V := fun x => -K x) (U := fun x => -M x) (by rw [← eh]; exact hK.cnt h2 hR) (by rw [← eg]; exact hM.cnt h1 hR)
    have c2 := hN.cnt hF hR
    have e2 : (es F 6) = fun x => ev (il h 6) x * ev (il g 6) x := funext (fun x => by rw [e x, es_ev, es_ev])
    rw [e2] at c2
    have h4 : (-K x + -M x) - (-K y + -M y) = -N x - -N y := Cnt.uniq c1 c2 x y hx hy hlt
    omega
  · omega
