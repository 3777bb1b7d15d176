/-! parts of polynomials with coefficients of at most 1000 -/
def Part (p1 F : Nat → Int) : Prop := Nz p1 ∧ (∀ j, j < 6 → -1000 ≤ p1 j ∧ p1 j ≤ 1000) ∧ Sqf F ∧ ∃ C : Nat → Int, ∀ x, es p1 6 x = es C 6 x * es F 6 x
theorem Part.small {p1 F : Nat → Int} (h : Part p1 F) : ∃ a, Small F a := by
  obtain ⟨h1, h2, h3, C, h4⟩ := h
  obtain ⟨a, ha, hl, hz⟩ := top_of h3.1
  have hb := fac_all h1 h2 h4
  refine ⟨a, ha, hl, hz, fun j hj => ?_⟩
  unfold ma
  by_cases h5 : a = 5
  · rw [if_pos h5]
    subst h5
    have hd := fac_deg h4 hz hl ha
    have e : ∀ j, j < 6 → p1 j = C 0 * F j := fun j hj => by
      have := cv_of h4 j (by omega)
      rw [if_pos hj] at this
      rw [← this]
      have h6 := sm_one (f := fun k => if k ≤ j ∧ j - k ≤ 5 then C k * F (j - k) else 0) (j := 0) 6 (fun k hk h0 => by
        show (if k ≤ j ∧ j - k ≤ 5 then C k * F (j - k) else 0) = 0
        have hC : C k = 0 := Classical.byContradiction (fun hn => by have := hd k hk hn; omega)
        rw [hC]; split <;> simp)
      rw [if_pos (by omega), if_pos (by omega), Nat.sub_zero] at h6
      exact h6
    have hC0 : C 0 ≠ 0 := fun h0 => by
      obtain ⟨j, hj, hn⟩ := h1
      exact hn (by rw [e j hj, h0, Int.zero_mul])
    have e3 : ((p1 j).natAbs : Int) = ((C 0).natAbs : Int) * ((F j).natAbs : Int) := by rw [e j hj, Int.natAbs_mul, Int.natCast_mul]
    have e4 := Int.mul_le_mul_of_nonneg_right (show (1 : Int) ≤ ((C 0).natAbs : Int) by omega) (show (0 : Int) ≤ ((F j).natAbs : Int) by omega)
    have e5 := h2 j hj
    omega
  · rw [if_neg h5]
    have := hb j hj
    omega
theorem PrimOf.le {A B : Nat → Int} {M : Int} (hM : 0 ≤ M) (h : PrimOf A B) (hA : ∀ j, j < 6 → -M ≤ A j ∧ A j ≤ M) : ∀ j, j < 6 → -M ≤ B j ∧ B j ≤ M := fun j hj => by
  rcases h with ⟨_, h2⟩ | ⟨c, hc, q1, _⟩
  · rw [h2 j hj]; omega
  · have e2 := hA j hj
    have e3 : ((A j).natAbs : Int) = (c.natAbs : Int) * ((B j).natAbs : Int) := by rw [q1 j hj, Int.natAbs_mul, Int.natCast_mul]
    have e4 := Int.mul_le_mul_of_nonneg_right (show (1 : Int) ≤ (c.natAbs : Int) by omega) (show (0 : Int) ≤ ((B j).natAbs : Int) by omega)
    omega
/-- what the free part of a polynomial is -/
theorem FreeOf.part {V F : Nat → Int} (hV : Nz V) (hM : ∀ j, j < 6 → -1000 ≤ V j ∧ V j ≤ 1000) (h : FreeOf V F) : (∃ p1, Part p1 F) ∧ cg F 0 6 = 1 ∧ ∃ k, k < 6 ∧ 0 < F k ∧ ∀ j, k < j → j < 6 → F j = 0 := by
  have hf := FreeOf.facts hV hM h
  obtain ⟨G, p1, C, hG, hp, hC, hF⟩ := h
  have hNp : Nz p1 := by
    rcases hp with ⟨q1, _⟩ | ⟨c, hc, q1, q2, k, hk, hk2, _⟩
    · obtain ⟨j, hj, hn⟩ := hV; exact absurd (q1 j hj) hn
    · exact ⟨k, hk, by omega⟩
  have hNC : Nz C := (nz_parts hNp hC).2
  rcases hF with ⟨q1, _⟩ | ⟨c, hc, q1, q2, q3⟩
  · obtain ⟨j, hj, hn⟩ := hNC; exact absurd (q1 j hj) hn
  · refine ⟨⟨p1, hNp, PrimOf.le (by decide) hp hM, ⟨hf.1, hf.2.1⟩, fun j => c * G j, fun x => ?_⟩, q2, q3⟩
    rw [hC x, es_sc, es_congr q1 x, es_sc]
    grind
theorem Part.dv {p1 F g : Nat → Int} (h : Part p1 F) (hg : cg g 0 6 = 1) (hd : Dv (il g 6) (il F 6)) : (∃ h0 : Nat → Int, ∀ x, es F 6 x = es h0 6 x * es g 6 x) ∧ Part p1 g := by
  obtain ⟨h1, h2, h3, C, h4⟩ := h
  obtain ⟨a, hs⟩ := Part.small ⟨h1, h2, h3, C, h4⟩
  have hb : ∀ j, j < 6 → -49000 ≤ F j ∧ F j ≤ 49000 := fac_all h1 h2 h4
  obtain ⟨⟨h0, e⟩, _⟩ := prim_small (M := 49000) (by decide) h3.1 hb hg hd
  have hd2 : Dv (il g 6) (il p1 6) := Dv.trans hd ⟨il C 6, fun x => by rw [← es_ev, ← es_ev, ← es_ev]; exact h4 x⟩
  obtain ⟨⟨C2, e2⟩, _⟩ := prim_small (M := 1000) (by decide) h1 h2 hg hd2
  exact ⟨⟨h0, e⟩, h1, h2, (h3.parts e).1, C2, e2⟩
theorem NB.out {p1 F : Nat → Int} {N : Rat → Int} (h : Part p1 F) (hN : NB F N) : (∀ x, x ≤ -1001 → N x = 0) ∧ ∀ x y, 1001 ≤ x → 1001 ≤ y → N x = N y := by
  obtain ⟨h1, h2, h3, C, h4⟩ := h
  obtain ⟨r, n, hs, e⟩ := hN
  by_cases hn : n = 1
  · subst hn
    have := (one_const hs).2
    exact ⟨fun x _ => by rw [e, this], fun x y _ _ => by rw [e, e, this, this]⟩
  · have hn1 := hs.1
    have hB := big_out h1 h2 (B := 1001) (by decide +kernel)
    obtain ⟨q1, q2⟩ := hs.ends (show 2 ≤ n by omega) h3.2 (P := es p1 6) (H := il C 6) (k := 1) (B := 1001) (by decide) (fun x => by rw [← es_ev, h4 x]; grind) (by decide) hB
    exact ⟨fun x hx => by rw [e, q1 x hx], fun x y hx hy => by rw [e, e, q2 x hx, q2 y hy]⟩
theorem NB.near {p1 F : Nat → Int} {N : Rat → Int} (h : Part p1 F) (hN : NB F N) {x y : Rat} (hxy : y - x ≤ 1) (hj : N x < N y) : (-1002 ≤ x ∧ x ≤ 1002) ∧ -1002 ≤ y ∧ y ≤ 1002 := by
  obtain ⟨o1, o2⟩ := NB.out h hN
  have hF := h.2.2.1
  have hlt : x < y := by
    rcases rat_tri x y with h1 | h1 | h1
    · exact h1
    · rw [h1] at hj; omega
    · have := hN.mono hF (show y ≤ x by grind); omega
  have a1 : ¬ y ≤ -1001 := fun h1 => by
    have q1 := o1 y h1
    have q2 := o1 x (by grind)
    omega
  have a2 : ¬ 1001 ≤ x := fun h1 => by
    have := o2 x y h1 (by grind)
    omega
  grind
theorem Pt_step (v : Int) (b : Nat) : Pt (v + 1) b - Pt v b = 1 / ((2 ^ b : Int) : Rat) := by
  have p := pt_pos b
  have n : ((2 ^ b : Int) : Rat) ≠ 0 := by grind
  have e1 := Pt_mul (v + 1) b
  have e2 := Pt_mul v b
  rw [Rat.intCast_add] at e1
  generalize ((2 ^ b : Int) : Rat) = T at *
  have : (Pt (v + 1) b - Pt v b) * T = 1 := by
    have h1 : ((1 : Int) : Rat) = 1 := rfl
    grind
  grind
theorem Pt_w (v : Int) {b : Nat} (hb : 248 ≤ b) : Pt v b < Pt (v + 1) b ∧ Pt (v + 1) b - Pt v b ≤ wcel := by
  refine ⟨Pt_lt (by omega), ?_⟩
  rw [Pt_step]
  have p := pt_pos b
  have h1 : ((2 ^ 248 : Int) : Rat) ≤ ((2 ^ b : Int) : Rat) := Rat.intCast_le_intCast.mpr (pow2_le hb)
  have h2 : wcel * ((2 ^ 248 : Int) : Rat) = 1 := by decide +kernel
  have w0 : 0 ≤ wcel := by decide +kernel
  have h3 : wcel * ((2 ^ 248 : Int) : Rat) ≤ wcel * ((2 ^ b : Int) : Rat) := Rat.mul_le_mul_of_nonneg_left h1 w0
  generalize ((2 ^ b : Int) : Rat) = T at *
  have h4 : 1 ≤ wcel * T := by grind
  have h5 : 1 / T * T = 1 := by grind
  refine Classical.byContradiction (fun hn => ?_)
  have h6 : wcel < 1 / T := by grind
  have h7 : wcel * T < 1 / T * T := Rat.mul_lt_mul_of_pos_right h6 p
  grind
theorem wcel1 : wcel ≤ 1 := by decide +kernel
/-- a cell of 2^-248 or less holds one root at most, and none at its end then -/
theorem cell_one {p1 F : Nat → Int} {N : Rat → Int} (h : Part p1 F) (hN : NB F N) {v : Int} {b : Nat} (hb : 248 ≤ b) (hj : N (Pt v b) < N (Pt (v + 1) b)) : N (Pt (v + 1) b) = N (Pt v b) + 1 ∧ es F 6 (Pt (v + 1) b) ≠ 0 := by
  obtain ⟨a, hs⟩ := h.small
  obtain ⟨w1, w2⟩ := Pt_w v hb
  obtain ⟨n1, n2⟩ := NB.near h hN (Rat.le_trans w2 wcel1) hj
  have ha : 0 < a := by
    rcases Nat.eq_zero_or_pos a with h0 | h0
    · exfalso
      subst h0
      obtain ⟨r, n, hsq, e⟩ := hN
      have hn1 : n = 1 := by
        rcases hsq.2.2.2 with ⟨q, _⟩ | ⟨q, _⟩
        · exact q
        · exfalso
          obtain ⟨j, hj, hjn⟩ := q.2.2.2.1 1 (by have := q.1; omega)
          refine hjn ?_
          rw [q.2.2.1 j hj]
          exact dva_zero (n := 1) (fun j h3 h4 => hs.2.2.1 j (by omega) h4) j (by omega) hj
      subst hn1
      have := (one_const hsq).2
      rw [e, e, this, this] at hj
      omega
    · exact h0
  obtain ⟨q1, q2⟩ := sep1 hs ha h.2.2.1 hN n1 n2 w1 w2
  exact ⟨by omega, q2 hj⟩
theorem two_far {p1 F : Nat → Int} {N : Rat → Int} (h : Part p1 F) (hN : NB F N) {i v : Int} {b : Nat} (hb : 248 ≤ b) (h1 : Cell N i v b) (h2 : Cell N (i + 1) v b) : False := by
  have e1 := h1.2.1
  have e2 := h2.2.2
  have := (cell_one h hN hb (v := v) (by omega)).1
  omega
