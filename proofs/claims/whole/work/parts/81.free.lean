/-! the polynomial with the same roots, each once, and its roots -/
def FreeOf (A F : Nat → Int) : Prop := ∃ G p1 C : Nat → Int, Gcd A (dva A) G ∧ PrimOf A p1 ∧ (∀ x, es p1 6 x = es C 6 x * es G 6 x) ∧ PrimOf C F
theorem FreeOf.facts {A F : Nat → Int} {M : Int} (hA : Nz A) (hM : ∀ j, j < 6 → -M ≤ A j ∧ A j ≤ M) (h : FreeOf A F) : Nz F ∧ Cop (il F 6) (il (dva F) 6) ∧ (∀ j, j < 6 → -(49 * M) ≤ F j ∧ F j ≤ 49 * M) ∧ ∃ (H : List Rat) (k : Rat), k ≠ 0 ∧ ∀ x, es F 6 x * ev H x = k * es A 6 x := by
  obtain ⟨G, p1, C, h1, h2, h3, h4⟩ := h
  have hc := sqf_cop hA h1 h2 h3 h4
  have hc2 : Cop (il F 6) (il (dva F) 6) := by
    obtain ⟨u, w, hu⟩ := hc
    exact ⟨u, w, fun x => by have := hu x; rw [dv_il] at this; rw [← es_ev (dva F)]; exact this⟩
  obtain ⟨t, ht, hAt⟩ := hA
  rcases h2 with ⟨p2, _⟩ | ⟨c, hc0, p2, p3, _⟩
  · exact absurd (p2 t ht) hAt
  have hp0 : ∃ t, t < 6 ∧ p1 t ≠ 0 := ⟨t, ht, fun h => hAt (by rw [p2 t ht, h]; simp)⟩
  have hpb : ∀ j, j < 6 → -M ≤ p1 j ∧ p1 j ≤ M := fun j hj => by
    have h1 := hM j hj
    have h2 : ((A j).natAbs : Int) = (c.natAbs : Int) * ((p1 j).natAbs : Int) := by rw [p2 j hj, Int.natAbs_mul, Int.natCast_mul]
    have h3 := Int.mul_le_mul_of_nonneg_right (show (1 : Int) ≤ (c.natAbs : Int) by omega) (show (0 : Int) ≤ ((p1 j).natAbs : Int) by omega)
    omega
  have hCb := fac_all (C := G) (P := C) hp0 hpb (fun x => by rw [h3 x, Rat.mul_comm])
  rcases h4 with ⟨f1, _⟩ | ⟨d, hd, f2, f3, k, hk, f4, f5⟩
  · exfalso
    obtain ⟨t, ht, hpt⟩ := hp0
    exact hpt (es_row (fun x => by rw [h3 x, es_zero f1]; grind) t ht)
  refine ⟨⟨k, hk, by omega⟩, hc2, fun j hj => ?_, psc (c : Rat) (psc (d : Rat) (il G 6)), 1, by decide, fun x => ?_⟩
  · have h1 := hCb j hj
    have h2 : ((C j).natAbs : Int) = (d.natAbs : Int) * ((F j).natAbs : Int) := by rw [f2 j hj, Int.natAbs_mul, Int.natCast_mul]
    have h3 := Int.mul_le_mul_of_nonneg_right (show (1 : Int) ≤ (d.natAbs : Int) by omega) (show (0 : Int) ≤ ((F j).natAbs : Int) by omega)
    omega
  · have e1 : es A 6 x = (c : Rat) * es p1 6 x := by rw [← es_sc]; exact es_congr p2 x
    have e2 : es C 6 x = (d : Rat) * es F 6 x := by rw [← es_sc]; exact es_congr f2 x
    rw [ev_sc, ev_sc, ← es_ev, e1, h3 x, e2]
    grind
/-- where a polynomial with coefficients of at most M is not small -/
theorem big_out {A : Nat → Int} {M : Int} (hA : Nz A) (hM : ∀ j, j < 6 → -M ≤ A j ∧ A j ≤ M) {B : Rat} (hB : (M : Rat) + 1 ≤ B) : ∀ x, B ≤ x ∨ x ≤ -B → 1 ≤ es A 6 x ∨ es A 6 x ≤ -1 := by
  obtain ⟨D, hD, hc, hz⟩ := top_of hA
  have hM0 : 0 ≤ M := by have := hM 0 (by omega); omega
  have hM1 : (0 : Rat) ≤ (M : Rat) := by exact_mod_cast hM0
  have hA1 : (1 : Rat) ≤ (((A D).natAbs : Int) : Rat) := by
    have : (1 : Int) ≤ ((A D).natAbs : Int) := by omega
    exact_mod_cast this
  have fin : ∀ (s : Int) (y : Rat), (((A D).natAbs : Int) : Rat) ≤ ((s.sign : Int) : Rat) * y → 1 ≤ y ∨ y ≤ -1 := fun s y h => by
    rcases sign_cases s with h1 | h1 | h1
    · rw [h1] at h
      have : ((1 : Int) : Rat) = 1 := rfl
      rw [this] at h
      left; grind
    · rw [h1] at h
      have : ((-1 : Int) : Rat) = -1 := rfl
      rw [this] at h
      right; grind
    · rw [h1] at h
      have : ((0 : Int) : Rat) = 0 := rfl
      rw [this] at h
      exfalso; grind
  have ok : ∀ x : Rat, B ≤ x → 1 ≤ x ∧ (M : Rat) ≤ (((A D).natAbs : Int) : Rat) * (x - 1) := fun x hx => by
    refine ⟨by grind, ?_⟩
    have := Rat.mul_le_mul_of_nonneg_right hA1 (show 0 ≤ x - 1 by grind)
    grind
  intro x hx
  rcases hx with hx | hx
  · obtain ⟨k1, k2⟩ := ok x hx
    exact fin _ _ (cauchy_abs (M := M) hD hc hz (fun j hj => hM j (by omega)) k1 k2)
  · obtain ⟨k1, k2⟩ := ok (-x) (by grind)
    have h9 := cauchy_left (M := M) hD hc hz (fun j hj => hM j (by omega)) k1 k2
    rw [show - -x = x by grind] at h9
    exact fin _ _ h9
/-- nr roots; the cell of root i at 256 bits is c i -/
def RootsOf (F : Nat → Int) (nr : Int) (c : Nat → Int) : Prop := ((∀ j, 1 ≤ j → j < 6 → F j = 0) ∧ nr = 0) ∨ ((∃ j, 1 ≤ j ∧ j < 6 ∧ F j ≠ 0) ∧ ∃ (r : Nat → Nat → Int) (n : Nat), Sseq F r n ∧ nr = tn (fun k => sgL (r k)) n - tn (fun k => sgR (r k)) n ∧ ∀ i : Nat, (i : Int) < nr → Cell (NbF r n) (i : Int) (c i) 256)
def Laid (A F : Nat → Int) (nr : Int) (c : Nat → Int) : Prop := ((∀ j, j < 6 → A j = 0) ∧ (∀ j, j < 6 → F j = 0) ∧ nr = 0) ∨ (Nz A ∧ FreeOf A F ∧ RootsOf F nr c)
theorem Sseq.two {F : Nat → Int} {r : Nat → Nat → Int} {n : Nat} (h : Sseq F r n) (hF : ∃ j, 1 ≤ j ∧ j < 6 ∧ F j ≠ 0) : 2 ≤ n := by
  rcases h.2.2.2 with ⟨h1, _, h2⟩ | ⟨h1, _⟩
  · exfalso
    obtain ⟨j, h3, h4, h5⟩ := hF
    have h6 := h2 (j - 1) (by omega)
    unfold dva at h6
    rw [if_pos (by omega), show j - 1 + 1 = j by omega] at h6
    rcases Int.mul_eq_zero.mp h6 with h7 | h7
    · omega
    · exact h5 h7
  · exact h1.1
theorem NbF_congr {r r' : Nat → Nat → Int} {n : Nat} (hn : 0 < n) (h : ∀ k, k < n → ∀ j, j < 6 → r' k j = r k j) (x : Rat) : NbF r' n x = NbF r n x := by
  have hp : ∀ k, k < n → Pp (r k) (r' k) := fun k hk => Pp.of_eq (h k hk)
  rw [NbF, NbF, (tn_congr (fun k hk => (hp k hk).left)).1, tn0_congr hn (fun k hk => (hp k hk).same x)]
theorem Pt_zero (t : Int) : Pt t 0 = (t : Rat) := by
  have h := Pt_mul t 0
  have e : ((2 ^ 0 : Int) : Rat) = 1 := rfl
  rw [e] at h
  grind
theorem Sseq.many {F : Nat → Int} {r : Nat → Nat → Int} {n : Nat} (h : Sseq F r n) : 0 ≤ tn (fun k => sgL (r k)) n ∧ tn (fun k => sgL (r k)) n ≤ 5 ∧ 0 ≤ tn (fun k => sgR (r k)) n := by
  obtain ⟨m, hm⟩ : ∃ m, n = m + 1 := ⟨n - 1, by have := h.1; omega⟩
  have h2 := h.2.1
  have h3 := tn_less (fun k => sgL (r k)) m
  have h4 := tn_less (fun k => sgR (r k)) m
  rw [hm]
  omega
/-- all that the searches want -/
theorem lay_facts {A F : Nat → Int} {r : Nat → Nat → Int} {n : Nat} (hA : Nz A) (hM : ∀ j, j < 6 → -1000 ≤ A j ∧ A j ≤ 1000) (hF : FreeOf A F) (h : Sseq F r n) (hn : 2 ≤ n) : (∀ R, 0 ≤ R → NbOk R (fun x => es F 6 x) (NbF r n)) ∧ (∀ x, x ≤ -1001 → NbF r n x = 0) ∧ (∀ x, 1001 ≤ x → NbF r n x = tn (fun k => sgL (r k)) n - tn (fun k => sgR (r k)) n) ∧ 0 ≤ tn (fun k => sgL (r k)) n - tn (fun k => sgR (r k)) n := by
  obtain ⟨hF0, hc, hb, H, k, hk, hH⟩ := hF.facts hA hM
  have e1 : ((1000 : Int) : Rat) = 1000 := rfl
  obtain ⟨h1, h2⟩ := h.ends hn hc hk hH (B := 1001) (by grind) (big_out hA hM (by rw [e1]; grind))
  have hok : ∀ R, 0 ≤ R → NbOk R (fun x => es F 6 x) (NbF r n) := fun R hR => h.nbok hn hc hR
  refine ⟨hok, h1, h2, ?_⟩
  have h3 := (hok 2000 (by grind)).1 (-1001) 1001 ⟨by grind, by grind⟩ ⟨by grind, by grind⟩ (by grind)
  rw [h1 _ (by grind), h2 _ (by grind)] at h3
  exact h3
theorem lay_first {r : Nat → Nat → Int} {n i : Nat} (h1 : ∀ x, x ≤ -1001 → NbF r n x = 0) (h2 : ∀ x, 1001 ≤ x → NbF r n x = tn (fun k => sgL (r k)) n - tn (fun k => sgR (r k)) n) (hi : (i : Int) < tn (fun k => sgL (r k)) n - tn (fun k => sgR (r k)) n) : F0I (NbF r n) (i : Int) (-2048) 12 := by
  have e1 : ((-2048 : Int) : Rat) = -2048 := rfl
  have e2 : ((2048 : Int) : Rat) = 2048 := rfl
  refine ⟨by omega, by decide, ?_, ?_⟩
  · rw [Pt_zero, e1, h1 _ (by grind)]; omega
  · rw [show (-2048 : Int) + 2 ^ 12 = 2048 by decide, Pt_zero, e2, h2 _ (by grind)]; exact hi
theorem dva_congr {A A' : Nat → Int} (h : ∀ j, j < 6 → A' j = A j) : ∀ j, j < 6 → dva A' j = dva A j := fun j hj => by
  unfold dva
  split
  · rw [h (j + 1) (by omega)]
  · rfl
theorem dva_bd {A : Nat → Int} {M : Int} (hM : 0 ≤ M) (h : ∀ j, j < 6 → -M ≤ A j ∧ A j ≤ M) : ∀ j, j < 6 → -(5 * M) ≤ dva A j ∧ dva A j ≤ 5 * M := fun j hj => by
  unfold dva
  rcases six_cases hj with rfl | rfl | rfl | rfl | rfl | rfl
  · have := h 1 (by omega); simp; omega
  · have := h 2 (by omega); simp; omega
  · have := h 3 (by omega); simp; omega
  · have := h 4 (by omega); simp; omega
  · have := h 5 (by omega); simp; omega
  · simp; omega
theorem cg_congr {A B : Nat → Int} : ∀ n, (∀ j, j < n → A j = B j) → cg A 0 n = cg B 0 n := by
  intro n
  induction n with
  | zero => intro _; rfl
  | succ n ih =>
    intro h
    rw [cg, cg, ih (fun j hj => h j (by omega)), Nat.zero_add, h n (by omega)]
theorem PrimOf.congr2 {A C C' : Nat → Int} (h : PrimOf A C) (hC : ∀ j, j < 6 → C' j = C j) : PrimOf A C' := by
  rcases h with ⟨h1, h2⟩ | ⟨c, hc, h1, h2, k, hk, h3, h4⟩
  · exact Or.inl ⟨h1, fun j hj => by rw [hC j hj]; exact h2 j hj⟩
  · exact Or.inr ⟨c, hc, fun j hj => by rw [hC j hj]; exact h1 j hj, by rw [cg_congr 6 hC]; exact h2, k, hk, by rw [hC k hk]; exact h3, fun j h5 h6 => by rw [hC j h6]; exact h4 j h5 h6⟩
theorem FreeOf.congr {A A' F F' : Nat → Int} (h : FreeOf A F) (hA : ∀ j, j < 6 → A' j = A j) (hF : ∀ j, j < 6 → F' j = F j) : FreeOf A' F' := by
  obtain ⟨G, p1, C, h1, h2, h3, h4⟩ := h
  exact ⟨G, p1, C, h1.congr hA (dva_congr hA), h2.congr hA, h3, h4.congr2 hF⟩
theorem Sseq.congr {a a' : Nat → Int} {r : Nat → Nat → Int} {n : Nat} (h : Sseq a r n) (ha : ∀ j, j < 6 → a' j = a j) : Sseq a' r n := by
  obtain ⟨h1, h2, h3, h4⟩ := h
  refine ⟨h1, h2, h3.congr ha, ?_⟩
  rcases h4 with ⟨h5, h6, h7⟩ | ⟨⟨h5, h6, h7, h8, h9⟩, h10⟩
  · exact Or.inl ⟨h5, fun j hj => (h6 j hj).trans (ha j hj).symm, fun j hj => by rw [dva_congr ha j hj]; exact h7 j hj⟩
  · exact Or.inr ⟨⟨h5, fun j hj => (h6 j hj).trans (ha j hj).symm, fun j hj => by rw [dva_congr ha j hj]; exact h7 j hj, h8, h9⟩, h10⟩
theorem RootsOf.congr {F F' c c' : Nat → Int} {nr : Int} (h : RootsOf F nr c) (hF : ∀ j, j < 6 → F' j = F j) (hc : ∀ i, i < 5 → c' i = c i) : RootsOf F' nr c' := by
  rcases h with ⟨h1, h2⟩ | ⟨⟨j, j1, j2, j3⟩, r, n, h2, h3, h4⟩
  · exact Or.inl ⟨fun j h3 h4 => by rw [hF j h4]; exact h1 j h3 h4, h2⟩
  · refine Or.inr ⟨⟨j, j1, j2, by rw [hF j j2]; exact j3⟩, r, n, h2.congr hF, h3, fun i hi => ?_⟩
    have := h2.many
    rw [hc i (by omega)]
    exact h4 i hi
theorem Laid.congr {A A' F F' c c' : Nat → Int} {nr : Int} (h : Laid A F nr c) (hA : ∀ j, j < 6 → A' j = A j) (hF : ∀ j, j < 6 → F' j = F j) (hc : ∀ i, i < 5 → c' i = c i) : Laid A' F' nr c' := by
  rcases h with ⟨h1, h2, h3⟩ | ⟨h1, h2, h3⟩
  · exact Or.inl ⟨fun j hj => by rw [hA j hj]; exact h1 j hj, fun j hj => by rw [hF j hj]; exact h2 j hj, h3⟩
  · exact Or.inr ⟨h1.congr hA, h2.congr hA hF, h3.congr hF hc⟩
/-- what the reference knows of the polynomials that are laid -/
def LaidAll (cv bl ro fr Z : Nat → Int) : Prop := (∀ q, q < 12 → bl q ≠ 0 → Laid (fun j => cv (6 * q + j)) (fun j => fr (6 * q + j)) (ro q) (fun i => Z (5 * q + i))) ∧ (∀ q, q < 12 → 0 ≤ bl q ∧ bl q ≤ 1) ∧ ∀ q, q < 12 → -10 ≤ ro q ∧ ro q ≤ 10
