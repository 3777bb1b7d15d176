/-! the line, while it is made -/
def Vc (I : Nat → Int) (A : Nat → Nat → Int) (p i : Nat) : Prop := p < 12 ∧ (p : Int) < I 0 ∧ Nz (A (20 + p)) ∧ (i : Int) < I (40 + p)
def AllZ (I : Nat → Int) (A : Nat → Nat → Int) (z : Nat → Int) : Prop := ∀ p : Nat, p < 12 → (p : Int) < I 0 → Nz (A (20 + p)) → I (20 + p) = 1 ∧ ∀ i : Nat, (i : Int) < I (40 + p) → CellOf (A (40 + p)) (i : Int) (z (5 * p + i))
def LnP (I : Nat → Int) (A : Nat → Nat → Int) (z : Nat → Int) (cur : Nat) : Prop := 0 ≤ I 1 ∧ (∀ k : Nat, (k : Int) < I 1 → ∃ p i : Nat, Vc I A p i ∧ A 5 k = ((5 * p + i : Nat) : Int)) ∧ (∀ k : Nat, (k : Int) + 1 < I 1 → z (A 5 k).toNat < z (A 5 (k + 1)).toNat) ∧ ∀ p i : Nat, Vc I A p i → 5 * p + i < cur → ∃ k : Nat, (k : Int) < I 1 ∧ A 6 (5 * p + i) = A 5 k ∧ z (A 5 k).toNat = z (5 * p + i)
/-- curves and coefficients are as they were -/
def Kq (I : Nat → Int) (A : Nat → Nat → Int) (I' : Nat → Int) (A' : Nat → Nat → Int) : Prop := I' 0 = I 0 ∧ (∀ i, 20 ≤ i → i < 100 → I' i = I i) ∧ ∀ q, 20 ≤ q → q < 100 → A' q = A q
theorem Kp.kq {I I' : Nat → Int} {A A' : Nat → Nat → Int} (h : Kp I A I' A') : Kq I A I' A' := ⟨h.1 0 (Or.inl (by omega)), fun i h1 h2 => h.1 i (Or.inr ⟨h1, h2⟩), fun q h1 h2 => h.2 q (Or.inr (Or.inr ⟨h1, h2⟩))⟩
theorem Kq.trans {I I' I2 : Nat → Int} {A A' A2 : Nat → Nat → Int} (h : Kq I A I' A') (h2 : Kq I' A' I2 A2) : Kq I A I2 A2 := ⟨h2.1.trans h.1, fun i a b => (h2.2.1 i a b).trans (h.2.1 i a b), fun q a b => (h2.2.2 q a b).trans (h.2.2 q a b)⟩
theorem Kq.ln {I I' : Nat → Int} {A A' : Nat → Nat → Int} (hI : ∀ i, i ≠ 1 → i ≠ 2 → I' i = I i) (hA : ∀ q, q ≠ 5 → q ≠ 6 → A' q = A q) : Kq I A I' A' := ⟨hI 0 (by decide) (by decide), fun i a _ => hI i (by omega) (by omega), fun q a _ => hA q (by omega) (by omega)⟩
theorem Kq.sv {I I' : Nat → Int} {A A' : Nat → Nat → Int} (h : Kq I A I' A') : SameV I A I' A' := ⟨h.1, fun p hp => h.2.2 _ (by omega) (by omega)⟩
theorem Kq.vc {I I' : Nat → Int} {A A' : Nat → Nat → Int} (h : Kq I A I' A') {p i : Nat} : Vc I' A' p i ↔ Vc I A p i := by
  unfold Vc
  constructor <;> intro ⟨h1, h2, h3, h4⟩
  · rw [h.1] at h2
    rw [h.2.2 _ (by omega) (by omega)] at h3
    rw [h.2.1 _ (by omega) (by omega)] at h4
    exact ⟨h1, h2, h3, h4⟩
  · refine ⟨h1, by rw [h.1]; exact h2, by rw [h.2.2 _ (by omega) (by omega)]; exact h3, by rw [h.2.1 _ (by omega) (by omega)]; exact h4⟩
theorem AllZ.kq {I I' : Nat → Int} {A A' : Nat → Nat → Int} {z : Nat → Int} (h : AllZ I A z) (k : Kq I A I' A') : AllZ I' A' z := fun p hp h0 hn => by
  rw [k.1] at h0
  rw [k.2.2 _ (by omega) (by omega)] at hn
  obtain ⟨h1, h2⟩ := h p hp h0 hn
  refine ⟨by rw [k.2.1 _ (by omega) (by omega)]; exact h1, fun i hi => ?_⟩
  rw [k.2.1 _ (by omega) (by omega)] at hi
  rw [k.2.2 _ (by omega) (by omega)]
  exact h2 i hi
theorem LnP.kp {I I' : Nat → Int} {A A' : Nat → Nat → Int} {z : Nat → Int} {cur : Nat} (h : LnP I A z cur) (k : Kp I A I' A') : LnP I' A' z cur := by
  have e1 : I' 1 = I 1 := k.1 1 (Or.inl (by omega))
  have e5 : A' 5 = A 5 := k.2 5 (Or.inl rfl)
  have e6 : A' 6 = A 6 := k.2 6 (Or.inr (Or.inl rfl))
  obtain ⟨h1, h2, h3, h4⟩ := h
  refine ⟨by rw [e1]; exact h1, fun j hj => ?_, fun j hj => ?_, fun p i hv hc => ?_⟩
  · rw [e1] at hj
    obtain ⟨p, i, a, b⟩ := h2 j hj
    exact ⟨p, i, k.kq.vc.mpr a, by rw [e5]; exact b⟩
  · rw [e1] at hj
    rw [e5]; exact h3 j hj
  · rw [e1, e5, e6]
    exact h4 p i (k.kq.vc.mp hv) hc
theorem LnP.start {I : Nat → Int} {A : Nat → Nat → Int} {z : Nat → Int} (h : I 1 = 0) : LnP I A z 0 := ⟨by omega, fun k hk => by omega, fun k hk => by omega, fun p i _ hc => by omega⟩
theorem LnP.skip {I : Nat → Int} {A : Nat → Nat → Int} {z : Nat → Int} {c c' : Nat} (h : LnP I A z c) (hc : ∀ p i, Vc I A p i → 5 * p + i < c' → 5 * p + i < c) : LnP I A z c' := ⟨h.1, h.2.1, h.2.2.1, fun p i hv h2 => h.2.2.2 p i hv (hc p i hv h2)⟩
def insd (ln : Nat → Int) (pl : Nat) (c : Int) (n : Nat) : Nat → Int := fun k => if k < pl then ln k else if k = pl then c else if k ≤ n then ln (k - 1) else ln k
def shd (ln : Nat → Int) (t n : Nat) : Nat → Int := fun k => if t < k ∧ k ≤ n then ln (k - 1) else ln k
theorem shd_step {ln : Nat → Int} {t n : Nat} (h0 : 0 < t) (h : t ≤ n) : ∀ j, up (shd ln t n) t (shd ln t n (t - 1)) j = shd ln (t - 1) n j := fun j => by
  by_cases c : j = t
  · subst c
    rw [up_self]
    unfold shd
    rw [if_neg (by omega), if_pos (by omega)]
  · rw [up_ne _ _ c]
    unfold shd
    by_cases c2 : t < j ∧ j ≤ n
    · rw [if_pos c2, if_pos (by omega)]
    · rw [if_neg c2, if_neg (by omega)]
theorem shd_ins {ln : Nat → Int} {pl n : Nat} {c : Int} : ∀ j, up (shd ln pl n) pl c j = insd ln pl c n j := fun j => by
  by_cases q : j = pl
  · subst q
    rw [up_self]
    unfold insd
    rw [if_neg (by omega), if_pos rfl]
  · rw [up_ne _ _ q]
    unfold shd insd
    by_cases c1 : j < pl
    · rw [if_pos c1, if_neg (by omega)]
    · rw [if_neg c1, if_neg q]
      by_cases c2 : j ≤ n
      · rw [if_pos c2, if_pos (by omega)]
      · rw [if_neg c2, if_neg (by omega)]
/-- one more into the line -/
theorem LnP.ins {I I' : Nat → Int} {A A' : Nat → Nat → Int} {z : Nat → Int} {cur p i pl n : Nat} (h : LnP I A z cur) (hn : I 1 = (n : Int)) (hv : Vc I A p i) (hpl : pl ≤ n) (hlo : ∀ k, k < pl → z (A 5 k).toNat < z (5 * p + i)) (hhi : pl < n → z (5 * p + i) < z (A 5 pl).toNat) (hI : ∀ j, j ≠ 1 → j ≠ 2 → I' j = I j) (hI1 : I' 1 = I 1 + 1) (hA5 : ∀ j, A' 5 j = insd (A 5) pl ((5 * p + i : Nat) : Int) n j) (hA : ∀ q, q ≠ 5 → A' q = A q) : LnP I' A' z cur := by
  have kq : Kq I A I' A' := Kq.ln hI (fun q h1 _ => hA q h1)
  obtain ⟨h1, h2, h3, h4⟩ := h
  have lo : ∀ k, k < pl → A' 5 k = A 5 k := fun k hk => by rw [hA5]; unfold insd; rw [if_pos hk]
  have mi : A' 5 pl = ((5 * p + i : Nat) : Int) := by rw [hA5]; unfold insd; rw [if_neg (by omega), if_pos rfl]
  have hi : ∀ k, pl ≤ k → k < n → A' 5 (k + 1) = A 5 k := fun k a b => by rw [hA5]; unfold insd; rw [if_neg (by omega), if_neg (by omega), if_pos (by omega), Nat.add_sub_cancel]
  refine ⟨by omega, fun k hk => ?_, fun k hk => ?_, fun q j hq hc => ?_⟩
  · rcases Nat.lt_trichotomy k pl with c | c | c
    · obtain ⟨q, j, a, b⟩ := h2 k (by omega)
      exact ⟨q, j, kq.vc.mpr a, by rw [lo k c]; exact b⟩
    · rw [c]
      exact ⟨p, i, kq.vc.mpr hv, mi⟩
    · obtain ⟨q, j, a, b⟩ := h2 (k - 1) (by omega)
      refine ⟨q, j, kq.vc.mpr a, ?_⟩
      have := hi (k - 1) (by omega) (by omega)
      rw [show k - 1 + 1 = k by omega] at this
      rw [this]; exact b
  · rcases Nat.lt_trichotomy (k + 1) pl with c | c | c
    · rw [lo k (by omega), lo (k + 1) c]
      exact h3 k (by omega)
    · rw [c, mi, lo k (by omega), Int.toNat_natCast]
      exact hlo k (by omega)
    · by_cases c2 : k = pl
      · rw [c2, mi, hi pl (by omega) (by omega), Int.toNat_natCast]
        exact hhi (by omega)
      · have e1 := hi (k - 1) (by omega) (by omega)
        rw [show k - 1 + 1 = k by omega] at e1
        have e2 := h3 (k - 1) (by omega)
        rw [show k - 1 + 1 = k by omega] at e2
        rw [e1, hi k (by omega) (by omega)]
        exact e2
  · obtain ⟨k, a, b, c⟩ := h4 q j (kq.vc.mp hq) hc
    rw [hA 6 (by decide)]
    by_cases c2 : k < pl
    · exact ⟨k, by omega, by rw [lo k c2]; exact b, by rw [lo k c2]; exact c⟩
    · exact ⟨k + 1, by omega, by rw [hi k (by omega) (by omega)]; exact b, by rw [hi k (by omega) (by omega)]; exact c⟩
/-- what stands for it is kept -/
theorem LnP.stf {I I' : Nat → Int} {A A' : Nat → Nat → Int} {z : Nat → Int} {p i pl : Nat} (h : LnP I A z (5 * p + i)) (hpl : (pl : Int) < I 1) (he : z (A 5 pl).toNat = z (5 * p + i)) (hI : ∀ j, I' j = I j) (hA6 : ∀ j, A' 6 j = up (A 6) (5 * p + i) (A 5 pl) j) (hA : ∀ q, q ≠ 6 → A' q = A q) : LnP I' A' z (5 * p + i + 1) := by
  have kq : Kq I A I' A' := Kq.ln (fun j _ _ => hI j) (fun q _ h1 => hA q h1)
  obtain ⟨h1, h2, h3, h4⟩ := h
  have e5 : A' 5 = A 5 := hA 5 (by decide)
  refine ⟨by rw [hI]; exact h1, fun k hk => ?_, fun k hk => ?_, fun q j hq hc => ?_⟩
  · rw [hI] at hk
    obtain ⟨q, j, a, b⟩ := h2 k hk
    exact ⟨q, j, kq.vc.mpr a, by rw [e5]; exact b⟩
  · rw [hI] at hk
    rw [e5]; exact h3 k hk
  · rw [hI, e5, hA6]
    by_cases c : 5 * q + j = 5 * p + i
    · rw [c, up_self]
      exact ⟨pl, hpl, rfl, he⟩
    · rw [up_ne _ _ c]
      exact h4 q j (kq.vc.mp hq) (by omega)
theorem Inv.ln {I I' : Nat → Int} {A A' : Nat → Nat → Int} (h : Inv I A) (h2 : I' 2 = 0) (hI : ∀ i, i ≠ 1 → i ≠ 2 → I' i = I i) (hA : ∀ q, q ≠ 5 → q ≠ 6 → A' q = A q) : Inv I' A' := by
  obtain ⟨⟨g1, g2, g3⟩, _⟩ := h
  refine ⟨⟨by rw [hI 0 (by decide) (by decide)]; exact g1, fun p hp j hj => by rw [hA _ (by omega) (by omega)]; exact g2 p hp j hj, fun p hp => ?_⟩, Or.inl h2⟩
  rw [hI _ (by omega) (by omega)]
  rcases g3 p hp with g | ⟨g, gc⟩
  · exact Or.inl g
  · exact Or.inr ⟨g, gc.congr hp (hA _ (by omega) (by omega)) (hA _ (by omega) (by omega)) (hI _ (by omega) (by omega)) (fun i hi => ⟨hI _ (by omega) (by omega), hI _ (by omega) (by omega), hA _ (by omega) (by omega)⟩)⟩
theorem Inv.done {I I' : Nat → Int} {A A' : Nat → Nat → Int} {z : Nat → Int} (h : Inv I A) (hz : AllZ I A z) (hl : LnP I A z 60) (h60 : I 1 ≤ 60) (h2 : I' 2 = 1) (hI : ∀ i, i ≠ 2 → I' i = I i) (hA : ∀ q, A' q = A q) : Inv I' A' := by
  have h1 : GIv I' A' := by
    obtain ⟨⟨g1, g2, g3⟩, _⟩ := h
    refine ⟨by rw [hI 0 (by decide)]; exact g1, fun p hp j hj => by rw [hA]; exact g2 p hp j hj, fun p hp => ?_⟩
    rw [hI _ (by omega)]
    rcases g3 p hp with g | ⟨g, gc⟩
    · exact Or.inl g
    · exact Or.inr ⟨g, gc.congr hp (hA _) (hA _) (hI _ (by omega)) (fun i hi => ⟨hI _ (by omega), hI _ (by omega), hA _⟩)⟩
  refine ⟨h1, Or.inr ⟨h2, z, fun p hp h0 hn => ?_, ?_, fun k hk => ?_, fun k hk => ?_, fun p i hp h0 hn hi => ?_⟩⟩
  · rw [hI 0 (by decide)] at h0
    rw [hA] at hn
    obtain ⟨a, b⟩ := hz p hp h0 hn
    rw [hI _ (by omega), hI _ (by omega), hA]
    exact ⟨a, b⟩
  · rw [hI 1 (by decide)]
    exact ⟨hl.1, h60⟩
  · rw [hI 1 (by decide)] at hk
    obtain ⟨p, i, ⟨a, b, c, d⟩, e⟩ := hl.2.1 k hk
    exact ⟨p, i, a, by rw [hI 0 (by decide)]; exact b, by rw [hA]; exact c, by rw [hI _ (by omega)]; exact d, by rw [hA]; exact e⟩
  · rw [hI 1 (by decide)] at hk
    rw [hA]; exact hl.2.2.1 k hk
  · rw [hI 0 (by decide)] at h0
    rw [hA] at hn
    rw [hI _ (by omega)] at hi
    obtain ⟨g1, _⟩ := hz p hp h0 hn
    obtain ⟨nm, N, dp, v, hc⟩ := h.crv hp g1
    have e1 := hc.2.2.1
    have e2 := hc.2.2.2.1
    rw [hI 1 (by decide), hA, hA]
    exact hl.2.2.2 p i ⟨hp, h0, hn, hi⟩ (by omega)
theorem AllZ.five {I : Nat → Int} {A : Nat → Nat → Int} {z : Nat → Int} (h : Inv I A) (hz : AllZ I A z) {p i : Nat} (hv : Vc I A p i) : i < 5 := by
  obtain ⟨a, b, c, d⟩ := hv
  obtain ⟨nm, N, dp, v, hc⟩ := h.crv a (hz p a b c).1
  have e1 := hc.2.2.1
  have e2 := hc.2.2.2.1
  omega
theorem AllZ.mono {I : Nat → Int} {A : Nat → Nat → Int} {z : Nat → Int} (h : Inv I A) (hz : AllZ I A z) {p i j : Nat} (hi : Vc I A p i) (hj : Vc I A p j) (hij : i < j) : z (5 * p + i) < z (5 * p + j) := by
  obtain ⟨a, b, c, d⟩ := hi
  obtain ⟨_, _, _, d2⟩ := hj
  obtain ⟨nm, N, dp, v, hc⟩ := h.crv a (hz p a b c).1
  obtain ⟨⟨p1, hP⟩, _⟩ := hc.part (h.1.2.1 p a)
  have hN := hc.2.2.2.2.1
  have e := cells_cmp hP hN ((hz p a b c).2 i d N hN) ((hz p a b c).2 j d2 N hN)
  rw [cmq_m1 (show (i : Int) < (j : Int) by omega)] at e
  exact cmq_neg.mp (by omega)
theorem AllZ.ex {I : Nat → Int} {A : Nat → Nat → Int} (h : Inv I A) (hs : ∀ p : Nat, p < 12 → (p : Int) < I 0 → Nz (A (20 + p)) → I (20 + p) = 1) : ∃ z, AllZ I A z := by
  have key : ∀ t : Nat, ∃ c : Int, ∀ p i : Nat, t = 5 * p + i → Vc I A p i → CellOf (A (40 + p)) (i : Int) c := fun t => by
    by_cases q : Vc I A (t / 5) (t % 5)
    · obtain ⟨a, b, c, d⟩ := q
      obtain ⟨nm, N, dp, v, hc⟩ := h.crv a (hs _ a b c)
      obtain ⟨cc, hL, hz6⟩ := free_laid hc.1 (h.1.2.1 _ a) hc.2.1 hc.2.2.2.2.1 hc.2.2.2.2.2.1
      have e1 := hc.2.2.1
      refine ⟨cc (t % 5), fun p i ht hv => ?_⟩
      obtain ⟨nm2, N2, dp2, v2, hc2⟩ := h.crv hv.1 (hs _ hv.1 hv.2.1 hv.2.2.1)
      have e2 := hc2.2.2.1
      have e3 := hc2.2.2.2.1
      have e4 := hv.2.2.2
      have ep : p = t / 5 := by omega
      have ei : i = t % 5 := by omega
      rw [ep, ei]
      exact cell_of hc.2.2.2.2.1 (hz6 _ (by omega))
    · refine ⟨0, fun p i ht hv => ?_⟩
      obtain ⟨nm2, N2, dp2, v2, hc2⟩ := h.crv hv.1 (hs _ hv.1 hv.2.1 hv.2.2.1)
      have e2 := hc2.2.2.1
      have e3 := hc2.2.2.2.1
      have e4 := hv.2.2.2
      have ep : p = t / 5 := by omega
      have ei : i = t % 5 := by omega
      rw [ep, ei] at hv
      exact absurd hv q
  exact ⟨fun t => (key t).choose, fun p hp h0 hn => ⟨hs p hp h0 hn, fun i hi => (key (5 * p + i)).choose_spec p i rfl ⟨hp, h0, hn, hi⟩⟩⟩
