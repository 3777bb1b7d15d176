/-! the line of roots, and the whole state -/
def CellOf (F : Nat → Int) (i z : Int) : Prop := ∀ N, NB F N → Cell N i z 256
def LnOk (I : Nat → Int) (A : Nat → Nat → Int) : Prop := ∃ z : Nat → Int, (∀ p : Nat, p < 12 → (p : Int) < I 0 → Nz (A (20 + p)) → I (20 + p) = 1 ∧ ∀ i : Nat, (i : Int) < I (40 + p) → CellOf (A (40 + p)) (i : Int) (z (5 * p + i))) ∧ (0 ≤ I 1 ∧ I 1 ≤ 60) ∧ (∀ k : Nat, (k : Int) < I 1 → ∃ p i : Nat, p < 12 ∧ (p : Int) < I 0 ∧ Nz (A (20 + p)) ∧ (i : Int) < I (40 + p) ∧ A 5 k = ((5 * p + i : Nat) : Int)) ∧ (∀ k : Nat, (k : Int) + 1 < I 1 → z (A 5 k).toNat < z (A 5 (k + 1)).toNat) ∧ ∀ p i : Nat, p < 12 → (p : Int) < I 0 → Nz (A (20 + p)) → (i : Int) < I (40 + p) → ∃ k : Nat, (k : Int) < I 1 ∧ A 6 (5 * p + i) = A 5 k ∧ z (A 5 k).toNat = z (5 * p + i)
def Inv (I : Nat → Int) (A : Nat → Nat → Int) : Prop := GIv I A ∧ (I 2 = 0 ∨ (I 2 = 1 ∧ LnOk I A))
/-- nothing has changed but places and what is there to work with -/
def Kp (I : Nat → Int) (A : Nat → Nat → Int) (I' : Nat → Int) (A' : Nat → Nat → Int) : Prop := (∀ i, (i < 3 ∨ (20 ≤ i ∧ i < 100)) → I' i = I i) ∧ ∀ q, (q = 5 ∨ q = 6 ∨ (20 ≤ q ∧ q < 100)) → A' q = A q
theorem LnOk.keep {I I' : Nat → Int} {A A' : Nat → Nat → Int} (h : LnOk I A) (k : Kp I A I' A') : LnOk I' A' := by
  obtain ⟨k1, k2⟩ := k
  have e0 : I' 0 = I 0 := k1 0 (Or.inl (by omega))
  have e1 : I' 1 = I 1 := k1 1 (Or.inl (by omega))
  have e5 : A' 5 = A 5 := k2 5 (Or.inl rfl)
  have e6 : A' 6 = A 6 := k2 6 (Or.inr (Or.inl rfl))
  have ev : ∀ p, p < 12 → A' (20 + p) = A (20 + p) ∧ A' (40 + p) = A (40 + p) ∧ I' (20 + p) = I (20 + p) ∧ I' (40 + p) = I (40 + p) := fun p hp => ⟨k2 _ (Or.inr (Or.inr ⟨by omega, by omega⟩)), k2 _ (Or.inr (Or.inr ⟨by omega, by omega⟩)), k1 _ (Or.inr ⟨by omega, by omega⟩), k1 _ (Or.inr ⟨by omega, by omega⟩)⟩
  obtain ⟨z, h1, h2, h3, h4, h5⟩ := h
  refine ⟨z, fun p hp h0 hn => ?_, by rw [e1]; exact h2, fun k hk => ?_, fun k hk => ?_, fun p i hp h0 hn hi => ?_⟩
  · obtain ⟨q1, q2, q3, q4⟩ := ev p hp
    rw [e0] at h0
    rw [q1] at hn
    rw [q2, q3, q4]
    exact h1 p hp h0 hn
  · rw [e1] at hk
    obtain ⟨p, i, a1, a2, a3, a4, a5⟩ := h3 k hk
    obtain ⟨q1, q2, q3, q4⟩ := ev p a1
    exact ⟨p, i, a1, by rw [e0]; exact a2, by rw [q1]; exact a3, by rw [q4]; exact a4, by rw [e5]; exact a5⟩
  · rw [e1] at hk
    rw [e5]; exact h4 k hk
  · obtain ⟨q1, q2, q3, q4⟩ := ev p hp
    rw [e0] at h0
    rw [q1] at hn
    rw [q4] at hi
    rw [e1, e5, e6]
    exact h5 p i hp h0 hn hi
theorem Inv.kp {I I' : Nat → Int} {A A' : Nat → Nat → Int} (h : Inv I A) (k : Kp I A I' A') (hc : ∀ p, p < 12 → I (20 + p) = 1 → CvOk I A p → CvOk I' A' p) : Inv I' A' := by
  obtain ⟨⟨h1, h2, h3⟩, h4⟩ := h
  refine ⟨⟨by rw [k.1 0 (Or.inl (by omega))]; exact h1, fun p hp j hj => by rw [k.2 (20 + p) (Or.inr (Or.inr ⟨by omega, by omega⟩))]; exact h2 p hp j hj, fun p hp => ?_⟩, ?_⟩
  · rw [k.1 (20 + p) (Or.inr ⟨by omega, by omega⟩)]
    rcases h3 p hp with g | ⟨g, g2⟩
    · exact Or.inl g
    · exact Or.inr ⟨g, hc p hp g g2⟩
  · rw [k.1 2 (Or.inl (by omega))]
    rcases h4 with g | ⟨g, g2⟩
    · exact Or.inl g
    · exact Or.inr ⟨g, g2.keep k⟩
theorem Inv.same {I I' : Nat → Int} {A A' : Nat → Nat → Int} (h : Inv I A) (h1 : ∀ i, I' i = I i) (h2 : ∀ q, A' q = A q) : Inv I' A' := by
  rw [show I' = I from funext h1, show A' = A from funext h2]; exact h
theorem Inv.scr {I I' : Nat → Int} {A A' : Nat → Nat → Int} (h : Inv I A) (h1 : ∀ i, (i < 3 ∨ 20 ≤ i) → I' i = I i) (h2 : ∀ q, (q = 5 ∨ q = 6 ∨ 20 ≤ q) → A' q = A q) : Inv I' A' := h.kp ⟨fun i hi => h1 i (by omega), fun q hq => h2 q (by omega)⟩ (fun p hp _ hc => hc.congr hp (h2 _ (by omega)) (h2 _ (by omega)) (h1 _ (by omega)) (fun i hi => ⟨h1 _ (by omega), h1 _ (by omega), h2 _ (by omega)⟩))
/-- behind ready -/
theorem Inv.rdy {I I' : Nat → Int} {A A' : Nat → Nat → Int} {p0 : Nat} (h : Inv I A) (hp : p0 < 12) (hpk : (p0 : Int) < I 0) (hG : GIv I' A') (ho : Oth p0 I A I' A') (hs : (I (20 + p0) = 1 ∨ ∀ j, j < 6 → A (20 + p0) j = 0) → (∀ i, I' i = I i) ∧ ∀ q, A' q = A q) : Inv I' A' := by
  rcases h.2 with g | ⟨g, z, g2, _⟩
  · exact ⟨hG, Or.inl (by rw [ho.1 2 (Or.inl (by omega))]; exact g)⟩
  · have hc : I (20 + p0) = 1 ∨ ∀ j, j < 6 → A (20 + p0) j = 0 := by
      by_cases hn : Nz (A (20 + p0))
      · exact Or.inl (g2 p0 hp hpk hn).1
      · exact Or.inr (fun j hj => Classical.byContradiction (fun h9 => hn ⟨j, hj, h9⟩))
    obtain ⟨e1, e2⟩ := hs hc
    exact h.same e1 e2
def SameV (I : Nat → Int) (A : Nat → Nat → Int) (I' : Nat → Int) (A' : Nat → Nat → Int) : Prop := I' 0 = I 0 ∧ ∀ p, p < 12 → A' (20 + p) = A (20 + p)
theorem Oth.sv {I I' : Nat → Int} {A A' : Nat → Nat → Int} {p0 : Nat} (h : Oth p0 I A I' A') (hp : p0 < 12) : SameV I A I' A' := ⟨h.1 0 (Or.inl (by omega)), fun p hp1 => h.2 _ (Or.inr (Or.inr ⟨by omega, by omega, fun j hj => by omega⟩))⟩
theorem Kp.sv {I I' : Nat → Int} {A A' : Nat → Nat → Int} (h : Kp I A I' A') : SameV I A I' A' := ⟨h.1 0 (Or.inl (by omega)), fun p hp1 => h.2 _ (Or.inr (Or.inr ⟨by omega, by omega⟩))⟩
theorem SameV.trans {I I' I2 : Nat → Int} {A A' A2 : Nat → Nat → Int} (h : SameV I A I' A') (h2 : SameV I' A' I2 A2) : SameV I A I2 A2 := ⟨h2.1.trans h.1, fun p hp => (h2.2 p hp).trans (h.2 p hp)⟩
/-- cells of 256 bits are there -/
theorem cell_ex {V F : Nat → Int} {r : Nat → Nat → Int} {n : Nat} (hV : Nz V) (hM : ∀ j, j < 6 → -1000 ≤ V j ∧ V j ≤ 1000) (hf : FreeOf V F) (hs : Sseq F r n) (hn : 2 ≤ n) {i : Nat} (hi : (i : Int) < tn (fun k => sgL (r k)) n - tn (fun k => sgR (r k)) n) : ∀ b, ∃ c, Cell (NbF r n) (i : Int) c b := by
  obtain ⟨_, l1, l2, _⟩ := lay_facts hV hM hf hs hn
  have f0 := lay_first l1 l2 hi
  have dn : ∀ k t, F0I (NbF r n) (i : Int) t k → ∃ t', F0I (NbF r n) (i : Int) t' 0 := by
    intro k
    induction k with
    | zero => intro t h; exact ⟨t, h⟩
    | succ k ih =>
      intro t h
      by_cases c : (i : Int) < NbF r n (Pt (t + 1 * (1 * 2 ^ (k + 1 - 1))) 0)
      · exact ih t (h.low (by omega) c)
      · exact ih _ (h.high (by omega) (by omega))
  obtain ⟨t, ht⟩ := dn 12 _ f0
  have h0 := ht.last (F := fun x => es F 6 x) rfl
  intro b
  induction b with
  | zero => exact ⟨t, h0.1, h0.2.1, h0.2.2.1⟩
  | succ b ih =>
    obtain ⟨c, hc⟩ := ih
    by_cases q : (i : Int) < NbF r n (Pt (2 * c + 1) (b + 1))
    · exact ⟨_, hc.zro q⟩
    · exact ⟨_, hc.one (by omega)⟩
theorem free_laid {V F : Nat → Int} {N : Rat → Int} {nm : Nat} (hV : Nz V) (hM : ∀ j, j < 6 → -1000 ≤ V j ∧ V j ≤ 1000) (hf : FreeOf V F) (hN : NB F N) (hT : N 2048 = (nm : Int)) : ∃ c : Nat → Int, Laid V F (nm : Int) c ∧ ∀ i : Nat, i < nm → Cell N (i : Int) (c i) 256 := by
  obtain ⟨r, n, hs, e⟩ := hN
  obtain ⟨t1, t2, t3⟩ := free_total hV hM hf hs ⟨r, n, hs, e⟩
  by_cases hn : n = 1
  · subst hn
    have h1 := (one_const hs).2
    have hz : nm = 0 := by rw [e, h1] at hT; omega
    subst hz
    have hc : ∀ j, 1 ≤ j → j < 6 → F j = 0 := fun j h2 h3 => by
      rcases hs.2.2.2 with ⟨_, _, q⟩ | ⟨q, _⟩
      · have h4 := q (j - 1) (by omega)
        rcases (show j = 1 ∨ j = 2 ∨ j = 3 ∨ j = 4 ∨ j = 5 by omega) with rfl | rfl | rfl | rfl | rfl <;> simp only [dva] at h4 <;> simp at h4 <;> omega
      · exact absurd q.1 (by omega)
    exact ⟨fun _ => 0, Or.inr ⟨hV, hf, Or.inl ⟨hc, rfl⟩⟩, fun i hi => by omega⟩
  · have hn1 := hs.1
    have ex : ∀ i : Nat, ∃ c : Int, i < nm → Cell (NbF r n) (i : Int) c 256 := fun i => by
      by_cases hi : i < nm
      · obtain ⟨c, hc⟩ := cell_ex hV hM hf hs (by omega) (i := i) (by omega) 256
        exact ⟨c, fun _ => hc⟩
      · exact ⟨0, fun h => absurd h hi⟩
    have eN : N = NbF r n := funext e
    have hne : ∃ j, 1 ≤ j ∧ j < 6 ∧ F j ≠ 0 := by
      rcases hs.2.2.2 with ⟨q, _⟩ | ⟨q, _⟩
      · exact absurd q hn
      · refine Classical.byContradiction (fun h9 => ?_)
        obtain ⟨j, hj, hjn⟩ := q.2.2.2.1 1 (by omega)
        refine hjn ?_
        rw [q.2.2.1 j hj]
        exact dva_zero (n := 1) (fun j h3 h4 => Classical.byContradiction (fun h5 => h9 ⟨j, h3, h4, h5⟩)) j (by omega) hj
    refine ⟨fun i => (ex i).choose, Or.inr ⟨hV, hf, Or.inr ⟨hne, r, n, hs, by omega, fun i hi => (ex i).choose_spec (by omega)⟩⟩, fun i hi => by rw [eN]; exact (ex i).choose_spec hi⟩
