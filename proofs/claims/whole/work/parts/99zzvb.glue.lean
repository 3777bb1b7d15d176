/-! the answers of both: what the law compares -/
theorem gl_fraction {V W F' c' : Nat → Int} {b n' a2 a3 : Int} {r1 r2 : Int64} (hM : Bd V) (hVW : EqV V W) (hL : b ≠ 0 → Laid W F' n' c') (h1 : (a2 < 0 ∧ r1 = lI (-4000000000000000000)) ∨ ((∀ j, j < 6 → V j = 0) ∧ r1 = lI (-4000000000000000000)) ∨ (Nz V ∧ ∃ (F : Nat → Int) (nm : Nat) (cc : Nat → Int), Laid V F (nm : Int) cc ∧ (((nm : Int) ≤ a2 ∧ r1 = lI (-4000000000000000000)) ∨ ((0 ≤ a2 ∧ a2 < (nm : Int)) ∧ (a3 < 0 ∨ 1 < a3) ∧ r1 = lI (-4000000000000000001)) ∨ ((0 ≤ a2 ∧ a2 < (nm : Int)) ∧ (a3 = 0 ∨ a3 = 1) ∧ ∃ un ud : Int, FrP (cc a2.toNat) un ud ∧ r1 = lI (if a3 = 0 then un else ud)))))
    (h2 : b ≠ 0 ∧ (((a2 < 0 ∨ n' ≤ a2) ∧ r2 = lI (-4000000000000000000)) ∨ ((0 ≤ a2 ∧ a2 < n') ∧ (((a3 < 0 ∨ 1 < a3) ∧ r2 = lI (-4000000000000000001)) ∨ ((a3 = 0 ∨ a3 = 1) ∧ ∃ nn : Nat, nn < 6 ∧ W nn ≠ 0 ∧ (∀ j, nn < j → j < 6 → W j = 0) ∧ ((∃ d : Nat, 1 ≤ d ∧ (d : Int) ≤ ((W nn).natAbs : Int) ∧ FrOk W (c' a2.toNat) ((W nn).natAbs : Int) d ∧ (∀ e : Nat, 1 ≤ e → e < d → ¬ FrOk W (c' a2.toNat) ((W nn).natAbs : Int) e) ∧ r2 = lI (if a3 = 0 then clg (c' a2.toNat * (d : Int)) else (d : Int))) ∨ ((∀ e : Nat, 1 ≤ e → (e : Int) ≤ ((W nn).natAbs : Int) → ¬ FrOk W (c' a2.toNat) ((W nn).natAbs : Int) e) ∧ r2 = lI 0))))))) : r1 = r2 := by
  obtain ⟨hb, h2⟩ := h2
  have hl2 := hL hb
  have off : NoR V a2 → r1 = lI (-4000000000000000000) → r1 = r2 := fun h e => by
    have := h.ref hM hVW hl2
    rcases h2 with ⟨_, e2⟩ | ⟨h3, _⟩
    · rw [e, e2]
    · omega
  rcases h1 with ⟨h, e⟩ | ⟨h, e⟩ | ⟨nz, F, nm, cc, hl, h | h | h⟩
  · exact off (Or.inl h) e
  · exact off (Or.inr (Or.inl h)) e
  · exact off (Or.inr (Or.inr ⟨nz, F, nm, cc, hl, h.1⟩)) h.2
  · obtain ⟨q1, q2⟩ := AtR.ref hM hVW ⟨nz, F, nm, cc, hl, h.1, rfl⟩ hl2
    rcases h2 with ⟨h3, _⟩ | ⟨_, ⟨_, e2⟩ | ⟨h3, _⟩⟩
    · omega
    · rw [h.2.2, e2]
    · omega
  · obtain ⟨q1, q2⟩ := AtR.ref hM hVW ⟨nz, F, nm, cc, hl, h.1, rfl⟩ hl2
    obtain ⟨h4, h5, un, ud, hF, e⟩ := h
    rcases h2 with ⟨h3, _⟩ | ⟨_, ⟨h3, _⟩ | ⟨_, nn, n1, n2, n3, h6⟩⟩
    · omega
    · omega
    · rw [q2] at h6
      rw [e]
      exact gl_frac hM hVW nz hl (by omega) hF n1 n2 n3 h6
theorem gl_times {V W F' c' : Nat → Int} {b n' a2 : Int} {r1 r2 : Int32} (hM : Bd V) (hVW : EqV V W) (hL : b ≠ 0 → Laid W F' n' c') (h1 : (a2 < 0 ∧ r1 = iI (-1)) ∨ ((∀ j, j < 6 → V j = 0) ∧ r1 = iI (-1)) ∨ (Nz V ∧ ∃ (F : Nat → Int) (nm : Nat) (cc : Nat → Int), Laid V F (nm : Int) cc ∧ (((nm : Int) ≤ a2 ∧ r1 = iI (-1)) ∨ ((0 ≤ a2 ∧ a2 < (nm : Int)) ∧ ∃ (N : Rat → Int) (P : Nat → Int) (mu : Nat), NB F N ∧ (∃ i : Int, Cell N i (cc a2.toNat) 256) ∧ Rt F P (cc a2.toNat) ∧ Ex (il P 6) mu (il V 6) ∧ r1 = iI (mu : Int)))))
    (h2 : b ≠ 0 ∧ (((a2 < 0 ∨ n' ≤ a2) ∧ r2 = iI (-1)) ∨ ((0 ≤ a2 ∧ a2 < n') ∧ ∃ n : Nat, n ≤ 6 ∧ TF W (c' a2.toNat) n ∧ r2 = iI (n : Int)))) : r1 = r2 := by
  obtain ⟨hb, h2⟩ := h2
  have hl2 := hL hb
  have off : NoR V a2 → r1 = iI (-1) → r1 = r2 := fun h e => by
    have := h.ref hM hVW hl2
    rcases h2 with ⟨_, e2⟩ | ⟨h3, _⟩
    · rw [e, e2]
    · omega
  rcases h1 with ⟨h, e⟩ | ⟨h, e⟩ | ⟨nz, F, nm, cc, hl, h | h⟩
  · exact off (Or.inl h) e
  · exact off (Or.inr (Or.inl h)) e
  · exact off (Or.inr (Or.inr ⟨nz, F, nm, cc, hl, h.1⟩)) h.2
  · obtain ⟨q1, q2⟩ := AtR.ref hM hVW ⟨nz, F, nm, cc, hl, h.1, rfl⟩ hl2
    obtain ⟨h4, N, P, mu, hN, ⟨i0, hc⟩, hR, hE, e⟩ := h
    rcases h2 with ⟨h3, _⟩ | ⟨_, n, _, hT, e2⟩
    · omega
    · rw [q2] at hT
      obtain ⟨_, _, hf, _⟩ := laid_cell nz hl (i := a2.toNat) (by omega)
      rw [e, e2, gl_mult (cc := cc) hM hVW nz hf hN hc hR hE hT]
theorem gl_degree {V W : Nat → Int} {r1 r2 : Int32} (hVW : EqV V W) (h1 : ∃ kt : Nat, kt ≤ 6 ∧ (∀ j, kt ≤ j → j < 6 → V j = 0) ∧ (0 < kt → V (kt - 1) ≠ 0) ∧ r1 = iI ((kt : Int) - 1)) {k : Nat} (e2 : r2 = iI ((k : Int) - 1)) (k6 : k ≤ 6) (kz : ∀ j, k ≤ j → j < 6 → W j = 0) (kl : 0 < k → W (k - 1) ≠ 0) : r1 = r2 := by
  obtain ⟨kt, h6, hz, hl, e⟩ := h1
  have : kt = k := by
    rcases Nat.lt_trichotomy kt k with c | c | c
    · exact absurd ((hVW (k - 1) (by omega)).trans (hz (k - 1) (by omega) (by omega))) (kl (by omega))
    · exact c
    · exact absurd ((hVW (kt - 1) (by omega)).symm.trans (kz (kt - 1) (by omega) (by omega))) (hl (by omega))
  rw [e, e2, this]
theorem gl_rank {V : Nat → Int} {a2 : Int} {I : Nat → Int} {A : Nat → Nat → Int} {cv bl ro fr Z : Nat → Int} {np p0 : Nat} {r1 r2 : Int32} (hI : Inv I A) (hnp : I 0 = (np : Int)) (hp : p0 < np) (hLA : LaidAll cv bl ro fr Z) (hEq : ∀ q, q < np → EqV (A (20 + q)) (fun j => cv (6 * q + j))) (hM : Bd V) (hVW : EqV V (fun j => cv (6 * p0 + j)))
    (h1 : (a2 < 0 ∧ r1 = iI (-1)) ∨ ((∀ j, j < 6 → V j = 0) ∧ r1 = iI (-1)) ∨ (Nz V ∧ ∃ (F : Nat → Int) (nm : Nat) (cc : Nat → Int), Laid V F (nm : Int) cc ∧ (nm : Int) ≤ a2 ∧ r1 = iI (-1)) ∨ (Nz V ∧ ∃ (F : Nat → Int) (nm : Nat) (cc : Nat → Int), Laid V F (nm : Int) cc ∧ (0 ≤ a2 ∧ a2 < (nm : Int)) ∧ I 2 = 1 ∧ ∃ k : Nat, (k : Int) < I 1 ∧ A 5 k = A 6 (5 * p0 + a2.toNat) ∧ r1 = iI (k : Int)))
    (h2 : (bl p0 ≠ 0 ∧ (a2 < 0 ∨ ro p0 ≤ a2) ∧ r2 = iI (-1)) ∨ (bl p0 ≠ 0 ∧ (0 ≤ a2 ∧ a2 < ro p0) ∧ (∀ q, q < np → bl q ≠ 0) ∧ r2 = iI (cnt ro Z (fun z => decide (z < Z (5 * p0 + a2.toNat))) np))) : r1 = r2 := by
  have hp12 : p0 < 12 := by have := hI.1.1; omega
  have off : NoR V a2 → r1 = iI (-1) → r1 = r2 := fun h e => by
    rcases h2 with ⟨_, _, e2⟩ | ⟨hb, h3, _⟩
    · rw [e, e2]
    · have := h.ref hM hVW (hLA.1 p0 hp12 hb); omega
  rcases h1 with ⟨h, e⟩ | ⟨h, e⟩ | ⟨nz, F, nm, cc, hl, h, e⟩ | ⟨nz, F, nm, cc, hl, h, h3, k, k1, k2, e⟩
  · exact off (Or.inl h) e
  · exact off (Or.inr (Or.inl h)) e
  · exact off (Or.inr (Or.inr ⟨nz, F, nm, cc, hl, h⟩)) e
  · rcases h2 with ⟨hb, h4, _⟩ | ⟨hb, h4, hbl, e2⟩
    · obtain ⟨q1, _⟩ := AtR.ref hM hVW ⟨nz, F, nm, cc, hl, h, rfl⟩ (hLA.1 p0 hp12 hb); omega
    · have := (gl_line hI h3 hnp hLA hbl hEq).2 p0 a2.toNat hp (by omega) k k1 k2
      rw [e, e2, this]
theorem gl_all {I : Nat → Int} {A : Nat → Nat → Int} {cv bl ro fr Z : Nat → Int} {np : Nat} {r1 r2 : Int32} (hI : Inv I A) (hnp : I 0 = (np : Int)) (hLA : LaidAll cv bl ro fr Z) (hEq : ∀ q, q < np → EqV (A (20 + q)) (fun j => cv (6 * q + j))) (h1 : I 2 = 1 ∧ r1 = iI (I 1)) (h2 : (∀ q, q < np → bl q ≠ 0) ∧ r2 = iI (cnt ro Z (fun _ => true) np)) : r1 = r2 := by
  rw [h1.2, h2.2, (gl_line hI h1.1 hnp hLA h2.1 hEq).1]
