/-! the answers of both are the same -/
def EqV (V W : Nat → Int) : Prop := ∀ j, j < 6 → W j = V j
theorem EqV.nz {V W : Nat → Int} (h : EqV V W) (n : Nz V) : Nz W := by
  obtain ⟨j, hj, hn⟩ := n
  exact ⟨j, hj, by rw [h j hj]; exact hn⟩
theorem EqV.zr {V W : Nat → Int} (h : EqV V W) (z : ∀ j, j < 6 → V j = 0) : ∀ j, j < 6 → W j = 0 := fun j hj => by rw [h j hj]; exact z j hj
theorem EqV.symm {V W : Nat → Int} (h : EqV V W) : EqV W V := fun j hj => (h j hj).symm
theorem nz_no {V : Nat → Int} (n : Nz V) (z : ∀ j, j < 6 → V j = 0) : False := by
  obtain ⟨j, hj, hn⟩ := n
  exact hn (z j hj)
def Bd (V : Nat → Int) : Prop := ∀ j, j < 6 → -1000 ≤ V j ∧ V j ≤ 1000
theorem lu {V W F F' c c' : Nat → Int} {n n' : Int} (hM : Bd V) (hVW : EqV V W) (h : Laid V F n c) (h' : Laid W F' n' c') : n' = n ∧ (∀ j, j < 6 → F' j = F j) ∧ ∀ i : Nat, (i : Int) < n → c' i = c i := Laid.uniq hM h (h'.congr (fun j hj => (hVW j hj).symm) (fun _ _ => rfl) (fun _ _ => rfl))
theorem lz {W F' c' : Nat → Int} {n' : Int} (z : ∀ j, j < 6 → W j = 0) (h' : Laid W F' n' c') : n' = 0 := by
  rcases h' with ⟨_, _, h⟩ | ⟨h, _⟩
  · exact h
  · exact (nz_no h z).elim
/-- root a of V is none -/
def NoR (V : Nat → Int) (a : Int) : Prop := a < 0 ∨ (∀ j, j < 6 → V j = 0) ∨ (Nz V ∧ ∃ (F : Nat → Int) (nm : Nat) (cc : Nat → Int), Laid V F (nm : Int) cc ∧ (nm : Int) ≤ a)
theorem NoR.ref {V W F' c' : Nat → Int} {a n' : Int} (hM : Bd V) (hVW : EqV V W) (h : NoR V a) (h' : Laid W F' n' c') : a < 0 ∨ n' ≤ a := by
  rcases h with h | h | ⟨_, F, nm, cc, hl, h⟩
  · exact Or.inl h
  · rw [lz (hVW.zr h) h']; omega
  · rw [(lu hM hVW hl h').1]; exact Or.inr h
/-- root a of V has the cell z -/
def AtR (V : Nat → Int) (a z : Int) : Prop := Nz V ∧ ∃ (F : Nat → Int) (nm : Nat) (cc : Nat → Int), Laid V F (nm : Int) cc ∧ (0 ≤ a ∧ a < (nm : Int)) ∧ z = cc a.toNat
theorem AtR.ref {V W F' c' : Nat → Int} {a n' z : Int} (hM : Bd V) (hVW : EqV V W) (h : AtR V a z) (h' : Laid W F' n' c') : (0 ≤ a ∧ a < n') ∧ c' a.toNat = z := by
  obtain ⟨_, F, nm, cc, hl, h1, h2⟩ := h
  obtain ⟨q1, _, q3⟩ := lu hM hVW hl h'
  rw [q1]
  exact ⟨h1, by rw [h2]; exact q3 _ (by omega)⟩
theorem gl_roots {V W F' c' : Nat → Int} {b n' : Int} {r1 r2 : Int32} (hM : Bd V) (hVW : EqV V W) (hL : b ≠ 0 → Laid W F' n' c') (h1 : ((∀ j, j < 6 → V j = 0) ∧ r1 = iI (-3)) ∨ (Nz V ∧ ∃ (F : Nat → Int) (nm : Nat) (cc : Nat → Int), Laid V F (nm : Int) cc ∧ r1 = iI (nm : Int))) (h2 : ((∀ j, j < 6 → W j = 0) ∧ r2 = iI (-3)) ∨ (Nz W ∧ b ≠ 0 ∧ r2 = iI n')) : r1 = r2 := by
  rcases h1 with ⟨z, e⟩ | ⟨nz, F, nm, cc, hl, e⟩ <;> rcases h2 with ⟨z2, e2⟩ | ⟨nz2, hb, e2⟩
  · rw [e, e2]
  · exact (nz_no nz2 (hVW.zr z)).elim
  · exact (nz_no (hVW.nz nz) z2).elim
  · rw [e, e2, (lu hM hVW hl (hL hb)).1]
theorem gl_floor {V W F' c' : Nat → Int} {b n' a2 a3 : Int} {r1 r2 : Int64} (hM : Bd V) (hVW : EqV V W) (hL : b ≠ 0 → Laid W F' n' c') (h1 : (a2 < 0 ∧ r1 = lI (-4000000000000000000)) ∨ ((∀ j, j < 6 → V j = 0) ∧ r1 = lI (-4000000000000000000)) ∨ (Nz V ∧ ∃ (F : Nat → Int) (nm : Nat) (cc : Nat → Int), Laid V F (nm : Int) cc ∧ (((nm : Int) ≤ a2 ∧ r1 = lI (-4000000000000000000)) ∨ ((0 ≤ a2 ∧ a2 < (nm : Int)) ∧ (a3 < 0 ∨ 40 < a3) ∧ r1 = lI (-4000000000000000001)) ∨ ((0 ≤ a2 ∧ a2 < (nm : Int)) ∧ (0 ≤ a3 ∧ a3 ≤ 40) ∧ r1 = lI (cc a2.toNat / 2 ^ (256 - a3.toNat)))))) (h2 : b ≠ 0 ∧ (((a2 < 0 ∨ n' ≤ a2) ∧ r2 = lI (-4000000000000000000)) ∨ ((0 ≤ a2 ∧ a2 < n') ∧ (((a3 < 0 ∨ 40 < a3) ∧ r2 = lI (-4000000000000000001)) ∨ ((0 ≤ a3 ∧ a3 ≤ 40) ∧ r2 = lI (c' a2.toNat / 2 ^ (256 - a3.toNat))))))) : r1 = r2 := by
  obtain ⟨hb, h2⟩ := h2
  have hl2 := hL hb
  have off : NoR V a2 → r1 = lI (-4000000000000000000) → r1 = r2 := fun h e => by
    have := h.ref hM hVW hl2
    rcases h2 with ⟨_, e2⟩ | ⟨h3, _⟩
    · rw [e, e2]
    · omega
  rcases h1 with ⟨h, e⟩ | ⟨h, e⟩ | ⟨nz, F, nm, cc, hl, h | h | h⟩
  · exact off (Or.inl h) e
  · exact off (Or.inr (Or.inl h)) e
  · exact off (Or.inr (Or.inr ⟨nz, F, nm, cc, hl, h.1⟩)) h.2
  · obtain ⟨q1, q2⟩ := AtR.ref hM hVW ⟨nz, F, nm, cc, hl, h.1, rfl⟩ hl2
    rcases h2 with ⟨h3, _⟩ | ⟨_, ⟨_, e2⟩ | ⟨h3, _⟩⟩
    · omega
    · rw [h.2.2, e2]
    · omega
  · obtain ⟨q1, q2⟩ := AtR.ref hM hVW ⟨nz, F, nm, cc, hl, h.1, rfl⟩ hl2
    rcases h2 with ⟨h3, _⟩ | ⟨_, ⟨h3, _⟩ | ⟨_, e2⟩⟩
    · omega
    · omega
    · rw [h.2.2, e2, q2]
theorem gl_row {V W : Nat → Int} {r1 r2 : Int32} (hVW : EqV V W) (h1 : ((∀ j, j < 6 → V j = 0) ∧ r1 = iI (-3)) ∨ (Nz V ∧ ∃ (rr : Nat → Nat → Int) (n : Nat), Sseq V rr n ∧ r1 = iI (n : Int))) (h2 : ((∀ j, j < 6 → W j = 0) ∧ r2 = iI (-3)) ∨ (Nz W ∧ ∃ (rr : Nat → Nat → Int) (n : Nat), Sseq W rr n ∧ r2 = iI (n : Int))) : r1 = r2 := by
  rcases h1 with ⟨z, e⟩ | ⟨nz, F, n, hl, e⟩ <;> rcases h2 with ⟨z2, e2⟩ | ⟨nz2, F2, n2, hl2, e2⟩
  · rw [e, e2]
  · exact (nz_no nz2 (hVW.zr z)).elim
  · exact (nz_no (hVW.nz nz) z2).elim
  · rw [e, e2, hl.len (hl2.congr hVW.symm)]
theorem Sseq.turns {a : Nat → Int} {r r' : Nat → Nat → Int} {n n' : Nat} (h : Sseq a r n) (h' : Sseq a r' n') (x : Rat) : tn (fun k => sg (es (r k) 6 x)) n = tn (fun k => sg (es (r' k) 6 x)) n' := by
  have hn := h.len h'
  subst hn
  exact (tn_congr (fun k hk => ((h.pp h' k hk).same x).symm)).1
theorem gl_changes {V W : Nat → Int} {a2 a3 : Int} {r1 r2 : Int32} {P : Prop} (hVW : EqV V W) (h1 : (¬ P ∧ r1 = iI (-2)) ∨ (P ∧ (∀ j, j < 6 → V j = 0) ∧ r1 = iI (-3)) ∨ (P ∧ Nz V ∧ ∃ (rr : Nat → Nat → Int) (n : Nat), Sseq V rr n ∧ r1 = iI (tn (fun k => sg (es (rr k) 6 ((a2 : Rat) / (a3 : Rat)))) n))) (h2 : (¬ P ∧ r2 = iI (-2)) ∨ (P ∧ (∀ j, j < 6 → W j = 0) ∧ r2 = iI (-3)) ∨ (P ∧ Nz W ∧ ∃ (rr : Nat → Nat → Int) (n : Nat), Sseq W rr n ∧ r2 = iI (tn (fun k => sg (es (rr k) 6 ((a2 : Rat) / (a3 : Rat)))) n))) : r1 = r2 := by
  rcases h1 with ⟨p, e⟩ | ⟨p, z, e⟩ | ⟨p, nz, F, n, hl, e⟩ <;> rcases h2 with ⟨p2, e2⟩ | ⟨p2, z2, e2⟩ | ⟨p2, nz2, F2, n2, hl2, e2⟩
  · rw [e, e2]
  · exact absurd p2 p
  · exact absurd p2 p
  · exact absurd p p2
  · rw [e, e2]
  · exact (nz_no nz2 (hVW.zr z)).elim
  · exact absurd p p2
  · exact (nz_no (hVW.nz nz) z2).elim
  · rw [e, e2, hl.turns (hl2.congr hVW.symm)]
theorem gl_at {V W : Nat → Int} {x : Rat} {r1 r2 : Int32} {P : Prop} (hVW : EqV V W) (h1 : (¬ P ∧ r1 = iI (-8)) ∨ (P ∧ r1 = iI (sg (es V 6 x)))) (h2 : (¬ P ∧ r2 = iI (-8)) ∨ (P ∧ r2 = iI (sg (es W 6 x)))) : r1 = r2 := by
  rcases h1 with ⟨p, e⟩ | ⟨p, e⟩ <;> rcases h2 with ⟨p2, e2⟩ | ⟨p2, e2⟩
  · rw [e, e2]
  · exact absurd p2 p
  · exact absurd p p2
  · rw [e, e2, es_congr hVW x]
theorem btw_congr {c c' : Nat → Int} {n d m e : Int} : ∀ k, (∀ i, i < k → c' i = c i) → btw c' n d m e k = btw c n d m e k
  | 0, _ => rfl
  | k + 1, h => by rw [btw, btw, btw_congr k (fun i hi => h i (by omega)), h k (by omega)]
theorem bnd_congr {c c' : Nat → Int} : ∀ k, (∀ i, i < k → c' i = c i) → bnd c' k = bnd c k
  | 0, _ => rfl
  | k + 1, h => by rw [bnd, bnd, bnd_congr k (fun i hi => h i (by omega)), h k (by omega)]
theorem gl_between {V W F' c' : Nat → Int} {b n' a2 a3 a4 a5 : Int} {r1 r2 : Int32} {P : Prop} (hM : Bd V) (hVW : EqV V W) (hL : b ≠ 0 → Laid W F' n' c') (h1 : (¬ P ∧ r1 = iI (-2)) ∨ (P ∧ (∀ j, j < 6 → V j = 0) ∧ r1 = iI (-3)) ∨ (P ∧ Nz V ∧ ∃ (F : Nat → Int) (nm : Nat) (cc : Nat → Int), Laid V F (nm : Int) cc ∧ r1 = iI (btw cc a2 a3 a4 a5 nm))) (h2 : (¬ P ∧ r2 = iI (-2)) ∨ (P ∧ (∀ j, j < 6 → W j = 0) ∧ r2 = iI (-3)) ∨ (P ∧ Nz W ∧ b ≠ 0 ∧ r2 = iI (btw c' a2 a3 a4 a5 n'.toNat))) : r1 = r2 := by
  rcases h1 with ⟨p, e⟩ | ⟨p, z, e⟩ | ⟨p, nz, F, n, cc, hl, e⟩ <;> rcases h2 with ⟨p2, e2⟩ | ⟨p2, z2, e2⟩ | ⟨p2, nz2, hb, e2⟩
  · rw [e, e2]
  · exact absurd p2 p
  · exact absurd p2 p
  · exact absurd p p2
  · rw [e, e2]
  · exact (nz_no nz2 (hVW.zr z)).elim
  · exact absurd p p2
  · exact (nz_no (hVW.nz nz) z2).elim
  · obtain ⟨q1, _, q3⟩ := lu hM hVW hl (hL hb)
    rw [e, e2, q1, Int.toNat_natCast, btw_congr n (fun i hi => q3 i (by omega))]
theorem gl_bound {V W F' c' : Nat → Int} {b n' : Int} {r1 r2 : Int32} (hM : Bd V) (hVW : EqV V W) (hL : b ≠ 0 → Laid W F' n' c') (h1 : ((∀ j, j < 6 → V j = 0) ∧ r1 = iI (-3)) ∨ (Nz V ∧ ∃ (F : Nat → Int) (nm : Nat) (cc : Nat → Int), Laid V F (nm : Int) cc ∧ r1 = iI (bnd cc nm))) (h2 : ((∀ j, j < 6 → W j = 0) ∧ r2 = iI (-3)) ∨ (Nz W ∧ b ≠ 0 ∧ r2 = iI (bnd c' n'.toNat))) : r1 = r2 := by
  rcases h1 with ⟨z, e⟩ | ⟨nz, F, n, cc, hl, e⟩ <;> rcases h2 with ⟨z2, e2⟩ | ⟨nz2, hb, e2⟩
  · rw [e, e2]
  · exact (nz_no nz2 (hVW.zr z)).elim
  · exact (nz_no (hVW.nz nz) z2).elim
  · obtain ⟨q1, _, q3⟩ := lu hM hVW hl (hL hb)
    rw [e, e2, q1, Int.toNat_natCast, bnd_congr n (fun i hi => q3 i (by omega))]
theorem gl_compare {V W F' c' V1 W1 F1 c1 : Nat → Int} {b n' b1 n1 a2 a4 : Int} {r1 r2 : Int32} (hM : Bd V) (hVW : EqV V W) (hL : b ≠ 0 → Laid W F' n' c') (hM1 : Bd V1) (hVW1 : EqV V1 W1) (hL1 : b1 ≠ 0 → Laid W1 F1 n1 c1)
    (h1 : ((a2 < 0 ∨ a4 < 0) ∧ r1 = iI (-9)) ∨ (((∀ j, j < 6 → V j = 0) ∨ ∀ j, j < 6 → V1 j = 0) ∧ r1 = iI (-9)) ∨ (Nz V ∧ ∃ (F : Nat → Int) (nm : Nat) (cc : Nat → Int), Laid V F (nm : Int) cc ∧ (nm : Int) ≤ a2 ∧ r1 = iI (-9)) ∨ (Nz V1 ∧ ∃ (F : Nat → Int) (nm : Nat) (cc : Nat → Int), Laid V1 F (nm : Int) cc ∧ (nm : Int) ≤ a4 ∧ r1 = iI (-9)) ∨ (Nz V ∧ Nz V1 ∧ ∃ (F : Nat → Int) (nm : Nat) (cc : Nat → Int) (F2 : Nat → Int) (n2 : Nat) (c2 : Nat → Int), Laid V F (nm : Int) cc ∧ Laid V1 F2 (n2 : Int) c2 ∧ (0 ≤ a2 ∧ a2 < (nm : Int)) ∧ (0 ≤ a4 ∧ a4 < (n2 : Int)) ∧ r1 = iI (cmq (cc a2.toNat) (c2 a4.toNat))))
    (h2 : (((b ≠ 0 ∧ (a2 < 0 ∨ n' ≤ a2)) ∨ (b1 ≠ 0 ∧ (a4 < 0 ∨ n1 ≤ a4))) ∧ r2 = iI (-9)) ∨ (b ≠ 0 ∧ b1 ≠ 0 ∧ (0 ≤ a2 ∧ a2 < n') ∧ (0 ≤ a4 ∧ a4 < n1) ∧ r2 = iI (cmq (c' a2.toNat) (c1 a4.toNat)))) : r1 = r2 := by
  have off : (NoR V a2 ∨ NoR V1 a4) → r1 = iI (-9) → r1 = r2 := fun h e => by
    rcases h2 with ⟨_, e2⟩ | ⟨hb, hb1, h3, h4, _⟩
    · rw [e, e2]
    · rcases h with h | h
      · have := h.ref hM hVW (hL hb); omega
      · have := h.ref hM1 hVW1 (hL1 hb1); omega
  rcases h1 with ⟨h, e⟩ | ⟨h, e⟩ | ⟨nz, F, nm, cc, hl, h, e⟩ | ⟨nz, F, nm, cc, hl, h, e⟩ | ⟨nz, nz1, F, nm, cc, F2, n2, c2, hl, hl2, h, h', e⟩
  · exact off (h.elim (fun h => Or.inl (Or.inl h)) (fun h => Or.inr (Or.inl h))) e
  · exact off (h.elim (fun h => Or.inl (Or.inr (Or.inl h))) (fun h => Or.inr (Or.inr (Or.inl h)))) e
  · exact off (Or.inl (Or.inr (Or.inr ⟨nz, F, nm, cc, hl, h⟩))) e
  · exact off (Or.inr (Or.inr (Or.inr ⟨nz, F, nm, cc, hl, h⟩))) e
  · rcases h2 with ⟨h3, _⟩ | ⟨hb, hb1, _, _, e2⟩
    · rcases h3 with ⟨hb, h3⟩ | ⟨hb, h3⟩
      · obtain ⟨q1, q2⟩ := AtR.ref hM hVW ⟨nz, F, nm, cc, hl, h, rfl⟩ (hL hb); omega
      · obtain ⟨q1, q2⟩ := AtR.ref hM1 hVW1 ⟨nz1, F2, n2, c2, hl2, h', rfl⟩ (hL1 hb); omega
    · obtain ⟨_, q2⟩ := AtR.ref hM hVW ⟨nz, F, nm, cc, hl, h, rfl⟩ (hL hb)
      obtain ⟨_, q4⟩ := AtR.ref hM1 hVW1 ⟨nz1, F2, n2, c2, hl2, h', rfl⟩ (hL1 hb1)
      rw [e, e2, q2, q4]
theorem gl_sign {V W F' c' V1 W1 F1 c1 : Nat → Int} {b n' b1 n1 a3 : Int} {r1 r2 : Int32} (hM : Bd V) (hVW : EqV V W) (hL : b ≠ 0 → Laid W F' n' c') (hM1 : Bd V1) (hVW1 : EqV V1 W1) (hL1 : b1 ≠ 0 → Laid W1 F1 n1 c1)
    (h1 : (a3 < 0 ∧ r1 = iI (-9)) ∨ ((∀ j, j < 6 → V1 j = 0) ∧ r1 = iI (-9)) ∨ (Nz V1 ∧ ∃ (F : Nat → Int) (nm : Nat) (cc : Nat → Int), Laid V1 F (nm : Int) cc ∧ (nm : Int) ≤ a3 ∧ r1 = iI (-9)) ∨ (Nz V1 ∧ ∃ (F : Nat → Int) (nm : Nat) (cc : Nat → Int), Laid V1 F (nm : Int) cc ∧ (0 ≤ a3 ∧ a3 < (nm : Int)) ∧ (((∀ j, j < 6 → V j = 0) ∧ r1 = iI 0) ∨ (Nz V ∧ ∃ (F2 : Nat → Int) (n2 : Nat) (c2 : Nat → Int), Laid V F2 (n2 : Int) c2 ∧ ((HasP F2 (cc a3.toNat) ∧ r1 = iI 0) ∨ (¬ HasP F2 (cc a3.toNat) ∧ r1 = iI (sg (es V 6 (Pt (cc a3.toNat) 256)))))))))
    (h2 : (b1 ≠ 0 ∧ (a3 < 0 ∨ n1 ≤ a3) ∧ r2 = iI (-9)) ∨ (b1 ≠ 0 ∧ (0 ≤ a3 ∧ a3 < n1) ∧ (((∀ j, j < 6 → W j = 0) ∧ r2 = iI 0) ∨ (Nz W ∧ b ≠ 0 ∧ ((HasP F' (c1 a3.toNat) ∧ r2 = iI 0) ∨ (¬ HasP F' (c1 a3.toNat) ∧ r2 = iI (sg (es W 6 (Pt (c1 a3.toNat) 256))))))))) : r1 = r2 := by
  have off : NoR V1 a3 → r1 = iI (-9) → r1 = r2 := fun h e => by
    rcases h2 with ⟨_, _, e2⟩ | ⟨hb1, h3, _⟩
    · rw [e, e2]
    · have := h.ref hM1 hVW1 (hL1 hb1); omega
  rcases h1 with ⟨h, e⟩ | ⟨h, e⟩ | ⟨nz, F, nm, cc, hl, h, e⟩ | ⟨nz, F, nm, cc, hl, h, h3⟩
  · exact off (Or.inl h) e
  · exact off (Or.inr (Or.inl h)) e
  · exact off (Or.inr (Or.inr ⟨nz, F, nm, cc, hl, h⟩)) e
  · rcases h2 with ⟨hb1, h4, _⟩ | ⟨hb1, _, h4⟩
    · obtain ⟨q1, q2⟩ := AtR.ref hM1 hVW1 ⟨nz, F, nm, cc, hl, h, rfl⟩ (hL1 hb1); omega
    · obtain ⟨q1, q2⟩ := AtR.ref hM1 hVW1 ⟨nz, F, nm, cc, hl, h, rfl⟩ (hL1 hb1)
      rw [q2] at h4
      rcases h3 with ⟨z, e⟩ | ⟨nv, F2, n2, c2, hl2, h5⟩ <;> rcases h4 with ⟨z2, e2⟩ | ⟨nw, hb, h6⟩
      · rw [e, e2]
      · exact (nz_no nw (hVW.zr z)).elim
      · exact (nz_no (hVW.nz nv) z2).elim
      · have hF := (lu hM hVW hl2 (hL hb)).2.1
        rcases h5 with ⟨p, e⟩ | ⟨p, e⟩ <;> rcases h6 with ⟨p2, e2⟩ | ⟨p2, e2⟩
        · rw [e, e2]
        · exact absurd (p.congr hF) p2
        · exact absurd (p2.congr (fun j hj => (hF j hj).symm)) p
        · rw [e, e2, es_congr hVW]
