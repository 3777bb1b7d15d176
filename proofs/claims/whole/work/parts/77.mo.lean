/-! the search for a root by halves -/
theorem rat_tri (a b : Rat) : a < b ∨ a = b ∨ b < a := by grind
def Pt (t : Int) (b : Nat) : Rat := (t : Rat) / ((2 ^ b : Int) : Rat)
theorem pt_pos (b : Nat) : (0 : Rat) < ((2 ^ b : Int) : Rat) := by
  have : (0 : Int) < 2 ^ b := Int.pow_pos (by decide)
  exact_mod_cast this
theorem Pt_mul (t : Int) (b : Nat) : Pt t b * ((2 ^ b : Int) : Rat) = (t : Rat) := by
  have := pt_pos b
  exact Rat.div_mul_cancel (by grind)
theorem Pt_lt {t u : Int} {b : Nat} (h : t < u) : Pt t b < Pt u b := by
  have h1 := pt_pos b
  have h2 := Pt_mul t b
  have h3 := Pt_mul u b
  have h4 : (t : Rat) < (u : Rat) := by exact_mod_cast h
  rcases rat_tri (Pt t b) (Pt u b) with h5 | h5 | h5
  · exact h5
  · rw [h5] at h2; grind
  · have := Rat.mul_pos (show 0 < Pt t b - Pt u b by grind) h1
    grind
theorem Pt_le {t u : Int} {b : Nat} (h : t ≤ u) : Pt t b ≤ Pt u b := by
  by_cases hh : t = u
  · rw [hh]; exact Rat.le_refl
  · exact Rat.le_of_lt (Pt_lt (by omega))
theorem Pt_up (t : Int) (b : Nat) : Pt (t * 2 ^ 1) (b + 1) = Pt t b := by
  have h1 := pt_pos b
  have h2 := Pt_mul t b
  have h3 := Pt_mul (t * 2 ^ 1) (b + 1)
  have e1 : ((2 ^ (b + 1) : Int) : Rat) = 2 * ((2 ^ b : Int) : Rat) := by rw [Int.pow_succ, Rat.intCast_mul]; grind
  have e2 : ((t * 2 ^ 1 : Int) : Rat) = 2 * (t : Rat) := by rw [Rat.intCast_mul]; grind
  rw [e1, e2] at h3
  have h4 : (Pt (t * 2 ^ 1) (b + 1) - Pt t b) * ((2 ^ b : Int) : Rat) = 0 := by grind
  rcases Rat.mul_eq_zero.mp h4 with h5 | h5
  · grind
  · grind
theorem Pt_rng {t : Int} {b : Nat} {R : Int} (h1 : -(R * 2 ^ b) ≤ t) (h2 : t ≤ R * 2 ^ b) : rng (R : Rat) (Pt t b) := by
  have h3 := pt_pos b
  have h4 := Pt_mul t b
  have h5 : -((R : Rat) * ((2 ^ b : Int) : Rat)) ≤ (t : Rat) := by exact_mod_cast h1
  have h6 : (t : Rat) ≤ (R : Rat) * ((2 ^ b : Int) : Rat) := by exact_mod_cast h2
  refine ⟨?_, ?_⟩
  · rcases rat_tri (Pt t b) (-(R : Rat)) with h7 | h7 | h7
    · have := Rat.mul_pos (show 0 < -(R : Rat) - Pt t b by grind) h3
      grind
    · grind
    · grind
  · rcases rat_tri (Pt t b) (R : Rat) with h7 | h7 | h7
    · grind
    · grind
    · have := Rat.mul_pos (show 0 < Pt t b - (R : Rat) by grind) h3
      grind
/-- Nb x: how many roots of F lie below x -/
def NbOk (R : Rat) (F : Rat → Rat) (Nb : Rat → Int) : Prop := (∀ x y, rng R x → rng R y → x ≤ y → Nb x ≤ Nb y) ∧ (∀ x y, rng R x → rng R y → x < y → sg (F x) = 0 → Nb x < Nb y) ∧ ∀ x y, rng R x → rng R y → x < y → sg (F x) ≠ 0 → sg (F y) ≠ 0 → (sg (F x) = sg (F y) ↔ (Nb y - Nb x) % 2 = 0)
/-- root i lies from t on and below t + 1, in steps of 2^-b; aln: no other root does, lf: the sign at t -/
def FI (F : Rat → Rat) (Nb : Rat → Int) (i t : Int) (b : Nat) (aln lf : Int) : Prop := (-(2048 * 2 ^ b) ≤ t ∧ t < 2048 * 2 ^ b) ∧ Nb (Pt t b) ≤ i ∧ i < Nb (Pt (t + 1) b) ∧ (-1 ≤ lf ∧ lf ≤ 1) ∧ (aln = 0 ∨ (aln = 1 ∧ Nb (Pt t b) = i ∧ Nb (Pt (t + 1) b) = i + 1 ∧ lf = sg (F (Pt t b))))
theorem fi_mid (t : Int) (b : Nat) : Pt (t * 2 ^ 1 + 1 * 1 + 1) (b + 1) = Pt (t + 1) b := by
  rw [← Pt_up (t + 1) b]
  congr 1
  omega
theorem fi_rng {t : Int} {b : Nat} (h : -(2048 * 2 ^ b) ≤ t ∧ t < 2048 * 2 ^ b) : (-(2048 * 2 ^ (b + 1)) ≤ t * 2 ^ 1 ∧ t * 2 ^ 1 < 2048 * 2 ^ (b + 1)) ∧ (-(2048 * 2 ^ (b + 1)) ≤ t * 2 ^ 1 + 1 * 1 ∧ t * 2 ^ 1 + 1 * 1 < 2048 * 2 ^ (b + 1)) := by
  rw [Int.pow_succ]
  omega
theorem fi_pts {t : Int} {b : Nat} (h : -(2048 * 2 ^ b) ≤ t ∧ t < 2048 * 2 ^ b) : rng 2048 (Pt t b) ∧ rng 2048 (Pt (t * 2 ^ 1 + 1 * 1) (b + 1)) ∧ rng 2048 (Pt (t + 1) b) ∧ Pt t b < Pt (t * 2 ^ 1 + 1 * 1) (b + 1) ∧ Pt (t * 2 ^ 1 + 1 * 1) (b + 1) < Pt (t + 1) b := by
  have h2 := (fi_rng h).2
  refine ⟨Pt_rng (R := 2048) h.1 (by omega), Pt_rng (R := 2048) h2.1 (by omega), Pt_rng (R := 2048) (by omega) (by omega), ?_, ?_⟩
  · rw [← Pt_up t b]; exact Pt_lt (by omega)
  · rw [← fi_mid t b]; exact Pt_lt (by omega)
theorem FI.low {F : Rat → Rat} {Nb : Rat → Int} {i t : Int} {b : Nat} {aln lf lf' : Int} (h : FI F Nb i t b aln lf) (hl : -1 ≤ lf' ∧ lf' ≤ 1) (h1 : i < Nb (Pt (t * 2 ^ 1 + 1 * 1) (b + 1))) : FI F Nb i (t * 2 ^ 1) (b + 1) 0 lf' := by
  refine ⟨(fi_rng h.1).1, by rw [Pt_up]; exact h.2.1, ?_, hl, Or.inl rfl⟩
  rw [show t * 2 ^ 1 + 1 = t * 2 ^ 1 + 1 * 1 by omega]
  exact h1
theorem FI.high {F : Rat → Rat} {Nb : Rat → Int} {i t : Int} {b : Nat} {aln lf lf' : Int} (h : FI F Nb i t b aln lf) (hl : -1 ≤ lf' ∧ lf' ≤ 1) (h1 : Nb (Pt (t * 2 ^ 1 + 1 * 1) (b + 1)) ≤ i) : FI F Nb i (t * 2 ^ 1 + 1 * 1) (b + 1) 0 lf' :=
  ⟨(fi_rng h.1).2, h1, by rw [fi_mid]; exact h.2.2.1, hl, Or.inl rfl⟩
theorem FI.still {F : Rat → Rat} {Nb : Rat → Int} {i t : Int} {b : Nat} {aln lf : Int} (hN : NbOk 2048 F Nb) (h : FI F Nb i t b aln lf) (ha : aln ≠ 0) (hl : lf = 0) : FI F Nb i (t * 2 ^ 1) (b + 1) aln lf := by
  obtain ⟨h1, h2, h3, h4, h5⟩ := h
  obtain ⟨p1, p2, p3, p4, p5⟩ := fi_pts h1
  rcases h5 with h5 | ⟨h5, h6, h7, h8⟩
  · exact absurd h5 ha
  have n1 := hN.2.1 _ _ p1 p2 p4 (by rw [← h8]; exact hl)
  have n2 := hN.1 _ _ p2 p3 (Rat.le_of_lt p5)
  have e : t * 2 ^ 1 + 1 = t * 2 ^ 1 + 1 * 1 := by omega
  refine ⟨(fi_rng h1).1, by rw [Pt_up]; exact h2, by rw [e]; omega, h4, Or.inr ⟨h5, by rw [Pt_up]; exact h6, by rw [e]; omega, by rw [Pt_up]; exact h8⟩⟩
theorem FI.zero {F : Rat → Rat} {Nb : Rat → Int} {i t : Int} {b : Nat} {aln lf : Int} (hN : NbOk 2048 F Nb) (h : FI F Nb i t b aln lf) (ha : aln ≠ 0) (hm : sg (F (Pt (t * 2 ^ 1 + 1 * 1) (b + 1))) = 0) : FI F Nb i (t * 2 ^ 1 + 1 * 1) (b + 1) aln 0 := by
  obtain ⟨h1, h2, h3, h4, h5⟩ := h
  obtain ⟨p1, p2, p3, p4, p5⟩ := fi_pts h1
  rcases h5 with h5 | ⟨h5, h6, h7, h8⟩
  · exact absurd h5 ha
  have n1 := hN.2.1 _ _ p2 p3 p5 hm
  have n2 := hN.1 _ _ p1 p2 (Rat.le_of_lt p4)
  refine ⟨(fi_rng h1).2, by omega, by rw [fi_mid]; omega, by omega, Or.inr ⟨h5, by omega, by rw [fi_mid]; omega, hm.symm⟩⟩
theorem FI.same {F : Rat → Rat} {Nb : Rat → Int} {i t : Int} {b : Nat} {aln lf : Int} (hN : NbOk 2048 F Nb) (h : FI F Nb i t b aln lf) (ha : aln ≠ 0) (hl : lf ≠ 0) (hm : sg (F (Pt (t * 2 ^ 1 + 1 * 1) (b + 1))) = lf) : FI F Nb i (t * 2 ^ 1 + 1 * 1) (b + 1) aln lf := by
  obtain ⟨h1, h2, h3, h4, h5⟩ := h
  obtain ⟨p1, p2, p3, p4, p5⟩ := fi_pts h1
  rcases h5 with h5 | ⟨h5, h6, h7, h8⟩
  · exact absurd h5 ha
  have n1 := hN.1 _ _ p1 p2 (Rat.le_of_lt p4)
  have n2 := hN.1 _ _ p2 p3 (Rat.le_of_lt p5)
  have n3 := (hN.2.2 _ _ p1 p2 p4 (by rw [← h8]; exact hl) (by rw [hm]; exact hl)).mp (by rw [hm, h8])
  refine ⟨(fi_rng h1).2, by omega, by rw [fi_mid]; omega, h4, Or.inr ⟨h5, by omega, by rw [fi_mid]; omega, hm.symm⟩⟩
theorem FI.other {F : Rat → Rat} {Nb : Rat → Int} {i t : Int} {b : Nat} {aln lf : Int} (hN : NbOk 2048 F Nb) (h : FI F Nb i t b aln lf) (ha : aln ≠ 0) (hl : lf ≠ 0) (hm0 : sg (F (Pt (t * 2 ^ 1 + 1 * 1) (b + 1))) ≠ 0) (hm : sg (F (Pt (t * 2 ^ 1 + 1 * 1) (b + 1))) ≠ lf) : FI F Nb i (t * 2 ^ 1) (b + 1) aln lf := by
  obtain ⟨h1, h2, h3, h4, h5⟩ := h
  obtain ⟨p1, p2, p3, p4, p5⟩ := fi_pts h1
  rcases h5 with h5 | ⟨h5, h6, h7, h8⟩
  · exact absurd h5 ha
  have n1 := hN.1 _ _ p1 p2 (Rat.le_of_lt p4)
  have n2 := hN.1 _ _ p2 p3 (Rat.le_of_lt p5)
  have n3 : ¬ (Nb (Pt (t * 2 ^ 1 + 1 * 1) (b + 1)) - Nb (Pt t b)) % 2 = 0 := fun h9 => hm (by rw [h8]; exact ((hN.2.2 _ _ p1 p2 p4 (by rw [← h8]; exact hl) hm0).mpr h9).symm)
  have e : t * 2 ^ 1 + 1 = t * 2 ^ 1 + 1 * 1 := by omega
  refine ⟨(fi_rng h1).1, by rw [Pt_up]; exact h2, by rw [e]; omega, h4, Or.inr ⟨h5, by rw [Pt_up]; exact h6, by rw [e]; omega, by rw [Pt_up]; exact h8⟩⟩
theorem FI.alone {F : Rat → Rat} {Nb : Rat → Int} {i t : Int} {b : Nat} {aln lf : Int} (h : FI F Nb i t b aln lf) (h1 : Nb (Pt (t + 1) b) = i + 1) (h2 : Nb (Pt t b) = i) : FI F Nb i t b 1 (sg (F (Pt t b))) := by
  refine ⟨h.1, h.2.1, h.2.2.1, ?_, Or.inr ⟨rfl, h2, h1, rfl⟩⟩
  rcases sg_mem (F (Pt t b)) with h9 | h9 | h9 <;> omega
theorem FI.free {F : Rat → Rat} {Nb : Rat → Int} {i t : Int} {b : Nat} {aln lf : Int} (h : FI F Nb i t b aln lf) : FI F Nb i t b 0 0 :=
  ⟨h.1, h.2.1, h.2.2.1, by omega, Or.inl rfl⟩
/-- the first search, over whole numbers -/
def F0I (Nb : Rat → Int) (i t : Int) (k : Nat) : Prop := -2048 ≤ t ∧ t + 2 ^ k ≤ 2048 ∧ Nb (Pt t 0) ≤ i ∧ i < Nb (Pt (t + 2 ^ k) 0)
theorem F0I.low {Nb : Rat → Int} {i t : Int} {k : Nat} (h : F0I Nb i t k) (hk : 0 < k) (h1 : i < Nb (Pt (t + 1 * (1 * 2 ^ (k - 1))) 0)) : F0I Nb i t (k - 1) := by
  obtain ⟨q1, q2, q3, q4⟩ := h
  have e : (2 : Int) ^ k = 2 * 2 ^ (k - 1) := by rw [show k = (k - 1) + 1 by omega, Int.pow_succ, show k - 1 + 1 - 1 = k - 1 by omega]; omega
  have e2 : (0 : Int) < 2 ^ (k - 1) := Int.pow_pos (by decide)
  rw [e] at q2
  refine ⟨q1, by omega, q3, ?_⟩
  rw [show t + 2 ^ (k - 1) = t + 1 * (1 * 2 ^ (k - 1)) by omega]
  exact h1
theorem F0I.high {Nb : Rat → Int} {i t : Int} {k : Nat} (h : F0I Nb i t k) (hk : 0 < k) (h1 : Nb (Pt (t + 1 * (1 * 2 ^ (k - 1))) 0) ≤ i) : F0I Nb i (t + 1 * (1 * 2 ^ (k - 1))) (k - 1) := by
  obtain ⟨q1, q2, q3, q4⟩ := h
  have e : (2 : Int) ^ k = 2 * 2 ^ (k - 1) := by rw [show k = (k - 1) + 1 by omega, Int.pow_succ, show k - 1 + 1 - 1 = k - 1 by omega]; omega
  have e2 : (0 : Int) < 2 ^ (k - 1) := Int.pow_pos (by decide)
  rw [e] at q2 q4
  refine ⟨by omega, by omega, h1, ?_⟩
  rw [show t + 1 * (1 * 2 ^ (k - 1)) + 2 ^ (k - 1) = t + 2 * 2 ^ (k - 1) by omega]
  exact q4
theorem F0I.last {F : Rat → Rat} {Nb : Rat → Int} {i t : Int} {k : Nat} (h : F0I Nb i t k) (hk : k = 0) : FI F Nb i t 0 0 0 := by
  subst hk
  obtain ⟨q1, q2, q3, q4⟩ := h
  exact ⟨⟨by simpa using q1, by rw [Int.pow_zero] at q2 ⊢; omega⟩, q3, q4, by omega, Or.inl rfl⟩
theorem FI.bits {F : Rat → Rat} {Nb : Rat → Int} {i t : Int} {b : Nat} {aln lf : Int} (h : FI F Nb i t b aln lf) (hb : b ≤ 256) : (t.natAbs : Int) < 2 ^ 268 ∧ ((t * 2 ^ 1 + 1 * 1).natAbs : Int) < 2 ^ 269 ∧ ((t + 1 * 1).natAbs : Int) < 2 ^ 269 ∧ ((t * 2 ^ 1).natAbs : Int) < 2 ^ 269 := by
  have h1 := h.1
  have h2 : (2 : Int) ^ b ≤ 2 ^ 256 := by
    have : (2 : Nat) ^ b ≤ 2 ^ 256 := Nat.pow_le_pow_right (by decide) hb
    exact_mod_cast this
  have h3 : (2 : Int) ^ (12 + 256) = 4096 * 2 ^ 256 := by rw [Int.pow_add]; rfl
  have h4 : (2 : Int) ^ (13 + 256) = 8192 * 2 ^ 256 := by rw [Int.pow_add]; rfl
  have h5 : (0 : Int) < 2 ^ 256 := by decide
  rw [show 268 = 12 + 256 from rfl, show 269 = 13 + 256 from rfl, h3, h4]
  generalize (2 : Int) ^ 256 = M at *
  omega
theorem Sat_zero (Z : Nat → Int) (x : Rat) : Sat Z x 0 = sg (es (fun j => Z (60 + j)) 6 x) := rfl
/-- root i lies from c on and below c + 1, in steps of 2^-b -/
def Cell (Nb : Rat → Int) (i c : Int) (b : Nat) : Prop := (-(2048 * 2 ^ b) ≤ c ∧ c < 2048 * 2 ^ b) ∧ Nb (Pt c b) ≤ i ∧ i < Nb (Pt (c + 1) b)
theorem sm_Mp {z : Int} (h : (z.natAbs : Int) < 2 ^ 269) : (z.natAbs : Int) < Mp 63 := by
  have h1 := pow_Mp (i := 269) (by decide)
  have h2 : Mp 63 = 4294967296 * Mp 62 := Mp_succ 62
  have := Mp_pos 62
  omega
theorem sm_Mp2 {z : Int} {k : Nat} (h : ((z * 2 ^ k).natAbs : Int) < 2 ^ 269) : (z.natAbs : Int) * 2 ^ k < Mp 63 := by
  have h1 := sm_Mp h
  rw [Int.natAbs_mul, Int.natCast_mul, Int.natAbs_pow] at h1
  simpa using h1
theorem d_Mo_findRoot_0 : decode prog_9_method_47_code 0 = .ok (.aload_n 0, 1) := by decide +kernel
theorem d_Mo_findRoot_1 : decode prog_9_method_47_code 1 = .ok (.iload_n 1, 1) := by decide +kernel
theorem d_Mo_findRoot_2 : decode prog_9_method_47_code 2 = .ok (.ldc2_w 198, 3) := by decide +kernel
theorem d_Mo_findRoot_5 : decode prog_9_method_47_code 5 = .ok (.invokevirtual 77, 3) := by decide +kernel
theorem d_Mo_findRoot_8 : decode prog_9_method_47_code 8 = .ok (.bipush (-11), 2) := by decide +kernel
theorem d_Mo_findRoot_10 : decode prog_9_method_47_code 10 = .ok (.istore 4, 2) := by decide +kernel
theorem d_Mo_findRoot_12 : decode prog_9_method_47_code 12 = .ok (.bipush 11, 2) := by decide +kernel
theorem d_Mo_findRoot_14 : decode prog_9_method_47_code 14 = .ok (.istore 5, 2) := by decide +kernel
theorem d_Mo_findRoot_16 : decode prog_9_method_47_code 16 = .ok (.iload 5, 2) := by decide +kernel
theorem d_Mo_findRoot_18 : decode prog_9_method_47_code 18 = .ok (.ifCond .lt 53, 3) := by decide +kernel
theorem d_Mo_findRoot_21 : decode prog_9_method_47_code 21 = .ok (.aload_n 0, 1) := by decide +kernel
theorem d_Mo_findRoot_22 : decode prog_9_method_47_code 22 = .ok (.sipush 155, 3) := by decide +kernel
theorem d_Mo_findRoot_25 : decode prog_9_method_47_code 25 = .ok (.lconst 1, 1) := by decide +kernel
theorem d_Mo_findRoot_26 : decode prog_9_method_47_code 26 = .ok (.iload 5, 2) := by decide +kernel
theorem d_Mo_findRoot_28 : decode prog_9_method_47_code 28 = .ok (.lshl, 1) := by decide +kernel
theorem d_Mo_findRoot_29 : decode prog_9_method_47_code 29 = .ok (.invokevirtual 77, 3) := by decide +kernel
theorem d_Mo_findRoot_32 : decode prog_9_method_47_code 32 = .ok (.aload_n 0, 1) := by decide +kernel
theorem d_Mo_findRoot_33 : decode prog_9_method_47_code 33 = .ok (.sipush 155, 3) := by decide +kernel
theorem d_Mo_findRoot_36 : decode prog_9_method_47_code 36 = .ok (.iload_n 1, 1) := by decide +kernel
theorem d_Mo_findRoot_37 : decode prog_9_method_47_code 37 = .ok (.sipush 155, 3) := by decide +kernel
theorem d_Mo_findRoot_40 : decode prog_9_method_47_code 40 = .ok (.iconst 1, 1) := by decide +kernel
theorem d_Mo_findRoot_41 : decode prog_9_method_47_code 41 = .ok (.invokevirtual 88, 3) := by decide +kernel
theorem d_Mo_findRoot_44 : decode prog_9_method_47_code 44 = .ok (.aload_n 0, 1) := by decide +kernel
theorem d_Mo_findRoot_45 : decode prog_9_method_47_code 45 = .ok (.iload_n 3, 1) := by decide +kernel
theorem d_Mo_findRoot_46 : decode prog_9_method_47_code 46 = .ok (.sipush 155, 3) := by decide +kernel
theorem d_Mo_findRoot_49 : decode prog_9_method_47_code 49 = .ok (.iconst 0, 1) := by decide +kernel
theorem d_Mo_findRoot_50 : decode prog_9_method_47_code 50 = .ok (.invokevirtual 200, 3) := by decide +kernel
theorem d_Mo_findRoot_53 : decode prog_9_method_47_code 53 = .ok (.iload_n 2, 1) := by decide +kernel
theorem d_Mo_findRoot_54 : decode prog_9_method_47_code 54 = .ok (.if_icmp .gt 11, 3) := by decide +kernel
theorem d_Mo_findRoot_57 : decode prog_9_method_47_code 57 = .ok (.aload_n 0, 1) := by decide +kernel
theorem d_Mo_findRoot_58 : decode prog_9_method_47_code 58 = .ok (.iload_n 1, 1) := by decide +kernel
theorem d_Mo_findRoot_59 : decode prog_9_method_47_code 59 = .ok (.sipush 155, 3) := by decide +kernel
theorem d_Mo_findRoot_62 : decode prog_9_method_47_code 62 = .ok (.invokevirtual 65, 3) := by decide +kernel
theorem d_Mo_findRoot_65 : decode prog_9_method_47_code 65 = .ok (.iinc 5 (-1), 3) := by decide +kernel
theorem d_Mo_findRoot_68 : decode prog_9_method_47_code 68 = .ok (.goto (-52), 3) := by decide +kernel
theorem d_Mo_findRoot_71 : decode prog_9_method_47_code 71 = .ok (.iconst 0, 1) := by decide +kernel
theorem d_Mo_findRoot_72 : decode prog_9_method_47_code 72 = .ok (.istore 4, 2) := by decide +kernel
theorem d_Mo_findRoot_74 : decode prog_9_method_47_code 74 = .ok (.iconst 0, 1) := by decide +kernel
theorem d_Mo_findRoot_75 : decode prog_9_method_47_code 75 = .ok (.istore 5, 2) := by decide +kernel
theorem d_Mo_findRoot_77 : decode prog_9_method_47_code 77 = .ok (.iconst 0, 1) := by decide +kernel
theorem d_Mo_findRoot_78 : decode prog_9_method_47_code 78 = .ok (.istore 6, 2) := by decide +kernel
theorem d_Mo_findRoot_80 : decode prog_9_method_47_code 80 = .ok (.iload 4, 2) := by decide +kernel
theorem d_Mo_findRoot_82 : decode prog_9_method_47_code 82 = .ok (.sipush 256, 3) := by decide +kernel
theorem d_Mo_findRoot_85 : decode prog_9_method_47_code 85 = .ok (.if_icmp .ge 196, 3) := by decide +kernel
theorem d_Mo_findRoot_88 : decode prog_9_method_47_code 88 = .ok (.iload 5, 2) := by decide +kernel
theorem d_Mo_findRoot_90 : decode prog_9_method_47_code 90 = .ok (.ifCond .ne 78, 3) := by decide +kernel
theorem d_Mo_findRoot_93 : decode prog_9_method_47_code 93 = .ok (.aload_n 0, 1) := by decide +kernel
theorem d_Mo_findRoot_94 : decode prog_9_method_47_code 94 = .ok (.sipush 156, 3) := by decide +kernel
theorem d_Mo_findRoot_97 : decode prog_9_method_47_code 97 = .ok (.lconst 1, 1) := by decide +kernel
theorem d_Mo_findRoot_98 : decode prog_9_method_47_code 98 = .ok (.invokevirtual 77, 3) := by decide +kernel
theorem d_Mo_findRoot_101 : decode prog_9_method_47_code 101 = .ok (.aload_n 0, 1) := by decide +kernel
theorem d_Mo_findRoot_102 : decode prog_9_method_47_code 102 = .ok (.sipush 156, 3) := by decide +kernel
theorem d_Mo_findRoot_105 : decode prog_9_method_47_code 105 = .ok (.iload_n 1, 1) := by decide +kernel
theorem d_Mo_findRoot_106 : decode prog_9_method_47_code 106 = .ok (.sipush 156, 3) := by decide +kernel
theorem d_Mo_findRoot_109 : decode prog_9_method_47_code 109 = .ok (.iconst 1, 1) := by decide +kernel
theorem d_Mo_findRoot_110 : decode prog_9_method_47_code 110 = .ok (.invokevirtual 88, 3) := by decide +kernel
theorem d_Mo_findRoot_113 : decode prog_9_method_47_code 113 = .ok (.aload_n 0, 1) := by decide +kernel
theorem d_Mo_findRoot_114 : decode prog_9_method_47_code 114 = .ok (.iload_n 3, 1) := by decide +kernel
theorem d_Mo_findRoot_115 : decode prog_9_method_47_code 115 = .ok (.sipush 156, 3) := by decide +kernel
theorem d_Mo_findRoot_118 : decode prog_9_method_47_code 118 = .ok (.iload 4, 2) := by decide +kernel
theorem d_Mo_findRoot_120 : decode prog_9_method_47_code 120 = .ok (.invokevirtual 200, 3) := by decide +kernel
theorem d_Mo_findRoot_123 : decode prog_9_method_47_code 123 = .ok (.iload_n 2, 1) := by decide +kernel
theorem d_Mo_findRoot_124 : decode prog_9_method_47_code 124 = .ok (.iconst 1, 1) := by decide +kernel
theorem d_Mo_findRoot_125 : decode prog_9_method_47_code 125 = .ok (.iadd, 1) := by decide +kernel
theorem d_Mo_findRoot_126 : decode prog_9_method_47_code 126 = .ok (.if_icmp .ne 19, 3) := by decide +kernel
theorem d_Mo_findRoot_129 : decode prog_9_method_47_code 129 = .ok (.aload_n 0, 1) := by decide +kernel
theorem d_Mo_findRoot_130 : decode prog_9_method_47_code 130 = .ok (.iload_n 3, 1) := by decide +kernel
theorem d_Mo_findRoot_131 : decode prog_9_method_47_code 131 = .ok (.iload_n 1, 1) := by decide +kernel
theorem d_Mo_findRoot_132 : decode prog_9_method_47_code 132 = .ok (.iload 4, 2) := by decide +kernel
theorem d_Mo_findRoot_134 : decode prog_9_method_47_code 134 = .ok (.invokevirtual 200, 3) := by decide +kernel
theorem d_Mo_findRoot_137 : decode prog_9_method_47_code 137 = .ok (.iload_n 2, 1) := by decide +kernel
theorem d_Mo_findRoot_138 : decode prog_9_method_47_code 138 = .ok (.if_icmp .ne 7, 3) := by decide +kernel
theorem d_Mo_findRoot_141 : decode prog_9_method_47_code 141 = .ok (.iconst 1, 1) := by decide +kernel
theorem d_Mo_findRoot_142 : decode prog_9_method_47_code 142 = .ok (.goto 4, 3) := by decide +kernel
theorem d_Mo_findRoot_145 : decode prog_9_method_47_code 145 = .ok (.iconst 0, 1) := by decide +kernel
theorem d_Mo_findRoot_146 : decode prog_9_method_47_code 146 = .ok (.istore 5, 2) := by decide +kernel
theorem d_Mo_findRoot_148 : decode prog_9_method_47_code 148 = .ok (.iload 5, 2) := by decide +kernel
theorem d_Mo_findRoot_150 : decode prog_9_method_47_code 150 = .ok (.ifCond .eq 15, 3) := by decide +kernel
theorem d_Mo_findRoot_153 : decode prog_9_method_47_code 153 = .ok (.aload_n 0, 1) := by decide +kernel
theorem d_Mo_findRoot_154 : decode prog_9_method_47_code 154 = .ok (.bipush 60, 2) := by decide +kernel
theorem d_Mo_findRoot_156 : decode prog_9_method_47_code 156 = .ok (.iload_n 1, 1) := by decide +kernel
theorem d_Mo_findRoot_157 : decode prog_9_method_47_code 157 = .ok (.iload 4, 2) := by decide +kernel
theorem d_Mo_findRoot_159 : decode prog_9_method_47_code 159 = .ok (.invokevirtual 204, 3) := by decide +kernel
theorem d_Mo_findRoot_162 : decode prog_9_method_47_code 162 = .ok (.goto 4, 3) := by decide +kernel
theorem d_Mo_findRoot_165 : decode prog_9_method_47_code 165 = .ok (.iconst 0, 1) := by decide +kernel
theorem d_Mo_findRoot_166 : decode prog_9_method_47_code 166 = .ok (.istore 6, 2) := by decide +kernel
theorem d_Mo_findRoot_168 : decode prog_9_method_47_code 168 = .ok (.aload_n 0, 1) := by decide +kernel
theorem d_Mo_findRoot_169 : decode prog_9_method_47_code 169 = .ok (.iload_n 1, 1) := by decide +kernel
theorem d_Mo_findRoot_170 : decode prog_9_method_47_code 170 = .ok (.iconst 1, 1) := by decide +kernel
theorem d_Mo_findRoot_171 : decode prog_9_method_47_code 171 = .ok (.invokevirtual 85, 3) := by decide +kernel
theorem d_Mo_findRoot_174 : decode prog_9_method_47_code 174 = .ok (.iinc 4 1, 3) := by decide +kernel
theorem d_Mo_findRoot_177 : decode prog_9_method_47_code 177 = .ok (.aload_n 0, 1) := by decide +kernel
theorem d_Mo_findRoot_178 : decode prog_9_method_47_code 178 = .ok (.sipush 156, 3) := by decide +kernel
theorem d_Mo_findRoot_181 : decode prog_9_method_47_code 181 = .ok (.lconst 1, 1) := by decide +kernel
theorem d_Mo_findRoot_182 : decode prog_9_method_47_code 182 = .ok (.invokevirtual 77, 3) := by decide +kernel
theorem d_Mo_findRoot_185 : decode prog_9_method_47_code 185 = .ok (.aload_n 0, 1) := by decide +kernel
theorem d_Mo_findRoot_186 : decode prog_9_method_47_code 186 = .ok (.sipush 156, 3) := by decide +kernel
theorem d_Mo_findRoot_189 : decode prog_9_method_47_code 189 = .ok (.iload_n 1, 1) := by decide +kernel
theorem d_Mo_findRoot_190 : decode prog_9_method_47_code 190 = .ok (.sipush 156, 3) := by decide +kernel
theorem d_Mo_findRoot_193 : decode prog_9_method_47_code 193 = .ok (.iconst 1, 1) := by decide +kernel
theorem d_Mo_findRoot_194 : decode prog_9_method_47_code 194 = .ok (.invokevirtual 88, 3) := by decide +kernel
theorem d_Mo_findRoot_197 : decode prog_9_method_47_code 197 = .ok (.iload 5, 2) := by decide +kernel
theorem d_Mo_findRoot_199 : decode prog_9_method_47_code 199 = .ok (.ifCond .eq 57, 3) := by decide +kernel
theorem d_Mo_findRoot_202 : decode prog_9_method_47_code 202 = .ok (.iload 6, 2) := by decide +kernel
theorem d_Mo_findRoot_204 : decode prog_9_method_47_code 204 = .ok (.ifCond .eq (-124), 3) := by decide +kernel
theorem d_Mo_findRoot_207 : decode prog_9_method_47_code 207 = .ok (.aload_n 0, 1) := by decide +kernel
theorem d_Mo_findRoot_208 : decode prog_9_method_47_code 208 = .ok (.bipush 60, 2) := by decide +kernel
theorem d_Mo_findRoot_210 : decode prog_9_method_47_code 210 = .ok (.sipush 156, 3) := by decide +kernel
theorem d_Mo_findRoot_213 : decode prog_9_method_47_code 213 = .ok (.iload 4, 2) := by decide +kernel
theorem d_Mo_findRoot_215 : decode prog_9_method_47_code 215 = .ok (.invokevirtual 204, 3) := by decide +kernel
theorem d_Mo_findRoot_218 : decode prog_9_method_47_code 218 = .ok (.istore 7, 2) := by decide +kernel
theorem d_Mo_findRoot_220 : decode prog_9_method_47_code 220 = .ok (.iload 7, 2) := by decide +kernel
theorem d_Mo_findRoot_222 : decode prog_9_method_47_code 222 = .ok (.ifCond .eq 10, 3) := by decide +kernel
theorem d_Mo_findRoot_225 : decode prog_9_method_47_code 225 = .ok (.iload 7, 2) := by decide +kernel
theorem d_Mo_findRoot_227 : decode prog_9_method_47_code 227 = .ok (.iload 6, 2) := by decide +kernel
theorem d_Mo_findRoot_229 : decode prog_9_method_47_code 229 = .ok (.if_icmp .ne 11, 3) := by decide +kernel
theorem d_Mo_findRoot_232 : decode prog_9_method_47_code 232 = .ok (.aload_n 0, 1) := by decide +kernel
theorem d_Mo_findRoot_233 : decode prog_9_method_47_code 233 = .ok (.iload_n 1, 1) := by decide +kernel
theorem d_Mo_findRoot_234 : decode prog_9_method_47_code 234 = .ok (.sipush 156, 3) := by decide +kernel
theorem d_Mo_findRoot_237 : decode prog_9_method_47_code 237 = .ok (.invokevirtual 65, 3) := by decide +kernel
theorem d_Mo_findRoot_240 : decode prog_9_method_47_code 240 = .ok (.iload 7, 2) := by decide +kernel
theorem d_Mo_findRoot_242 : decode prog_9_method_47_code 242 = .ok (.ifCond .ne 7, 3) := by decide +kernel
theorem d_Mo_findRoot_245 : decode prog_9_method_47_code 245 = .ok (.iconst 0, 1) := by decide +kernel
theorem d_Mo_findRoot_246 : decode prog_9_method_47_code 246 = .ok (.goto 5, 3) := by decide +kernel
theorem d_Mo_findRoot_249 : decode prog_9_method_47_code 249 = .ok (.iload 6, 2) := by decide +kernel
theorem d_Mo_findRoot_251 : decode prog_9_method_47_code 251 = .ok (.istore 6, 2) := by decide +kernel
theorem d_Mo_findRoot_253 : decode prog_9_method_47_code 253 = .ok (.goto (-173), 3) := by decide +kernel
theorem d_Mo_findRoot_256 : decode prog_9_method_47_code 256 = .ok (.aload_n 0, 1) := by decide +kernel
theorem d_Mo_findRoot_257 : decode prog_9_method_47_code 257 = .ok (.iload_n 3, 1) := by decide +kernel
theorem d_Mo_findRoot_258 : decode prog_9_method_47_code 258 = .ok (.sipush 156, 3) := by decide +kernel
theorem d_Mo_findRoot_261 : decode prog_9_method_47_code 261 = .ok (.iload 4, 2) := by decide +kernel
theorem d_Mo_findRoot_263 : decode prog_9_method_47_code 263 = .ok (.invokevirtual 200, 3) := by decide +kernel
theorem d_Mo_findRoot_266 : decode prog_9_method_47_code 266 = .ok (.iload_n 2, 1) := by decide +kernel
theorem d_Mo_findRoot_267 : decode prog_9_method_47_code 267 = .ok (.if_icmp .gt (-187), 3) := by decide +kernel
theorem d_Mo_findRoot_270 : decode prog_9_method_47_code 270 = .ok (.aload_n 0, 1) := by decide +kernel
theorem d_Mo_findRoot_271 : decode prog_9_method_47_code 271 = .ok (.iload_n 1, 1) := by decide +kernel
theorem d_Mo_findRoot_272 : decode prog_9_method_47_code 272 = .ok (.sipush 156, 3) := by decide +kernel
theorem d_Mo_findRoot_275 : decode prog_9_method_47_code 275 = .ok (.invokevirtual 65, 3) := by decide +kernel
theorem d_Mo_findRoot_278 : decode prog_9_method_47_code 278 = .ok (.goto (-198), 3) := by decide +kernel
theorem d_Mo_findRoot_281 : decode prog_9_method_47_code 281 = .ok (.return_, 1) := by decide +kernel
set_option maxHeartbeats 8000000 in
set_option maxRecDepth 100000 in
theorem c_Mo_findRoot (l : Launch) (D : va_G) (cs : Nat → ClassId) (L : List Nat) (f : Nat → va_E) (sz : Nat) (y m1 m2 m3 m5 m6 m7 m8 m9 m10 m11 m12 m13 m15 : Nat) (th pn fu fb : Int) (lm mn sn Z : Nat → Int) (n to i0 nn a0 : Nat) (far : Int) (Nb : Rat → Int) (hF : Fc L [y, m1, m2, m3]) (ha : f y = .inr (7, [.int (iI th), .ref m1, .ref m2, .ref m3, .int (iI pn), .ref m5, .ref m6, .ref m7, .ref m8, .ref m9, .ref m10, .ref m11, .ref m12, .ref m13, .int (iI ((n : Int))), .ref m15, .long (lI fu), .long (lI fb)])) (hm1 : f m1 = .inl (cs 0, 11520, .inl (ai lm))) (hm2 : f m2 = .inl (cs 0, 180, .inl (ai mn))) (hm3 : f m3 = .inl (cs 0, 180, .inl (ai sn))) (hRS : RS lm mn sn Z) (hn7 : 1 ≤ n ∧ n ≤ 6) (hto : to < 60) (hi0 : i0 < 6) (hfar : 0 ≤ far ∧ far ≤ 6) (hBt : Bts (fun k j => Z (60 + 6 * k + j)) n) (hNb : ∀ x, far - tn0 (Sat Z x) n = Nb x) (hNo : NbOk 2048 (fun x => es (fun j => Z (60 + j)) 6 x) Nb) (hF0 : F0I Nb (i0 : Int) (-2048) 12) (hnn : nn < 6) (hpe : ∀ j, nn < j → j < 6 → Z (60 + j) = 0) (hpn : Z (60 + nn) ≠ 0) (hca : ∀ j, j < 6 → ((Z (60 + j)).natAbs : Int) < 2 ^ a0) (hroom : a0 + nn * 270 ≤ 1900) : Met l (⟨"RealRootsModel", "findRoot", "(III)V"⟩ : MethodName) (.code (⟨"RealRootsModel", "findRoot", "(III)V"⟩ : MethodName) prog_9_method_47_code 8 (Option.none : Option Jvm.ClassFile.FieldType) :: gw) ({ frames := 6, cells := 0, slots := 0, locals := 240 }) (va_Pc [.ref y, .int (iI ((to : Int))), .int (iI ((i0 : Int))), .int (iI far)] (K0 D vwCl (TY cs) L f sz)) (va_Qv (fun (g : Nat → va_E) => ∃ (lm' mn' sn' Z' : Nat → Int), RS lm' mn' sn' Z' ∧ Cell Nb (i0 : Int) (Z' to) 256 ∧ (∀ w, w ≠ to → (w < 150 ∨ 156 < w) → w ≠ 178 → Z' w = Z w) ∧ g = mw f [(m1, .inl (cs 0, 11520, .inl (ai (lm')))), (m2, .inl (cs 0, 180, .inl (ai (mn')))), (m3, .inl (cs 0, 180, .inl (ai (sn'))))]) (K1 D vwCl (TY cs) (AL L sz) L) (AL L sz)) 0 0 (AL L sz) := by
  refine Met.ofW (cc := prog_9_method_47_code) (maxL := 8) (ret := (Option.none : Option Jvm.ClassFile.FieldType)) (by decide) rfl ?_
  intro p e s m args below meth c s₁ Bd hml hv
  obtain ⟨rfl, hk0⟩ := hv
  obtain ⟨hsz, B⟩ := hk0.start
  subst hsz
  have hx := Bd.exec
  have hb := Bd.bytes
  have hr := Bd.returns
  have hlocks := Bd.notSynchronized
  have hts0 := atoms_spec Bd.pre
  have hown : s.vm.findClass RX7 = some m.cls := findClass_of_methodNamed Bd.named
  have hA : ∀ q, s.heap.size ≤ q → AL L s.heap.size q := fun _ h => Or.inr h
  have hl := lv_entry ([.ref y, .int (iI ((to : Int))), .int (iI ((i0 : Int))), .int (iI far)]) (n := 8) (Nat.le_of_ble_eq_true rfl)
  rw [lg_entry_eq]
  generalize (lg_sl ([.ref y, .int (iI ((to : Int))), .int (iI ((i0 : Int))), .int (iI far)]) ++ List.replicate (8 - (lg_sl ([.ref y, .int (iI ((to : Int))), .int (iI ((i0 : Int))), .int (iI far)])).length) Slot.unset).toArray = ls at hl ⊢
  refine absQ (fun Q R av hQ hR hav => ?_)
  have hts : ∀ w ∈ gw, w.before av s = true := by rw [hav]; exact fun w h => hts0 w (List.mem_cons_of_mem _ h)
  have hRf : R.frames = 6 := by rw [hR]; rfl
  have hRl : R.locals = 240 := by rw [hR]; rfl
  have hRc : R.cells = 0 := by rw [hR]; rfl
  have hRs : R.slots = 0 := by rw [hR]; rfl
  clear hR hts0 Bd
  have hl : lv_has ls 8 [(0, .ref y), (1, .int (iI ((to : Int)))), (2, .int (iI ((i0 : Int)))), (3, .int (iI far))] := hl
  obtain ⟨hn1, hn7⟩ := hn7
  obtain ⟨F, hFd⟩ : ∃ F : Rat → Rat, ∀ x, F x = es (fun j => Z (60 + j)) 6 x := ⟨_, fun _ => rfl⟩
  have hNo2 : NbOk 2048 F Nb := by rw [show F = (fun x => es (fun j => Z (60 + j)) 6 x) from funext hFd]; exact hNo
  have hNr : ∀ x, -10 ≤ Nb x ∧ Nb x ≤ 10 := fun x => by rw [← hNb x, tn0]; have h9 := tn_range (Sat Z x) n; split <;> omega
  have hfx : ∀ q ∈ ([(y, .inr (7, [.int (iI th), .ref m1, .ref m2, .ref m3, .int (iI pn), .ref m5, .ref m6, .ref m7, .ref m8, .ref m9, .ref m10, .ref m11, .ref m12, .ref m13, .int (iI ((n : Int))), .ref m15, .long (lI fu), .long (lI fb)])), (m1, .inl (cs 0, 11520, .inl (ai lm))), (m2, .inl (cs 0, 180, .inl (ai mn))), (m3, .inl (cs 0, 180, .inl (ai sn)))] : List (Nat × va_E)), f q.1 = q.2 := fun q hq => by
    simp only [List.mem_cons, List.not_mem_nil, or_false] at hq
    rcases hq with rfl | rfl | rfl | rfl
    · exact ha
    · exact hm1
    · exact hm2
    · exact hm3
  have hmw : mw f [(y, .inr (7, [.int (iI th), .ref m1, .ref m2, .ref m3, .int (iI pn), .ref m5, .ref m6, .ref m7, .ref m8, .ref m9, .ref m10, .ref m11, .ref m12, .ref m13, .int (iI ((n : Int))), .ref m15, .long (lI fu), .long (lI fb)])), (m1, .inl (cs 0, 11520, .inl (ai lm))), (m2, .inl (cs 0, 180, .inl (ai mn))), (m3, .inl (cs 0, 180, .inl (ai sn)))] = f := mw_self (fun k a e hk => hfx (a, e) (List.mem_of_getElem? hk))
  have B := B.focus [(y, .inr (7, [.int (iI th), .ref m1, .ref m2, .ref m3, .int (iI pn), .ref m5, .ref m6, .ref m7, .ref m8, .ref m9, .ref m10, .ref m11, .ref m12, .ref m13, .int (iI ((n : Int))), .ref m15, .long (lI fu), .long (lI fb)])), (m1, .inl (cs 0, 11520, .inl (ai lm))), (m2, .inl (cs 0, 180, .inl (ai mn))), (m3, .inl (cs 0, 180, .inl (ai sn)))] hfx
  refine lv_aload_n hx hb d_Mo_findRoot_0 rfl (lv_at hl 0 rfl) ?_
  refine lv_iload_n hx hb d_Mo_findRoot_1 rfl (lv_at hl 1 rfl) ?_
  refine x_ldc2 (z := -2048) hx hb hown (hts _ w_902) (by decide) d_Mo_findRoot_2 ?_
  refine x_callv B hA (va_runV (As := [.int (iI ((to : Int))), .long (lI (-2048))]) (rest := []) ⟨hx, hb, hml, hown, hts⟩ (c_Mo_lay0 l D cs _ _ _ y m1 m2 m3 m5 m6 m7 m8 m9 m10 m11 m12 m13 m15 th pn ((n : Int)) fu fb lm mn sn Z to (-2048) (hF.pick [0, 1, 2, 3] rfl rfl) (mw_get (X := [(y, .inr (7, [.int (iI th), .ref m1, .ref m2, .ref m3, .int (iI pn), .ref m5, .ref m6, .ref m7, .ref m8, .ref m9, .ref m10, .ref m11, .ref m12, .ref m13, .int (iI ((n : Int))), .ref m15, .long (lI fu), .long (lI fb)])), (m1, .inl (cs 0, 11520, .inl (ai lm))), (m2, .inl (cs 0, 180, .inl (ai mn))), (m3, .inl (cs 0, 180, .inl (ai sn)))]) hF.1 (k := 0) rfl) (mw_get (X := [(y, .inr (7, [.int (iI th), .ref m1, .ref m2, .ref m3, .int (iI pn), .ref m5, .ref m6, .ref m7, .ref m8, .ref m9, .ref m10, .ref m11, .ref m12, .ref m13, .int (iI ((n : Int))), .ref m15, .long (lI fu), .long (lI fb)])), (m1, .inl (cs 0, 11520, .inl (ai lm))), (m2, .inl (cs 0, 180, .inl (ai mn))), (m3, .inl (cs 0, 180, .inl (ai sn)))]) hF.1 (k := 1) rfl) (mw_get (X := [(y, .inr (7, [.int (iI th), .ref m1, .ref m2, .ref m3, .int (iI pn), .ref m5, .ref m6, .ref m7, .ref m8, .ref m9, .ref m10, .ref m11, .ref m12, .ref m13, .int (iI ((n : Int))), .ref m15, .long (lI fu), .long (lI fb)])), (m1, .inl (cs 0, 11520, .inl (ai lm))), (m2, .inl (cs 0, 180, .inl (ai mn))), (m3, .inl (cs 0, 180, .inl (ai sn)))]) hF.1 (k := 2) rfl) (mw_get (X := [(y, .inr (7, [.int (iI th), .ref m1, .ref m2, .ref m3, .int (iI pn), .ref m5, .ref m6, .ref m7, .ref m8, .ref m9, .ref m10, .ref m11, .ref m12, .ref m13, .int (iI ((n : Int))), .ref m15, .long (lI fu), .long (lI fb)])), (m1, .inl (cs 0, 11520, .inl (ai lm))), (m2, .inl (cs 0, 180, .inl (ai mn))), (m3, .inl (cs 0, 180, .inl (ai sn)))]) hF.1 (k := 3) rfl) hRS (by omega) (by omega)) (cwV 2 hts (gw_V w_792 w_794 s_35 w_8 w_795) rfl rfl rfl (by decide +kernel) ⟨by rw [hRf]; exact Nat.le_of_ble_eq_true rfl, by rw [hRl]; exact Nat.le_of_ble_eq_true rfl⟩) ⟨K0.blind, B.recv (hF.2 _ (mw_key (k := 0) (X := [(y, .inr (7, [.int (iI th), .ref m1, .ref m2, .ref m3, .int (iI pn), .ref m5, .ref m6, .ref m7, .ref m8, .ref m9, .ref m10, .ref m11, .ref m12, .ref m13, .int (iI ((n : Int))), .ref m15, .long (lI fu), .long (lI fb)])), (m1, .inl (cs 0, 11520, .inl (ai lm))), (m2, .inl (cs 0, 180, .inl (ai mn))), (m3, .inl (cs 0, 180, .inl (ai sn)))]) rfl)) (mw_get (X := [(y, .inr (7, [.int (iI th), .ref m1, .ref m2, .ref m3, .int (iI pn), .ref m5, .ref m6, .ref m7, .ref m8, .ref m9, .ref m10, .ref m11, .ref m12, .ref m13, .int (iI ((n : Int))), .ref m15, .long (lI fu), .long (lI fb)])), (m1, .inl (cs 0, 11520, .inl (ai lm))), (m2, .inl (cs 0, 180, .inl (ai mn))), (m3, .inl (cs 0, 180, .inl (ai sn)))]) hF.1 (k := 0) rfl) rfl, B.pre _⟩ rfl rfl hl.1 rfl (lv_room (Nat.le_of_ble_eq_true rfl)) d_Mo_findRoot_5 ⟨by rw [hRc]; omega, by rw [hRs]; omega⟩) (fun g5 H locs hw B => ?_)
  obtain ⟨lm5, mn5, sn5, hR0, rfl⟩ := hw
  have B := B.of_eq (mw_put3 (X := [(y, .inr (7, [.int (iI th), .ref m1, .ref m2, .ref m3, .int (iI pn), .ref m5, .ref m6, .ref m7, .ref m8, .ref m9, .ref m10, .ref m11, .ref m12, .ref m13, .int (iI ((n : Int))), .ref m15, .long (lI fu), .long (lI fb)])), (m1, .inl (cs 0, 11520, .inl (ai lm))), (m2, .inl (cs 0, 180, .inl (ai mn))), (m3, .inl (cs 0, 180, .inl (ai sn)))]) hF.1 (k1 := 1) (k2 := 2) (k3 := 3) rfl rfl rfl)
  have B : Wb D vwCl (TY cs) L (mw f [(y, .inr (7, [.int (iI th), .ref m1, .ref m2, .ref m3, .int (iI pn), .ref m5, .ref m6, .ref m7, .ref m8, .ref m9, .ref m10, .ref m11, .ref m12, .ref m13, .int (iI ((n : Int))), .ref m15, .long (lI fu), .long (lI fb)])), (m1, .inl (cs 0, 11520, .inl (ai lm5))), (m2, .inl (cs 0, 180, .inl (ai mn5))), (m3, .inl (cs 0, 180, .inl (ai sn5)))]) (AL L s.heap.size) s H _ := B
  refine x_bipush hx hb d_Mo_findRoot_8 (by decide) ?_
  refine lv_istore (lv' := [(4, .int (iI (-11))), (0, .ref y), (1, .int (iI ((to : Int)))), (2, .int (iI ((i0 : Int)))), (3, .int (iI far))]) hx hb d_Mo_findRoot_10 hl (by decide) rfl (fun ls hl => ?_)
  refine x_bipush hx hb d_Mo_findRoot_12 (by decide) ?_
  refine lv_istore (lv' := [(5, .int (iI 11)), (4, .int (iI (-11))), (0, .ref y), (1, .int (iI ((to : Int)))), (2, .int (iI ((i0 : Int)))), (3, .int (iI far))]) hx hb d_Mo_findRoot_14 hl (by decide) rfl (fun ls hl => ?_)
  have LP : ∀ (fuel : Nat) (kk : Nat) (lm2 : Nat → Int) (mn2 : Nat → Int) (sn2 : Nat → Int) (Z2 : Nat → Int), kk < fuel → (kk ≤ 12) → (RS lm2 mn2 sn2 Z2) → (F0I Nb (i0 : Int) (Z2 to) kk) → (∀ w, w ≠ to → (w < 150 ∨ 156 < w) → w ≠ 178 → Z2 w = Z w) → ∀ (H : Heap) (locs : List Loc) (ls : Array Slot), Wb D vwCl (TY cs) L (mw f [(y, .inr (7, [.int (iI th), .ref m1, .ref m2, .ref m3, .int (iI pn), .ref m5, .ref m6, .ref m7, .ref m8, .ref m9, .ref m10, .ref m11, .ref m12, .ref m13, .int (iI ((n : Int))), .ref m15, .long (lI fu), .long (lI fb)])), (m1, .inl (cs 0, 11520, .inl (ai lm2))), (m2, .inl (cs 0, 180, .inl (ai mn2))), (m3, .inl (cs 0, 180, .inl (ai sn2)))]) (AL L s.heap.size) s H locs → lv_has ls 8 [(5, .int (iI ((kk : Int) - 1))), (0, .ref y), (1, .int (iI ((to : Int)))), (2, .int (iI ((i0 : Int)))), (3, .int (iI far))] → W p l e R s m av below meth c H locs (0) (0) Q (F0 m 16 ls []) := by
    intro fuel
    induction fuel with
    | zero => intro kk lm2 mn2 sn2 Z2 hfu; exact absurd hfu (Nat.not_lt_zero _)
    | succ fuel ih_LP =>
      intro kk lm2 mn2 sn2 Z2 hfu_LP hkk hR2 hF2 ho H locs ls B hl
      refine lv_iload hx hb d_Mo_findRoot_16 (lv_at hl 0 rfl) ?_
      refine x_if_lt (tgt := 71) hx hb d_Mo_findRoot_18 (by decide) (by omega) (fun h18 => ?_) (fun h18 => ?_)
      · refine x_iconst hx hb d_Mo_findRoot_71 ?_
        refine lv_istore (lv' := [(4, .int (iI 0)), (5, .int (iI ((kk : Int) - 1))), (0, .ref y), (1, .int (iI ((to : Int)))), (2, .int (iI ((i0 : Int)))), (3, .int (iI far))]) hx hb d_Mo_findRoot_72 hl (by decide) rfl (fun ls hl => ?_)
        refine x_iconst hx hb d_Mo_findRoot_74 ?_
        refine lv_istore (lv' := [(5, .int (iI 0)), (4, .int (iI 0)), (0, .ref y), (1, .int (iI ((to : Int)))), (2, .int (iI ((i0 : Int)))), (3, .int (iI far))]) hx hb d_Mo_findRoot_75 hl (by decide) rfl (fun ls hl => ?_)
        refine x_iconst hx hb d_Mo_findRoot_77 ?_
        refine lv_istore (lv' := [(6, .int (iI 0)), (5, .int (iI 0)), (4, .int (iI 0)), (0, .ref y), (1, .int (iI ((to : Int)))), (2, .int (iI ((i0 : Int)))), (3, .int (iI far))]) hx hb d_Mo_findRoot_78 hl (by decide) rfl (fun ls hl => ?_)
        have L2 : ∀ (fuel : Nat) (b : Nat) (aln : Int) (lf : Int) (lm2 : Nat → Int) (mn2 : Nat → Int) (sn2 : Nat → Int) (Z2 : Nat → Int), 256 - b < fuel → (b ≤ 256) → (RS lm2 mn2 sn2 Z2) → (FI F Nb (i0 : Int) (Z2 to) b aln lf) → (aln = 0 ∨ aln = 1) → (∀ w, w ≠ to → (w < 150 ∨ 156 < w) → w ≠ 178 → Z2 w = Z w) → ∀ (H : Heap) (locs : List Loc) (ls : Array Slot), Wb D vwCl (TY cs) L (mw f [(y, .inr (7, [.int (iI th), .ref m1, .ref m2, .ref m3, .int (iI pn), .ref m5, .ref m6, .ref m7, .ref m8, .ref m9, .ref m10, .ref m11, .ref m12, .ref m13, .int (iI ((n : Int))), .ref m15, .long (lI fu), .long (lI fb)])), (m1, .inl (cs 0, 11520, .inl (ai lm2))), (m2, .inl (cs 0, 180, .inl (ai mn2))), (m3, .inl (cs 0, 180, .inl (ai sn2)))]) (AL L s.heap.size) s H locs → lv_has ls 8 [(6, .int (iI lf)), (5, .int (iI aln)), (4, .int (iI ((b : Int)))), (0, .ref y), (1, .int (iI ((to : Int)))), (2, .int (iI ((i0 : Int)))), (3, .int (iI far))] → W p l e R s m av below meth c H locs (0) (0) Q (F0 m 80 ls []) := by
          intro fuel
          induction fuel with
          | zero => intro b aln lf lm2 mn2 sn2 Z2 hfu; exact absurd hfu (Nat.not_lt_zero _)
          | succ fuel ih_L2 =>
            intro b aln lf lm2 mn2 sn2 Z2 hfu_L2 hb8 hR2 hFI hal ho H locs ls B hl
            have hlf := hFI.2.2.2.1
            refine lv_iload hx hb d_Mo_findRoot_80 (lv_at hl 2 rfl) ?_
            refine x_sipush hx hb d_Mo_findRoot_82 (by decide) ?_
            refine x_icmp_ge (tgt := 281) hx hb d_Mo_findRoot_85 (by decide) (by omega) (by omega) (fun h85 => ?_) (fun h85 => ?_)
            · subst hQ hav
              exact x_vret hx hb hr hlocks B d_Mo_findRoot_281 (⟨_, _, _, Z2, hR2, ⟨by have h9 := hFI.1; rw [show b = 256 by omega] at h9; exact h9, by have h9 := hFI.2.1; rw [show b = 256 by omega] at h9; exact h9, by have h9 := hFI.2.2.1; rw [show b = 256 by omega] at h9; exact h9⟩, ho, mw_drop (f := f) (X := [(m1, .inl (cs 0, 11520, .inl (ai lm2))), (m2, .inl (cs 0, 180, .inl (ai mn2))), (m3, .inl (cs 0, 180, .inl (ai sn2)))]) ha (List.nodup_cons.mp hF.1).1⟩)
            · have J168 : ∀ (al3 : Int) (lf3 : Int) (lm3 : Nat → Int) (mn3 : Nat → Int) (sn3 : Nat → Int) (Z3 : Nat → Int), (RS lm3 mn3 sn3 Z3) → (FI F Nb (i0 : Int) (Z3 to) b al3 lf3) → (al3 = 0 ∨ al3 = 1) → (∀ w, w ≠ to → (w < 150 ∨ 156 < w) → w ≠ 178 → Z3 w = Z w) → ∀ (H : Heap) (locs : List Loc) (ls : Array Slot), Wb D vwCl (TY cs) L (mw f [(y, .inr (7, [.int (iI th), .ref m1, .ref m2, .ref m3, .int (iI pn), .ref m5, .ref m6, .ref m7, .ref m8, .ref m9, .ref m10, .ref m11, .ref m12, .ref m13, .int (iI ((n : Int))), .ref m15, .long (lI fu), .long (lI fb)])), (m1, .inl (cs 0, 11520, .inl (ai lm3))), (m2, .inl (cs 0, 180, .inl (ai mn3))), (m3, .inl (cs 0, 180, .inl (ai sn3)))]) (AL L s.heap.size) s H locs → lv_has ls 8 [(6, .int (iI lf3)), (5, .int (iI al3)), (4, .int (iI ((b : Int)))), (0, .ref y), (1, .int (iI ((to : Int)))), (2, .int (iI ((i0 : Int)))), (3, .int (iI far))] → W p l e R s m av below meth c H locs (0) (0) Q (F0 m 168 ls []) := by
                intro al3 lf3 lm3 mn3 sn3 Z3 hR3 hFI3 hal3 ho3 H locs ls B hl
                have hlf := hFI3.2.2.2.1
                obtain ⟨hb1, hb2, hb3, hb4⟩ := hFI3.bits hb8
                refine lv_aload_n hx hb d_Mo_findRoot_168 rfl (lv_at hl 3 rfl) ?_
                refine lv_iload_n hx hb d_Mo_findRoot_169 rfl (lv_at hl 4 rfl) ?_
                refine x_iconst hx hb d_Mo_findRoot_170 ?_
                refine x_callv B hA (va_runV (As := [.int (iI ((to : Int))), .int (iI 1)]) (rest := []) ⟨hx, hb, hml, hown, hts⟩ (c_Mo_shift l D cs _ _ _ y m1 m2 m3 m5 m6 m7 m8 m9 m10 m11 m12 m13 m15 th pn ((n : Int)) fu fb lm3 mn3 sn3 Z3 to 1 (hF.pick [0, 1, 2, 3] rfl rfl) (mw_get (X := [(y, .inr (7, [.int (iI th), .ref m1, .ref m2, .ref m3, .int (iI pn), .ref m5, .ref m6, .ref m7, .ref m8, .ref m9, .ref m10, .ref m11, .ref m12, .ref m13, .int (iI ((n : Int))), .ref m15, .long (lI fu), .long (lI fb)])), (m1, .inl (cs 0, 11520, .inl (ai lm3))), (m2, .inl (cs 0, 180, .inl (ai mn3))), (m3, .inl (cs 0, 180, .inl (ai sn3)))]) hF.1 (k := 0) rfl) (mw_get (X := [(y, .inr (7, [.int (iI th), .ref m1, .ref m2, .ref m3, .int (iI pn), .ref m5, .ref m6, .ref m7, .ref m8, .ref m9, .ref m10, .ref m11, .ref m12, .ref m13, .int (iI ((n : Int))), .ref m15, .long (lI fu), .long (lI fb)])), (m1, .inl (cs 0, 11520, .inl (ai lm3))), (m2, .inl (cs 0, 180, .inl (ai mn3))), (m3, .inl (cs 0, 180, .inl (ai sn3)))]) hF.1 (k := 1) rfl) (mw_get (X := [(y, .inr (7, [.int (iI th), .ref m1, .ref m2, .ref m3, .int (iI pn), .ref m5, .ref m6, .ref m7, .ref m8, .ref m9, .ref m10, .ref m11, .ref m12, .ref m13, .int (iI ((n : Int))), .ref m15, .long (lI fu), .long (lI fb)])), (m1, .inl (cs 0, 11520, .inl (ai lm3))), (m2, .inl (cs 0, 180, .inl (ai mn3))), (m3, .inl (cs 0, 180, .inl (ai sn3)))]) hF.1 (k := 2) rfl) (mw_get (X := [(y, .inr (7, [.int (iI th), .ref m1, .ref m2, .ref m3, .int (iI pn), .ref m5, .ref m6, .ref m7, .ref m8, .ref m9, .ref m10, .ref m11, .ref m12, .ref m13, .int (iI ((n : Int))), .ref m15, .long (lI fu), .long (lI fb)])), (m1, .inl (cs 0, 11520, .inl (ai lm3))), (m2, .inl (cs 0, 180, .inl (ai mn3))), (m3, .inl (cs 0, 180, .inl (ai sn3)))]) hF.1 (k := 3) rfl) hR3 (by omega) (by omega) (sm_Mp2 hb4)) (cwV 2 hts (gw_V w_848 w_850 s_48 w_8 w_851) rfl rfl rfl (by decide +kernel) ⟨by rw [hRf]; exact Nat.le_of_ble_eq_true rfl, by rw [hRl]; exact Nat.le_of_ble_eq_true rfl⟩) ⟨K0.blind, B.recv (hF.2 _ (mw_key (k := 0) (X := [(y, .inr (7, [.int (iI th), .ref m1, .ref m2, .ref m3, .int (iI pn), .ref m5, .ref m6, .ref m7, .ref m8, .ref m9, .ref m10, .ref m11, .ref m12, .ref m13, .int (iI ((n : Int))), .ref m15, .long (lI fu), .long (lI fb)])), (m1, .inl (cs 0, 11520, .inl (ai lm3))), (m2, .inl (cs 0, 180, .inl (ai mn3))), (m3, .inl (cs 0, 180, .inl (ai sn3)))]) rfl)) (mw_get (X := [(y, .inr (7, [.int (iI th), .ref m1, .ref m2, .ref m3, .int (iI pn), .ref m5, .ref m6, .ref m7, .ref m8, .ref m9, .ref m10, .ref m11, .ref m12, .ref m13, .int (iI ((n : Int))), .ref m15, .long (lI fu), .long (lI fb)])), (m1, .inl (cs 0, 11520, .inl (ai lm3))), (m2, .inl (cs 0, 180, .inl (ai mn3))), (m3, .inl (cs 0, 180, .inl (ai sn3)))]) hF.1 (k := 0) rfl) rfl, B.pre _⟩ rfl rfl hl.1 rfl (lv_room (Nat.le_of_ble_eq_true rfl)) d_Mo_findRoot_171 ⟨by rw [hRc]; omega, by rw [hRs]; omega⟩) (fun g171 H locs hw B => ?_)
                obtain ⟨lm171, mn171, sn171, hR8, rfl⟩ := hw
                have B := B.of_eq (mw_put3 (X := [(y, .inr (7, [.int (iI th), .ref m1, .ref m2, .ref m3, .int (iI pn), .ref m5, .ref m6, .ref m7, .ref m8, .ref m9, .ref m10, .ref m11, .ref m12, .ref m13, .int (iI ((n : Int))), .ref m15, .long (lI fu), .long (lI fb)])), (m1, .inl (cs 0, 11520, .inl (ai lm3))), (m2, .inl (cs 0, 180, .inl (ai mn3))), (m3, .inl (cs 0, 180, .inl (ai sn3)))]) hF.1 (k1 := 1) (k2 := 2) (k3 := 3) rfl rfl rfl)
                have B : Wb D vwCl (TY cs) L (mw f [(y, .inr (7, [.int (iI th), .ref m1, .ref m2, .ref m3, .int (iI pn), .ref m5, .ref m6, .ref m7, .ref m8, .ref m9, .ref m10, .ref m11, .ref m12, .ref m13, .int (iI ((n : Int))), .ref m15, .long (lI fu), .long (lI fb)])), (m1, .inl (cs 0, 11520, .inl (ai lm171))), (m2, .inl (cs 0, 180, .inl (ai mn171))), (m3, .inl (cs 0, 180, .inl (ai sn171)))]) (AL L s.heap.size) s H _ := B
                refine x_iinc (lv' := [(4, .int (iI (((b : Int)) + 1))), (6, .int (iI lf3)), (5, .int (iI al3)), (0, .ref y), (1, .int (iI ((to : Int)))), (2, .int (iI ((i0 : Int)))), (3, .int (iI far))]) hx hb d_Mo_findRoot_174 hl (q := 2) rfl rfl (by decide) rfl (fun ls hl => ?_)
                refine lv_aload_n hx hb d_Mo_findRoot_177 rfl (lv_at hl 3 rfl) ?_
                refine x_sipush hx hb d_Mo_findRoot_178 (by decide) ?_
                refine x_lconst (z := 1) hx hb d_Mo_findRoot_181 (by decide) ?_
                refine x_callv B hA (va_runV (As := [.int (iI 156), .long (lI 1)]) (rest := []) ⟨hx, hb, hml, hown, hts⟩ (c_Mo_lay0 l D cs _ _ _ y m1 m2 m3 m5 m6 m7 m8 m9 m10 m11 m12 m13 m15 th pn ((n : Int)) fu fb lm171 mn171 sn171 (up Z3 to (Z3 to * 2 ^ 1)) 156 1 (hF.pick [0, 1, 2, 3] rfl rfl) (mw_get (X := [(y, .inr (7, [.int (iI th), .ref m1, .ref m2, .ref m3, .int (iI pn), .ref m5, .ref m6, .ref m7, .ref m8, .ref m9, .ref m10, .ref m11, .ref m12, .ref m13, .int (iI ((n : Int))), .ref m15, .long (lI fu), .long (lI fb)])), (m1, .inl (cs 0, 11520, .inl (ai lm171))), (m2, .inl (cs 0, 180, .inl (ai mn171))), (m3, .inl (cs 0, 180, .inl (ai sn171)))]) hF.1 (k := 0) rfl) (mw_get (X := [(y, .inr (7, [.int (iI th), .ref m1, .ref m2, .ref m3, .int (iI pn), .ref m5, .ref m6, .ref m7, .ref m8, .ref m9, .ref m10, .ref m11, .ref m12, .ref m13, .int (iI ((n : Int))), .ref m15, .long (lI fu), .long (lI fb)])), (m1, .inl (cs 0, 11520, .inl (ai lm171))), (m2, .inl (cs 0, 180, .inl (ai mn171))), (m3, .inl (cs 0, 180, .inl (ai sn171)))]) hF.1 (k := 1) rfl) (mw_get (X := [(y, .inr (7, [.int (iI th), .ref m1, .ref m2, .ref m3, .int (iI pn), .ref m5, .ref m6, .ref m7, .ref m8, .ref m9, .ref m10, .ref m11, .ref m12, .ref m13, .int (iI ((n : Int))), .ref m15, .long (lI fu), .long (lI fb)])), (m1, .inl (cs 0, 11520, .inl (ai lm171))), (m2, .inl (cs 0, 180, .inl (ai mn171))), (m3, .inl (cs 0, 180, .inl (ai sn171)))]) hF.1 (k := 2) rfl) (mw_get (X := [(y, .inr (7, [.int (iI th), .ref m1, .ref m2, .ref m3, .int (iI pn), .ref m5, .ref m6, .ref m7, .ref m8, .ref m9, .ref m10, .ref m11, .ref m12, .ref m13, .int (iI ((n : Int))), .ref m15, .long (lI fu), .long (lI fb)])), (m1, .inl (cs 0, 11520, .inl (ai lm171))), (m2, .inl (cs 0, 180, .inl (ai mn171))), (m3, .inl (cs 0, 180, .inl (ai sn171)))]) hF.1 (k := 3) rfl) hR8 (by decide) (by omega)) (cwV 2 hts (gw_V w_792 w_794 s_35 w_8 w_795) rfl rfl rfl (by decide +kernel) ⟨by rw [hRf]; exact Nat.le_of_ble_eq_true rfl, by rw [hRl]; exact Nat.le_of_ble_eq_true rfl⟩) ⟨K0.blind, B.recv (hF.2 _ (mw_key (k := 0) (X := [(y, .inr (7, [.int (iI th), .ref m1, .ref m2, .ref m3, .int (iI pn), .ref m5, .ref m6, .ref m7, .ref m8, .ref m9, .ref m10, .ref m11, .ref m12, .ref m13, .int (iI ((n : Int))), .ref m15, .long (lI fu), .long (lI fb)])), (m1, .inl (cs 0, 11520, .inl (ai lm171))), (m2, .inl (cs 0, 180, .inl (ai mn171))), (m3, .inl (cs 0, 180, .inl (ai sn171)))]) rfl)) (mw_get (X := [(y, .inr (7, [.int (iI th), .ref m1, .ref m2, .ref m3, .int (iI pn), .ref m5, .ref m6, .ref m7, .ref m8, .ref m9, .ref m10, .ref m11, .ref m12, .ref m13, .int (iI ((n : Int))), .ref m15, .long (lI fu), .long (lI fb)])), (m1, .inl (cs 0, 11520, .inl (ai lm171))), (m2, .inl (cs 0, 180, .inl (ai mn171))), (m3, .inl (cs 0, 180, .inl (ai sn171)))]) hF.1 (k := 0) rfl) rfl, B.pre _⟩ rfl rfl hl.1 rfl (lv_room (Nat.le_of_ble_eq_true rfl)) d_Mo_findRoot_182 ⟨by rw [hRc]; omega, by rw [hRs]; omega⟩) (fun g182 H locs hw B => ?_)
                obtain ⟨lm182, mn182, sn182, hR8b, rfl⟩ := hw
                have B := B.of_eq (mw_put3 (X := [(y, .inr (7, [.int (iI th), .ref m1, .ref m2, .ref m3, .int (iI pn), .ref m5, .ref m6, .ref m7, .ref m8, .ref m9, .ref m10, .ref m11, .ref m12, .ref m13, .int (iI ((n : Int))), .ref m15, .long (lI fu), .long (lI fb)])), (m1, .inl (cs 0, 11520, .inl (ai lm171))), (m2, .inl (cs 0, 180, .inl (ai mn171))), (m3, .inl (cs 0, 180, .inl (ai sn171)))]) hF.1 (k1 := 1) (k2 := 2) (k3 := 3) rfl rfl rfl)
                have B : Wb D vwCl (TY cs) L (mw f [(y, .inr (7, [.int (iI th), .ref m1, .ref m2, .ref m3, .int (iI pn), .ref m5, .ref m6, .ref m7, .ref m8, .ref m9, .ref m10, .ref m11, .ref m12, .ref m13, .int (iI ((n : Int))), .ref m15, .long (lI fu), .long (lI fb)])), (m1, .inl (cs 0, 11520, .inl (ai lm182))), (m2, .inl (cs 0, 180, .inl (ai mn182))), (m3, .inl (cs 0, 180, .inl (ai sn182)))]) (AL L s.heap.size) s H _ := B
                refine lv_aload_n hx hb d_Mo_findRoot_185 rfl (lv_at hl 3 rfl) ?_
                refine x_sipush hx hb d_Mo_findRoot_186 (by decide) ?_
                refine lv_iload_n hx hb d_Mo_findRoot_189 rfl (lv_at hl 4 rfl) ?_
                refine x_sipush hx hb d_Mo_findRoot_190 (by decide) ?_
                refine x_iconst hx hb d_Mo_findRoot_193 ?_
                have z8t : up (up Z3 to (Z3 to * 2 ^ 1)) 156 1 to = (Z3 to * 2 ^ 1) := by rw [up_ne _ _ (by omega), up_self]
                refine x_callv B hA (va_runV (As := [.int (iI 156), .int (iI ((to : Int))), .int (iI 156), .int (iI 1)]) (rest := []) ⟨hx, hb, hml, hown, hts⟩ (c_Mo_add l D cs _ _ _ y m1 m2 m3 m5 m6 m7 m8 m9 m10 m11 m12 m13 m15 th pn ((n : Int)) fu fb lm182 mn182 sn182 (up (up Z3 to (Z3 to * 2 ^ 1)) 156 1) 156 to 156 1 (hF.pick [0, 1, 2, 3] rfl rfl) (mw_get (X := [(y, .inr (7, [.int (iI th), .ref m1, .ref m2, .ref m3, .int (iI pn), .ref m5, .ref m6, .ref m7, .ref m8, .ref m9, .ref m10, .ref m11, .ref m12, .ref m13, .int (iI ((n : Int))), .ref m15, .long (lI fu), .long (lI fb)])), (m1, .inl (cs 0, 11520, .inl (ai lm182))), (m2, .inl (cs 0, 180, .inl (ai mn182))), (m3, .inl (cs 0, 180, .inl (ai sn182)))]) hF.1 (k := 0) rfl) (mw_get (X := [(y, .inr (7, [.int (iI th), .ref m1, .ref m2, .ref m3, .int (iI pn), .ref m5, .ref m6, .ref m7, .ref m8, .ref m9, .ref m10, .ref m11, .ref m12, .ref m13, .int (iI ((n : Int))), .ref m15, .long (lI fu), .long (lI fb)])), (m1, .inl (cs 0, 11520, .inl (ai lm182))), (m2, .inl (cs 0, 180, .inl (ai mn182))), (m3, .inl (cs 0, 180, .inl (ai sn182)))]) hF.1 (k := 1) rfl) (mw_get (X := [(y, .inr (7, [.int (iI th), .ref m1, .ref m2, .ref m3, .int (iI pn), .ref m5, .ref m6, .ref m7, .ref m8, .ref m9, .ref m10, .ref m11, .ref m12, .ref m13, .int (iI ((n : Int))), .ref m15, .long (lI fu), .long (lI fb)])), (m1, .inl (cs 0, 11520, .inl (ai lm182))), (m2, .inl (cs 0, 180, .inl (ai mn182))), (m3, .inl (cs 0, 180, .inl (ai sn182)))]) hF.1 (k := 2) rfl) (mw_get (X := [(y, .inr (7, [.int (iI th), .ref m1, .ref m2, .ref m3, .int (iI pn), .ref m5, .ref m6, .ref m7, .ref m8, .ref m9, .ref m10, .ref m11, .ref m12, .ref m13, .int (iI ((n : Int))), .ref m15, .long (lI fu), .long (lI fb)])), (m1, .inl (cs 0, 11520, .inl (ai lm182))), (m2, .inl (cs 0, 180, .inl (ai mn182))), (m3, .inl (cs 0, 180, .inl (ai sn182)))]) hF.1 (k := 3) rfl) hR8b (by decide) (by omega) (by decide) (Or.inl rfl) (by rw [z8t]; exact sm_Mp hb4) (by rw [up_self]; decide +kernel)) (cwV 4 hts (gw_V w_820 w_822 s_41 w_8 w_823) rfl rfl rfl (by decide +kernel) ⟨by rw [hRf]; exact Nat.le_of_ble_eq_true rfl, by rw [hRl]; exact Nat.le_of_ble_eq_true rfl⟩) ⟨K0.blind, B.recv (hF.2 _ (mw_key (k := 0) (X := [(y, .inr (7, [.int (iI th), .ref m1, .ref m2, .ref m3, .int (iI pn), .ref m5, .ref m6, .ref m7, .ref m8, .ref m9, .ref m10, .ref m11, .ref m12, .ref m13, .int (iI ((n : Int))), .ref m15, .long (lI fu), .long (lI fb)])), (m1, .inl (cs 0, 11520, .inl (ai lm182))), (m2, .inl (cs 0, 180, .inl (ai mn182))), (m3, .inl (cs 0, 180, .inl (ai sn182)))]) rfl)) (mw_get (X := [(y, .inr (7, [.int (iI th), .ref m1, .ref m2, .ref m3, .int (iI pn), .ref m5, .ref m6, .ref m7, .ref m8, .ref m9, .ref m10, .ref m11, .ref m12, .ref m13, .int (iI ((n : Int))), .ref m15, .long (lI fu), .long (lI fb)])), (m1, .inl (cs 0, 11520, .inl (ai lm182))), (m2, .inl (cs 0, 180, .inl (ai mn182))), (m3, .inl (cs 0, 180, .inl (ai sn182)))]) hF.1 (k := 0) rfl) rfl, B.pre _⟩ rfl rfl hl.1 rfl (lv_room (Nat.le_of_ble_eq_true rfl)) d_Mo_findRoot_194 ⟨by rw [hRc]; omega, by rw [hRs]; omega⟩) (fun g194 H locs hw B => ?_)
                obtain ⟨lm194, mn194, sn194, hR9, rfl⟩ := hw
                have B := B.of_eq (mw_put3 (X := [(y, .inr (7, [.int (iI th), .ref m1, .ref m2, .ref m3, .int (iI pn), .ref m5, .ref m6, .ref m7, .ref m8, .ref m9, .ref m10, .ref m11, .ref m12, .ref m13, .int (iI ((n : Int))), .ref m15, .long (lI fu), .long (lI fb)])), (m1, .inl (cs 0, 11520, .inl (ai lm182))), (m2, .inl (cs 0, 180, .inl (ai mn182))), (m3, .inl (cs 0, 180, .inl (ai sn182)))]) hF.1 (k1 := 1) (k2 := 2) (k3 := 3) rfl rfl rfl)
                have B : Wb D vwCl (TY cs) L (mw f [(y, .inr (7, [.int (iI th), .ref m1, .ref m2, .ref m3, .int (iI pn), .ref m5, .ref m6, .ref m7, .ref m8, .ref m9, .ref m10, .ref m11, .ref m12, .ref m13, .int (iI ((n : Int))), .ref m15, .long (lI fu), .long (lI fb)])), (m1, .inl (cs 0, 11520, .inl (ai lm194))), (m2, .inl (cs 0, 180, .inl (ai mn194))), (m3, .inl (cs 0, 180, .inl (ai sn194)))]) (AL L s.heap.size) s H _ := B
                rw [z8t, up_self, up_up] at hR9
                obtain ⟨Z9, hZ9⟩ : ∃ Z9, Z9 = up (up Z3 to (Z3 to * 2 ^ 1)) 156 (Z3 to * 2 ^ 1 + 1 * 1) := ⟨_, rfl⟩
                rw [← hZ9] at hR9
                have h9v : Z9 156 = Z3 to * 2 ^ 1 + 1 * 1 := by rw [hZ9, up_self]
                have h9t : Z9 to = (Z3 to * 2 ^ 1) := by rw [hZ9, up_ne _ _ (by omega), up_self]
                have h9o : ∀ w, w ≠ to → (w < 150 ∨ 156 < w) → w ≠ 178 → Z9 w = Z w := fun w h1 h2 h3 => by rw [hZ9, up_ne _ _ (by omega), up_ne _ _ h1]; exact ho3 w h1 h2 h3
                have h9r : ∀ k, k < n → ∀ j, j < 6 → Z9 (60 + 6 * k + j) = Z (60 + 6 * k + j) := fun k hk j hj => h9o _ (by omega) (by omega) (by omega)
                refine lv_iload hx hb d_Mo_findRoot_197 (lv_at hl 2 rfl) ?_
                refine x_if_eq (tgt := 256) hx hb d_Mo_findRoot_199 (by decide) (by omega) (fun h199 => ?_) (fun h199 => ?_)
                · refine lv_aload_n hx hb d_Mo_findRoot_256 rfl (lv_at hl 3 rfl) ?_
                  refine lv_iload_n hx hb d_Mo_findRoot_257 rfl (lv_at hl 6 rfl) ?_
                  refine x_sipush hx hb d_Mo_findRoot_258 (by decide) ?_
                  refine lv_iload hx hb d_Mo_findRoot_261 (lv_at hl 0 rfl) ?_
                  rw [show ((b : Int)) + 1 = ((b + 1 : Nat) : Int) by omega]
                  refine x_calli B hA (va_runV (As := [.int (iI far), .int (iI 156), .int (iI (((b + 1 : Nat) : Int)))]) (rest := []) ⟨hx, hb, hml, hown, hts⟩ (c_Mo_below l D cs _ _ _ y m1 m2 m3 m5 m6 m7 m8 m9 m10 m11 m12 m13 m15 th pn fu fb lm194 mn194 sn194 Z9 n 156 (b + 1) far (hF.pick [0, 1, 2, 3] rfl rfl) (mw_get (X := [(y, .inr (7, [.int (iI th), .ref m1, .ref m2, .ref m3, .int (iI pn), .ref m5, .ref m6, .ref m7, .ref m8, .ref m9, .ref m10, .ref m11, .ref m12, .ref m13, .int (iI ((n : Int))), .ref m15, .long (lI fu), .long (lI fb)])), (m1, .inl (cs 0, 11520, .inl (ai lm194))), (m2, .inl (cs 0, 180, .inl (ai mn194))), (m3, .inl (cs 0, 180, .inl (ai sn194)))]) hF.1 (k := 0) rfl) (mw_get (X := [(y, .inr (7, [.int (iI th), .ref m1, .ref m2, .ref m3, .int (iI pn), .ref m5, .ref m6, .ref m7, .ref m8, .ref m9, .ref m10, .ref m11, .ref m12, .ref m13, .int (iI ((n : Int))), .ref m15, .long (lI fu), .long (lI fb)])), (m1, .inl (cs 0, 11520, .inl (ai lm194))), (m2, .inl (cs 0, 180, .inl (ai mn194))), (m3, .inl (cs 0, 180, .inl (ai sn194)))]) hF.1 (k := 1) rfl) (mw_get (X := [(y, .inr (7, [.int (iI th), .ref m1, .ref m2, .ref m3, .int (iI pn), .ref m5, .ref m6, .ref m7, .ref m8, .ref m9, .ref m10, .ref m11, .ref m12, .ref m13, .int (iI ((n : Int))), .ref m15, .long (lI fu), .long (lI fb)])), (m1, .inl (cs 0, 11520, .inl (ai lm194))), (m2, .inl (cs 0, 180, .inl (ai mn194))), (m3, .inl (cs 0, 180, .inl (ai sn194)))]) hF.1 (k := 2) rfl) (mw_get (X := [(y, .inr (7, [.int (iI th), .ref m1, .ref m2, .ref m3, .int (iI pn), .ref m5, .ref m6, .ref m7, .ref m8, .ref m9, .ref m10, .ref m11, .ref m12, .ref m13, .int (iI ((n : Int))), .ref m15, .long (lI fu), .long (lI fb)])), (m1, .inl (cs 0, 11520, .inl (ai lm194))), (m2, .inl (cs 0, 180, .inl (ai mn194))), (m3, .inl (cs 0, 180, .inl (ai sn194)))]) hF.1 (k := 3) rfl) hR9 ⟨hn1, hn7⟩ (by decide) (hBt.congr h9r) (by omega) (by rw [h9v]; exact hb2)) (cwV 3 hts (gw_V w_903 w_905 s_58 w_8 w_906) rfl rfl rfl (by decide +kernel) ⟨by rw [hRf]; exact Nat.le_of_ble_eq_true rfl, by rw [hRl]; exact Nat.le_of_ble_eq_true rfl⟩) ⟨K0.blind, B.recv (hF.2 _ (mw_key (k := 0) (X := [(y, .inr (7, [.int (iI th), .ref m1, .ref m2, .ref m3, .int (iI pn), .ref m5, .ref m6, .ref m7, .ref m8, .ref m9, .ref m10, .ref m11, .ref m12, .ref m13, .int (iI ((n : Int))), .ref m15, .long (lI fu), .long (lI fb)])), (m1, .inl (cs 0, 11520, .inl (ai lm194))), (m2, .inl (cs 0, 180, .inl (ai mn194))), (m3, .inl (cs 0, 180, .inl (ai sn194)))]) rfl)) (mw_get (X := [(y, .inr (7, [.int (iI th), .ref m1, .ref m2, .ref m3, .int (iI pn), .ref m5, .ref m6, .ref m7, .ref m8, .ref m9, .ref m10, .ref m11, .ref m12, .ref m13, .int (iI ((n : Int))), .ref m15, .long (lI fu), .long (lI fb)])), (m1, .inl (cs 0, 11520, .inl (ai lm194))), (m2, .inl (cs 0, 180, .inl (ai mn194))), (m3, .inl (cs 0, 180, .inl (ai sn194)))]) hF.1 (k := 0) rfl) rfl, B.pre _⟩ rfl rfl hl.1 rfl (lv_room (Nat.le_of_ble_eq_true rfl)) d_Mo_findRoot_263 ⟨by rw [hRc]; omega, by rw [hRs]; omega⟩) (fun r263 g263 H locs hw B => ?_)
                  obtain ⟨lm263, mn263, sn263, Z10, rfl, hR10, h10o, rfl⟩ := hw
                  have B := B.of_eq (mw_put3 (X := [(y, .inr (7, [.int (iI th), .ref m1, .ref m2, .ref m3, .int (iI pn), .ref m5, .ref m6, .ref m7, .ref m8, .ref m9, .ref m10, .ref m11, .ref m12, .ref m13, .int (iI ((n : Int))), .ref m15, .long (lI fu), .long (lI fb)])), (m1, .inl (cs 0, 11520, .inl (ai lm194))), (m2, .inl (cs 0, 180, .inl (ai mn194))), (m3, .inl (cs 0, 180, .inl (ai sn194)))]) hF.1 (k1 := 1) (k2 := 2) (k3 := 3) rfl rfl rfl)
                  have B : Wb D vwCl (TY cs) L (mw f [(y, .inr (7, [.int (iI th), .ref m1, .ref m2, .ref m3, .int (iI pn), .ref m5, .ref m6, .ref m7, .ref m8, .ref m9, .ref m10, .ref m11, .ref m12, .ref m13, .int (iI ((n : Int))), .ref m15, .long (lI fu), .long (lI fb)])), (m1, .inl (cs 0, 11520, .inl (ai lm263))), (m2, .inl (cs 0, 180, .inl (ai mn263))), (m3, .inl (cs 0, 180, .inl (ai sn263)))]) (AL L s.heap.size) s H _ := B
                  have hb263 : far - tn0 (Sat Z9 ((Z9 156 : Rat) / ((2 ^ (b + 1) : Int) : Rat))) n = Nb (Pt (Z3 to * 2 ^ 1 + 1 * 1) (b + 1)) := by rw [h9v]; exact (congrArg (far - ·) (tn0_congr hn1 (fun k hk => Sat_congr (h9r k hk)))).trans (hNb _)
                  rw [hb263]
                  have hr263 := hNr (Pt (Z3 to * 2 ^ 1 + 1 * 1) (b + 1))
                  have h10t : Z10 to = (Z3 to * 2 ^ 1) := by rw [h10o to (by omega) (by omega)]; exact h9t
                  have h10v : Z10 156 = Z3 to * 2 ^ 1 + 1 * 1 := by rw [h10o 156 (by omega) (by omega)]; exact h9v
                  have h10o' : ∀ w, w ≠ to → (w < 150 ∨ 156 < w) → w ≠ 178 → Z10 w = Z w := fun w h1 h2 h3 => by rw [h10o w (by omega) h3]; exact h9o w h1 h2 h3
                  refine lv_iload_n hx hb d_Mo_findRoot_266 rfl (lv_at hl 5 rfl) ?_
                  refine x_icmp_gt (tgt := 80) hx hb d_Mo_findRoot_267 (by decide) (by omega) (by omega) (fun h267 => ?_) (fun h267 => ?_)
                  · rw [show (b : Int) + 1 = ((b + 1 : Nat) : Int) by omega] at hl
                    exact ih_L2 (b + 1) al3 lf3 lm263 mn263 sn263 Z10 (by omega) (by omega) hR10 (by rw [h10t, h199]; exact hFI3.low hFI3.2.2.2.1 (by omega)) hal3 h10o' _ _ _ B (lv_sub hl [1, 2, 0, 3, 4, 5, 6] rfl)
                  · refine lv_aload_n hx hb d_Mo_findRoot_270 rfl (lv_at hl 3 rfl) ?_
                    refine lv_iload_n hx hb d_Mo_findRoot_271 rfl (lv_at hl 4 rfl) ?_
                    refine x_sipush hx hb d_Mo_findRoot_272 (by decide) ?_
                    refine x_callv B hA (va_runV (As := [.int (iI ((to : Int))), .int (iI 156)]) (rest := []) ⟨hx, hb, hml, hown, hts⟩ (c_Mo_copy l D cs _ _ _ y m1 m2 m3 m5 m6 m7 m8 m9 m10 m11 m12 m13 m15 th pn ((n : Int)) fu fb lm263 mn263 sn263 Z10 to 156 (hF.pick [0, 1, 2, 3] rfl rfl) (mw_get (X := [(y, .inr (7, [.int (iI th), .ref m1, .ref m2, .ref m3, .int (iI pn), .ref m5, .ref m6, .ref m7, .ref m8, .ref m9, .ref m10, .ref m11, .ref m12, .ref m13, .int (iI ((n : Int))), .ref m15, .long (lI fu), .long (lI fb)])), (m1, .inl (cs 0, 11520, .inl (ai lm263))), (m2, .inl (cs 0, 180, .inl (ai mn263))), (m3, .inl (cs 0, 180, .inl (ai sn263)))]) hF.1 (k := 0) rfl) (mw_get (X := [(y, .inr (7, [.int (iI th), .ref m1, .ref m2, .ref m3, .int (iI pn), .ref m5, .ref m6, .ref m7, .ref m8, .ref m9, .ref m10, .ref m11, .ref m12, .ref m13, .int (iI ((n : Int))), .ref m15, .long (lI fu), .long (lI fb)])), (m1, .inl (cs 0, 11520, .inl (ai lm263))), (m2, .inl (cs 0, 180, .inl (ai mn263))), (m3, .inl (cs 0, 180, .inl (ai sn263)))]) hF.1 (k := 1) rfl) (mw_get (X := [(y, .inr (7, [.int (iI th), .ref m1, .ref m2, .ref m3, .int (iI pn), .ref m5, .ref m6, .ref m7, .ref m8, .ref m9, .ref m10, .ref m11, .ref m12, .ref m13, .int (iI ((n : Int))), .ref m15, .long (lI fu), .long (lI fb)])), (m1, .inl (cs 0, 11520, .inl (ai lm263))), (m2, .inl (cs 0, 180, .inl (ai mn263))), (m3, .inl (cs 0, 180, .inl (ai sn263)))]) hF.1 (k := 2) rfl) (mw_get (X := [(y, .inr (7, [.int (iI th), .ref m1, .ref m2, .ref m3, .int (iI pn), .ref m5, .ref m6, .ref m7, .ref m8, .ref m9, .ref m10, .ref m11, .ref m12, .ref m13, .int (iI ((n : Int))), .ref m15, .long (lI fu), .long (lI fb)])), (m1, .inl (cs 0, 11520, .inl (ai lm263))), (m2, .inl (cs 0, 180, .inl (ai mn263))), (m3, .inl (cs 0, 180, .inl (ai sn263)))]) hF.1 (k := 3) rfl) hR10 (by omega) (by decide)) (cwV 2 hts (gw_V w_804 w_806 s_38 w_8 w_807) rfl rfl rfl (by decide +kernel) ⟨by rw [hRf]; exact Nat.le_of_ble_eq_true rfl, by rw [hRl]; exact Nat.le_of_ble_eq_true rfl⟩) ⟨K0.blind, B.recv (hF.2 _ (mw_key (k := 0) (X := [(y, .inr (7, [.int (iI th), .ref m1, .ref m2, .ref m3, .int (iI pn), .ref m5, .ref m6, .ref m7, .ref m8, .ref m9, .ref m10, .ref m11, .ref m12, .ref m13, .int (iI ((n : Int))), .ref m15, .long (lI fu), .long (lI fb)])), (m1, .inl (cs 0, 11520, .inl (ai lm263))), (m2, .inl (cs 0, 180, .inl (ai mn263))), (m3, .inl (cs 0, 180, .inl (ai sn263)))]) rfl)) (mw_get (X := [(y, .inr (7, [.int (iI th), .ref m1, .ref m2, .ref m3, .int (iI pn), .ref m5, .ref m6, .ref m7, .ref m8, .ref m9, .ref m10, .ref m11, .ref m12, .ref m13, .int (iI ((n : Int))), .ref m15, .long (lI fu), .long (lI fb)])), (m1, .inl (cs 0, 11520, .inl (ai lm263))), (m2, .inl (cs 0, 180, .inl (ai mn263))), (m3, .inl (cs 0, 180, .inl (ai sn263)))]) hF.1 (k := 0) rfl) rfl, B.pre _⟩ rfl rfl hl.1 rfl (lv_room (Nat.le_of_ble_eq_true rfl)) d_Mo_findRoot_275 ⟨by rw [hRc]; omega, by rw [hRs]; omega⟩) (fun g275 H locs hw B => ?_)
                    obtain ⟨lm275, mn275, sn275, hR11, rfl⟩ := hw
                    have B := B.of_eq (mw_put3 (X := [(y, .inr (7, [.int (iI th), .ref m1, .ref m2, .ref m3, .int (iI pn), .ref m5, .ref m6, .ref m7, .ref m8, .ref m9, .ref m10, .ref m11, .ref m12, .ref m13, .int (iI ((n : Int))), .ref m15, .long (lI fu), .long (lI fb)])), (m1, .inl (cs 0, 11520, .inl (ai lm263))), (m2, .inl (cs 0, 180, .inl (ai mn263))), (m3, .inl (cs 0, 180, .inl (ai sn263)))]) hF.1 (k1 := 1) (k2 := 2) (k3 := 3) rfl rfl rfl)
                    have B : Wb D vwCl (TY cs) L (mw f [(y, .inr (7, [.int (iI th), .ref m1, .ref m2, .ref m3, .int (iI pn), .ref m5, .ref m6, .ref m7, .ref m8, .ref m9, .ref m10, .ref m11, .ref m12, .ref m13, .int (iI ((n : Int))), .ref m15, .long (lI fu), .long (lI fb)])), (m1, .inl (cs 0, 11520, .inl (ai lm275))), (m2, .inl (cs 0, 180, .inl (ai mn275))), (m3, .inl (cs 0, 180, .inl (ai sn275)))]) (AL L s.heap.size) s H _ := B
                    rw [h10v] at hR11
                    obtain ⟨Z11, hZ11⟩ : ∃ Z11, Z11 = up Z10 to (Z3 to * 2 ^ 1 + 1 * 1) := ⟨_, rfl⟩
                    rw [← hZ11] at hR11
                    have h11t : Z11 to = Z3 to * 2 ^ 1 + 1 * 1 := by rw [hZ11, up_self]
                    have h11o : ∀ w, w ≠ to → (w < 150 ∨ 156 < w) → w ≠ 178 → Z11 w = Z w := fun w h1 h2 h3 => by rw [hZ11, up_ne _ _ h1]; exact h10o' w h1 h2 h3
                    refine lv_goto (tgt := 80) hx hb d_Mo_findRoot_278 (by decide) ?_
                    rw [show (b : Int) + 1 = ((b + 1 : Nat) : Int) by omega] at hl
                    exact ih_L2 (b + 1) al3 lf3 lm275 mn275 sn275 Z11 (by omega) (by omega) hR11 (by rw [h11t, h199]; exact hFI3.high hFI3.2.2.2.1 (by omega)) hal3 h11o _ _ _ B (lv_sub hl [1, 2, 0, 3, 4, 5, 6] rfl)
                · refine lv_iload hx hb d_Mo_findRoot_202 (lv_at hl 1 rfl) ?_
                  refine x_if_eq (tgt := 80) hx hb d_Mo_findRoot_204 (by decide) (by omega) (fun h204 => ?_) (fun h204 => ?_)
                  · rw [show (b : Int) + 1 = ((b + 1 : Nat) : Int) by omega] at hl
                    exact ih_L2 (b + 1) al3 lf3 lm194 mn194 sn194 Z9 (by omega) (by omega) hR9 (by rw [h9t]; exact FI.still hNo2 hFI3 h199 h204) hal3 h9o _ _ _ B (lv_sub hl [1, 2, 0, 3, 4, 5, 6] rfl)
                  · refine lv_aload_n hx hb d_Mo_findRoot_207 rfl (lv_at hl 3 rfl) ?_
                    refine x_bipush hx hb d_Mo_findRoot_208 (by decide) ?_
                    refine x_sipush hx hb d_Mo_findRoot_210 (by decide) ?_
                    refine lv_iload hx hb d_Mo_findRoot_213 (lv_at hl 0 rfl) ?_
                    rw [show ((b : Int)) + 1 = ((b + 1 : Nat) : Int) by omega]
                    refine x_calli B hA (va_runV (As := [.int (iI 60), .int (iI 156), .int (iI (((b + 1 : Nat) : Int)))]) (rest := []) ⟨hx, hb, hml, hown, hts⟩ (c_Mo_signDyadic l D cs _ _ _ y m1 m2 m3 m5 m6 m7 m8 m9 m10 m11 m12 m13 m15 th pn ((n : Int)) fu fb lm194 mn194 sn194 Z9 60 156 (b + 1) nn a0 269 (hF.pick [0, 1, 2, 3] rfl rfl) (mw_get (X := [(y, .inr (7, [.int (iI th), .ref m1, .ref m2, .ref m3, .int (iI pn), .ref m5, .ref m6, .ref m7, .ref m8, .ref m9, .ref m10, .ref m11, .ref m12, .ref m13, .int (iI ((n : Int))), .ref m15, .long (lI fu), .long (lI fb)])), (m1, .inl (cs 0, 11520, .inl (ai lm194))), (m2, .inl (cs 0, 180, .inl (ai mn194))), (m3, .inl (cs 0, 180, .inl (ai sn194)))]) hF.1 (k := 0) rfl) (mw_get (X := [(y, .inr (7, [.int (iI th), .ref m1, .ref m2, .ref m3, .int (iI pn), .ref m5, .ref m6, .ref m7, .ref m8, .ref m9, .ref m10, .ref m11, .ref m12, .ref m13, .int (iI ((n : Int))), .ref m15, .long (lI fu), .long (lI fb)])), (m1, .inl (cs 0, 11520, .inl (ai lm194))), (m2, .inl (cs 0, 180, .inl (ai mn194))), (m3, .inl (cs 0, 180, .inl (ai sn194)))]) hF.1 (k := 1) rfl) (mw_get (X := [(y, .inr (7, [.int (iI th), .ref m1, .ref m2, .ref m3, .int (iI pn), .ref m5, .ref m6, .ref m7, .ref m8, .ref m9, .ref m10, .ref m11, .ref m12, .ref m13, .int (iI ((n : Int))), .ref m15, .long (lI fu), .long (lI fb)])), (m1, .inl (cs 0, 11520, .inl (ai lm194))), (m2, .inl (cs 0, 180, .inl (ai mn194))), (m3, .inl (cs 0, 180, .inl (ai sn194)))]) hF.1 (k := 2) rfl) (mw_get (X := [(y, .inr (7, [.int (iI th), .ref m1, .ref m2, .ref m3, .int (iI pn), .ref m5, .ref m6, .ref m7, .ref m8, .ref m9, .ref m10, .ref m11, .ref m12, .ref m13, .int (iI ((n : Int))), .ref m15, .long (lI fu), .long (lI fb)])), (m1, .inl (cs 0, 11520, .inl (ai lm194))), (m2, .inl (cs 0, 180, .inl (ai mn194))), (m3, .inl (cs 0, 180, .inl (ai sn194)))]) hF.1 (k := 3) rfl) hR9 (by omega) (by decide) ⟨by decide, by decide, by decide⟩ hnn (fun j h1 h2 => by rw [(fun j hj => h9o _ (by omega) (by omega) (by omega)) j h2]; exact hpe j h1 h2) (by rw [(fun j hj => h9o _ (by omega) (by omega) (by omega)) nn hnn]; exact hpn) (by omega) (fun j hj => by rw [(fun j hj => h9o _ (by omega) (by omega) (by omega)) j hj]; exact hca j hj) (by rw [h9v]; exact hb2) (by have h9 : (2 : Int) ^ (b + 1) < 2 ^ 269 := pow2_lt (by omega); have h8 := pw2 ((b + 1)); omega) hroom) (cwV 3 hts (gw_V w_915 w_917 s_61 w_8 w_918) rfl rfl rfl (by decide +kernel) ⟨by rw [hRf]; exact Nat.le_of_ble_eq_true rfl, by rw [hRl]; exact Nat.le_of_ble_eq_true rfl⟩) ⟨K0.blind, B.recv (hF.2 _ (mw_key (k := 0) (X := [(y, .inr (7, [.int (iI th), .ref m1, .ref m2, .ref m3, .int (iI pn), .ref m5, .ref m6, .ref m7, .ref m8, .ref m9, .ref m10, .ref m11, .ref m12, .ref m13, .int (iI ((n : Int))), .ref m15, .long (lI fu), .long (lI fb)])), (m1, .inl (cs 0, 11520, .inl (ai lm194))), (m2, .inl (cs 0, 180, .inl (ai mn194))), (m3, .inl (cs 0, 180, .inl (ai sn194)))]) rfl)) (mw_get (X := [(y, .inr (7, [.int (iI th), .ref m1, .ref m2, .ref m3, .int (iI pn), .ref m5, .ref m6, .ref m7, .ref m8, .ref m9, .ref m10, .ref m11, .ref m12, .ref m13, .int (iI ((n : Int))), .ref m15, .long (lI fu), .long (lI fb)])), (m1, .inl (cs 0, 11520, .inl (ai lm194))), (m2, .inl (cs 0, 180, .inl (ai mn194))), (m3, .inl (cs 0, 180, .inl (ai sn194)))]) hF.1 (k := 0) rfl) rfl, B.pre _⟩ rfl rfl hl.1 rfl (lv_room (Nat.le_of_ble_eq_true rfl)) d_Mo_findRoot_215 ⟨by rw [hRc]; omega, by rw [hRs]; omega⟩) (fun r215 g215 H locs hw B => ?_)
                    obtain ⟨lm215, mn215, sn215, Z10, rfl, hR10, _, h10o, rfl⟩ := hw
                    have B := B.of_eq (mw_put3 (X := [(y, .inr (7, [.int (iI th), .ref m1, .ref m2, .ref m3, .int (iI pn), .ref m5, .ref m6, .ref m7, .ref m8, .ref m9, .ref m10, .ref m11, .ref m12, .ref m13, .int (iI ((n : Int))), .ref m15, .long (lI fu), .long (lI fb)])), (m1, .inl (cs 0, 11520, .inl (ai lm194))), (m2, .inl (cs 0, 180, .inl (ai mn194))), (m3, .inl (cs 0, 180, .inl (ai sn194)))]) hF.1 (k1 := 1) (k2 := 2) (k3 := 3) rfl rfl rfl)
                    have B : Wb D vwCl (TY cs) L (mw f [(y, .inr (7, [.int (iI th), .ref m1, .ref m2, .ref m3, .int (iI pn), .ref m5, .ref m6, .ref m7, .ref m8, .ref m9, .ref m10, .ref m11, .ref m12, .ref m13, .int (iI ((n : Int))), .ref m15, .long (lI fu), .long (lI fb)])), (m1, .inl (cs 0, 11520, .inl (ai lm215))), (m2, .inl (cs 0, 180, .inl (ai mn215))), (m3, .inl (cs 0, 180, .inl (ai sn215)))]) (AL L s.heap.size) s H _ := B
                    have hs215 : (hsum (fun j => Z9 (60 + j)) nn (Z9 156) (2 ^ (b + 1)) nn).sign = sg (F (Pt (Z3 to * 2 ^ 1 + 1 * 1) (b + 1))) := by
                      have h8 := sgn_at (c := fun j => Z9 (60 + j)) (k := nn + 1) (u := Z9 156) (v := 2 ^ (b + 1)) (pw2 _) (by omega) (fun j h1 h2 => ((fun j hj => h9o _ (by omega) (by omega) (by omega)) j h2).trans (hpe j (by omega) h2))
                      rw [if_neg (by omega), Nat.add_sub_cancel] at h8
                      rw [h8, h9v, hFd]
                      exact congrArg sg (es_congr (fun j hj => h9o _ (by omega) (by omega) (by omega)) _)
                    rw [hs215]
                    have hm215 := sg_mem (F (Pt (Z3 to * 2 ^ 1 + 1 * 1) (b + 1)))
                    have h10t : Z10 to = (Z3 to * 2 ^ 1) := by rw [h10o to (by omega) (by omega) (by omega)]; exact h9t
                    have h10v : Z10 156 = Z3 to * 2 ^ 1 + 1 * 1 := by rw [h10o 156 (by omega) (by omega) (by omega)]; exact h9v
                    have h10o' : ∀ w, w ≠ to → (w < 150 ∨ 156 < w) → w ≠ 178 → Z10 w = Z w := fun w h1 h2 h3 => by rw [h10o w (by omega) (by omega) h3]; exact h9o w h1 h2 h3
                    refine lv_istore (lv' := [(7, .int (iI (sg (F (Pt (Z3 to * 2 ^ 1 + 1 * 1) (b + 1)))))), (4, .int (iI (((b : Int)) + 1))), (6, .int (iI lf3)), (5, .int (iI al3)), (0, .ref y), (1, .int (iI ((to : Int)))), (2, .int (iI ((i0 : Int)))), (3, .int (iI far))]) hx hb d_Mo_findRoot_218 hl (by decide) rfl (fun ls hl => ?_)
                    refine lv_iload hx hb d_Mo_findRoot_220 (lv_at hl 0 rfl) ?_
                    refine x_if_eq (tgt := 232) hx hb d_Mo_findRoot_222 (by decide) (by omega) (fun h222 => ?_) (fun h222 => ?_)
                    · refine lv_aload_n hx hb d_Mo_findRoot_232 rfl (lv_at hl 4 rfl) ?_
                      refine lv_iload_n hx hb d_Mo_findRoot_233 rfl (lv_at hl 5 rfl) ?_
                      refine x_sipush hx hb d_Mo_findRoot_234 (by decide) ?_
                      refine x_callv B hA (va_runV (As := [.int (iI ((to : Int))), .int (iI 156)]) (rest := []) ⟨hx, hb, hml, hown, hts⟩ (c_Mo_copy l D cs _ _ _ y m1 m2 m3 m5 m6 m7 m8 m9 m10 m11 m12 m13 m15 th pn ((n : Int)) fu fb lm215 mn215 sn215 Z10 to 156 (hF.pick [0, 1, 2, 3] rfl rfl) (mw_get (X := [(y, .inr (7, [.int (iI th), .ref m1, .ref m2, .ref m3, .int (iI pn), .ref m5, .ref m6, .ref m7, .ref m8, .ref m9, .ref m10, .ref m11, .ref m12, .ref m13, .int (iI ((n : Int))), .ref m15, .long (lI fu), .long (lI fb)])), (m1, .inl (cs 0, 11520, .inl (ai lm215))), (m2, .inl (cs 0, 180, .inl (ai mn215))), (m3, .inl (cs 0, 180, .inl (ai sn215)))]) hF.1 (k := 0) rfl) (mw_get (X := [(y, .inr (7, [.int (iI th), .ref m1, .ref m2, .ref m3, .int (iI pn), .ref m5, .ref m6, .ref m7, .ref m8, .ref m9, .ref m10, .ref m11, .ref m12, .ref m13, .int (iI ((n : Int))), .ref m15, .long (lI fu), .long (lI fb)])), (m1, .inl (cs 0, 11520, .inl (ai lm215))), (m2, .inl (cs 0, 180, .inl (ai mn215))), (m3, .inl (cs 0, 180, .inl (ai sn215)))]) hF.1 (k := 1) rfl) (mw_get (X := [(y, .inr (7, [.int (iI th), .ref m1, .ref m2, .ref m3, .int (iI pn), .ref m5, .ref m6, .ref m7, .ref m8, .ref m9, .ref m10, .ref m11, .ref m12, .ref m13, .int (iI ((n : Int))), .ref m15, .long (lI fu), .long (lI fb)])), (m1, .inl (cs 0, 11520, .inl (ai lm215))), (m2, .inl (cs 0, 180, .inl (ai mn215))), (m3, .inl (cs 0, 180, .inl (ai sn215)))]) hF.1 (k := 2) rfl) (mw_get (X := [(y, .inr (7, [.int (iI th), .ref m1, .ref m2, .ref m3, .int (iI pn), .ref m5, .ref m6, .ref m7, .ref m8, .ref m9, .ref m10, .ref m11, .ref m12, .ref m13, .int (iI ((n : Int))), .ref m15, .long (lI fu), .long (lI fb)])), (m1, .inl (cs 0, 11520, .inl (ai lm215))), (m2, .inl (cs 0, 180, .inl (ai mn215))), (m3, .inl (cs 0, 180, .inl (ai sn215)))]) hF.1 (k := 3) rfl) hR10 (by omega) (by decide)) (cwV 2 hts (gw_V w_804 w_806 s_38 w_8 w_807) rfl rfl rfl (by decide +kernel) ⟨by rw [hRf]; exact Nat.le_of_ble_eq_true rfl, by rw [hRl]; exact Nat.le_of_ble_eq_true rfl⟩) ⟨K0.blind, B.recv (hF.2 _ (mw_key (k := 0) (X := [(y, .inr (7, [.int (iI th), .ref m1, .ref m2, .ref m3, .int (iI pn), .ref m5, .ref m6, .ref m7, .ref m8, .ref m9, .ref m10, .ref m11, .ref m12, .ref m13, .int (iI ((n : Int))), .ref m15, .long (lI fu), .long (lI fb)])), (m1, .inl (cs 0, 11520, .inl (ai lm215))), (m2, .inl (cs 0, 180, .inl (ai mn215))), (m3, .inl (cs 0, 180, .inl (ai sn215)))]) rfl)) (mw_get (X := [(y, .inr (7, [.int (iI th), .ref m1, .ref m2, .ref m3, .int (iI pn), .ref m5, .ref m6, .ref m7, .ref m8, .ref m9, .ref m10, .ref m11, .ref m12, .ref m13, .int (iI ((n : Int))), .ref m15, .long (lI fu), .long (lI fb)])), (m1, .inl (cs 0, 11520, .inl (ai lm215))), (m2, .inl (cs 0, 180, .inl (ai mn215))), (m3, .inl (cs 0, 180, .inl (ai sn215)))]) hF.1 (k := 0) rfl) rfl, B.pre _⟩ rfl rfl hl.1 rfl (lv_room (Nat.le_of_ble_eq_true rfl)) d_Mo_findRoot_237 ⟨by rw [hRc]; omega, by rw [hRs]; omega⟩) (fun g237 H locs hw B => ?_)
                      obtain ⟨lm237, mn237, sn237, hR11, rfl⟩ := hw
                      have B := B.of_eq (mw_put3 (X := [(y, .inr (7, [.int (iI th), .ref m1, .ref m2, .ref m3, .int (iI pn), .ref m5, .ref m6, .ref m7, .ref m8, .ref m9, .ref m10, .ref m11, .ref m12, .ref m13, .int (iI ((n : Int))), .ref m15, .long (lI fu), .long (lI fb)])), (m1, .inl (cs 0, 11520, .inl (ai lm215))), (m2, .inl (cs 0, 180, .inl (ai mn215))), (m3, .inl (cs 0, 180, .inl (ai sn215)))]) hF.1 (k1 := 1) (k2 := 2) (k3 := 3) rfl rfl rfl)
                      have B : Wb D vwCl (TY cs) L (mw f [(y, .inr (7, [.int (iI th), .ref m1, .ref m2, .ref m3, .int (iI pn), .ref m5, .ref m6, .ref m7, .ref m8, .ref m9, .ref m10, .ref m11, .ref m12, .ref m13, .int (iI ((n : Int))), .ref m15, .long (lI fu), .long (lI fb)])), (m1, .inl (cs 0, 11520, .inl (ai lm237))), (m2, .inl (cs 0, 180, .inl (ai mn237))), (m3, .inl (cs 0, 180, .inl (ai sn237)))]) (AL L s.heap.size) s H _ := B
                      rw [h10v] at hR11
                      obtain ⟨Z11, hZ11⟩ : ∃ Z11, Z11 = up Z10 to (Z3 to * 2 ^ 1 + 1 * 1) := ⟨_, rfl⟩
                      rw [← hZ11] at hR11
                      have h11t : Z11 to = Z3 to * 2 ^ 1 + 1 * 1 := by rw [hZ11, up_self]
                      have h11o : ∀ w, w ≠ to → (w < 150 ∨ 156 < w) → w ≠ 178 → Z11 w = Z w := fun w h1 h2 h3 => by rw [hZ11, up_ne _ _ h1]; exact h10o' w h1 h2 h3
                      refine lv_iload hx hb d_Mo_findRoot_240 (lv_at hl 0 rfl) ?_
                      refine x_if_ne (tgt := 249) hx hb d_Mo_findRoot_242 (by decide) (by omega) (fun h242 => ?_) (fun h242 => ?_)
                      · refine lv_iload hx hb d_Mo_findRoot_249 (lv_at hl 2 rfl) ?_
                        refine lv_istore (lv' := [(6, .int (iI lf3)), (7, .int (iI (sg (F (Pt (Z3 to * 2 ^ 1 + 1 * 1) (b + 1)))))), (4, .int (iI (((b : Int)) + 1))), (5, .int (iI al3)), (0, .ref y), (1, .int (iI ((to : Int)))), (2, .int (iI ((i0 : Int)))), (3, .int (iI far))]) hx hb d_Mo_findRoot_251 hl (by decide) rfl (fun ls hl => ?_)
                        refine lv_goto (tgt := 80) hx hb d_Mo_findRoot_253 (by decide) ?_
                        rw [show (b : Int) + 1 = ((b + 1 : Nat) : Int) by omega] at hl
                        exact ih_L2 (b + 1) al3 lf3 lm237 mn237 sn237 Z11 (by omega) (by omega) hR11 (by first | (exfalso; omega) | (rw [h11t]; exact FI.same hNo2 hFI3 h199 h204 (by omega))) hal3 h11o _ _ _ B (lv_sub hl [0, 3, 2, 4, 5, 6, 7] rfl)
                      · refine x_iconst hx hb d_Mo_findRoot_245 ?_
                        refine lv_goto (tgt := 251) hx hb d_Mo_findRoot_246 (by decide) ?_
                        refine lv_istore (lv' := [(6, .int (iI 0)), (7, .int (iI (sg (F (Pt (Z3 to * 2 ^ 1 + 1 * 1) (b + 1)))))), (4, .int (iI (((b : Int)) + 1))), (5, .int (iI al3)), (0, .ref y), (1, .int (iI ((to : Int)))), (2, .int (iI ((i0 : Int)))), (3, .int (iI far))]) hx hb d_Mo_findRoot_251 hl (by decide) rfl (fun ls hl => ?_)
                        refine lv_goto (tgt := 80) hx hb d_Mo_findRoot_253 (by decide) ?_
                        rw [show (b : Int) + 1 = ((b + 1 : Nat) : Int) by omega] at hl
                        exact ih_L2 (b + 1) al3 0 lm237 mn237 sn237 Z11 (by omega) (by omega) hR11 (by first | (exfalso; omega) | (rw [h11t]; exact FI.zero hNo2 hFI3 h199 (by omega))) hal3 h11o _ _ _ B (lv_sub hl [0, 3, 2, 4, 5, 6, 7] rfl)
                    · refine lv_iload hx hb d_Mo_findRoot_225 (lv_at hl 0 rfl) ?_
                      refine lv_iload hx hb d_Mo_findRoot_227 (lv_at hl 2 rfl) ?_
                      refine x_icmp_ne (tgt := 240) hx hb d_Mo_findRoot_229 (by decide) (by omega) (by omega) (fun h229 => ?_) (fun h229 => ?_)
                      · refine lv_iload hx hb d_Mo_findRoot_240 (lv_at hl 0 rfl) ?_
                        refine x_if_ne (tgt := 249) hx hb d_Mo_findRoot_242 (by decide) (by omega) (fun h242 => ?_) (fun h242 => ?_)
                        · refine lv_iload hx hb d_Mo_findRoot_249 (lv_at hl 2 rfl) ?_
                          refine lv_istore (lv' := [(6, .int (iI lf3)), (7, .int (iI (sg (F (Pt (Z3 to * 2 ^ 1 + 1 * 1) (b + 1)))))), (4, .int (iI (((b : Int)) + 1))), (5, .int (iI al3)), (0, .ref y), (1, .int (iI ((to : Int)))), (2, .int (iI ((i0 : Int)))), (3, .int (iI far))]) hx hb d_Mo_findRoot_251 hl (by decide) rfl (fun ls hl => ?_)
                          refine lv_goto (tgt := 80) hx hb d_Mo_findRoot_253 (by decide) ?_
                          rw [show (b : Int) + 1 = ((b + 1 : Nat) : Int) by omega] at hl
                          exact ih_L2 (b + 1) al3 lf3 lm215 mn215 sn215 Z10 (by omega) (by omega) hR10 (by rw [h10t]; exact FI.other hNo2 hFI3 h199 h204 (by omega) (by omega)) hal3 h10o' _ _ _ B (lv_sub hl [0, 3, 2, 4, 5, 6, 7] rfl)
                        · refine x_iconst hx hb d_Mo_findRoot_245 ?_
                          refine lv_goto (tgt := 251) hx hb d_Mo_findRoot_246 (by decide) ?_
                          refine lv_istore (lv' := [(6, .int (iI 0)), (7, .int (iI (sg (F (Pt (Z3 to * 2 ^ 1 + 1 * 1) (b + 1)))))), (4, .int (iI (((b : Int)) + 1))), (5, .int (iI al3)), (0, .ref y), (1, .int (iI ((to : Int)))), (2, .int (iI ((i0 : Int)))), (3, .int (iI far))]) hx hb d_Mo_findRoot_251 hl (by decide) rfl (fun ls hl => ?_)
                          refine lv_goto (tgt := 80) hx hb d_Mo_findRoot_253 (by decide) ?_
                          rw [show (b : Int) + 1 = ((b + 1 : Nat) : Int) by omega] at hl
                          exact ih_L2 (b + 1) al3 0 lm215 mn215 sn215 Z10 (by omega) (by omega) hR10 (by exfalso; omega) hal3 h10o' _ _ _ B (lv_sub hl [0, 3, 2, 4, 5, 6, 7] rfl)
                      · refine lv_aload_n hx hb d_Mo_findRoot_232 rfl (lv_at hl 4 rfl) ?_
                        refine lv_iload_n hx hb d_Mo_findRoot_233 rfl (lv_at hl 5 rfl) ?_
                        refine x_sipush hx hb d_Mo_findRoot_234 (by decide) ?_
                        refine x_callv B hA (va_runV (As := [.int (iI ((to : Int))), .int (iI 156)]) (rest := []) ⟨hx, hb, hml, hown, hts⟩ (c_Mo_copy l D cs _ _ _ y m1 m2 m3 m5 m6 m7 m8 m9 m10 m11 m12 m13 m15 th pn ((n : Int)) fu fb lm215 mn215 sn215 Z10 to 156 (hF.pick [0, 1, 2, 3] rfl rfl) (mw_get (X := [(y, .inr (7, [.int (iI th), .ref m1, .ref m2, .ref m3, .int (iI pn), .ref m5, .ref m6, .ref m7, .ref m8, .ref m9, .ref m10, .ref m11, .ref m12, .ref m13, .int (iI ((n : Int))), .ref m15, .long (lI fu), .long (lI fb)])), (m1, .inl (cs 0, 11520, .inl (ai lm215))), (m2, .inl (cs 0, 180, .inl (ai mn215))), (m3, .inl (cs 0, 180, .inl (ai sn215)))]) hF.1 (k := 0) rfl) (mw_get (X := [(y, .inr (7, [.int (iI th), .ref m1, .ref m2, .ref m3, .int (iI pn), .ref m5, .ref m6, .ref m7, .ref m8, .ref m9, .ref m10, .ref m11, .ref m12, .ref m13, .int (iI ((n : Int))), .ref m15, .long (lI fu), .long (lI fb)])), (m1, .inl (cs 0, 11520, .inl (ai lm215))), (m2, .inl (cs 0, 180, .inl (ai mn215))), (m3, .inl (cs 0, 180, .inl (ai sn215)))]) hF.1 (k := 1) rfl) (mw_get (X := [(y, .inr (7, [.int (iI th), .ref m1, .ref m2, .ref m3, .int (iI pn), .ref m5, .ref m6, .ref m7, .ref m8, .ref m9, .ref m10, .ref m11, .ref m12, .ref m13, .int (iI ((n : Int))), .ref m15, .long (lI fu), .long (lI fb)])), (m1, .inl (cs 0, 11520, .inl (ai lm215))), (m2, .inl (cs 0, 180, .inl (ai mn215))), (m3, .inl (cs 0, 180, .inl (ai sn215)))]) hF.1 (k := 2) rfl) (mw_get (X := [(y, .inr (7, [.int (iI th), .ref m1, .ref m2, .ref m3, .int (iI pn), .ref m5, .ref m6, .ref m7, .ref m8, .ref m9, .ref m10, .ref m11, .ref m12, .ref m13, .int (iI ((n : Int))), .ref m15, .long (lI fu), .long (lI fb)])), (m1, .inl (cs 0, 11520, .inl (ai lm215))), (m2, .inl (cs 0, 180, .inl (ai mn215))), (m3, .inl (cs 0, 180, .inl (ai sn215)))]) hF.1 (k := 3) rfl) hR10 (by omega) (by decide)) (cwV 2 hts (gw_V w_804 w_806 s_38 w_8 w_807) rfl rfl rfl (by decide +kernel) ⟨by rw [hRf]; exact Nat.le_of_ble_eq_true rfl, by rw [hRl]; exact Nat.le_of_ble_eq_true rfl⟩) ⟨K0.blind, B.recv (hF.2 _ (mw_key (k := 0) (X := [(y, .inr (7, [.int (iI th), .ref m1, .ref m2, .ref m3, .int (iI pn), .ref m5, .ref m6, .ref m7, .ref m8, .ref m9, .ref m10, .ref m11, .ref m12, .ref m13, .int (iI ((n : Int))), .ref m15, .long (lI fu), .long (lI fb)])), (m1, .inl (cs 0, 11520, .inl (ai lm215))), (m2, .inl (cs 0, 180, .inl (ai mn215))), (m3, .inl (cs 0, 180, .inl (ai sn215)))]) rfl)) (mw_get (X := [(y, .inr (7, [.int (iI th), .ref m1, .ref m2, .ref m3, .int (iI pn), .ref m5, .ref m6, .ref m7, .ref m8, .ref m9, .ref m10, .ref m11, .ref m12, .ref m13, .int (iI ((n : Int))), .ref m15, .long (lI fu), .long (lI fb)])), (m1, .inl (cs 0, 11520, .inl (ai lm215))), (m2, .inl (cs 0, 180, .inl (ai mn215))), (m3, .inl (cs 0, 180, .inl (ai sn215)))]) hF.1 (k := 0) rfl) rfl, B.pre _⟩ rfl rfl hl.1 rfl (lv_room (Nat.le_of_ble_eq_true rfl)) d_Mo_findRoot_237 ⟨by rw [hRc]; omega, by rw [hRs]; omega⟩) (fun g237 H locs hw B => ?_)
                        obtain ⟨lm237, mn237, sn237, hR11, rfl⟩ := hw
                        have B := B.of_eq (mw_put3 (X := [(y, .inr (7, [.int (iI th), .ref m1, .ref m2, .ref m3, .int (iI pn), .ref m5, .ref m6, .ref m7, .ref m8, .ref m9, .ref m10, .ref m11, .ref m12, .ref m13, .int (iI ((n : Int))), .ref m15, .long (lI fu), .long (lI fb)])), (m1, .inl (cs 0, 11520, .inl (ai lm215))), (m2, .inl (cs 0, 180, .inl (ai mn215))), (m3, .inl (cs 0, 180, .inl (ai sn215)))]) hF.1 (k1 := 1) (k2 := 2) (k3 := 3) rfl rfl rfl)
                        have B : Wb D vwCl (TY cs) L (mw f [(y, .inr (7, [.int (iI th), .ref m1, .ref m2, .ref m3, .int (iI pn), .ref m5, .ref m6, .ref m7, .ref m8, .ref m9, .ref m10, .ref m11, .ref m12, .ref m13, .int (iI ((n : Int))), .ref m15, .long (lI fu), .long (lI fb)])), (m1, .inl (cs 0, 11520, .inl (ai lm237))), (m2, .inl (cs 0, 180, .inl (ai mn237))), (m3, .inl (cs 0, 180, .inl (ai sn237)))]) (AL L s.heap.size) s H _ := B
                        rw [h10v] at hR11
                        obtain ⟨Z11, hZ11⟩ : ∃ Z11, Z11 = up Z10 to (Z3 to * 2 ^ 1 + 1 * 1) := ⟨_, rfl⟩
                        rw [← hZ11] at hR11
                        have h11t : Z11 to = Z3 to * 2 ^ 1 + 1 * 1 := by rw [hZ11, up_self]
                        have h11o : ∀ w, w ≠ to → (w < 150 ∨ 156 < w) → w ≠ 178 → Z11 w = Z w := fun w h1 h2 h3 => by rw [hZ11, up_ne _ _ h1]; exact h10o' w h1 h2 h3
                        refine lv_iload hx hb d_Mo_findRoot_240 (lv_at hl 0 rfl) ?_
                        refine x_if_ne (tgt := 249) hx hb d_Mo_findRoot_242 (by decide) (by omega) (fun h242 => ?_) (fun h242 => ?_)
                        · refine lv_iload hx hb d_Mo_findRoot_249 (lv_at hl 2 rfl) ?_
                          refine lv_istore (lv' := [(6, .int (iI lf3)), (7, .int (iI (sg (F (Pt (Z3 to * 2 ^ 1 + 1 * 1) (b + 1)))))), (4, .int (iI (((b : Int)) + 1))), (5, .int (iI al3)), (0, .ref y), (1, .int (iI ((to : Int)))), (2, .int (iI ((i0 : Int)))), (3, .int (iI far))]) hx hb d_Mo_findRoot_251 hl (by decide) rfl (fun ls hl => ?_)
                          refine lv_goto (tgt := 80) hx hb d_Mo_findRoot_253 (by decide) ?_
                          rw [show (b : Int) + 1 = ((b + 1 : Nat) : Int) by omega] at hl
                          exact ih_L2 (b + 1) al3 lf3 lm237 mn237 sn237 Z11 (by omega) (by omega) hR11 (by first | (exfalso; omega) | (rw [h11t]; exact FI.same hNo2 hFI3 h199 h204 (by omega))) hal3 h11o _ _ _ B (lv_sub hl [0, 3, 2, 4, 5, 6, 7] rfl)
                        · refine x_iconst hx hb d_Mo_findRoot_245 ?_
                          refine lv_goto (tgt := 251) hx hb d_Mo_findRoot_246 (by decide) ?_
                          refine lv_istore (lv' := [(6, .int (iI 0)), (7, .int (iI (sg (F (Pt (Z3 to * 2 ^ 1 + 1 * 1) (b + 1)))))), (4, .int (iI (((b : Int)) + 1))), (5, .int (iI al3)), (0, .ref y), (1, .int (iI ((to : Int)))), (2, .int (iI ((i0 : Int)))), (3, .int (iI far))]) hx hb d_Mo_findRoot_251 hl (by decide) rfl (fun ls hl => ?_)
                          refine lv_goto (tgt := 80) hx hb d_Mo_findRoot_253 (by decide) ?_
                          rw [show (b : Int) + 1 = ((b + 1 : Nat) : Int) by omega] at hl
                          exact ih_L2 (b + 1) al3 0 lm237 mn237 sn237 Z11 (by omega) (by omega) hR11 (by first | (exfalso; omega) | (rw [h11t]; exact FI.zero hNo2 hFI3 h199 (by omega))) hal3 h11o _ _ _ B (lv_sub hl [0, 3, 2, 4, 5, 6, 7] rfl)
              obtain ⟨hb1, hb2, hb3, hb4⟩ := hFI.bits hb8
              refine lv_iload hx hb d_Mo_findRoot_88 (lv_at hl 1 rfl) ?_
              refine x_if_ne (tgt := 168) hx hb d_Mo_findRoot_90 (by decide) (by omega) (fun h90 => ?_) (fun h90 => ?_)
              · exact J168 aln lf lm2 mn2 sn2 Z2 hR2 hFI hal ho _ _ _ B (lv_sub hl [0, 1, 2, 3, 4, 5, 6] rfl)
              · refine lv_aload_n hx hb d_Mo_findRoot_93 rfl (lv_at hl 3 rfl) ?_
                refine x_sipush hx hb d_Mo_findRoot_94 (by decide) ?_
                refine x_lconst (z := 1) hx hb d_Mo_findRoot_97 (by decide) ?_
                refine x_callv B hA (va_runV (As := [.int (iI 156), .long (lI 1)]) (rest := []) ⟨hx, hb, hml, hown, hts⟩ (c_Mo_lay0 l D cs _ _ _ y m1 m2 m3 m5 m6 m7 m8 m9 m10 m11 m12 m13 m15 th pn ((n : Int)) fu fb lm2 mn2 sn2 Z2 156 1 (hF.pick [0, 1, 2, 3] rfl rfl) (mw_get (X := [(y, .inr (7, [.int (iI th), .ref m1, .ref m2, .ref m3, .int (iI pn), .ref m5, .ref m6, .ref m7, .ref m8, .ref m9, .ref m10, .ref m11, .ref m12, .ref m13, .int (iI ((n : Int))), .ref m15, .long (lI fu), .long (lI fb)])), (m1, .inl (cs 0, 11520, .inl (ai lm2))), (m2, .inl (cs 0, 180, .inl (ai mn2))), (m3, .inl (cs 0, 180, .inl (ai sn2)))]) hF.1 (k := 0) rfl) (mw_get (X := [(y, .inr (7, [.int (iI th), .ref m1, .ref m2, .ref m3, .int (iI pn), .ref m5, .ref m6, .ref m7, .ref m8, .ref m9, .ref m10, .ref m11, .ref m12, .ref m13, .int (iI ((n : Int))), .ref m15, .long (lI fu), .long (lI fb)])), (m1, .inl (cs 0, 11520, .inl (ai lm2))), (m2, .inl (cs 0, 180, .inl (ai mn2))), (m3, .inl (cs 0, 180, .inl (ai sn2)))]) hF.1 (k := 1) rfl) (mw_get (X := [(y, .inr (7, [.int (iI th), .ref m1, .ref m2, .ref m3, .int (iI pn), .ref m5, .ref m6, .ref m7, .ref m8, .ref m9, .ref m10, .ref m11, .ref m12, .ref m13, .int (iI ((n : Int))), .ref m15, .long (lI fu), .long (lI fb)])), (m1, .inl (cs 0, 11520, .inl (ai lm2))), (m2, .inl (cs 0, 180, .inl (ai mn2))), (m3, .inl (cs 0, 180, .inl (ai sn2)))]) hF.1 (k := 2) rfl) (mw_get (X := [(y, .inr (7, [.int (iI th), .ref m1, .ref m2, .ref m3, .int (iI pn), .ref m5, .ref m6, .ref m7, .ref m8, .ref m9, .ref m10, .ref m11, .ref m12, .ref m13, .int (iI ((n : Int))), .ref m15, .long (lI fu), .long (lI fb)])), (m1, .inl (cs 0, 11520, .inl (ai lm2))), (m2, .inl (cs 0, 180, .inl (ai mn2))), (m3, .inl (cs 0, 180, .inl (ai sn2)))]) hF.1 (k := 3) rfl) hR2 (by decide) (by omega)) (cwV 2 hts (gw_V w_792 w_794 s_35 w_8 w_795) rfl rfl rfl (by decide +kernel) ⟨by rw [hRf]; exact Nat.le_of_ble_eq_true rfl, by rw [hRl]; exact Nat.le_of_ble_eq_true rfl⟩) ⟨K0.blind, B.recv (hF.2 _ (mw_key (k := 0) (X := [(y, .inr (7, [.int (iI th), .ref m1, .ref m2, .ref m3, .int (iI pn), .ref m5, .ref m6, .ref m7, .ref m8, .ref m9, .ref m10, .ref m11, .ref m12, .ref m13, .int (iI ((n : Int))), .ref m15, .long (lI fu), .long (lI fb)])), (m1, .inl (cs 0, 11520, .inl (ai lm2))), (m2, .inl (cs 0, 180, .inl (ai mn2))), (m3, .inl (cs 0, 180, .inl (ai sn2)))]) rfl)) (mw_get (X := [(y, .inr (7, [.int (iI th), .ref m1, .ref m2, .ref m3, .int (iI pn), .ref m5, .ref m6, .ref m7, .ref m8, .ref m9, .ref m10, .ref m11, .ref m12, .ref m13, .int (iI ((n : Int))), .ref m15, .long (lI fu), .long (lI fb)])), (m1, .inl (cs 0, 11520, .inl (ai lm2))), (m2, .inl (cs 0, 180, .inl (ai mn2))), (m3, .inl (cs 0, 180, .inl (ai sn2)))]) hF.1 (k := 0) rfl) rfl, B.pre _⟩ rfl rfl hl.1 rfl (lv_room (Nat.le_of_ble_eq_true rfl)) d_Mo_findRoot_98 ⟨by rw [hRc]; omega, by rw [hRs]; omega⟩) (fun g98 H locs hw B => ?_)
                obtain ⟨lm98, mn98, sn98, hR3, rfl⟩ := hw
                have B := B.of_eq (mw_put3 (X := [(y, .inr (7, [.int (iI th), .ref m1, .ref m2, .ref m3, .int (iI pn), .ref m5, .ref m6, .ref m7, .ref m8, .ref m9, .ref m10, .ref m11, .ref m12, .ref m13, .int (iI ((n : Int))), .ref m15, .long (lI fu), .long (lI fb)])), (m1, .inl (cs 0, 11520, .inl (ai lm2))), (m2, .inl (cs 0, 180, .inl (ai mn2))), (m3, .inl (cs 0, 180, .inl (ai sn2)))]) hF.1 (k1 := 1) (k2 := 2) (k3 := 3) rfl rfl rfl)
                have B : Wb D vwCl (TY cs) L (mw f [(y, .inr (7, [.int (iI th), .ref m1, .ref m2, .ref m3, .int (iI pn), .ref m5, .ref m6, .ref m7, .ref m8, .ref m9, .ref m10, .ref m11, .ref m12, .ref m13, .int (iI ((n : Int))), .ref m15, .long (lI fu), .long (lI fb)])), (m1, .inl (cs 0, 11520, .inl (ai lm98))), (m2, .inl (cs 0, 180, .inl (ai mn98))), (m3, .inl (cs 0, 180, .inl (ai sn98)))]) (AL L s.heap.size) s H _ := B
                refine lv_aload_n hx hb d_Mo_findRoot_101 rfl (lv_at hl 3 rfl) ?_
                refine x_sipush hx hb d_Mo_findRoot_102 (by decide) ?_
                refine lv_iload_n hx hb d_Mo_findRoot_105 rfl (lv_at hl 4 rfl) ?_
                refine x_sipush hx hb d_Mo_findRoot_106 (by decide) ?_
                refine x_iconst hx hb d_Mo_findRoot_109 ?_
                have z3t : up Z2 156 1 to = Z2 to := up_ne _ _ (by omega)
                refine x_callv B hA (va_runV (As := [.int (iI 156), .int (iI ((to : Int))), .int (iI 156), .int (iI 1)]) (rest := []) ⟨hx, hb, hml, hown, hts⟩ (c_Mo_add l D cs _ _ _ y m1 m2 m3 m5 m6 m7 m8 m9 m10 m11 m12 m13 m15 th pn ((n : Int)) fu fb lm98 mn98 sn98 (up Z2 156 1) 156 to 156 1 (hF.pick [0, 1, 2, 3] rfl rfl) (mw_get (X := [(y, .inr (7, [.int (iI th), .ref m1, .ref m2, .ref m3, .int (iI pn), .ref m5, .ref m6, .ref m7, .ref m8, .ref m9, .ref m10, .ref m11, .ref m12, .ref m13, .int (iI ((n : Int))), .ref m15, .long (lI fu), .long (lI fb)])), (m1, .inl (cs 0, 11520, .inl (ai lm98))), (m2, .inl (cs 0, 180, .inl (ai mn98))), (m3, .inl (cs 0, 180, .inl (ai sn98)))]) hF.1 (k := 0) rfl) (mw_get (X := [(y, .inr (7, [.int (iI th), .ref m1, .ref m2, .ref m3, .int (iI pn), .ref m5, .ref m6, .ref m7, .ref m8, .ref m9, .ref m10, .ref m11, .ref m12, .ref m13, .int (iI ((n : Int))), .ref m15, .long (lI fu), .long (lI fb)])), (m1, .inl (cs 0, 11520, .inl (ai lm98))), (m2, .inl (cs 0, 180, .inl (ai mn98))), (m3, .inl (cs 0, 180, .inl (ai sn98)))]) hF.1 (k := 1) rfl) (mw_get (X := [(y, .inr (7, [.int (iI th), .ref m1, .ref m2, .ref m3, .int (iI pn), .ref m5, .ref m6, .ref m7, .ref m8, .ref m9, .ref m10, .ref m11, .ref m12, .ref m13, .int (iI ((n : Int))), .ref m15, .long (lI fu), .long (lI fb)])), (m1, .inl (cs 0, 11520, .inl (ai lm98))), (m2, .inl (cs 0, 180, .inl (ai mn98))), (m3, .inl (cs 0, 180, .inl (ai sn98)))]) hF.1 (k := 2) rfl) (mw_get (X := [(y, .inr (7, [.int (iI th), .ref m1, .ref m2, .ref m3, .int (iI pn), .ref m5, .ref m6, .ref m7, .ref m8, .ref m9, .ref m10, .ref m11, .ref m12, .ref m13, .int (iI ((n : Int))), .ref m15, .long (lI fu), .long (lI fb)])), (m1, .inl (cs 0, 11520, .inl (ai lm98))), (m2, .inl (cs 0, 180, .inl (ai mn98))), (m3, .inl (cs 0, 180, .inl (ai sn98)))]) hF.1 (k := 3) rfl) hR3 (by decide) (by omega) (by decide) (Or.inl rfl) (by rw [z3t]; exact sm_Mp (Int.lt_trans hb1 (pow2_lt (by decide)))) (by rw [up_self]; decide +kernel)) (cwV 4 hts (gw_V w_820 w_822 s_41 w_8 w_823) rfl rfl rfl (by decide +kernel) ⟨by rw [hRf]; exact Nat.le_of_ble_eq_true rfl, by rw [hRl]; exact Nat.le_of_ble_eq_true rfl⟩) ⟨K0.blind, B.recv (hF.2 _ (mw_key (k := 0) (X := [(y, .inr (7, [.int (iI th), .ref m1, .ref m2, .ref m3, .int (iI pn), .ref m5, .ref m6, .ref m7, .ref m8, .ref m9, .ref m10, .ref m11, .ref m12, .ref m13, .int (iI ((n : Int))), .ref m15, .long (lI fu), .long (lI fb)])), (m1, .inl (cs 0, 11520, .inl (ai lm98))), (m2, .inl (cs 0, 180, .inl (ai mn98))), (m3, .inl (cs 0, 180, .inl (ai sn98)))]) rfl)) (mw_get (X := [(y, .inr (7, [.int (iI th), .ref m1, .ref m2, .ref m3, .int (iI pn), .ref m5, .ref m6, .ref m7, .ref m8, .ref m9, .ref m10, .ref m11, .ref m12, .ref m13, .int (iI ((n : Int))), .ref m15, .long (lI fu), .long (lI fb)])), (m1, .inl (cs 0, 11520, .inl (ai lm98))), (m2, .inl (cs 0, 180, .inl (ai mn98))), (m3, .inl (cs 0, 180, .inl (ai sn98)))]) hF.1 (k := 0) rfl) rfl, B.pre _⟩ rfl rfl hl.1 rfl (lv_room (Nat.le_of_ble_eq_true rfl)) d_Mo_findRoot_110 ⟨by rw [hRc]; omega, by rw [hRs]; omega⟩) (fun g110 H locs hw B => ?_)
                obtain ⟨lm110, mn110, sn110, hR4, rfl⟩ := hw
                have B := B.of_eq (mw_put3 (X := [(y, .inr (7, [.int (iI th), .ref m1, .ref m2, .ref m3, .int (iI pn), .ref m5, .ref m6, .ref m7, .ref m8, .ref m9, .ref m10, .ref m11, .ref m12, .ref m13, .int (iI ((n : Int))), .ref m15, .long (lI fu), .long (lI fb)])), (m1, .inl (cs 0, 11520, .inl (ai lm98))), (m2, .inl (cs 0, 180, .inl (ai mn98))), (m3, .inl (cs 0, 180, .inl (ai sn98)))]) hF.1 (k1 := 1) (k2 := 2) (k3 := 3) rfl rfl rfl)
                have B : Wb D vwCl (TY cs) L (mw f [(y, .inr (7, [.int (iI th), .ref m1, .ref m2, .ref m3, .int (iI pn), .ref m5, .ref m6, .ref m7, .ref m8, .ref m9, .ref m10, .ref m11, .ref m12, .ref m13, .int (iI ((n : Int))), .ref m15, .long (lI fu), .long (lI fb)])), (m1, .inl (cs 0, 11520, .inl (ai lm110))), (m2, .inl (cs 0, 180, .inl (ai mn110))), (m3, .inl (cs 0, 180, .inl (ai sn110)))]) (AL L s.heap.size) s H _ := B
                rw [z3t, up_self, up_up] at hR4
                obtain ⟨Z4, hZ4⟩ : ∃ Z4, Z4 = up Z2 156 (Z2 to + 1 * 1) := ⟨_, rfl⟩
                rw [← hZ4] at hR4
                have h4v : Z4 156 = Z2 to + 1 * 1 := by rw [hZ4, up_self]
                have h4t : Z4 to = Z2 to := by rw [hZ4, up_ne _ _ (by omega)]
                have h4r : ∀ k, k < n → ∀ j, j < 6 → Z4 (60 + 6 * k + j) = Z (60 + 6 * k + j) := fun k hk j hj => by rw [hZ4, up_ne _ _ (by omega)]; exact ho _ (by omega) (by omega) (by omega)
                have h4o : ∀ w, w ≠ to → (w < 150 ∨ 156 < w) → w ≠ 178 → Z4 w = Z w := fun w h1 h2 h3 => by rw [hZ4, up_ne _ _ (by omega)]; exact ho w h1 h2 h3
                refine lv_aload_n hx hb d_Mo_findRoot_113 rfl (lv_at hl 3 rfl) ?_
                refine lv_iload_n hx hb d_Mo_findRoot_114 rfl (lv_at hl 6 rfl) ?_
                refine x_sipush hx hb d_Mo_findRoot_115 (by decide) ?_
                refine lv_iload hx hb d_Mo_findRoot_118 (lv_at hl 2 rfl) ?_
                refine x_calli B hA (va_runV (As := [.int (iI far), .int (iI 156), .int (iI ((b : Int)))]) (rest := []) ⟨hx, hb, hml, hown, hts⟩ (c_Mo_below l D cs _ _ _ y m1 m2 m3 m5 m6 m7 m8 m9 m10 m11 m12 m13 m15 th pn fu fb lm110 mn110 sn110 Z4 n 156 b far (hF.pick [0, 1, 2, 3] rfl rfl) (mw_get (X := [(y, .inr (7, [.int (iI th), .ref m1, .ref m2, .ref m3, .int (iI pn), .ref m5, .ref m6, .ref m7, .ref m8, .ref m9, .ref m10, .ref m11, .ref m12, .ref m13, .int (iI ((n : Int))), .ref m15, .long (lI fu), .long (lI fb)])), (m1, .inl (cs 0, 11520, .inl (ai lm110))), (m2, .inl (cs 0, 180, .inl (ai mn110))), (m3, .inl (cs 0, 180, .inl (ai sn110)))]) hF.1 (k := 0) rfl) (mw_get (X := [(y, .inr (7, [.int (iI th), .ref m1, .ref m2, .ref m3, .int (iI pn), .ref m5, .ref m6, .ref m7, .ref m8, .ref m9, .ref m10, .ref m11, .ref m12, .ref m13, .int (iI ((n : Int))), .ref m15, .long (lI fu), .long (lI fb)])), (m1, .inl (cs 0, 11520, .inl (ai lm110))), (m2, .inl (cs 0, 180, .inl (ai mn110))), (m3, .inl (cs 0, 180, .inl (ai sn110)))]) hF.1 (k := 1) rfl) (mw_get (X := [(y, .inr (7, [.int (iI th), .ref m1, .ref m2, .ref m3, .int (iI pn), .ref m5, .ref m6, .ref m7, .ref m8, .ref m9, .ref m10, .ref m11, .ref m12, .ref m13, .int (iI ((n : Int))), .ref m15, .long (lI fu), .long (lI fb)])), (m1, .inl (cs 0, 11520, .inl (ai lm110))), (m2, .inl (cs 0, 180, .inl (ai mn110))), (m3, .inl (cs 0, 180, .inl (ai sn110)))]) hF.1 (k := 2) rfl) (mw_get (X := [(y, .inr (7, [.int (iI th), .ref m1, .ref m2, .ref m3, .int (iI pn), .ref m5, .ref m6, .ref m7, .ref m8, .ref m9, .ref m10, .ref m11, .ref m12, .ref m13, .int (iI ((n : Int))), .ref m15, .long (lI fu), .long (lI fb)])), (m1, .inl (cs 0, 11520, .inl (ai lm110))), (m2, .inl (cs 0, 180, .inl (ai mn110))), (m3, .inl (cs 0, 180, .inl (ai sn110)))]) hF.1 (k := 3) rfl) hR4 ⟨hn1, hn7⟩ (by decide) (hBt.congr h4r) (by omega) (by rw [h4v]; exact hb3)) (cwV 3 hts (gw_V w_903 w_905 s_58 w_8 w_906) rfl rfl rfl (by decide +kernel) ⟨by rw [hRf]; exact Nat.le_of_ble_eq_true rfl, by rw [hRl]; exact Nat.le_of_ble_eq_true rfl⟩) ⟨K0.blind, B.recv (hF.2 _ (mw_key (k := 0) (X := [(y, .inr (7, [.int (iI th), .ref m1, .ref m2, .ref m3, .int (iI pn), .ref m5, .ref m6, .ref m7, .ref m8, .ref m9, .ref m10, .ref m11, .ref m12, .ref m13, .int (iI ((n : Int))), .ref m15, .long (lI fu), .long (lI fb)])), (m1, .inl (cs 0, 11520, .inl (ai lm110))), (m2, .inl (cs 0, 180, .inl (ai mn110))), (m3, .inl (cs 0, 180, .inl (ai sn110)))]) rfl)) (mw_get (X := [(y, .inr (7, [.int (iI th), .ref m1, .ref m2, .ref m3, .int (iI pn), .ref m5, .ref m6, .ref m7, .ref m8, .ref m9, .ref m10, .ref m11, .ref m12, .ref m13, .int (iI ((n : Int))), .ref m15, .long (lI fu), .long (lI fb)])), (m1, .inl (cs 0, 11520, .inl (ai lm110))), (m2, .inl (cs 0, 180, .inl (ai mn110))), (m3, .inl (cs 0, 180, .inl (ai sn110)))]) hF.1 (k := 0) rfl) rfl, B.pre _⟩ rfl rfl hl.1 rfl (lv_room (Nat.le_of_ble_eq_true rfl)) d_Mo_findRoot_120 ⟨by rw [hRc]; omega, by rw [hRs]; omega⟩) (fun r120 g120 H locs hw B => ?_)
                obtain ⟨lm120, mn120, sn120, Z5, rfl, hR5, h5o, rfl⟩ := hw
                have B := B.of_eq (mw_put3 (X := [(y, .inr (7, [.int (iI th), .ref m1, .ref m2, .ref m3, .int (iI pn), .ref m5, .ref m6, .ref m7, .ref m8, .ref m9, .ref m10, .ref m11, .ref m12, .ref m13, .int (iI ((n : Int))), .ref m15, .long (lI fu), .long (lI fb)])), (m1, .inl (cs 0, 11520, .inl (ai lm110))), (m2, .inl (cs 0, 180, .inl (ai mn110))), (m3, .inl (cs 0, 180, .inl (ai sn110)))]) hF.1 (k1 := 1) (k2 := 2) (k3 := 3) rfl rfl rfl)
                have B : Wb D vwCl (TY cs) L (mw f [(y, .inr (7, [.int (iI th), .ref m1, .ref m2, .ref m3, .int (iI pn), .ref m5, .ref m6, .ref m7, .ref m8, .ref m9, .ref m10, .ref m11, .ref m12, .ref m13, .int (iI ((n : Int))), .ref m15, .long (lI fu), .long (lI fb)])), (m1, .inl (cs 0, 11520, .inl (ai lm120))), (m2, .inl (cs 0, 180, .inl (ai mn120))), (m3, .inl (cs 0, 180, .inl (ai sn120)))]) (AL L s.heap.size) s H _ := B
                have hb120 : far - tn0 (Sat Z4 ((Z4 156 : Rat) / ((2 ^ b : Int) : Rat))) n = Nb (Pt (Z2 to + 1 * 1) b) := by rw [h4v]; exact (congrArg (far - ·) (tn0_congr hn1 (fun k hk => Sat_congr (h4r k hk)))).trans (hNb _)
                rw [hb120]
                have hr120 := hNr (Pt (Z2 to + 1 * 1) b)
                have h5t : Z5 to = Z2 to := by rw [h5o to (by omega) (by omega)]; exact h4t
                have h5o' : ∀ w, w ≠ to → (w < 150 ∨ 156 < w) → w ≠ 178 → Z5 w = Z w := fun w h1 h2 h3 => by rw [h5o w (by omega) h3]; exact h4o w h1 h2 h3
                refine lv_iload_n hx hb d_Mo_findRoot_123 rfl (lv_at hl 5 rfl) ?_
                refine x_iconst hx hb d_Mo_findRoot_124 ?_
                refine x_iadd hx hb d_Mo_findRoot_125 ?_
                refine x_icmp_ne (tgt := 145) hx hb d_Mo_findRoot_126 (by decide) (by omega) (by omega) (fun h126 => ?_) (fun h126 => ?_)
                · refine x_iconst hx hb d_Mo_findRoot_145 ?_
                  refine lv_istore (lv' := [(5, .int (iI 0)), (6, .int (iI lf)), (4, .int (iI ((b : Int)))), (0, .ref y), (1, .int (iI ((to : Int)))), (2, .int (iI ((i0 : Int)))), (3, .int (iI far))]) hx hb d_Mo_findRoot_146 hl (by decide) rfl (fun ls hl => ?_)
                  refine lv_iload hx hb d_Mo_findRoot_148 (lv_at hl 0 rfl) ?_
                  refine x_if_eq (tgt := 165) hx hb d_Mo_findRoot_150 (by decide) (by omega) (fun h150 => ?_) (fun h150 => ?_)
                  · refine x_iconst hx hb d_Mo_findRoot_165 ?_
                    refine lv_istore (lv' := [(6, .int (iI 0)), (5, .int (iI 0)), (4, .int (iI ((b : Int)))), (0, .ref y), (1, .int (iI ((to : Int)))), (2, .int (iI ((i0 : Int)))), (3, .int (iI far))]) hx hb d_Mo_findRoot_166 hl (by decide) rfl (fun ls hl => ?_)
                    exact J168 0 0 lm120 mn120 sn120 Z5 hR5 (by rw [h5t]; exact hFI.free) (Or.inl rfl) h5o' _ _ _ B (lv_sub hl [0, 1, 2, 3, 4, 5, 6] rfl)
                  · exfalso; omega
                · refine lv_aload_n hx hb d_Mo_findRoot_129 rfl (lv_at hl 3 rfl) ?_
                  refine lv_iload_n hx hb d_Mo_findRoot_130 rfl (lv_at hl 6 rfl) ?_
                  refine lv_iload_n hx hb d_Mo_findRoot_131 rfl (lv_at hl 4 rfl) ?_
                  refine lv_iload hx hb d_Mo_findRoot_132 (lv_at hl 2 rfl) ?_
                  refine x_calli B hA (va_runV (As := [.int (iI far), .int (iI ((to : Int))), .int (iI ((b : Int)))]) (rest := []) ⟨hx, hb, hml, hown, hts⟩ (c_Mo_below l D cs _ _ _ y m1 m2 m3 m5 m6 m7 m8 m9 m10 m11 m12 m13 m15 th pn fu fb lm120 mn120 sn120 Z5 n to b far (hF.pick [0, 1, 2, 3] rfl rfl) (mw_get (X := [(y, .inr (7, [.int (iI th), .ref m1, .ref m2, .ref m3, .int (iI pn), .ref m5, .ref m6, .ref m7, .ref m8, .ref m9, .ref m10, .ref m11, .ref m12, .ref m13, .int (iI ((n : Int))), .ref m15, .long (lI fu), .long (lI fb)])), (m1, .inl (cs 0, 11520, .inl (ai lm120))), (m2, .inl (cs 0, 180, .inl (ai mn120))), (m3, .inl (cs 0, 180, .inl (ai sn120)))]) hF.1 (k := 0) rfl) (mw_get (X := [(y, .inr (7, [.int (iI th), .ref m1, .ref m2, .ref m3, .int (iI pn), .ref m5, .ref m6, .ref m7, .ref m8, .ref m9, .ref m10, .ref m11, .ref m12, .ref m13, .int (iI ((n : Int))), .ref m15, .long (lI fu), .long (lI fb)])), (m1, .inl (cs 0, 11520, .inl (ai lm120))), (m2, .inl (cs 0, 180, .inl (ai mn120))), (m3, .inl (cs 0, 180, .inl (ai sn120)))]) hF.1 (k := 1) rfl) (mw_get (X := [(y, .inr (7, [.int (iI th), .ref m1, .ref m2, .ref m3, .int (iI pn), .ref m5, .ref m6, .ref m7, .ref m8, .ref m9, .ref m10, .ref m11, .ref m12, .ref m13, .int (iI ((n : Int))), .ref m15, .long (lI fu), .long (lI fb)])), (m1, .inl (cs 0, 11520, .inl (ai lm120))), (m2, .inl (cs 0, 180, .inl (ai mn120))), (m3, .inl (cs 0, 180, .inl (ai sn120)))]) hF.1 (k := 2) rfl) (mw_get (X := [(y, .inr (7, [.int (iI th), .ref m1, .ref m2, .ref m3, .int (iI pn), .ref m5, .ref m6, .ref m7, .ref m8, .ref m9, .ref m10, .ref m11, .ref m12, .ref m13, .int (iI ((n : Int))), .ref m15, .long (lI fu), .long (lI fb)])), (m1, .inl (cs 0, 11520, .inl (ai lm120))), (m2, .inl (cs 0, 180, .inl (ai mn120))), (m3, .inl (cs 0, 180, .inl (ai sn120)))]) hF.1 (k := 3) rfl) hR5 ⟨hn1, hn7⟩ (by omega) (hBt.congr (show ∀ k, k < n → ∀ j, j < 6 → Z5 (60 + 6 * k + j) = Z (60 + 6 * k + j) from fun k hk j hj => h5o' _ (by omega) (by omega) (by omega))) (by omega) (by rw [h5t]; exact (Int.lt_trans hb1 (pow2_lt (by decide))))) (cwV 3 hts (gw_V w_903 w_905 s_58 w_8 w_906) rfl rfl rfl (by decide +kernel) ⟨by rw [hRf]; exact Nat.le_of_ble_eq_true rfl, by rw [hRl]; exact Nat.le_of_ble_eq_true rfl⟩) ⟨K0.blind, B.recv (hF.2 _ (mw_key (k := 0) (X := [(y, .inr (7, [.int (iI th), .ref m1, .ref m2, .ref m3, .int (iI pn), .ref m5, .ref m6, .ref m7, .ref m8, .ref m9, .ref m10, .ref m11, .ref m12, .ref m13, .int (iI ((n : Int))), .ref m15, .long (lI fu), .long (lI fb)])), (m1, .inl (cs 0, 11520, .inl (ai lm120))), (m2, .inl (cs 0, 180, .inl (ai mn120))), (m3, .inl (cs 0, 180, .inl (ai sn120)))]) rfl)) (mw_get (X := [(y, .inr (7, [.int (iI th), .ref m1, .ref m2, .ref m3, .int (iI pn), .ref m5, .ref m6, .ref m7, .ref m8, .ref m9, .ref m10, .ref m11, .ref m12, .ref m13, .int (iI ((n : Int))), .ref m15, .long (lI fu), .long (lI fb)])), (m1, .inl (cs 0, 11520, .inl (ai lm120))), (m2, .inl (cs 0, 180, .inl (ai mn120))), (m3, .inl (cs 0, 180, .inl (ai sn120)))]) hF.1 (k := 0) rfl) rfl, B.pre _⟩ rfl rfl hl.1 rfl (lv_room (Nat.le_of_ble_eq_true rfl)) d_Mo_findRoot_134 ⟨by rw [hRc]; omega, by rw [hRs]; omega⟩) (fun r134 g134 H locs hw B => ?_)
                  obtain ⟨lm134, mn134, sn134, Z6, rfl, hR6, h6o, rfl⟩ := hw
                  have B := B.of_eq (mw_put3 (X := [(y, .inr (7, [.int (iI th), .ref m1, .ref m2, .ref m3, .int (iI pn), .ref m5, .ref m6, .ref m7, .ref m8, .ref m9, .ref m10, .ref m11, .ref m12, .ref m13, .int (iI ((n : Int))), .ref m15, .long (lI fu), .long (lI fb)])), (m1, .inl (cs 0, 11520, .inl (ai lm120))), (m2, .inl (cs 0, 180, .inl (ai mn120))), (m3, .inl (cs 0, 180, .inl (ai sn120)))]) hF.1 (k1 := 1) (k2 := 2) (k3 := 3) rfl rfl rfl)
                  have B : Wb D vwCl (TY cs) L (mw f [(y, .inr (7, [.int (iI th), .ref m1, .ref m2, .ref m3, .int (iI pn), .ref m5, .ref m6, .ref m7, .ref m8, .ref m9, .ref m10, .ref m11, .ref m12, .ref m13, .int (iI ((n : Int))), .ref m15, .long (lI fu), .long (lI fb)])), (m1, .inl (cs 0, 11520, .inl (ai lm134))), (m2, .inl (cs 0, 180, .inl (ai mn134))), (m3, .inl (cs 0, 180, .inl (ai sn134)))]) (AL L s.heap.size) s H _ := B
                  have hb134 : far - tn0 (Sat Z5 ((Z5 to : Rat) / ((2 ^ b : Int) : Rat))) n = Nb (Pt (Z2 to) b) := by rw [h5t]; exact (congrArg (far - ·) (tn0_congr hn1 (fun k hk => Sat_congr ((show ∀ k, k < n → ∀ j, j < 6 → Z5 (60 + 6 * k + j) = Z (60 + 6 * k + j) from fun k hk j hj => h5o' _ (by omega) (by omega) (by omega)) k hk)))).trans (hNb _)
                  rw [hb134]
                  have hr134 := hNr (Pt (Z2 to) b)
                  have h6t : Z6 to = Z2 to := by rw [h6o to (by omega) (by omega)]; exact h5t
                  have h6o' : ∀ w, w ≠ to → (w < 150 ∨ 156 < w) → w ≠ 178 → Z6 w = Z w := fun w h1 h2 h3 => by rw [h6o w (by omega) h3]; exact h5o' w h1 h2 h3
                  refine lv_iload_n hx hb d_Mo_findRoot_137 rfl (lv_at hl 5 rfl) ?_
                  refine x_icmp_ne (tgt := 145) hx hb d_Mo_findRoot_138 (by decide) (by omega) (by omega) (fun h138 => ?_) (fun h138 => ?_)
                  · refine x_iconst hx hb d_Mo_findRoot_145 ?_
                    refine lv_istore (lv' := [(5, .int (iI 0)), (6, .int (iI lf)), (4, .int (iI ((b : Int)))), (0, .ref y), (1, .int (iI ((to : Int)))), (2, .int (iI ((i0 : Int)))), (3, .int (iI far))]) hx hb d_Mo_findRoot_146 hl (by decide) rfl (fun ls hl => ?_)
                    refine lv_iload hx hb d_Mo_findRoot_148 (lv_at hl 0 rfl) ?_
                    refine x_if_eq (tgt := 165) hx hb d_Mo_findRoot_150 (by decide) (by omega) (fun h150 => ?_) (fun h150 => ?_)
                    · refine x_iconst hx hb d_Mo_findRoot_165 ?_
                      refine lv_istore (lv' := [(6, .int (iI 0)), (5, .int (iI 0)), (4, .int (iI ((b : Int)))), (0, .ref y), (1, .int (iI ((to : Int)))), (2, .int (iI ((i0 : Int)))), (3, .int (iI far))]) hx hb d_Mo_findRoot_166 hl (by decide) rfl (fun ls hl => ?_)
                      exact J168 0 0 lm134 mn134 sn134 Z6 hR6 (by rw [h6t]; exact hFI.free) (Or.inl rfl) h6o' _ _ _ B (lv_sub hl [0, 1, 2, 3, 4, 5, 6] rfl)
                    · exfalso; omega
                  · refine x_iconst hx hb d_Mo_findRoot_141 ?_
                    refine lv_goto (tgt := 146) hx hb d_Mo_findRoot_142 (by decide) ?_
                    refine lv_istore (lv' := [(5, .int (iI 1)), (6, .int (iI lf)), (4, .int (iI ((b : Int)))), (0, .ref y), (1, .int (iI ((to : Int)))), (2, .int (iI ((i0 : Int)))), (3, .int (iI far))]) hx hb d_Mo_findRoot_146 hl (by decide) rfl (fun ls hl => ?_)
                    refine lv_iload hx hb d_Mo_findRoot_148 (lv_at hl 0 rfl) ?_
                    refine x_if_eq (tgt := 165) hx hb d_Mo_findRoot_150 (by decide) (by omega) (fun h150 => ?_) (fun h150 => ?_)
                    · exfalso; omega
                    · refine lv_aload_n hx hb d_Mo_findRoot_153 rfl (lv_at hl 3 rfl) ?_
                      refine x_bipush hx hb d_Mo_findRoot_154 (by decide) ?_
                      refine lv_iload_n hx hb d_Mo_findRoot_156 rfl (lv_at hl 4 rfl) ?_
                      refine lv_iload hx hb d_Mo_findRoot_157 (lv_at hl 2 rfl) ?_
                      refine x_calli B hA (va_runV (As := [.int (iI 60), .int (iI ((to : Int))), .int (iI ((b : Int)))]) (rest := []) ⟨hx, hb, hml, hown, hts⟩ (c_Mo_signDyadic l D cs _ _ _ y m1 m2 m3 m5 m6 m7 m8 m9 m10 m11 m12 m13 m15 th pn ((n : Int)) fu fb lm134 mn134 sn134 Z6 60 to b nn a0 269 (hF.pick [0, 1, 2, 3] rfl rfl) (mw_get (X := [(y, .inr (7, [.int (iI th), .ref m1, .ref m2, .ref m3, .int (iI pn), .ref m5, .ref m6, .ref m7, .ref m8, .ref m9, .ref m10, .ref m11, .ref m12, .ref m13, .int (iI ((n : Int))), .ref m15, .long (lI fu), .long (lI fb)])), (m1, .inl (cs 0, 11520, .inl (ai lm134))), (m2, .inl (cs 0, 180, .inl (ai mn134))), (m3, .inl (cs 0, 180, .inl (ai sn134)))]) hF.1 (k := 0) rfl) (mw_get (X := [(y, .inr (7, [.int (iI th), .ref m1, .ref m2, .ref m3, .int (iI pn), .ref m5, .ref m6, .ref m7, .ref m8, .ref m9, .ref m10, .ref m11, .ref m12, .ref m13, .int (iI ((n : Int))), .ref m15, .long (lI fu), .long (lI fb)])), (m1, .inl (cs 0, 11520, .inl (ai lm134))), (m2, .inl (cs 0, 180, .inl (ai mn134))), (m3, .inl (cs 0, 180, .inl (ai sn134)))]) hF.1 (k := 1) rfl) (mw_get (X := [(y, .inr (7, [.int (iI th), .ref m1, .ref m2, .ref m3, .int (iI pn), .ref m5, .ref m6, .ref m7, .ref m8, .ref m9, .ref m10, .ref m11, .ref m12, .ref m13, .int (iI ((n : Int))), .ref m15, .long (lI fu), .long (lI fb)])), (m1, .inl (cs 0, 11520, .inl (ai lm134))), (m2, .inl (cs 0, 180, .inl (ai mn134))), (m3, .inl (cs 0, 180, .inl (ai sn134)))]) hF.1 (k := 2) rfl) (mw_get (X := [(y, .inr (7, [.int (iI th), .ref m1, .ref m2, .ref m3, .int (iI pn), .ref m5, .ref m6, .ref m7, .ref m8, .ref m9, .ref m10, .ref m11, .ref m12, .ref m13, .int (iI ((n : Int))), .ref m15, .long (lI fu), .long (lI fb)])), (m1, .inl (cs 0, 11520, .inl (ai lm134))), (m2, .inl (cs 0, 180, .inl (ai mn134))), (m3, .inl (cs 0, 180, .inl (ai sn134)))]) hF.1 (k := 3) rfl) hR6 (by omega) (by omega) ⟨by omega, by omega, by omega⟩ hnn (fun j h1 h2 => by rw [(fun j hj => h6o' _ (by omega) (by omega) (by omega)) j h2]; exact hpe j h1 h2) (by rw [(fun j hj => h6o' _ (by omega) (by omega) (by omega)) nn hnn]; exact hpn) (by omega) (fun j hj => by rw [(fun j hj => h6o' _ (by omega) (by omega) (by omega)) j hj]; exact hca j hj) (by rw [h6t]; exact (Int.lt_trans hb1 (pow2_lt (by decide)))) (by have h9 : (2 : Int) ^ b < 2 ^ 269 := pow2_lt (by omega); have h8 := pw2 (b); omega) hroom) (cwV 3 hts (gw_V w_915 w_917 s_61 w_8 w_918) rfl rfl rfl (by decide +kernel) ⟨by rw [hRf]; exact Nat.le_of_ble_eq_true rfl, by rw [hRl]; exact Nat.le_of_ble_eq_true rfl⟩) ⟨K0.blind, B.recv (hF.2 _ (mw_key (k := 0) (X := [(y, .inr (7, [.int (iI th), .ref m1, .ref m2, .ref m3, .int (iI pn), .ref m5, .ref m6, .ref m7, .ref m8, .ref m9, .ref m10, .ref m11, .ref m12, .ref m13, .int (iI ((n : Int))), .ref m15, .long (lI fu), .long (lI fb)])), (m1, .inl (cs 0, 11520, .inl (ai lm134))), (m2, .inl (cs 0, 180, .inl (ai mn134))), (m3, .inl (cs 0, 180, .inl (ai sn134)))]) rfl)) (mw_get (X := [(y, .inr (7, [.int (iI th), .ref m1, .ref m2, .ref m3, .int (iI pn), .ref m5, .ref m6, .ref m7, .ref m8, .ref m9, .ref m10, .ref m11, .ref m12, .ref m13, .int (iI ((n : Int))), .ref m15, .long (lI fu), .long (lI fb)])), (m1, .inl (cs 0, 11520, .inl (ai lm134))), (m2, .inl (cs 0, 180, .inl (ai mn134))), (m3, .inl (cs 0, 180, .inl (ai sn134)))]) hF.1 (k := 0) rfl) rfl, B.pre _⟩ rfl rfl hl.1 rfl (lv_room (Nat.le_of_ble_eq_true rfl)) d_Mo_findRoot_159 ⟨by rw [hRc]; omega, by rw [hRs]; omega⟩) (fun r159 g159 H locs hw B => ?_)
                      obtain ⟨lm159, mn159, sn159, Z7, rfl, hR7, _, h7o, rfl⟩ := hw
                      have B := B.of_eq (mw_put3 (X := [(y, .inr (7, [.int (iI th), .ref m1, .ref m2, .ref m3, .int (iI pn), .ref m5, .ref m6, .ref m7, .ref m8, .ref m9, .ref m10, .ref m11, .ref m12, .ref m13, .int (iI ((n : Int))), .ref m15, .long (lI fu), .long (lI fb)])), (m1, .inl (cs 0, 11520, .inl (ai lm134))), (m2, .inl (cs 0, 180, .inl (ai mn134))), (m3, .inl (cs 0, 180, .inl (ai sn134)))]) hF.1 (k1 := 1) (k2 := 2) (k3 := 3) rfl rfl rfl)
                      have B : Wb D vwCl (TY cs) L (mw f [(y, .inr (7, [.int (iI th), .ref m1, .ref m2, .ref m3, .int (iI pn), .ref m5, .ref m6, .ref m7, .ref m8, .ref m9, .ref m10, .ref m11, .ref m12, .ref m13, .int (iI ((n : Int))), .ref m15, .long (lI fu), .long (lI fb)])), (m1, .inl (cs 0, 11520, .inl (ai lm159))), (m2, .inl (cs 0, 180, .inl (ai mn159))), (m3, .inl (cs 0, 180, .inl (ai sn159)))]) (AL L s.heap.size) s H _ := B
                      have hs159 : (hsum (fun j => Z6 (60 + j)) nn (Z6 to) (2 ^ b) nn).sign = sg (F (Pt (Z2 to) b)) := by
                        have h8 := sgn_at (c := fun j => Z6 (60 + j)) (k := nn + 1) (u := Z6 to) (v := 2 ^ b) (pw2 _) (by omega) (fun j h1 h2 => ((fun j hj => h6o' _ (by omega) (by omega) (by omega)) j h2).trans (hpe j (by omega) h2))
                        rw [if_neg (by omega), Nat.add_sub_cancel] at h8
                        rw [h8, h6t, hFd]
                        exact congrArg sg (es_congr (fun j hj => h6o' _ (by omega) (by omega) (by omega)) _)
                      rw [hs159]
                      have hm159 := sg_mem (F (Pt (Z2 to) b))
                      have h7t : Z7 to = Z2 to := by rw [h7o to (by omega) (by omega) (by omega)]; exact h6t
                      have h7o' : ∀ w, w ≠ to → (w < 150 ∨ 156 < w) → w ≠ 178 → Z7 w = Z w := fun w h1 h2 h3 => by rw [h7o w (by omega) (by omega) h3]; exact h6o' w h1 h2 h3
                      refine lv_goto (tgt := 166) hx hb d_Mo_findRoot_162 (by decide) ?_
                      refine lv_istore (lv' := [(6, .int (iI (sg (F (Pt (Z2 to) b))))), (5, .int (iI 1)), (4, .int (iI ((b : Int)))), (0, .ref y), (1, .int (iI ((to : Int)))), (2, .int (iI ((i0 : Int)))), (3, .int (iI far))]) hx hb d_Mo_findRoot_166 hl (by decide) rfl (fun ls hl => ?_)
                      exact J168 1 (sg (F (Pt (Z2 to) b))) lm159 mn159 sn159 Z7 hR7 (by rw [h7t]; exact hFI.alone (by rw [show Z2 to + 1 = Z2 to + 1 * 1 by omega]; omega) (by omega)) (Or.inr rfl) h7o' _ _ _ B (lv_sub hl [0, 1, 2, 3, 4, 5, 6] rfl)
        exact L2 _ 0 0 0 lm2 mn2 sn2 Z2 (Nat.lt_succ_self _) (by omega) hR2 (hF2.last (by omega)) (Or.inl rfl) ho _ _ _ B (lv_sub hl [0, 1, 2, 3, 4, 5, 6] rfl)
      · have hp11 : (2 : Int) ^ (kk - 1) ≤ 2048 := pow2_le (j := 11) (by omega)
        have hp10 := pw2 (kk - 1)
        have hq1 := hF2.1
        have hq2 := hF2.2.1
        have hq3 := pw2 kk
        have hsm : ∀ z : Int, -10000 ≤ z → z ≤ 10000 → (z.natAbs : Int) < 2 ^ 269 := fun z h1 h2 => Int.lt_of_lt_of_le (show (z.natAbs : Int) < 2 ^ 14 by omega) (pow2_le (by decide))
        refine lv_aload_n hx hb d_Mo_findRoot_21 rfl (lv_at hl 1 rfl) ?_
        refine x_sipush hx hb d_Mo_findRoot_22 (by decide) ?_
        refine x_lconst (z := 1) hx hb d_Mo_findRoot_25 (by decide) ?_
        refine lv_iload hx hb d_Mo_findRoot_26 (lv_at hl 0 rfl) ?_
        refine x_lshlv hx hb (kk - 1) (by omega) (by omega) d_Mo_findRoot_28 ?_
        refine x_callv B hA (va_runV (As := [.int (iI 155), .long (lI (1 * 2 ^ (kk - 1)))]) (rest := []) ⟨hx, hb, hml, hown, hts⟩ (c_Mo_lay0 l D cs _ _ _ y m1 m2 m3 m5 m6 m7 m8 m9 m10 m11 m12 m13 m15 th pn ((n : Int)) fu fb lm2 mn2 sn2 Z2 155 (1 * 2 ^ (kk - 1)) (hF.pick [0, 1, 2, 3] rfl rfl) (mw_get (X := [(y, .inr (7, [.int (iI th), .ref m1, .ref m2, .ref m3, .int (iI pn), .ref m5, .ref m6, .ref m7, .ref m8, .ref m9, .ref m10, .ref m11, .ref m12, .ref m13, .int (iI ((n : Int))), .ref m15, .long (lI fu), .long (lI fb)])), (m1, .inl (cs 0, 11520, .inl (ai lm2))), (m2, .inl (cs 0, 180, .inl (ai mn2))), (m3, .inl (cs 0, 180, .inl (ai sn2)))]) hF.1 (k := 0) rfl) (mw_get (X := [(y, .inr (7, [.int (iI th), .ref m1, .ref m2, .ref m3, .int (iI pn), .ref m5, .ref m6, .ref m7, .ref m8, .ref m9, .ref m10, .ref m11, .ref m12, .ref m13, .int (iI ((n : Int))), .ref m15, .long (lI fu), .long (lI fb)])), (m1, .inl (cs 0, 11520, .inl (ai lm2))), (m2, .inl (cs 0, 180, .inl (ai mn2))), (m3, .inl (cs 0, 180, .inl (ai sn2)))]) hF.1 (k := 1) rfl) (mw_get (X := [(y, .inr (7, [.int (iI th), .ref m1, .ref m2, .ref m3, .int (iI pn), .ref m5, .ref m6, .ref m7, .ref m8, .ref m9, .ref m10, .ref m11, .ref m12, .ref m13, .int (iI ((n : Int))), .ref m15, .long (lI fu), .long (lI fb)])), (m1, .inl (cs 0, 11520, .inl (ai lm2))), (m2, .inl (cs 0, 180, .inl (ai mn2))), (m3, .inl (cs 0, 180, .inl (ai sn2)))]) hF.1 (k := 2) rfl) (mw_get (X := [(y, .inr (7, [.int (iI th), .ref m1, .ref m2, .ref m3, .int (iI pn), .ref m5, .ref m6, .ref m7, .ref m8, .ref m9, .ref m10, .ref m11, .ref m12, .ref m13, .int (iI ((n : Int))), .ref m15, .long (lI fu), .long (lI fb)])), (m1, .inl (cs 0, 11520, .inl (ai lm2))), (m2, .inl (cs 0, 180, .inl (ai mn2))), (m3, .inl (cs 0, 180, .inl (ai sn2)))]) hF.1 (k := 3) rfl) hR2 (by decide) (by omega)) (cwV 2 hts (gw_V w_792 w_794 s_35 w_8 w_795) rfl rfl rfl (by decide +kernel) ⟨by rw [hRf]; exact Nat.le_of_ble_eq_true rfl, by rw [hRl]; exact Nat.le_of_ble_eq_true rfl⟩) ⟨K0.blind, B.recv (hF.2 _ (mw_key (k := 0) (X := [(y, .inr (7, [.int (iI th), .ref m1, .ref m2, .ref m3, .int (iI pn), .ref m5, .ref m6, .ref m7, .ref m8, .ref m9, .ref m10, .ref m11, .ref m12, .ref m13, .int (iI ((n : Int))), .ref m15, .long (lI fu), .long (lI fb)])), (m1, .inl (cs 0, 11520, .inl (ai lm2))), (m2, .inl (cs 0, 180, .inl (ai mn2))), (m3, .inl (cs 0, 180, .inl (ai sn2)))]) rfl)) (mw_get (X := [(y, .inr (7, [.int (iI th), .ref m1, .ref m2, .ref m3, .int (iI pn), .ref m5, .ref m6, .ref m7, .ref m8, .ref m9, .ref m10, .ref m11, .ref m12, .ref m13, .int (iI ((n : Int))), .ref m15, .long (lI fu), .long (lI fb)])), (m1, .inl (cs 0, 11520, .inl (ai lm2))), (m2, .inl (cs 0, 180, .inl (ai mn2))), (m3, .inl (cs 0, 180, .inl (ai sn2)))]) hF.1 (k := 0) rfl) rfl, B.pre _⟩ rfl rfl hl.1 rfl (lv_room (Nat.le_of_ble_eq_true rfl)) d_Mo_findRoot_29 ⟨by rw [hRc]; omega, by rw [hRs]; omega⟩) (fun g29 H locs hw B => ?_)
        obtain ⟨lm29, mn29, sn29, hR3, rfl⟩ := hw
        have B := B.of_eq (mw_put3 (X := [(y, .inr (7, [.int (iI th), .ref m1, .ref m2, .ref m3, .int (iI pn), .ref m5, .ref m6, .ref m7, .ref m8, .ref m9, .ref m10, .ref m11, .ref m12, .ref m13, .int (iI ((n : Int))), .ref m15, .long (lI fu), .long (lI fb)])), (m1, .inl (cs 0, 11520, .inl (ai lm2))), (m2, .inl (cs 0, 180, .inl (ai mn2))), (m3, .inl (cs 0, 180, .inl (ai sn2)))]) hF.1 (k1 := 1) (k2 := 2) (k3 := 3) rfl rfl rfl)
        have B : Wb D vwCl (TY cs) L (mw f [(y, .inr (7, [.int (iI th), .ref m1, .ref m2, .ref m3, .int (iI pn), .ref m5, .ref m6, .ref m7, .ref m8, .ref m9, .ref m10, .ref m11, .ref m12, .ref m13, .int (iI ((n : Int))), .ref m15, .long (lI fu), .long (lI fb)])), (m1, .inl (cs 0, 11520, .inl (ai lm29))), (m2, .inl (cs 0, 180, .inl (ai mn29))), (m3, .inl (cs 0, 180, .inl (ai sn29)))]) (AL L s.heap.size) s H _ := B
        refine lv_aload_n hx hb d_Mo_findRoot_32 rfl (lv_at hl 1 rfl) ?_
        refine x_sipush hx hb d_Mo_findRoot_33 (by decide) ?_
        refine lv_iload_n hx hb d_Mo_findRoot_36 rfl (lv_at hl 2 rfl) ?_
        refine x_sipush hx hb d_Mo_findRoot_37 (by decide) ?_
        refine x_iconst hx hb d_Mo_findRoot_40 ?_
        have z3t : up Z2 155 (1 * 2 ^ (kk - 1)) to = Z2 to := up_ne _ _ (by omega)
        refine x_callv B hA (va_runV (As := [.int (iI 155), .int (iI ((to : Int))), .int (iI 155), .int (iI 1)]) (rest := []) ⟨hx, hb, hml, hown, hts⟩ (c_Mo_add l D cs _ _ _ y m1 m2 m3 m5 m6 m7 m8 m9 m10 m11 m12 m13 m15 th pn ((n : Int)) fu fb lm29 mn29 sn29 (up Z2 155 (1 * 2 ^ (kk - 1))) 155 to 155 1 (hF.pick [0, 1, 2, 3] rfl rfl) (mw_get (X := [(y, .inr (7, [.int (iI th), .ref m1, .ref m2, .ref m3, .int (iI pn), .ref m5, .ref m6, .ref m7, .ref m8, .ref m9, .ref m10, .ref m11, .ref m12, .ref m13, .int (iI ((n : Int))), .ref m15, .long (lI fu), .long (lI fb)])), (m1, .inl (cs 0, 11520, .inl (ai lm29))), (m2, .inl (cs 0, 180, .inl (ai mn29))), (m3, .inl (cs 0, 180, .inl (ai sn29)))]) hF.1 (k := 0) rfl) (mw_get (X := [(y, .inr (7, [.int (iI th), .ref m1, .ref m2, .ref m3, .int (iI pn), .ref m5, .ref m6, .ref m7, .ref m8, .ref m9, .ref m10, .ref m11, .ref m12, .ref m13, .int (iI ((n : Int))), .ref m15, .long (lI fu), .long (lI fb)])), (m1, .inl (cs 0, 11520, .inl (ai lm29))), (m2, .inl (cs 0, 180, .inl (ai mn29))), (m3, .inl (cs 0, 180, .inl (ai sn29)))]) hF.1 (k := 1) rfl) (mw_get (X := [(y, .inr (7, [.int (iI th), .ref m1, .ref m2, .ref m3, .int (iI pn), .ref m5, .ref m6, .ref m7, .ref m8, .ref m9, .ref m10, .ref m11, .ref m12, .ref m13, .int (iI ((n : Int))), .ref m15, .long (lI fu), .long (lI fb)])), (m1, .inl (cs 0, 11520, .inl (ai lm29))), (m2, .inl (cs 0, 180, .inl (ai mn29))), (m3, .inl (cs 0, 180, .inl (ai sn29)))]) hF.1 (k := 2) rfl) (mw_get (X := [(y, .inr (7, [.int (iI th), .ref m1, .ref m2, .ref m3, .int (iI pn), .ref m5, .ref m6, .ref m7, .ref m8, .ref m9, .ref m10, .ref m11, .ref m12, .ref m13, .int (iI ((n : Int))), .ref m15, .long (lI fu), .long (lI fb)])), (m1, .inl (cs 0, 11520, .inl (ai lm29))), (m2, .inl (cs 0, 180, .inl (ai mn29))), (m3, .inl (cs 0, 180, .inl (ai sn29)))]) hF.1 (k := 3) rfl) hR3 (by decide) (by omega) (by decide) (Or.inl rfl) (by rw [z3t]; exact sm_Mp (hsm _ (by omega) (by omega))) (by rw [up_self]; exact sm_Mp (hsm _ (by omega) (by omega)))) (cwV 4 hts (gw_V w_820 w_822 s_41 w_8 w_823) rfl rfl rfl (by decide +kernel) ⟨by rw [hRf]; exact Nat.le_of_ble_eq_true rfl, by rw [hRl]; exact Nat.le_of_ble_eq_true rfl⟩) ⟨K0.blind, B.recv (hF.2 _ (mw_key (k := 0) (X := [(y, .inr (7, [.int (iI th), .ref m1, .ref m2, .ref m3, .int (iI pn), .ref m5, .ref m6, .ref m7, .ref m8, .ref m9, .ref m10, .ref m11, .ref m12, .ref m13, .int (iI ((n : Int))), .ref m15, .long (lI fu), .long (lI fb)])), (m1, .inl (cs 0, 11520, .inl (ai lm29))), (m2, .inl (cs 0, 180, .inl (ai mn29))), (m3, .inl (cs 0, 180, .inl (ai sn29)))]) rfl)) (mw_get (X := [(y, .inr (7, [.int (iI th), .ref m1, .ref m2, .ref m3, .int (iI pn), .ref m5, .ref m6, .ref m7, .ref m8, .ref m9, .ref m10, .ref m11, .ref m12, .ref m13, .int (iI ((n : Int))), .ref m15, .long (lI fu), .long (lI fb)])), (m1, .inl (cs 0, 11520, .inl (ai lm29))), (m2, .inl (cs 0, 180, .inl (ai mn29))), (m3, .inl (cs 0, 180, .inl (ai sn29)))]) hF.1 (k := 0) rfl) rfl, B.pre _⟩ rfl rfl hl.1 rfl (lv_room (Nat.le_of_ble_eq_true rfl)) d_Mo_findRoot_41 ⟨by rw [hRc]; omega, by rw [hRs]; omega⟩) (fun g41 H locs hw B => ?_)
        obtain ⟨lm41, mn41, sn41, hR4, rfl⟩ := hw
        have B := B.of_eq (mw_put3 (X := [(y, .inr (7, [.int (iI th), .ref m1, .ref m2, .ref m3, .int (iI pn), .ref m5, .ref m6, .ref m7, .ref m8, .ref m9, .ref m10, .ref m11, .ref m12, .ref m13, .int (iI ((n : Int))), .ref m15, .long (lI fu), .long (lI fb)])), (m1, .inl (cs 0, 11520, .inl (ai lm29))), (m2, .inl (cs 0, 180, .inl (ai mn29))), (m3, .inl (cs 0, 180, .inl (ai sn29)))]) hF.1 (k1 := 1) (k2 := 2) (k3 := 3) rfl rfl rfl)
        have B : Wb D vwCl (TY cs) L (mw f [(y, .inr (7, [.int (iI th), .ref m1, .ref m2, .ref m3, .int (iI pn), .ref m5, .ref m6, .ref m7, .ref m8, .ref m9, .ref m10, .ref m11, .ref m12, .ref m13, .int (iI ((n : Int))), .ref m15, .long (lI fu), .long (lI fb)])), (m1, .inl (cs 0, 11520, .inl (ai lm41))), (m2, .inl (cs 0, 180, .inl (ai mn41))), (m3, .inl (cs 0, 180, .inl (ai sn41)))]) (AL L s.heap.size) s H _ := B
        rw [z3t, up_self, up_up] at hR4
        obtain ⟨Z4, hZ4⟩ : ∃ Z4, Z4 = up Z2 155 (Z2 to + 1 * (1 * 2 ^ (kk - 1))) := ⟨_, rfl⟩
        rw [← hZ4] at hR4
        have h4v : Z4 155 = Z2 to + 1 * (1 * 2 ^ (kk - 1)) := by rw [hZ4, up_self]
        have h4t : Z4 to = Z2 to := by rw [hZ4, up_ne _ _ (by omega)]
        have h4r : ∀ k, k < n → ∀ j, j < 6 → Z4 (60 + 6 * k + j) = Z (60 + 6 * k + j) := fun k hk j hj => by rw [hZ4, up_ne _ _ (by omega)]; exact ho _ (by omega) (by omega) (by omega)
        have h4o : ∀ w, w ≠ to → (w < 150 ∨ 156 < w) → w ≠ 178 → Z4 w = Z w := fun w h1 h2 h3 => by rw [hZ4, up_ne _ _ (by omega)]; exact ho w h1 h2 h3
        refine lv_aload_n hx hb d_Mo_findRoot_44 rfl (lv_at hl 1 rfl) ?_
        refine lv_iload_n hx hb d_Mo_findRoot_45 rfl (lv_at hl 4 rfl) ?_
        refine x_sipush hx hb d_Mo_findRoot_46 (by decide) ?_
        refine x_iconst hx hb d_Mo_findRoot_49 ?_
        refine x_calli B hA (va_runV (As := [.int (iI far), .int (iI 155), .int (iI 0)]) (rest := []) ⟨hx, hb, hml, hown, hts⟩ (c_Mo_below l D cs _ _ _ y m1 m2 m3 m5 m6 m7 m8 m9 m10 m11 m12 m13 m15 th pn fu fb lm41 mn41 sn41 Z4 n 155 0 far (hF.pick [0, 1, 2, 3] rfl rfl) (mw_get (X := [(y, .inr (7, [.int (iI th), .ref m1, .ref m2, .ref m3, .int (iI pn), .ref m5, .ref m6, .ref m7, .ref m8, .ref m9, .ref m10, .ref m11, .ref m12, .ref m13, .int (iI ((n : Int))), .ref m15, .long (lI fu), .long (lI fb)])), (m1, .inl (cs 0, 11520, .inl (ai lm41))), (m2, .inl (cs 0, 180, .inl (ai mn41))), (m3, .inl (cs 0, 180, .inl (ai sn41)))]) hF.1 (k := 0) rfl) (mw_get (X := [(y, .inr (7, [.int (iI th), .ref m1, .ref m2, .ref m3, .int (iI pn), .ref m5, .ref m6, .ref m7, .ref m8, .ref m9, .ref m10, .ref m11, .ref m12, .ref m13, .int (iI ((n : Int))), .ref m15, .long (lI fu), .long (lI fb)])), (m1, .inl (cs 0, 11520, .inl (ai lm41))), (m2, .inl (cs 0, 180, .inl (ai mn41))), (m3, .inl (cs 0, 180, .inl (ai sn41)))]) hF.1 (k := 1) rfl) (mw_get (X := [(y, .inr (7, [.int (iI th), .ref m1, .ref m2, .ref m3, .int (iI pn), .ref m5, .ref m6, .ref m7, .ref m8, .ref m9, .ref m10, .ref m11, .ref m12, .ref m13, .int (iI ((n : Int))), .ref m15, .long (lI fu), .long (lI fb)])), (m1, .inl (cs 0, 11520, .inl (ai lm41))), (m2, .inl (cs 0, 180, .inl (ai mn41))), (m3, .inl (cs 0, 180, .inl (ai sn41)))]) hF.1 (k := 2) rfl) (mw_get (X := [(y, .inr (7, [.int (iI th), .ref m1, .ref m2, .ref m3, .int (iI pn), .ref m5, .ref m6, .ref m7, .ref m8, .ref m9, .ref m10, .ref m11, .ref m12, .ref m13, .int (iI ((n : Int))), .ref m15, .long (lI fu), .long (lI fb)])), (m1, .inl (cs 0, 11520, .inl (ai lm41))), (m2, .inl (cs 0, 180, .inl (ai mn41))), (m3, .inl (cs 0, 180, .inl (ai sn41)))]) hF.1 (k := 3) rfl) hR4 ⟨hn1, hn7⟩ (by decide) (hBt.congr h4r) (by omega) (by rw [h4v]; exact (hsm _ (by omega) (by omega)))) (cwV 3 hts (gw_V w_903 w_905 s_58 w_8 w_906) rfl rfl rfl (by decide +kernel) ⟨by rw [hRf]; exact Nat.le_of_ble_eq_true rfl, by rw [hRl]; exact Nat.le_of_ble_eq_true rfl⟩) ⟨K0.blind, B.recv (hF.2 _ (mw_key (k := 0) (X := [(y, .inr (7, [.int (iI th), .ref m1, .ref m2, .ref m3, .int (iI pn), .ref m5, .ref m6, .ref m7, .ref m8, .ref m9, .ref m10, .ref m11, .ref m12, .ref m13, .int (iI ((n : Int))), .ref m15, .long (lI fu), .long (lI fb)])), (m1, .inl (cs 0, 11520, .inl (ai lm41))), (m2, .inl (cs 0, 180, .inl (ai mn41))), (m3, .inl (cs 0, 180, .inl (ai sn41)))]) rfl)) (mw_get (X := [(y, .inr (7, [.int (iI th), .ref m1, .ref m2, .ref m3, .int (iI pn), .ref m5, .ref m6, .ref m7, .ref m8, .ref m9, .ref m10, .ref m11, .ref m12, .ref m13, .int (iI ((n : Int))), .ref m15, .long (lI fu), .long (lI fb)])), (m1, .inl (cs 0, 11520, .inl (ai lm41))), (m2, .inl (cs 0, 180, .inl (ai mn41))), (m3, .inl (cs 0, 180, .inl (ai sn41)))]) hF.1 (k := 0) rfl) rfl, B.pre _⟩ rfl rfl hl.1 rfl (lv_room (Nat.le_of_ble_eq_true rfl)) d_Mo_findRoot_50 ⟨by rw [hRc]; omega, by rw [hRs]; omega⟩) (fun r50 g50 H locs hw B => ?_)
        obtain ⟨lm50, mn50, sn50, Z5, rfl, hR5, h5o, rfl⟩ := hw
        have B := B.of_eq (mw_put3 (X := [(y, .inr (7, [.int (iI th), .ref m1, .ref m2, .ref m3, .int (iI pn), .ref m5, .ref m6, .ref m7, .ref m8, .ref m9, .ref m10, .ref m11, .ref m12, .ref m13, .int (iI ((n : Int))), .ref m15, .long (lI fu), .long (lI fb)])), (m1, .inl (cs 0, 11520, .inl (ai lm41))), (m2, .inl (cs 0, 180, .inl (ai mn41))), (m3, .inl (cs 0, 180, .inl (ai sn41)))]) hF.1 (k1 := 1) (k2 := 2) (k3 := 3) rfl rfl rfl)
        have B : Wb D vwCl (TY cs) L (mw f [(y, .inr (7, [.int (iI th), .ref m1, .ref m2, .ref m3, .int (iI pn), .ref m5, .ref m6, .ref m7, .ref m8, .ref m9, .ref m10, .ref m11, .ref m12, .ref m13, .int (iI ((n : Int))), .ref m15, .long (lI fu), .long (lI fb)])), (m1, .inl (cs 0, 11520, .inl (ai lm50))), (m2, .inl (cs 0, 180, .inl (ai mn50))), (m3, .inl (cs 0, 180, .inl (ai sn50)))]) (AL L s.heap.size) s H _ := B
        have hb50 : far - tn0 (Sat Z4 ((Z4 155 : Rat) / ((2 ^ 0 : Int) : Rat))) n = Nb (Pt (Z2 to + 1 * (1 * 2 ^ (kk - 1))) 0) := by rw [h4v]; exact (congrArg (far - ·) (tn0_congr hn1 (fun k hk => Sat_congr (h4r k hk)))).trans (hNb _)
        rw [hb50]
        have hr50 := hNr (Pt (Z2 to + 1 * (1 * 2 ^ (kk - 1))) 0)
        have h5t : Z5 to = Z2 to := by rw [h5o to (by omega) (by omega)]; exact h4t
        have h5v : Z5 155 = Z2 to + 1 * (1 * 2 ^ (kk - 1)) := by rw [h5o 155 (by omega) (by omega)]; exact h4v
        have h5o' : ∀ w, w ≠ to → (w < 150 ∨ 156 < w) → w ≠ 178 → Z5 w = Z w := fun w h1 h2 h3 => by rw [h5o w (by omega) h3]; exact h4o w h1 h2 h3
        refine lv_iload_n hx hb d_Mo_findRoot_53 rfl (lv_at hl 3 rfl) ?_
        refine x_icmp_gt (tgt := 65) hx hb d_Mo_findRoot_54 (by decide) (by omega) (by omega) (fun h54 => ?_) (fun h54 => ?_)
        · refine x_iinc (lv' := [(5, .int (iI (((kk : Int) - 1) + (-1)))), (0, .ref y), (1, .int (iI ((to : Int)))), (2, .int (iI ((i0 : Int)))), (3, .int (iI far))]) hx hb d_Mo_findRoot_65 hl (q := 0) rfl rfl (by decide) rfl (fun ls hl => ?_)
          refine lv_goto (tgt := 16) hx hb d_Mo_findRoot_68 (by decide) ?_
          rw [show (kk : Int) - 1 + (-1) = ((kk - 1 : Nat) : Int) - 1 by omega] at hl
          exact ih_LP (kk - 1) lm50 mn50 sn50 Z5 (by omega) (by omega) hR5 (by rw [h5t]; exact hF2.low (by omega) (by omega)) h5o' _ _ _ B (lv_sub hl [0, 1, 2, 3, 4] rfl)
        · refine lv_aload_n hx hb d_Mo_findRoot_57 rfl (lv_at hl 1 rfl) ?_
          refine lv_iload_n hx hb d_Mo_findRoot_58 rfl (lv_at hl 2 rfl) ?_
          refine x_sipush hx hb d_Mo_findRoot_59 (by decide) ?_
          refine x_callv B hA (va_runV (As := [.int (iI ((to : Int))), .int (iI 155)]) (rest := []) ⟨hx, hb, hml, hown, hts⟩ (c_Mo_copy l D cs _ _ _ y m1 m2 m3 m5 m6 m7 m8 m9 m10 m11 m12 m13 m15 th pn ((n : Int)) fu fb lm50 mn50 sn50 Z5 to 155 (hF.pick [0, 1, 2, 3] rfl rfl) (mw_get (X := [(y, .inr (7, [.int (iI th), .ref m1, .ref m2, .ref m3, .int (iI pn), .ref m5, .ref m6, .ref m7, .ref m8, .ref m9, .ref m10, .ref m11, .ref m12, .ref m13, .int (iI ((n : Int))), .ref m15, .long (lI fu), .long (lI fb)])), (m1, .inl (cs 0, 11520, .inl (ai lm50))), (m2, .inl (cs 0, 180, .inl (ai mn50))), (m3, .inl (cs 0, 180, .inl (ai sn50)))]) hF.1 (k := 0) rfl) (mw_get (X := [(y, .inr (7, [.int (iI th), .ref m1, .ref m2, .ref m3, .int (iI pn), .ref m5, .ref m6, .ref m7, .ref m8, .ref m9, .ref m10, .ref m11, .ref m12, .ref m13, .int (iI ((n : Int))), .ref m15, .long (lI fu), .long (lI fb)])), (m1, .inl (cs 0, 11520, .inl (ai lm50))), (m2, .inl (cs 0, 180, .inl (ai mn50))), (m3, .inl (cs 0, 180, .inl (ai sn50)))]) hF.1 (k := 1) rfl) (mw_get (X := [(y, .inr (7, [.int (iI th), .ref m1, .ref m2, .ref m3, .int (iI pn), .ref m5, .ref m6, .ref m7, .ref m8, .ref m9, .ref m10, .ref m11, .ref m12, .ref m13, .int (iI ((n : Int))), .ref m15, .long (lI fu), .long (lI fb)])), (m1, .inl (cs 0, 11520, .inl (ai lm50))), (m2, .inl (cs 0, 180, .inl (ai mn50))), (m3, .inl (cs 0, 180, .inl (ai sn50)))]) hF.1 (k := 2) rfl) (mw_get (X := [(y, .inr (7, [.int (iI th), .ref m1, .ref m2, .ref m3, .int (iI pn), .ref m5, .ref m6, .ref m7, .ref m8, .ref m9, .ref m10, .ref m11, .ref m12, .ref m13, .int (iI ((n : Int))), .ref m15, .long (lI fu), .long (lI fb)])), (m1, .inl (cs 0, 11520, .inl (ai lm50))), (m2, .inl (cs 0, 180, .inl (ai mn50))), (m3, .inl (cs 0, 180, .inl (ai sn50)))]) hF.1 (k := 3) rfl) hR5 (by omega) (by decide)) (cwV 2 hts (gw_V w_804 w_806 s_38 w_8 w_807) rfl rfl rfl (by decide +kernel) ⟨by rw [hRf]; exact Nat.le_of_ble_eq_true rfl, by rw [hRl]; exact Nat.le_of_ble_eq_true rfl⟩) ⟨K0.blind, B.recv (hF.2 _ (mw_key (k := 0) (X := [(y, .inr (7, [.int (iI th), .ref m1, .ref m2, .ref m3, .int (iI pn), .ref m5, .ref m6, .ref m7, .ref m8, .ref m9, .ref m10, .ref m11, .ref m12, .ref m13, .int (iI ((n : Int))), .ref m15, .long (lI fu), .long (lI fb)])), (m1, .inl (cs 0, 11520, .inl (ai lm50))), (m2, .inl (cs 0, 180, .inl (ai mn50))), (m3, .inl (cs 0, 180, .inl (ai sn50)))]) rfl)) (mw_get (X := [(y, .inr (7, [.int (iI th), .ref m1, .ref m2, .ref m3, .int (iI pn), .ref m5, .ref m6, .ref m7, .ref m8, .ref m9, .ref m10, .ref m11, .ref m12, .ref m13, .int (iI ((n : Int))), .ref m15, .long (lI fu), .long (lI fb)])), (m1, .inl (cs 0, 11520, .inl (ai lm50))), (m2, .inl (cs 0, 180, .inl (ai mn50))), (m3, .inl (cs 0, 180, .inl (ai sn50)))]) hF.1 (k := 0) rfl) rfl, B.pre _⟩ rfl rfl hl.1 rfl (lv_room (Nat.le_of_ble_eq_true rfl)) d_Mo_findRoot_62 ⟨by rw [hRc]; omega, by rw [hRs]; omega⟩) (fun g62 H locs hw B => ?_)
          obtain ⟨lm62, mn62, sn62, hR6, rfl⟩ := hw
          have B := B.of_eq (mw_put3 (X := [(y, .inr (7, [.int (iI th), .ref m1, .ref m2, .ref m3, .int (iI pn), .ref m5, .ref m6, .ref m7, .ref m8, .ref m9, .ref m10, .ref m11, .ref m12, .ref m13, .int (iI ((n : Int))), .ref m15, .long (lI fu), .long (lI fb)])), (m1, .inl (cs 0, 11520, .inl (ai lm50))), (m2, .inl (cs 0, 180, .inl (ai mn50))), (m3, .inl (cs 0, 180, .inl (ai sn50)))]) hF.1 (k1 := 1) (k2 := 2) (k3 := 3) rfl rfl rfl)
          have B : Wb D vwCl (TY cs) L (mw f [(y, .inr (7, [.int (iI th), .ref m1, .ref m2, .ref m3, .int (iI pn), .ref m5, .ref m6, .ref m7, .ref m8, .ref m9, .ref m10, .ref m11, .ref m12, .ref m13, .int (iI ((n : Int))), .ref m15, .long (lI fu), .long (lI fb)])), (m1, .inl (cs 0, 11520, .inl (ai lm62))), (m2, .inl (cs 0, 180, .inl (ai mn62))), (m3, .inl (cs 0, 180, .inl (ai sn62)))]) (AL L s.heap.size) s H _ := B
          rw [h5v] at hR6
          obtain ⟨Z6, hZ6⟩ : ∃ Z6, Z6 = up Z5 to (Z2 to + 1 * (1 * 2 ^ (kk - 1))) := ⟨_, rfl⟩
          rw [← hZ6] at hR6
          have h6t : Z6 to = Z2 to + 1 * (1 * 2 ^ (kk - 1)) := by rw [hZ6, up_self]
          have h6o : ∀ w, w ≠ to → (w < 150 ∨ 156 < w) → w ≠ 178 → Z6 w = Z w := fun w h1 h2 h3 => by rw [hZ6, up_ne _ _ h1]; exact h5o' w h1 h2 h3
          refine x_iinc (lv' := [(5, .int (iI (((kk : Int) - 1) + (-1)))), (0, .ref y), (1, .int (iI ((to : Int)))), (2, .int (iI ((i0 : Int)))), (3, .int (iI far))]) hx hb d_Mo_findRoot_65 hl (q := 0) rfl rfl (by decide) rfl (fun ls hl => ?_)
          refine lv_goto (tgt := 16) hx hb d_Mo_findRoot_68 (by decide) ?_
          rw [show (kk : Int) - 1 + (-1) = ((kk - 1 : Nat) : Int) - 1 by omega] at hl
          exact ih_LP (kk - 1) lm62 mn62 sn62 Z6 (by omega) (by omega) hR6 (by rw [h6t]; exact hF2.high (by omega) (by omega)) h6o _ _ _ B (lv_sub hl [0, 1, 2, 3, 4] rfl)
  exact LP _ 12 lm5 mn5 sn5 (up Z to (-2048)) (Nat.lt_succ_self _) (by omega) hR0 (by rw [up_self]; exact hF0) (fun w h1 _ _ => by rw [up_ne _ _ h1]) _ _ _ B (lv_sub hl [0, 2, 3, 4, 5] rfl)
