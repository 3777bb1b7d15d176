theorem dv_scale' {P C G : Nat → Int} {c : Int} (hc : c ≠ 0) (h : ∀ j, j < 6 → P j = c * C j) (hd : Dv (il G 6) (il P 6)) : Dv (il G 6) (il C 6) := by
  obtain ⟨q, hq⟩ := hd
  have hc' : (c : Rat) ≠ 0 := fun h0 => hc (by exact_mod_cast h0)
  have hcc : (c : Rat)⁻¹ * (c : Rat) = 1 := Rat.inv_mul_cancel _ hc'
  refine ⟨psc (c : Rat)⁻¹ q, fun x => ?_⟩
  have h1 := hq x
  rw [← es_ev, es_congr h x, es_sc, ← es_ev] at h1
  rw [ev_sc, ← es_ev, ← es_ev]
  grind
/-! a by its divisor with its derivative -/
theorem quo_uniq {C D G : Nat → Int} {k : Rat} (hG : Nz G) (h : ∀ x, es C 6 x * es G 6 x = k * (es D 6 x * es G 6 x)) : ∀ x, es C 6 x = k * es D 6 x := by
  have h1 : ∀ x, ev (padd (il C 6) (psc (-k) (il D 6))) x * ev (il G 6) x = 0 := fun x => by
    have := h x
    rw [ev_add, ev_sc, ← es_ev, ← es_ev, ← es_ev]
    grind
  rcases ev_dom h1 with h2 | h2
  · intro x
    have := h2 x
    rw [ev_add, ev_sc, ← es_ev, ← es_ev] at this
    grind
  · obtain ⟨j, hj, hn⟩ := hG
    exact absurd (es_row (fun x => by rw [es_ev]; exact h2 x) j hj) hn
theorem free_mk {A G C0 F : Nat → Int} (hA : Nz A) (hM : ∀ j, j < 6 → -1000 ≤ A j ∧ A j ≤ 1000) (hG : Gcd A (dva A) G) (h : ∀ x, es A 6 x = es C0 6 x * es G 6 x) (hF : PrimOf C0 F) : FreeOf A F := by
  obtain ⟨p1, hp⟩ := PrimOf.ex hA
  have hp0 := hp
  rcases hp with ⟨q1, _⟩ | ⟨c, hc, q1, q2, q3⟩
  · obtain ⟨j, hj, hn⟩ := hA; exact absurd (q1 j hj) hn
  rcases hG with ⟨g1, _⟩ | ⟨g1, g2, g3, g4, g5⟩
  · obtain ⟨j, hj, hn⟩ := hA; exact absurd (g1 j hj) hn
  have hNG : Nz G := by obtain ⟨k, h1, h2, _⟩ := g2; exact ⟨k, h1, by omega⟩
  have hNp : Nz p1 := by
    obtain ⟨k, h1, h2, _⟩ := q3; exact ⟨k, h1, by omega⟩
  have bp : ∀ j, j < 6 → -1000 ≤ p1 j ∧ p1 j ≤ 1000 := fun j hj => by
    have e1 := q1 j hj
    have e2 := hM j hj
    have e3 : ((A j).natAbs : Int) = (c.natAbs : Int) * ((p1 j).natAbs : Int) := by rw [e1, Int.natAbs_mul, Int.natCast_mul]
    have e4 : ((p1 j).natAbs : Int) ≤ (c.natAbs : Int) * ((p1 j).natAbs : Int) := by
      have := Int.mul_le_mul_of_nonneg_right (show (1 : Int) ≤ (c.natAbs : Int) by omega) (show (0 : Int) ≤ ((p1 j).natAbs : Int) by omega)
      rw [Int.one_mul] at this
      exact this
    omega
  obtain ⟨⟨C, hC⟩, _⟩ := prim_small (M := 1000) (by decide) hNp bp g1 (dv_scale' hc q1 g4)
  have hc' : (c : Rat) ≠ 0 := fun h0 => hc (by exact_mod_cast h0)
  have eC : ∀ x, es C0 6 x = (c : Rat) * es C 6 x := quo_uniq hNG (fun x => by rw [← h x, ← hC x, es_congr q1 x, es_sc])
  have rC : ∀ j, j < 6 → C0 j = c * C j := fun j hj => by
    have h1 := es_row (c := fun j => C0 j + -c * C j) (n := 6) (fun x => by rw [es_add, es_sc, eC x]; simp only [Rat.intCast_neg]; grind) j hj
    show C0 j = c * C j
    have h2 : C0 j + -c * C j = 0 := h1
    rw [Int.neg_mul] at h2
    omega
  have hNC : Nz C := (nz_parts hNp hC).2
  obtain ⟨F', hF'⟩ := PrimOf.ex hNC
  have hF0 : PrimOf C0 F' := by
    rcases hF' with ⟨r1, _⟩ | ⟨d, hd, r1, r2⟩
    · obtain ⟨j, hj, hn⟩ := hNC; exact absurd (r1 j hj) hn
    · exact Or.inr ⟨c * d, Int.mul_ne_zero hc hd, fun j hj => by rw [rC j hj, r1 j hj, Int.mul_assoc], r2⟩
  have hu := PrimOf.uniq hF0 hF
  exact ⟨G, p1, C, Or.inr ⟨g1, g2, g3, g4, g5⟩, hp0, hC, hF'.congr2 (fun j hj => hu j hj)⟩
/-- x t of the class's row while it is divided -/
theorem wr_top {W C0 G : Nat → Int} {nb kk : Nat} (hG : ∀ j, nb < j → j < 6 → G j = 0) (hn : nb < 6) (hk : nb < kk ∧ kk ≤ 6) (hx : ∀ t, t < 6 → (if t < kk then W t else 0) = cv (fun j => if j + nb < kk then C0 j else 0) G 5 6 t) : W (kk - 1) = C0 (kk - 1 - nb) * G nb := by
  have h1 := hx (kk - 1) (by omega)
  rw [if_pos (by omega), cv_top (t0 := kk - 1 - nb) (nb := nb) hG (fun j h2 h3 => if_neg (by omega)) (by omega) hn (by omega), if_pos (by omega), if_pos (by omega)] at h1
  exact h1
theorem wr_next {W W2 C0 G : Nat → Int} {nb kk : Nat} (hG : ∀ j, nb < j → j < 6 → G j = 0) (hn : nb < 6) (hk : nb < kk ∧ kk ≤ 6) (hx : ∀ t, t < 6 → (if t < kk then W t else 0) = cv (fun j => if j + nb < kk then C0 j else 0) G 5 6 t) (h2 : ∀ t, t < kk - 1 → W2 t = if kk - 1 - nb ≤ t then W t - C0 (kk - 1 - nb) * G (t - (kk - 1 - nb)) else W t) : ∀ t, t < 6 → (if t < kk - 1 then W2 t else 0) = cv (fun j => if j + nb < kk - 1 then C0 j else 0) G 5 6 t := by
  intro t ht
  have ht0 := wr_top hG hn hk hx
  have h3 := quo_next (x := fun t => if t < kk then W t else 0) (y := fun t => if t < kk - 1 then W2 t else 0) (D := fun j => if j + nb < kk then C0 j else 0) (B := G) (nb := nb) (t0 := kk - 1 - nb) hG (by omega) hx (fun t ht => by
    show (if t < kk - 1 then W2 t else 0) = if kk - 1 - nb ≤ t ∧ t ≤ kk - 1 - nb + nb then (if t < kk then W t else 0) - (if kk - 1 - nb + nb < kk then C0 (kk - 1 - nb) else 0) * G (t - (kk - 1 - nb)) else (if t < kk then W t else 0)
    rw [if_pos (show kk - 1 - nb + nb < kk by omega)]
    by_cases c1 : t < kk - 1
    · rw [if_pos c1, h2 t c1]
      by_cases c2 : kk - 1 - nb ≤ t
      · rw [if_pos c2, if_pos ⟨c2, by omega⟩, if_pos (by omega)]
      · rw [if_neg c2, if_neg (by omega), if_pos (by omega)]
    · rw [if_neg c1]
      by_cases c3 : t = kk - 1
      · rw [if_pos (by omega), if_pos (by omega), c3, ht0, show kk - 1 - (kk - 1 - nb) = nb by omega]; omega
      · rw [if_neg (by omega), if_neg (by omega)]) t ht
  rw [h3]
  refine cv_congr 6 (fun j hj => ?_)
  by_cases c : j = kk - 1 - nb
  · rw [c, up_self, if_neg (by omega)]
  · rw [up_ne _ _ c]
    by_cases c2 : j + nb < kk
    · rw [if_pos c2, if_pos (by omega)]
    · rw [if_neg c2, if_neg (by omega)]
theorem cv_bdk {C0 G : Nat → Int} {nb kk t : Nat} (hC : ∀ j, j < 6 → -49000 ≤ C0 j ∧ C0 j ≤ 49000) (hG : ∀ j, j < 6 → -49000 ≤ G j ∧ G j ≤ 49000) : -1000000000000000000 < cv (fun j => if j + nb < kk then C0 j else 0) G 5 6 t ∧ cv (fun j => if j + nb < kk then C0 j else 0) G 5 6 t < 1000000000000000000 := cv_bd (fun j hj => by
  have := hC j hj
  show -268435456 ≤ (if j + nb < kk then C0 j else 0) ∧ (if j + nb < kk then C0 j else 0) ≤ 268435456
  split <;> omega) (fun j hj => by have := hG j hj; omega)
theorem cv_first {A C0 G : Nat → Int} {nb kk : Nat} (hAC : ∀ x, es A 6 x = es C0 6 x * es G 6 x) (hG : ∀ j, nb < j → j < 6 → G j = 0) (hGn : G nb ≠ 0) (hn : nb < 6) (hk : kk ≤ 6) (hz : ∀ j, kk ≤ j → j < 6 → A j = 0) : ∀ t, t < 6 → (if t < kk then A t else 0) = cv (fun j => if j + nb < kk then C0 j else 0) G 5 6 t := by
  intro t ht
  have h1 := cv_of hAC t (by omega)
  rw [if_pos ht] at h1
  have h2 : cv (fun j => if j + nb < kk then C0 j else 0) G 5 6 t = cv C0 G 5 6 t := cv_congr 6 (fun j hj => by
    by_cases c : j + nb < kk
    · rw [if_pos c]
    · rw [if_neg c]
      symm
      refine Classical.byContradiction (fun hne => ?_)
      have hex : ∃ i, i < 6 ∧ (C0 i ≠ 0) := ⟨j, hj, hne⟩
      obtain ⟨i, i1, i2, i3⟩ := largest 6 hex
      have hz2 : ∀ q, i < q → q < 6 → C0 q = 0 := fun q h3 h4 => Classical.byContradiction (fun h5 => i3 q h3 h4 h5)
      have hji : j ≤ i := Classical.byContradiction (fun h3 => hne (hz2 j (by omega) hj))
      have e := cv_top (t := i + nb) hG hz2 i1 hn (Nat.le_refl _)
      rw [if_pos rfl] at e
      have d := fac_deg hAC hG hGn hn i i1 i2
      rw [cv_of hAC _ (by omega), if_pos (by omega), hz _ (by omega) (by omega)] at e
      exact Int.mul_ne_zero i2 hGn e.symm)
  rw [h2, h1]
  by_cases c : t < kk
  · rw [if_pos c]
  · rw [if_neg c, hz t (by omega) ht]
theorem quo_deg {A C0 G : Nat → Int} {nb ta k : Nat} (hAC : ∀ x, es A 6 x = es C0 6 x * es G 6 x) (hG : ∀ j, nb < j → j < 6 → G j = 0) (hGn : G nb ≠ 0) (hn : nb < 6) (hz : ∀ j, ta ≤ j → j < 6 → A j = 0) (h1 : ta ≤ k + nb) (h2 : k + nb < 6) : C0 k = 0 := by
  refine Classical.byContradiction (fun hne => ?_)
  have hex : ∃ i, i < 6 ∧ (C0 i ≠ 0) := ⟨k, by omega, hne⟩
  obtain ⟨i, i1, i2, i3⟩ := largest 6 hex
  have hz2 : ∀ q, i < q → q < 6 → C0 q = 0 := fun q h3 h4 => Classical.byContradiction (fun h5 => i3 q h3 h4 h5)
  have hji : k ≤ i := Classical.byContradiction (fun h3 => hne (hz2 k (by omega) (by omega)))
  have e := cv_top (t := i + nb) hG hz2 i1 hn (Nat.le_refl _)
  rw [if_pos rfl] at e
  have d := fac_deg hAC hG hGn hn i i1 i2
  rw [cv_of hAC _ (by omega), if_pos (by omega), hz _ (by omega) (by omega)] at e
  exact Int.mul_ne_zero i2 hGn e.symm
theorem d_RR_withoutRepeats_0 : decode prog_1_method_38_code 0 = .ok (.aload_n 1, 1) := by decide +kernel
theorem d_RR_withoutRepeats_1 : decode prog_1_method_38_code 1 = .ok (.aload_n 0, 1) := by decide +kernel
theorem d_RR_withoutRepeats_2 : decode prog_1_method_38_code 2 = .ok (.getfield 44, 3) := by decide +kernel
theorem d_RR_withoutRepeats_5 : decode prog_1_method_38_code 5 = .ok (.invokestatic 108, 3) := by decide +kernel
theorem d_RR_withoutRepeats_8 : decode prog_1_method_38_code 8 = .ok (.aload_n 0, 1) := by decide +kernel
theorem d_RR_withoutRepeats_9 : decode prog_1_method_38_code 9 = .ok (.aload_n 1, 1) := by decide +kernel
theorem d_RR_withoutRepeats_10 : decode prog_1_method_38_code 10 = .ok (.aload_n 0, 1) := by decide +kernel
theorem d_RR_withoutRepeats_11 : decode prog_1_method_38_code 11 = .ok (.getfield 44, 3) := by decide +kernel
theorem d_RR_withoutRepeats_14 : decode prog_1_method_38_code 14 = .ok (.invokevirtual 114, 3) := by decide +kernel
theorem d_RR_withoutRepeats_17 : decode prog_1_method_38_code 17 = .ok (.aload_n 1, 1) := by decide +kernel
theorem d_RR_withoutRepeats_18 : decode prog_1_method_38_code 18 = .ok (.invokestatic 88, 3) := by decide +kernel
theorem d_RR_withoutRepeats_21 : decode prog_1_method_38_code 21 = .ok (.istore_n 2, 1) := by decide +kernel
theorem d_RR_withoutRepeats_22 : decode prog_1_method_38_code 22 = .ok (.aload_n 0, 1) := by decide +kernel
theorem d_RR_withoutRepeats_23 : decode prog_1_method_38_code 23 = .ok (.getfield 48, 3) := by decide +kernel
theorem d_RR_withoutRepeats_26 : decode prog_1_method_38_code 26 = .ok (.invokestatic 88, 3) := by decide +kernel
theorem d_RR_withoutRepeats_29 : decode prog_1_method_38_code 29 = .ok (.istore_n 3, 1) := by decide +kernel
theorem d_RR_withoutRepeats_30 : decode prog_1_method_38_code 30 = .ok (.aload_n 0, 1) := by decide +kernel
theorem d_RR_withoutRepeats_31 : decode prog_1_method_38_code 31 = .ok (.aload_n 1, 1) := by decide +kernel
theorem d_RR_withoutRepeats_32 : decode prog_1_method_38_code 32 = .ok (.invokevirtual 249, 3) := by decide +kernel
theorem d_RR_withoutRepeats_35 : decode prog_1_method_38_code 35 = .ok (.iload_n 3, 1) := by decide +kernel
theorem d_RR_withoutRepeats_36 : decode prog_1_method_38_code 36 = .ok (.iconst (-1), 1) := by decide +kernel
theorem d_RR_withoutRepeats_37 : decode prog_1_method_38_code 37 = .ok (.if_icmp .ne 4, 3) := by decide +kernel
theorem d_RR_withoutRepeats_40 : decode prog_1_method_38_code 40 = .ok (.return_, 1) := by decide +kernel
theorem d_RR_withoutRepeats_41 : decode prog_1_method_38_code 41 = .ok (.aload_n 0, 1) := by decide +kernel
theorem d_RR_withoutRepeats_42 : decode prog_1_method_38_code 42 = .ok (.getfield 48, 3) := by decide +kernel
theorem d_RR_withoutRepeats_45 : decode prog_1_method_38_code 45 = .ok (.iload_n 3, 1) := by decide +kernel
theorem d_RR_withoutRepeats_46 : decode prog_1_method_38_code 46 = .ok (.iaload, 1) := by decide +kernel
theorem d_RR_withoutRepeats_47 : decode prog_1_method_38_code 47 = .ok (.i2l, 1) := by decide +kernel
theorem d_RR_withoutRepeats_48 : decode prog_1_method_38_code 48 = .ok (.lstore 4, 2) := by decide +kernel
theorem d_RR_withoutRepeats_50 : decode prog_1_method_38_code 50 = .ok (.iload_n 2, 1) := by decide +kernel
theorem d_RR_withoutRepeats_51 : decode prog_1_method_38_code 51 = .ok (.istore 6, 2) := by decide +kernel
theorem d_RR_withoutRepeats_53 : decode prog_1_method_38_code 53 = .ok (.iload 6, 2) := by decide +kernel
theorem d_RR_withoutRepeats_55 : decode prog_1_method_38_code 55 = .ok (.iload_n 3, 1) := by decide +kernel
theorem d_RR_withoutRepeats_56 : decode prog_1_method_38_code 56 = .ok (.if_icmp .lt 82, 3) := by decide +kernel
theorem d_RR_withoutRepeats_59 : decode prog_1_method_38_code 59 = .ok (.lload 4, 2) := by decide +kernel
theorem d_RR_withoutRepeats_61 : decode prog_1_method_38_code 61 = .ok (.lconst 0, 1) := by decide +kernel
theorem d_RR_withoutRepeats_62 : decode prog_1_method_38_code 62 = .ok (.lcmp, 1) := by decide +kernel
theorem d_RR_withoutRepeats_63 : decode prog_1_method_38_code 63 = .ok (.ifCond .ne 7, 3) := by decide +kernel
theorem d_RR_withoutRepeats_66 : decode prog_1_method_38_code 66 = .ok (.lconst 0, 1) := by decide +kernel
theorem d_RR_withoutRepeats_67 : decode prog_1_method_38_code 67 = .ok (.goto 13, 3) := by decide +kernel
theorem d_RR_withoutRepeats_70 : decode prog_1_method_38_code 70 = .ok (.aload_n 0, 1) := by decide +kernel
theorem d_RR_withoutRepeats_71 : decode prog_1_method_38_code 71 = .ok (.getfield 40, 3) := by decide +kernel
theorem d_RR_withoutRepeats_74 : decode prog_1_method_38_code 74 = .ok (.iload 6, 2) := by decide +kernel
theorem d_RR_withoutRepeats_76 : decode prog_1_method_38_code 76 = .ok (.laload, 1) := by decide +kernel
theorem d_RR_withoutRepeats_77 : decode prog_1_method_38_code 77 = .ok (.lload 4, 2) := by decide +kernel
theorem d_RR_withoutRepeats_79 : decode prog_1_method_38_code 79 = .ok (.ldiv, 1) := by decide +kernel
theorem d_RR_withoutRepeats_80 : decode prog_1_method_38_code 80 = .ok (.lstore 7, 2) := by decide +kernel
theorem d_RR_withoutRepeats_82 : decode prog_1_method_38_code 82 = .ok (.iconst 0, 1) := by decide +kernel
theorem d_RR_withoutRepeats_83 : decode prog_1_method_38_code 83 = .ok (.istore 9, 2) := by decide +kernel
theorem d_RR_withoutRepeats_85 : decode prog_1_method_38_code 85 = .ok (.iload 9, 2) := by decide +kernel
theorem d_RR_withoutRepeats_87 : decode prog_1_method_38_code 87 = .ok (.iload_n 3, 1) := by decide +kernel
theorem d_RR_withoutRepeats_88 : decode prog_1_method_38_code 88 = .ok (.if_icmp .ge 35, 3) := by decide +kernel
theorem d_RR_withoutRepeats_91 : decode prog_1_method_38_code 91 = .ok (.aload_n 0, 1) := by decide +kernel
theorem d_RR_withoutRepeats_92 : decode prog_1_method_38_code 92 = .ok (.getfield 40, 3) := by decide +kernel
theorem d_RR_withoutRepeats_95 : decode prog_1_method_38_code 95 = .ok (.iload 6, 2) := by decide +kernel
theorem d_RR_withoutRepeats_97 : decode prog_1_method_38_code 97 = .ok (.iload_n 3, 1) := by decide +kernel
theorem d_RR_withoutRepeats_98 : decode prog_1_method_38_code 98 = .ok (.isub, 1) := by decide +kernel
theorem d_RR_withoutRepeats_99 : decode prog_1_method_38_code 99 = .ok (.iload 9, 2) := by decide +kernel
theorem d_RR_withoutRepeats_101 : decode prog_1_method_38_code 101 = .ok (.iadd, 1) := by decide +kernel
theorem d_RR_withoutRepeats_102 : decode prog_1_method_38_code 102 = .ok (.dup2, 1) := by decide +kernel
theorem d_RR_withoutRepeats_103 : decode prog_1_method_38_code 103 = .ok (.laload, 1) := by decide +kernel
theorem d_RR_withoutRepeats_104 : decode prog_1_method_38_code 104 = .ok (.lload 7, 2) := by decide +kernel
theorem d_RR_withoutRepeats_106 : decode prog_1_method_38_code 106 = .ok (.aload_n 0, 1) := by decide +kernel
theorem d_RR_withoutRepeats_107 : decode prog_1_method_38_code 107 = .ok (.getfield 48, 3) := by decide +kernel
theorem d_RR_withoutRepeats_110 : decode prog_1_method_38_code 110 = .ok (.iload 9, 2) := by decide +kernel
theorem d_RR_withoutRepeats_112 : decode prog_1_method_38_code 112 = .ok (.iaload, 1) := by decide +kernel
theorem d_RR_withoutRepeats_113 : decode prog_1_method_38_code 113 = .ok (.i2l, 1) := by decide +kernel
theorem d_RR_withoutRepeats_114 : decode prog_1_method_38_code 114 = .ok (.lmul, 1) := by decide +kernel
theorem d_RR_withoutRepeats_115 : decode prog_1_method_38_code 115 = .ok (.lsub, 1) := by decide +kernel
theorem d_RR_withoutRepeats_116 : decode prog_1_method_38_code 116 = .ok (.lastore, 1) := by decide +kernel
theorem d_RR_withoutRepeats_117 : decode prog_1_method_38_code 117 = .ok (.iinc 9 1, 3) := by decide +kernel
theorem d_RR_withoutRepeats_120 : decode prog_1_method_38_code 120 = .ok (.goto (-35), 3) := by decide +kernel
theorem d_RR_withoutRepeats_123 : decode prog_1_method_38_code 123 = .ok (.aload_n 0, 1) := by decide +kernel
theorem d_RR_withoutRepeats_124 : decode prog_1_method_38_code 124 = .ok (.getfield 40, 3) := by decide +kernel
theorem d_RR_withoutRepeats_127 : decode prog_1_method_38_code 127 = .ok (.iload 6, 2) := by decide +kernel
theorem d_RR_withoutRepeats_129 : decode prog_1_method_38_code 129 = .ok (.lload 7, 2) := by decide +kernel
theorem d_RR_withoutRepeats_131 : decode prog_1_method_38_code 131 = .ok (.lastore, 1) := by decide +kernel
theorem d_RR_withoutRepeats_132 : decode prog_1_method_38_code 132 = .ok (.iinc 6 (-1), 3) := by decide +kernel
theorem d_RR_withoutRepeats_135 : decode prog_1_method_38_code 135 = .ok (.goto (-82), 3) := by decide +kernel
theorem d_RR_withoutRepeats_138 : decode prog_1_method_38_code 138 = .ok (.iconst 0, 1) := by decide +kernel
theorem d_RR_withoutRepeats_139 : decode prog_1_method_38_code 139 = .ok (.istore 6, 2) := by decide +kernel
theorem d_RR_withoutRepeats_141 : decode prog_1_method_38_code 141 = .ok (.iload 6, 2) := by decide +kernel
theorem d_RR_withoutRepeats_143 : decode prog_1_method_38_code 143 = .ok (.bipush 6, 2) := by decide +kernel
theorem d_RR_withoutRepeats_145 : decode prog_1_method_38_code 145 = .ok (.if_icmp .ge 38, 3) := by decide +kernel
theorem d_RR_withoutRepeats_148 : decode prog_1_method_38_code 148 = .ok (.aload_n 0, 1) := by decide +kernel
theorem d_RR_withoutRepeats_149 : decode prog_1_method_38_code 149 = .ok (.getfield 40, 3) := by decide +kernel
theorem d_RR_withoutRepeats_152 : decode prog_1_method_38_code 152 = .ok (.iload 6, 2) := by decide +kernel
theorem d_RR_withoutRepeats_154 : decode prog_1_method_38_code 154 = .ok (.iload 6, 2) := by decide +kernel
theorem d_RR_withoutRepeats_156 : decode prog_1_method_38_code 156 = .ok (.iload_n 3, 1) := by decide +kernel
theorem d_RR_withoutRepeats_157 : decode prog_1_method_38_code 157 = .ok (.iadd, 1) := by decide +kernel
theorem d_RR_withoutRepeats_158 : decode prog_1_method_38_code 158 = .ok (.bipush 6, 2) := by decide +kernel
theorem d_RR_withoutRepeats_160 : decode prog_1_method_38_code 160 = .ok (.if_icmp .ge 15, 3) := by decide +kernel
theorem d_RR_withoutRepeats_163 : decode prog_1_method_38_code 163 = .ok (.aload_n 0, 1) := by decide +kernel
theorem d_RR_withoutRepeats_164 : decode prog_1_method_38_code 164 = .ok (.getfield 40, 3) := by decide +kernel
theorem d_RR_withoutRepeats_167 : decode prog_1_method_38_code 167 = .ok (.iload 6, 2) := by decide +kernel
theorem d_RR_withoutRepeats_169 : decode prog_1_method_38_code 169 = .ok (.iload_n 3, 1) := by decide +kernel
theorem d_RR_withoutRepeats_170 : decode prog_1_method_38_code 170 = .ok (.iadd, 1) := by decide +kernel
theorem d_RR_withoutRepeats_171 : decode prog_1_method_38_code 171 = .ok (.laload, 1) := by decide +kernel
theorem d_RR_withoutRepeats_172 : decode prog_1_method_38_code 172 = .ok (.goto 4, 3) := by decide +kernel
theorem d_RR_withoutRepeats_175 : decode prog_1_method_38_code 175 = .ok (.lconst 0, 1) := by decide +kernel
theorem d_RR_withoutRepeats_176 : decode prog_1_method_38_code 176 = .ok (.lastore, 1) := by decide +kernel
theorem d_RR_withoutRepeats_177 : decode prog_1_method_38_code 177 = .ok (.iinc 6 1, 3) := by decide +kernel
theorem d_RR_withoutRepeats_180 : decode prog_1_method_38_code 180 = .ok (.goto (-39), 3) := by decide +kernel
theorem d_RR_withoutRepeats_183 : decode prog_1_method_38_code 183 = .ok (.aload_n 0, 1) := by decide +kernel
theorem d_RR_withoutRepeats_184 : decode prog_1_method_38_code 184 = .ok (.invokevirtual 273, 3) := by decide +kernel
theorem d_RR_withoutRepeats_187 : decode prog_1_method_38_code 187 = .ok (.return_, 1) := by decide +kernel
set_option maxHeartbeats 8000000 in
set_option maxRecDepth 100000 in
theorem c_RR_withoutRepeats (l : Launch) (D : va_G) (cs : Nat → ClassId) (L : List Nat) (f : Nat → va_E) (sz : Nat) (ad Qm : Nat → Nat) (If : Nat → Int) (Af : Nat → Nat → Int) (Rf : Nat → Nat) (Zf : Nat → Int) (ka qa : Nat) (hAd : AdOk L ad Qm) (hC : CSt cs ad Qm f If Af Rf Zf) (hka : Ar ka qa) (hk9 : ka ≠ 9) (hk10 : ka ≠ 10) (haw : ∀ j, j < 6 → -1000 ≤ Af qa j ∧ Af qa j ≤ 1000) (hANz : Nz (Af qa)) (hhd : 0 ≤ If 0 ∧ If 0 ≤ 12) : Met l (⟨"RealRoots", "withoutRepeats", "([I)V"⟩ : MethodName) (.code (⟨"RealRoots", "withoutRepeats", "([I)V"⟩ : MethodName) prog_1_method_38_code 10 (Option.none : Option Jvm.ClassFile.FieldType) :: gw) ({ frames := 5, cells := 0, slots := 0, locals := 260 }) (va_Pc [.ref ((ad 0)), .ref ((ad ka))] (K0 D vwCl (TY cs) L f sz)) (va_Qv (fun (g : Nat → va_E) => ∃ (I' : Nat → Int) (A' : Nat → Nat → Int) (R' : Nat → Nat) (Z' : Nat → Int), CSt cs ad Qm g I' A' R' Z' ∧ (∀ k, Awy ad k → g k = f k) ∧ FreeOf (Af qa) (A' 0) ∧ (∀ j, 6 ≤ j → j < 12 → A' 0 j = 0) ∧ (∀ i, i ≠ 3 → I' i = If i) ∧ ∀ q, q ≠ 0 → q ≠ 1 → q ≠ 2 → q ≠ 7 → A' q = Af q) (K1 D vwCl (TY cs) (AL L sz) L) (AL L sz)) 0 0 (AL L sz) := by
  refine Met.ofW (cc := prog_1_method_38_code) (maxL := 10) (ret := (Option.none : Option Jvm.ClassFile.FieldType)) (by decide) rfl ?_
  intro p e s m args below meth c s₁ Bd hml hv
  obtain ⟨rfl, hk0⟩ := hv
  obtain ⟨hsz, B⟩ := hk0.start
  subst hsz
  have hx := Bd.exec
  have hb := Bd.bytes
  have hr := Bd.returns
  have hlocks := Bd.notSynchronized
  have hts0 := atoms_spec Bd.pre
  have hown : s.vm.findClass RX6 = some m.cls := findClass_of_methodNamed Bd.named
  have hA : ∀ q, s.heap.size ≤ q → AL L s.heap.size q := fun _ h => Or.inr h
  have hl := lv_entry ([.ref ((ad 0)), .ref ((ad ka))]) (n := 10) (Nat.le_of_ble_eq_true rfl)
  rw [lg_entry_eq]
  generalize (lg_sl ([.ref ((ad 0)), .ref ((ad ka))]) ++ List.replicate (10 - (lg_sl ([.ref ((ad 0)), .ref ((ad ka))])).length) Slot.unset).toArray = ls at hl ⊢
  refine absQ (fun Q R av hQ hR hav => ?_)
  have hts : ∀ w ∈ gw, w.before av s = true := by rw [hav]; exact fun w h => hts0 w (List.mem_cons_of_mem _ h)
  have hRf : R.frames = 5 := by rw [hR]; rfl
  have hRl : R.locals = 260 := by rw [hR]; rfl
  have hRc : R.cells = 0 := by rw [hR]; rfl
  have hRs : R.slots = 0 := by rw [hR]; rfl
  clear hR hts0 Bd
  have hl : lv_has ls 10 [(0, .ref ((ad 0))), (1, .ref ((ad ka)))] := hl
  have hfr : ∀ k, Awy ad k → f k = f k := fun _ _ => rfl
  have hAN := hANz
  refine lv_aload_n hx hb d_RR_withoutRepeats_0 rfl (lv_at hl 1 rfl) ?_
  refine lv_aload_n hx hb d_RR_withoutRepeats_1 rfl (lv_at hl 0 rfl) ?_
  refine x_get (C := RX6) (T := TX6) (N := 14) hx hb hts inX6 hown (B.foc1 (hC.x)) (hAd.f1 (by omega)) 0 rfl rfl 6 (by decide) (hts _ w_203) (fun _ h9 => h9) rfl d_RR_withoutRepeats_2 ?_
  refine x_callv B hA (va_runS (As := [.ref ((ad ka)), .ref ((ad 9))]) (rest := []) ⟨hx, hb, hml, hown, hts⟩ (c_RR_derive l D cs _ _ _ (ad 9) (ad ka) (Af 1) (Af qa) (hAd.fc [9, ka] (by simp; omega) (by have := (hka).lt; intro q hq; simp only [List.mem_cons, List.not_mem_nil, or_false] at hq; omega)) (hC.ar Ar.sl) (hC.ar hka)) (va_cwS 2 hts (gw_S w_347 w_348 w_1 w_349) rfl rfl rfl (by decide +kernel) ⟨by rw [hRf]; exact Nat.le_of_ble_eq_true rfl, by rw [hRl]; exact Nat.le_of_ble_eq_true rfl⟩) ⟨K0.blind, B.pre _⟩ rfl rfl hl.1 rfl (lv_room (Nat.le_of_ble_eq_true rfl)) d_RR_withoutRepeats_5 ⟨by rw [hRc]; omega, by rw [hRs]; omega⟩) (fun g5 H locs hw B => ?_)
  obtain ⟨xd, hxd1, hxd2, rfl⟩ := hw
  have B : Wb D vwCl (TY cs) L (mw f [((ad 9), .inl (cs 0, 6, .inl (ai xd)))]) (AL L s.heap.size) s H _ := B
  obtain ⟨f_5, hf_5⟩ : ∃ f_5, f_5 = mw f [((ad 9), .inl (cs 0, 6, .inl (ai xd)))] := ⟨_, rfl⟩
  rw [← hf_5] at B
  obtain ⟨A_5, hA_5⟩ : ∃ A_5, A_5 = upA Af 1 xd := ⟨_, rfl⟩
  have hC_5 : CSt cs ad Qm f_5 If A_5 Rf Zf := by rw [hf_5, hA_5]; exact CSt.wAr hAd hC Ar.sl _
  have hfr_5 : ∀ k, Awy ad k → f_5 k = f k := fun k hk => Eq.trans (by rw [hf_5]; exact hk.mw1 (by omega)) (hfr k hk)
  have hA5a : A_5 qa = Af qa := by rw [hA_5, upA_ne _ _ (by unfold Ar at hka; omega)]
  have hxdd : ∀ j, j < 6 → xd j = dva (Af qa) j := fun j hj => by unfold dva; rcases (show j < 5 ∨ j = 5 by omega) with h | h; rw [if_pos h, hxd1 j h, Int.mul_comm]; rw [h, if_neg (by decide), hxd2]
  have hxdb : ∀ j, j < 6 → -262144 < xd j ∧ xd j < 262144 := fun j hj => by rw [hxdd j hj]; have := dva_bd (M := 1000) (by decide) haw j hj; omega
  refine lv_aload_n hx hb d_RR_withoutRepeats_8 rfl (lv_at hl 0 rfl) ?_
  refine lv_aload_n hx hb d_RR_withoutRepeats_9 rfl (lv_at hl 1 rfl) ?_
  refine lv_aload_n hx hb d_RR_withoutRepeats_10 rfl (lv_at hl 0 rfl) ?_
  refine x_get (C := RX6) (T := TX6) (N := 14) hx hb hts inX6 hown (B.foc1 (hC_5.x)) (hAd.f1 (by omega)) 0 rfl rfl 6 (by decide) (hts _ w_203) (fun _ h9 => h9) rfl d_RR_withoutRepeats_11 ?_
  refine x_callv B hA (va_runV (As := [.ref ((ad ka)), .ref ((ad 9))]) (rest := []) ⟨hx, hb, hml, hown, hts⟩ (c_RR_common l D cs _ _ _ ad Qm If A_5 Rf Zf ka qa 9 1 hAd hC_5 hka Ar.sl hk9 (by decide) hk10 (fun j hj => by rw [hA5a]; have := haw j hj; omega) (fun j hj => by rw [hA_5, upA_self]; exact hxdb j hj) hhd) (cwV 2 hts (gw_V w_280 w_282 s_5 w_1 w_283) rfl rfl rfl (by decide +kernel) ⟨by rw [hRf]; exact Nat.le_of_ble_eq_true rfl, by rw [hRl]; exact Nat.le_of_ble_eq_true rfl⟩) ⟨K0.blind, B.recv (hAd.1 _ (by omega)) (hC_5.x) rfl, B.pre _⟩ rfl rfl hl.1 rfl (lv_room (Nat.le_of_ble_eq_true rfl)) d_RR_withoutRepeats_14 ⟨by rw [hRc]; omega, by rw [hRs]; omega⟩) (fun g14 H locs hw B => ?_)
  obtain ⟨I_14, A_14, R_14, Z_14, hC_14, hq_14, hGc, hIc, hAc⟩ := hw
  have hfr_14 : ∀ k, Awy ad k → g14 k = f k := fun k hk => (hq_14 k hk).trans (hfr_5 k hk)
  have B : Wb D vwCl (TY cs) L g14 (AL L s.heap.size) s H _ := B
  have hIc0 : I_14 0 = If 0 := hIc 0 (by decide)
  have hAca : A_14 qa = Af qa := by rw [hAc _ (by unfold Ar at hka; omega) (by unfold Ar at hka; omega) (by unfold Ar at hka; omega)]; exact hA5a
  rw [hA5a, show A_5 1 = xd by rw [hA_5, upA_self]] at hGc
  have hGc : Gcd (Af qa) (dva (Af qa)) (A_14 2) := hGc.congr (fun j hj => rfl) (fun j hj => (hxdd j hj).symm)
  obtain ⟨G, hGd⟩ : ∃ G, G = A_14 2 := ⟨_, rfl⟩
  rw [← hGd] at hGc
  have hGc0 := hGc
  have hgg : cg G 0 6 = 1 ∧ (∃ k, k < 6 ∧ 0 < G k ∧ ∀ j, k < j → j < 6 → G j = 0) ∧ Cmb (Af qa) (dva (Af qa)) G ∧ Dv (il G 6) (il (Af qa) 6) ∧ Dv (il G 6) (il (dva (Af qa)) 6) := by rcases hGc with ⟨h1, _⟩ | h1; obtain ⟨j, hj, hn⟩ := hAN; exact absurd (h1 j hj) hn; exact h1
  obtain ⟨⟨C0, hC0⟩, hGb⟩ := prim_small (M := 1000) (by decide) hAN haw hgg.1 hgg.2.2.2.1
  obtain ⟨kg, hkg1, hkg2, hkg3⟩ := hgg.2.1
  have hCb := fac_all hAN haw (A := Af qa) (C := G) (P := C0) (fun x => by rw [hC0 x]; grind)
  refine lv_aload_n hx hb d_RR_withoutRepeats_17 rfl (lv_at hl 1 rfl) ?_
  refine x_calli B hA (va_runS (As := [.ref ((ad ka))]) (rest := []) ⟨hx, hb, hml, hown, hts⟩ (c_RR_topOf l D cs _ _ _ (ad ka) (A_14 qa) (hAd.f1 (by have := (hka).lt; omega)) (hC_14.ar hka) (fun j hj => by rw [hAca]; have := haw j hj; omega)) (va_cwS 1 hts (gw_S w_273 w_274 w_1 w_275) rfl rfl rfl (by decide +kernel) ⟨by rw [hRf]; exact Nat.le_of_ble_eq_true rfl, by rw [hRl]; exact Nat.le_of_ble_eq_true rfl⟩) ⟨K0.blind, B.pre _⟩ rfl rfl hl.1 rfl (lv_room (Nat.le_of_ble_eq_true rfl)) d_RR_withoutRepeats_18 ⟨by rw [hRc]; omega, by rw [hRs]; omega⟩) (fun r18 g18 H locs hw B => ?_)
  obtain ⟨ta, rfl, hta6, htaz, htal, hgf⟩ := hw
  rw [hgf] at B
  refine lv_istore_n (lv' := [(2, .int (iI ((ta : Int) - 1))), (0, .ref ((ad 0))), (1, .ref ((ad ka)))]) hx hb d_RR_withoutRepeats_21 rfl hl (by decide) rfl (fun ls hl => ?_)
  refine lv_aload_n hx hb d_RR_withoutRepeats_22 rfl (lv_at hl 1 rfl) ?_
  refine x_get (C := RX6) (T := TX6) (N := 14) hx hb hts inX6 hown (B.foc1 (hC_14.x)) (hAd.f1 (by omega)) 0 rfl rfl 7 (by decide) (hts _ w_204) (fun _ h9 => h9) rfl d_RR_withoutRepeats_23 ?_
  refine x_calli B hA (va_runS (As := [.ref ((ad 10))]) (rest := []) ⟨hx, hb, hml, hown, hts⟩ (c_RR_topOf l D cs _ _ _ (ad 10) (A_14 2) (hAd.f1 (by have := (Ar.sh).lt; omega)) (hC_14.ar Ar.sh) (fun j hj => by rw [← hGd]; have := hGb j hj; omega)) (va_cwS 1 hts (gw_S w_273 w_274 w_1 w_275) rfl rfl rfl (by decide +kernel) ⟨by rw [hRf]; exact Nat.le_of_ble_eq_true rfl, by rw [hRl]; exact Nat.le_of_ble_eq_true rfl⟩) ⟨K0.blind, B.pre _⟩ rfl rfl hl.1 rfl (lv_room (Nat.le_of_ble_eq_true rfl)) d_RR_withoutRepeats_26 ⟨by rw [hRc]; omega, by rw [hRs]; omega⟩) (fun r26 g26 H locs hw B => ?_)
  obtain ⟨tb, rfl, htb6, htbz, htbl, hgf⟩ := hw
  rw [hgf] at B
  rw [hAca] at htaz htal
  rw [← hGd] at htbz htbl
  have htb0 : 0 < tb := by rcases Nat.eq_zero_or_pos tb with h | h; exact absurd (htbz kg (by omega) hkg1) (by omega); exact h
  obtain ⟨nb, hnb⟩ : ∃ nb, tb = nb + 1 := ⟨tb - 1, by omega⟩
  rw [show (tb : Int) - 1 = (nb : Int) by omega]
  have hGn : G nb ≠ 0 := by have h9 := htbl htb0; rw [show tb - 1 = nb by omega] at h9; exact h9
  have hGz : ∀ j, nb < j → j < 6 → G j = 0 := fun j h1 h2 => htbz j (by omega) h2
  have hnb6 : nb < 6 := by omega
  have hx0 := cv_first (kk := ta) hC0 hGz hGn hnb6 hta6 htaz
  have hdeg := fac_deg hC0 hGz hGn hnb6
  have hnbta : nb < ta := Classical.byContradiction (fun hn => by
      obtain ⟨j, hj, hjn⟩ := (nz_parts hANz hC0).2
      exact hjn (quo_deg hC0 hGz hGn hnb6 htaz (by omega) (by have := hdeg j hj hjn; omega)))
  clear hkg2 hkg3 hAN
  refine lv_istore_n (lv' := [(3, .int (iI ((nb : Int)))), (2, .int (iI ((ta : Int) - 1))), (0, .ref ((ad 0))), (1, .ref ((ad ka)))]) hx hb d_RR_withoutRepeats_29 rfl hl (by decide) rfl (fun ls hl => ?_)
  refine lv_aload_n hx hb d_RR_withoutRepeats_30 rfl (lv_at hl 2 rfl) ?_
  refine lv_aload_n hx hb d_RR_withoutRepeats_31 rfl (lv_at hl 3 rfl) ?_
  refine x_callv B hA (va_runV (As := [.ref ((ad ka))]) (rest := []) ⟨hx, hb, hml, hown, hts⟩ (c_RR_widen l D cs _ _ _ (ad 0) (ad 1) (ad 2) (ad 5) (ad 7) (ad 8) (ad 9) (ad 10) (ad 11) (ad 12) (ad 13) (ad 14) (I_14 0) (I_14 1) (I_14 2) (ad ka) (A_14 0) (A_14 qa) (hAd.fc [0, 8, ka] (by have := (hka).lt; simp only [List.nodup_cons, List.mem_cons, List.not_mem_nil, or_false, not_or, List.nodup_nil, and_true, not_false_eq_true]; omega) (by have := (hka).lt; intro q hq; simp only [List.mem_cons, List.not_mem_nil, or_false] at hq; omega)) hC_14.x (by rw [hIc0]; exact hhd) hC_14.wide (hC_14.ar hka) (fun j hj => by rw [hAca]; have := haw j hj; omega)) (cwV 1 hts (gw_V w_284 w_286 s_6 w_1 w_287) rfl rfl rfl (by decide +kernel) ⟨by rw [hRf]; exact Nat.le_of_ble_eq_true rfl, by rw [hRl]; exact Nat.le_of_ble_eq_true rfl⟩) ⟨K0.blind, B.recv (hAd.1 _ (by omega)) (hC_14.x) rfl, B.pre _⟩ rfl rfl hl.1 rfl (lv_room (Nat.le_of_ble_eq_true rfl)) d_RR_withoutRepeats_32 ⟨by rw [hRc]; omega, by rw [hRs]; omega⟩) (fun g32 H locs hw B => ?_)
  obtain ⟨zw, hzw, rfl⟩ := hw
  have B : Wb D vwCl (TY cs) L (mw g14 [((ad 8), .inl (cs 1, 12, .inr (.inl (al zw))))]) (AL L s.heap.size) s H _ := B
  obtain ⟨f_32, hf_32⟩ : ∃ f_32, f_32 = mw g14 [((ad 8), .inl (cs 1, 12, .inr (.inl (al zw))))] := ⟨_, rfl⟩
  rw [← hf_32] at B
  obtain ⟨A_32, hA_32⟩ : ∃ A_32, A_32 = upA A_14 0 zw := ⟨_, rfl⟩
  have hC_32 : CSt cs ad Qm f_32 I_14 A_32 R_14 Z_14 := by rw [hf_32, hA_32]; exact CSt.w_wide hAd hC_14 _
  have hfr_32 : ∀ k, Awy ad k → f_32 k = f k := fun k hk => Eq.trans (by rw [hf_32]; exact hk.mw1 (by omega)) (hfr_14 k hk)
  refine lv_iload_n hx hb d_RR_withoutRepeats_35 rfl (lv_at hl 0 rfl) ?_
  refine x_iconst hx hb d_RR_withoutRepeats_36 ?_
  refine x_icmp_ne (tgt := 41) hx hb d_RR_withoutRepeats_37 (by decide) (by omega) (by omega) (fun h37 => ?_) (fun h37 => ?_)
  · refine lv_aload_n hx hb d_RR_withoutRepeats_41 rfl (lv_at hl 2 rfl) ?_
    refine x_get (C := RX6) (T := TX6) (N := 14) hx hb hts inX6 hown (B.foc1 (hC_32.x)) (hAd.f1 (by omega)) 0 rfl rfl 7 (by decide) (hts _ w_204) (fun _ h9 => h9) rfl d_RR_withoutRepeats_42 ?_
    refine lv_iload_n hx hb d_RR_withoutRepeats_45 rfl (lv_at hl 0 rfl) ?_
    refine x_iald hx hb (B.foc1 (hC_32.shared)) (hAd.f1 (by omega)) 0 0 rfl rfl nb (by omega) (by omega) (by decide) d_RR_withoutRepeats_46 ?_
    have hA322 : A_32 2 = G := by rw [hA_32, upA_ne _ _ (by decide), hGd]
    rw [hA322]
    have h9g := hGb nb hnb6
    refine x_i2l hx hb d_RR_withoutRepeats_47 (by omega) ?_
    refine lv_lstore (lv' := [(4, .long (lI (G nb))), (3, .int (iI ((nb : Int)))), (2, .int (iI ((ta : Int) - 1))), (0, .ref ((ad 0))), (1, .ref ((ad ka)))]) hx hb d_RR_withoutRepeats_48 hl (by decide) rfl (fun ls hl => ?_)
    refine lv_iload_n hx hb d_RR_withoutRepeats_50 rfl (lv_at hl 2 rfl) ?_
    refine lv_istore (lv' := [(6, .int (iI ((ta : Int) - 1))), (4, .long (lI (G nb))), (3, .int (iI ((nb : Int)))), (2, .int (iI ((ta : Int) - 1))), (0, .ref ((ad 0))), (1, .ref ((ad ka)))]) hx hb d_RR_withoutRepeats_51 hl (by decide) rfl (fun ls hl => ?_)
    have LA : ∀ (fuel : Nat) (fw : Nat → va_E) (Iw : Nat → Int) (Aw : Nat → Nat → Int) (Rw : Nat → Nat) (Zw : Nat → Int) (kk : Nat), kk < fuel → (CSt cs ad Qm fw Iw Aw Rw Zw) → (∀ k, Awy ad k → fw k = f k) → (nb ≤ kk ∧ kk ≤ ta) → (∀ i, i ≠ 3 → Iw i = If i) → (∀ q, q ≠ 0 → q ≠ 1 → q ≠ 2 → q ≠ 7 → Aw q = Af q) → (Aw 2 = G) → (∀ t, t < 6 → (if t < kk then Aw 0 t else 0) = cv (fun j => if j + nb < kk then C0 j else 0) G 5 6 t) → (∀ t, kk ≤ t → t < 6 → Aw 0 t = if t < ta then C0 (t - nb) else 0) → (∀ t, 6 ≤ t → t < 12 → Aw 0 t = 0) → ∀ (H : Heap) (locs : List Loc) (ls : Array Slot), Wb D vwCl (TY cs) L fw (AL L s.heap.size) s H locs → lv_has ls 10 [(6, .int (iI ((kk : Int) - 1))), (4, .long (lI (G nb))), (0, .ref ((ad 0))), (1, .ref ((ad ka))), (2, .int (iI ((ta : Int) - 1))), (3, .int (iI ((nb : Int))))] → W p l e R s m av below meth c H locs (0) (0) Q (F0 m 53 ls []) := by
      intro fuel
      induction fuel with
      | zero => intro fw Iw Aw Rw Zw kk hfu; exact absurd hfu (Nat.not_lt_zero _)
      | succ fuel ih_LA =>
        intro fw Iw Aw Rw Zw kk hfu_LA hCw hfrw hkk hIw hAw hA2 hxw hQw hZw H locs ls B hl
        have h9g := hGb nb hnb6
        refine lv_iload hx hb d_RR_withoutRepeats_53 (lv_at hl 0 rfl) ?_
        refine lv_iload_n hx hb d_RR_withoutRepeats_55 rfl (lv_at hl 5 rfl) ?_
        refine x_icmp_lt (tgt := 138) hx hb d_RR_withoutRepeats_56 (by decide) (by omega) (by omega) (fun h56 => ?_) (fun h56 => ?_)
        · refine x_iconst hx hb d_RR_withoutRepeats_138 ?_
          refine lv_istore (lv' := [(6, .int (iI 0)), (4, .long (lI (G nb))), (0, .ref ((ad 0))), (1, .ref ((ad ka))), (2, .int (iI ((ta : Int) - 1))), (3, .int (iI ((nb : Int))))]) hx hb d_RR_withoutRepeats_139 hl (by decide) rfl (fun ls hl => ?_)
          have LC : ∀ (fuel : Nat) (fu : Nat → va_E) (Iu : Nat → Int) (Au : Nat → Nat → Int) (Ru : Nat → Nat) (Zu : Nat → Int) (k3 : Nat), 6 - k3 < fuel → (CSt cs ad Qm fu Iu Au Ru Zu) → (∀ k, Awy ad k → fu k = f k) → (k3 ≤ 6) → (∀ i, i ≠ 3 → Iu i = If i) → (∀ q, q ≠ 0 → q ≠ 1 → q ≠ 2 → q ≠ 7 → Au q = Af q) → (∀ t, t < k3 → Au 0 t = C0 t) → (∀ t, k3 ≤ t → t < 12 → Au 0 t = Aw 0 t) → ∀ (H : Heap) (locs : List Loc) (ls : Array Slot), Wb D vwCl (TY cs) L fu (AL L s.heap.size) s H locs → lv_has ls 10 [(6, .int (iI ((k3 : Int)))), (0, .ref ((ad 0))), (1, .ref ((ad ka))), (2, .int (iI ((ta : Int) - 1))), (3, .int (iI ((nb : Int))))] → W p l e R s m av below meth c H locs (0) (0) Q (F0 m 141 ls []) := by
            intro fuel
            induction fuel with
            | zero => intro fu Iu Au Ru Zu k3 hfu; exact absurd hfu (Nat.not_lt_zero _)
            | succ fuel ih_LC =>
              intro fu Iu Au Ru Zu k3 hfu_LC hCu hfru hk3 hIu hAu hUa hUb H locs ls B hl
              refine lv_iload hx hb d_RR_withoutRepeats_141 (lv_at hl 0 rfl) ?_
              refine x_bipush hx hb d_RR_withoutRepeats_143 (by decide) ?_
              refine x_icmp_ge (tgt := 183) hx hb d_RR_withoutRepeats_145 (by decide) (by omega) (by omega) (fun h145 => ?_) (fun h145 => ?_)
              · refine lv_aload_n hx hb d_RR_withoutRepeats_183 rfl (lv_at hl 1 rfl) ?_
                refine x_callv B hA (va_runV (As := []) (rest := []) ⟨hx, hb, hml, hown, hts⟩ (c_RR_makeWidePrimitive l D cs _ _ _ (ad 0) (ad 1) (ad 2) (ad 5) (ad 7) (ad 8) (ad 9) (ad 10) (ad 11) (ad 12) (ad 13) (ad 14) (Iu 0) (Iu 1) (Iu 2) (Au 0) (hAd.fc [0, 8] (by simp only [List.nodup_cons, List.mem_cons, List.not_mem_nil, or_false, not_or, List.nodup_nil, and_true, not_false_eq_true]; omega) (by intro q hq; simp only [List.mem_cons, List.not_mem_nil, or_false] at hq; omega)) hCu.x (by rw [hIu 0 (by decide)]; exact hhd) hCu.wide (fun j hj => by rw [hUa j (by omega)]; have := hCb j hj; omega)) (cwV 0 hts (gw_V w_339 w_341 s_9 w_1 w_342) rfl rfl rfl (by decide +kernel) ⟨by rw [hRf]; exact Nat.le_of_ble_eq_true rfl, by rw [hRl]; exact Nat.le_of_ble_eq_true rfl⟩) ⟨K0.blind, B.recv (hAd.1 _ (by omega)) (hCu.x) rfl, B.pre _⟩ rfl rfl hl.1 rfl (lv_room (Nat.le_of_ble_eq_true rfl)) d_RR_withoutRepeats_184 ⟨by rw [hRc]; omega, by rw [hRs]; omega⟩) (fun g184 H locs hw B => ?_)
                obtain ⟨zp, hzp, hzp6, rfl⟩ := hw
                have B : Wb D vwCl (TY cs) L (mw fu [((ad 8), .inl (cs 1, 12, .inr (.inl (al zp))))]) (AL L s.heap.size) s H _ := B
                obtain ⟨f_184, hf_184⟩ : ∃ f_184, f_184 = mw fu [((ad 8), .inl (cs 1, 12, .inr (.inl (al zp))))] := ⟨_, rfl⟩
                rw [← hf_184] at B
                obtain ⟨A_184, hA_184⟩ : ∃ A_184, A_184 = upA Au 0 zp := ⟨_, rfl⟩
                have hC_184 : CSt cs ad Qm f_184 Iu A_184 Ru Zu := by rw [hf_184, hA_184]; exact CSt.w_wide hAd hCu _
                have hfr_184 : ∀ k, Awy ad k → f_184 k = f k := fun k hk => Eq.trans (by rw [hf_184]; exact hk.mw1 (by omega)) (hfru k hk)
                subst hQ hav
                exact x_vret hx hb hr hlocks B d_RR_withoutRepeats_187 (⟨Iu, A_184, Ru, Zu, hC_184, hfr_184, by rw [hA_184, upA_self]; exact free_mk hANz haw hGc0 hC0 (hzp.congr1 (fun j hj => (hUa j (by omega)).symm)), fun j h1 h2 => by rw [hA_184, upA_self, hzp6 j h1, hUb j (by omega) h2]; exact hZw j h1 h2, hIu, fun q h1 h2 h3 h4 => by rw [hA_184, upA_ne _ _ h1]; exact hAu q h1 h2 h3 h4⟩)
              · refine lv_aload_n hx hb d_RR_withoutRepeats_148 rfl (lv_at hl 1 rfl) ?_
                refine x_get (C := RX6) (T := TX6) (N := 14) hx hb hts inX6 hown (B.foc1 (hCu.x)) (hAd.f1 (by omega)) 0 rfl rfl 5 (by decide) (hts _ w_202) (fun _ h9 => h9) rfl d_RR_withoutRepeats_149 ?_
                refine lv_iload hx hb d_RR_withoutRepeats_152 (lv_at hl 0 rfl) ?_
                refine lv_iload hx hb d_RR_withoutRepeats_154 (lv_at hl 0 rfl) ?_
                refine lv_iload_n hx hb d_RR_withoutRepeats_156 rfl (lv_at hl 4 rfl) ?_
                refine x_iadd hx hb d_RR_withoutRepeats_157 ?_
                refine x_bipush hx hb d_RR_withoutRepeats_158 (by decide) ?_
                refine x_icmp_ge (tgt := 175) hx hb d_RR_withoutRepeats_160 (by decide) (by omega) (by omega) (fun h160 => ?_) (fun h160 => ?_)
                · refine x_lconst (z := 0) hx hb d_RR_withoutRepeats_175 (by decide) ?_
                  have hval : (0 : Int) = C0 k3 := Eq.symm (Classical.byContradiction (fun h => by have h2 := hdeg k3 (by omega) h; omega))
                  refine x_last hx hb (B.foc1 (hCu.wide)) (hAd.f1 (by omega)) 0 1 rfl rfl k3 (by omega) (by omega) (by decide) d_RR_withoutRepeats_176 (fun H locs B => ?_)
                  have B : Wb D vwCl (TY cs) L (mw fu [((ad 8), .inl (cs 1, 12, .inr (.inl (al (up (Au 0) k3 (0))))))]) (AL L s.heap.size) s H _ := B
                  obtain ⟨f_176, hf_176⟩ : ∃ f_176, f_176 = mw fu [((ad 8), .inl (cs 1, 12, .inr (.inl (al (up (Au 0) k3 (0))))))] := ⟨_, rfl⟩
                  rw [← hf_176] at B
                  obtain ⟨A_176, hA_176⟩ : ∃ A_176, A_176 = upA Au 0 (up (Au 0) k3 (0)) := ⟨_, rfl⟩
                  have hC_176 : CSt cs ad Qm f_176 Iu A_176 Ru Zu := by rw [hf_176, hA_176]; exact CSt.w_wide hAd hCu _
                  have hfr_176 : ∀ k, Awy ad k → f_176 k = f k := fun k hk => Eq.trans (by rw [hf_176]; exact hk.mw1 (by omega)) (hfru k hk)
                  refine x_iinc (lv' := [(6, .int (iI (((k3 : Int)) + 1))), (0, .ref ((ad 0))), (1, .ref ((ad ka))), (2, .int (iI ((ta : Int) - 1))), (3, .int (iI ((nb : Int))))]) hx hb d_RR_withoutRepeats_177 hl (q := 0) rfl rfl (by decide) rfl (fun ls hl => ?_)
                  refine lv_goto (tgt := 141) hx hb d_RR_withoutRepeats_180 (by decide) ?_
                  exact ih_LC f_176 Iu A_176 Ru Zu (k3 + 1) (by omega) hC_176 hfr_176 (by omega) hIu (fun q h1 h2 h3 h4 => by rw [hA_176, upA_ne _ _ h1]; exact hAu q h1 h2 h3 h4) (fun t ht => by
          rw [hA_176, upA_self]
          by_cases c1 : t = k3
          · rw [c1, up_self]; exact hval
          · rw [up_ne _ _ c1]; exact hUa t (by omega)) (fun t h1 h2 => by rw [hA_176, upA_self, up_ne _ _ (by omega)]; exact hUb t (by omega) h2) _ _ _ B (lv_sub hl [0, 1, 2, 3, 4] rfl)
                · refine lv_aload_n hx hb d_RR_withoutRepeats_163 rfl (lv_at hl 1 rfl) ?_
                  refine x_get (C := RX6) (T := TX6) (N := 14) hx hb hts inX6 hown (B.foc1 (hCu.x)) (hAd.f1 (by omega)) 0 rfl rfl 5 (by decide) (hts _ w_202) (fun _ h9 => h9) rfl d_RR_withoutRepeats_164 ?_
                  refine lv_iload hx hb d_RR_withoutRepeats_167 (lv_at hl 0 rfl) ?_
                  refine lv_iload_n hx hb d_RR_withoutRepeats_169 rfl (lv_at hl 4 rfl) ?_
                  refine x_iadd hx hb d_RR_withoutRepeats_170 ?_
                  refine x_lald hx hb (B.foc1 (hCu.wide)) (hAd.f1 (by omega)) 0 1 rfl rfl (k3 + nb) (by omega) (by omega) (by decide) d_RR_withoutRepeats_171 ?_
                  refine lv_goto (tgt := 176) hx hb d_RR_withoutRepeats_172 (by decide) ?_
                  have hval : Au 0 (k3 + nb) = C0 k3 := by
                    rw [hUb _ (by omega) (by omega), hQw (k3 + nb) (by omega) (by omega), show k3 + nb - nb = k3 by omega]
                    split
                    · rfl
                    · refine Eq.symm (Classical.byContradiction (fun h => ?_))
                      have h3 := hxw k3 (by omega)
                      have h4 := hx0 (k3 + nb) (by omega)
                      exact h (quo_deg hC0 hGz hGn hnb6 htaz (by omega) (by omega))
                  refine x_last hx hb (B.foc1 (hCu.wide)) (hAd.f1 (by omega)) 0 1 rfl rfl k3 (by omega) (by omega) (by decide) d_RR_withoutRepeats_176 (fun H locs B => ?_)
                  have B : Wb D vwCl (TY cs) L (mw fu [((ad 8), .inl (cs 1, 12, .inr (.inl (al (up (Au 0) k3 (Au 0 (k3 + nb)))))))]) (AL L s.heap.size) s H _ := B
                  obtain ⟨f_176, hf_176⟩ : ∃ f_176, f_176 = mw fu [((ad 8), .inl (cs 1, 12, .inr (.inl (al (up (Au 0) k3 (Au 0 (k3 + nb)))))))] := ⟨_, rfl⟩
                  rw [← hf_176] at B
                  obtain ⟨A_176, hA_176⟩ : ∃ A_176, A_176 = upA Au 0 (up (Au 0) k3 (Au 0 (k3 + nb))) := ⟨_, rfl⟩
                  have hC_176 : CSt cs ad Qm f_176 Iu A_176 Ru Zu := by rw [hf_176, hA_176]; exact CSt.w_wide hAd hCu _
                  have hfr_176 : ∀ k, Awy ad k → f_176 k = f k := fun k hk => Eq.trans (by rw [hf_176]; exact hk.mw1 (by omega)) (hfru k hk)
                  refine x_iinc (lv' := [(6, .int (iI (((k3 : Int)) + 1))), (0, .ref ((ad 0))), (1, .ref ((ad ka))), (2, .int (iI ((ta : Int) - 1))), (3, .int (iI ((nb : Int))))]) hx hb d_RR_withoutRepeats_177 hl (q := 0) rfl rfl (by decide) rfl (fun ls hl => ?_)
                  refine lv_goto (tgt := 141) hx hb d_RR_withoutRepeats_180 (by decide) ?_
                  exact ih_LC f_176 Iu A_176 Ru Zu (k3 + 1) (by omega) hC_176 hfr_176 (by omega) hIu (fun q h1 h2 h3 h4 => by rw [hA_176, upA_ne _ _ h1]; exact hAu q h1 h2 h3 h4) (fun t ht => by
          rw [hA_176, upA_self]
          by_cases c1 : t = k3
          · rw [c1, up_self]; exact hval
          · rw [up_ne _ _ c1]; exact hUa t (by omega)) (fun t h1 h2 => by rw [hA_176, upA_self, up_ne _ _ (by omega)]; exact hUb t (by omega) h2) _ _ _ B (lv_sub hl [0, 1, 2, 3, 4] rfl)
          exact LC _ fw Iw Aw Rw Zw 0 (Nat.lt_succ_self _) hCw hfrw (by omega) hIw hAw (fun t ht => by omega) (fun t _ _ => rfl) _ _ _ B (lv_sub hl [0, 2, 3, 4, 5] rfl)
        · refine lv_lload hx hb d_RR_withoutRepeats_59 (lv_at hl 1 rfl) ?_
          refine x_lconst (z := 0) hx hb d_RR_withoutRepeats_61 (by decide) ?_
          refine x_lc_ne (tgt := 70) hx hb d_RR_withoutRepeats_62 rfl d_RR_withoutRepeats_63 (by decide) (by omega) (by omega) (fun h63 => ?_) (fun h63 => ?_)
          · have hwt := wr_top hGz hnb6 ⟨by omega, by omega⟩ hxw
            have h9c := hCb (kk - 1 - nb) (by omega)
            have hwr : -1000000000000000000 < Aw 0 (kk - 1) ∧ Aw 0 (kk - 1) < 1000000000000000000 := by have h1 := hxw (kk - 1) (by omega); rw [if_pos (by omega)] at h1; rw [h1]; exact cv_bdk hCb hGb
            refine lv_aload_n hx hb d_RR_withoutRepeats_70 rfl (lv_at hl 2 rfl) ?_
            refine x_get (C := RX6) (T := TX6) (N := 14) hx hb hts inX6 hown (B.foc1 (hCw.x)) (hAd.f1 (by omega)) 0 rfl rfl 5 (by decide) (hts _ w_202) (fun _ h9 => h9) rfl d_RR_withoutRepeats_71 ?_
            refine lv_iload hx hb d_RR_withoutRepeats_74 (lv_at hl 0 rfl) ?_
            refine x_lald hx hb (B.foc1 (hCw.wide)) (hAd.f1 (by omega)) 0 1 rfl rfl (kk - 1) (by omega) (by omega) (by decide) d_RR_withoutRepeats_76 ?_
            refine lv_lload hx hb d_RR_withoutRepeats_77 (lv_at hl 1 rfl) ?_
            refine x_ldiv hx hb d_RR_withoutRepeats_79 (by omega) (by omega) (by omega) ?_
            rw [show (Aw 0 (kk - 1)).tdiv (G nb) = C0 (kk - 1 - nb) by rw [hwt]; exact Int.mul_tdiv_cancel _ hGn]
            obtain ⟨pt, hpt⟩ : ∃ pt, pt = C0 (kk - 1 - nb) := ⟨_, rfl⟩
            rw [← hpt] at h9c ⊢
            refine lv_lstore (lv' := [(7, .long (lI pt)), (6, .int (iI ((kk : Int) - 1))), (4, .long (lI (G nb))), (0, .ref ((ad 0))), (1, .ref ((ad ka))), (2, .int (iI ((ta : Int) - 1))), (3, .int (iI ((nb : Int))))]) hx hb d_RR_withoutRepeats_80 hl (by decide) rfl (fun ls hl => ?_)
            refine x_iconst hx hb d_RR_withoutRepeats_82 ?_
            refine lv_istore (lv' := [(9, .int (iI 0)), (7, .long (lI pt)), (6, .int (iI ((kk : Int) - 1))), (4, .long (lI (G nb))), (0, .ref ((ad 0))), (1, .ref ((ad ka))), (2, .int (iI ((ta : Int) - 1))), (3, .int (iI ((nb : Int))))]) hx hb d_RR_withoutRepeats_83 hl (by decide) rfl (fun ls hl => ?_)
            have LB : ∀ (fuel : Nat) (fv : Nat → va_E) (Iv : Nat → Int) (Av : Nat → Nat → Int) (Rv : Nat → Nat) (Zv : Nat → Int) (jj : Nat), nb - jj < fuel → (CSt cs ad Qm fv Iv Av Rv Zv) → (∀ k, Awy ad k → fv k = f k) → (jj ≤ nb) → (∀ i, Iv i = Iw i) → (∀ q, q ≠ 0 → q ≠ 1 → q ≠ 2 → q ≠ 7 → Av q = Af q) → (Av 2 = G) → (∀ t, t < 12 → Av 0 t = if kk - 1 - nb ≤ t ∧ t < kk - 1 - nb + jj then Aw 0 t - C0 (kk - 1 - nb) * G (t - (kk - 1 - nb)) else Aw 0 t) → ∀ (H : Heap) (locs : List Loc) (ls : Array Slot), Wb D vwCl (TY cs) L fv (AL L s.heap.size) s H locs → lv_has ls 10 [(9, .int (iI ((jj : Int)))), (7, .long (lI pt)), (6, .int (iI ((kk : Int) - 1))), (4, .long (lI (G nb))), (0, .ref ((ad 0))), (1, .ref ((ad ka))), (2, .int (iI ((ta : Int) - 1))), (3, .int (iI ((nb : Int))))] → W p l e R s m av below meth c H locs (0) (0) Q (F0 m 85 ls []) := by
              intro fuel
              induction fuel with
              | zero => intro fv Iv Av Rv Zv jj hfu; exact absurd hfu (Nat.not_lt_zero _)
              | succ fuel ih_LB =>
                intro fv Iv Av Rv Zv jj hfu_LB hCv hfrv hj hIv hAv hA2v hWv H locs ls B hl
                refine lv_iload hx hb d_RR_withoutRepeats_85 (lv_at hl 0 rfl) ?_
                refine lv_iload_n hx hb d_RR_withoutRepeats_87 rfl (lv_at hl 7 rfl) ?_
                refine x_icmp_ge (tgt := 123) hx hb d_RR_withoutRepeats_88 (by decide) (by omega) (by omega) (fun h88 => ?_) (fun h88 => ?_)
                · refine lv_aload_n hx hb d_RR_withoutRepeats_123 rfl (lv_at hl 4 rfl) ?_
                  refine x_get (C := RX6) (T := TX6) (N := 14) hx hb hts inX6 hown (B.foc1 (hCv.x)) (hAd.f1 (by omega)) 0 rfl rfl 5 (by decide) (hts _ w_202) (fun _ h9 => h9) rfl d_RR_withoutRepeats_124 ?_
                  refine lv_iload hx hb d_RR_withoutRepeats_127 (lv_at hl 2 rfl) ?_
                  refine lv_lload hx hb d_RR_withoutRepeats_129 (lv_at hl 1 rfl) ?_
                  refine x_last hx hb (B.foc1 (hCv.wide)) (hAd.f1 (by omega)) 0 1 rfl rfl (kk - 1) (by omega) (by omega) (by decide) d_RR_withoutRepeats_131 (fun H locs B => ?_)
                  have B : Wb D vwCl (TY cs) L (mw fv [((ad 8), .inl (cs 1, 12, .inr (.inl (al (up (Av 0) (kk - 1) (pt))))))]) (AL L s.heap.size) s H _ := B
                  obtain ⟨f_131, hf_131⟩ : ∃ f_131, f_131 = mw fv [((ad 8), .inl (cs 1, 12, .inr (.inl (al (up (Av 0) (kk - 1) (pt))))))] := ⟨_, rfl⟩
                  rw [← hf_131] at B
                  obtain ⟨A_131, hA_131⟩ : ∃ A_131, A_131 = upA Av 0 (up (Av 0) (kk - 1) (pt)) := ⟨_, rfl⟩
                  have hC_131 : CSt cs ad Qm f_131 Iv A_131 Rv Zv := by rw [hf_131, hA_131]; exact CSt.w_wide hAd hCv _
                  have hfr_131 : ∀ k, Awy ad k → f_131 k = f k := fun k hk => Eq.trans (by rw [hf_131]; exact hk.mw1 (by omega)) (hfrv k hk)
                  refine x_iinc (lv' := [(6, .int (iI (((kk : Int) - 1) + (-1)))), (9, .int (iI ((jj : Int)))), (7, .long (lI pt)), (4, .long (lI (G nb))), (0, .ref ((ad 0))), (1, .ref ((ad ka))), (2, .int (iI ((ta : Int) - 1))), (3, .int (iI ((nb : Int))))]) hx hb d_RR_withoutRepeats_132 hl (q := 2) rfl rfl (by decide) rfl (fun ls hl => ?_)
                  refine lv_goto (tgt := 53) hx hb d_RR_withoutRepeats_135 (by decide) ?_
                  rw [show (kk : Int) - 1 + (-1) = ((kk - 1 : Nat) : Int) - 1 by omega] at hl
                  exact ih_LA f_131 Iv A_131 Rv Zv (kk - 1) (by omega) hC_131 hfr_131 (by omega) (fun i hi => by rw [hIv]; exact hIw i hi) (fun q h1 h2 h3 h4 => by rw [hA_131, upA_ne _ _ h1]; exact hAv q h1 h2 h3 h4) (by rw [hA_131, upA_ne _ _ (by decide)]; exact hA2v) (wr_next hGz hnb6 ⟨by omega, by omega⟩ hxw (fun t ht => by
          rw [hA_131, upA_self, up_ne _ _ (by omega), hWv t (by omega)]
          by_cases c1 : kk - 1 - nb ≤ t
          · rw [if_pos ⟨c1, by omega⟩, if_pos c1]
          · rw [if_neg (fun h => c1 h.1), if_neg c1])) (fun t h1 h2 => by
          rw [hA_131, upA_self]
          by_cases c1 : t = kk - 1
          · rw [c1, up_self, if_pos (by omega)]; exact hpt
          · rw [up_ne _ _ c1, hWv t (by omega), if_neg (by omega)]; exact hQw t (by omega) h2) (fun t h1 h2 => by rw [hA_131, upA_self, up_ne _ _ (by omega), hWv t (by omega), if_neg (by omega)]; exact hZw t h1 h2) _ _ _ B (lv_sub hl [0, 3, 4, 5, 6, 7] rfl)
                · refine lv_aload_n hx hb d_RR_withoutRepeats_91 rfl (lv_at hl 4 rfl) ?_
                  refine x_get (C := RX6) (T := TX6) (N := 14) hx hb hts inX6 hown (B.foc1 (hCv.x)) (hAd.f1 (by omega)) 0 rfl rfl 5 (by decide) (hts _ w_202) (fun _ h9 => h9) rfl d_RR_withoutRepeats_92 ?_
                  refine lv_iload hx hb d_RR_withoutRepeats_95 (lv_at hl 2 rfl) ?_
                  refine lv_iload_n hx hb d_RR_withoutRepeats_97 rfl (lv_at hl 7 rfl) ?_
                  refine x_isub hx hb d_RR_withoutRepeats_98 ?_
                  refine lv_iload hx hb d_RR_withoutRepeats_99 (lv_at hl 0 rfl) ?_
                  refine x_iadd hx hb d_RR_withoutRepeats_101 ?_
                  refine lv_dup2_11 hx hb d_RR_withoutRepeats_102 rfl rfl ?_
                  refine x_lald hx hb (B.foc1 (hCv.wide)) (hAd.f1 (by omega)) 0 1 rfl rfl (kk - 1 - nb + jj) (by omega) (by omega) (by decide) d_RR_withoutRepeats_103 ?_
                  refine lv_lload hx hb d_RR_withoutRepeats_104 (lv_at hl 1 rfl) ?_
                  refine lv_aload_n hx hb d_RR_withoutRepeats_106 rfl (lv_at hl 4 rfl) ?_
                  refine x_get (C := RX6) (T := TX6) (N := 14) hx hb hts inX6 hown (B.foc1 (hCv.x)) (hAd.f1 (by omega)) 0 rfl rfl 7 (by decide) (hts _ w_204) (fun _ h9 => h9) rfl d_RR_withoutRepeats_107 ?_
                  refine lv_iload hx hb d_RR_withoutRepeats_110 (lv_at hl 0 rfl) ?_
                  refine x_iald hx hb (B.foc1 (hCv.shared)) (hAd.f1 (by omega)) 0 0 rfl rfl jj (by omega) (by omega) (by decide) d_RR_withoutRepeats_112 ?_
                  have h9j := hGb jj (by omega)
                  rw [hA2v]
                  refine x_i2l hx hb d_RR_withoutRepeats_113 (by omega) ?_
                  refine x_lmul hx hb d_RR_withoutRepeats_114 ?_
                  refine x_lsub hx hb d_RR_withoutRepeats_115 ?_
                  refine x_last hx hb (B.foc1 (hCv.wide)) (hAd.f1 (by omega)) 0 1 rfl rfl (kk - 1 - nb + jj) (by omega) (by omega) (by decide) d_RR_withoutRepeats_116 (fun H locs B => ?_)
                  have B : Wb D vwCl (TY cs) L (mw fv [((ad 8), .inl (cs 1, 12, .inr (.inl (al (up (Av 0) (kk - 1 - nb + jj) ((Av 0 (kk - 1 - nb + jj)) - (pt * (G jj))))))))]) (AL L s.heap.size) s H _ := B
                  obtain ⟨f_116, hf_116⟩ : ∃ f_116, f_116 = mw fv [((ad 8), .inl (cs 1, 12, .inr (.inl (al (up (Av 0) (kk - 1 - nb + jj) ((Av 0 (kk - 1 - nb + jj)) - (pt * (G jj))))))))] := ⟨_, rfl⟩
                  rw [← hf_116] at B
                  obtain ⟨A_116, hA_116⟩ : ∃ A_116, A_116 = upA Av 0 (up (Av 0) (kk - 1 - nb + jj) ((Av 0 (kk - 1 - nb + jj)) - (pt * (G jj)))) := ⟨_, rfl⟩
                  have hC_116 : CSt cs ad Qm f_116 Iv A_116 Rv Zv := by rw [hf_116, hA_116]; exact CSt.w_wide hAd hCv _
                  have hfr_116 : ∀ k, Awy ad k → f_116 k = f k := fun k hk => Eq.trans (by rw [hf_116]; exact hk.mw1 (by omega)) (hfrv k hk)
                  refine x_iinc (lv' := [(9, .int (iI (((jj : Int)) + 1))), (7, .long (lI pt)), (6, .int (iI ((kk : Int) - 1))), (4, .long (lI (G nb))), (0, .ref ((ad 0))), (1, .ref ((ad ka))), (2, .int (iI ((ta : Int) - 1))), (3, .int (iI ((nb : Int))))]) hx hb d_RR_withoutRepeats_117 hl (q := 0) rfl rfl (by decide) rfl (fun ls hl => ?_)
                  refine lv_goto (tgt := 85) hx hb d_RR_withoutRepeats_120 (by decide) ?_
                  exact ih_LB f_116 Iv A_116 Rv Zv (jj + 1) (by omega) hC_116 hfr_116 (by omega) hIv (fun q h1 h2 h3 h4 => by rw [hA_116, upA_ne _ _ h1]; exact hAv q h1 h2 h3 h4) (by rw [hA_116, upA_ne _ _ (by decide)]; exact hA2v) (fun t ht => by
          rw [hA_116, upA_self]
          by_cases c1 : t = kk - 1 - nb + jj
          · rw [c1, up_self, hWv _ (by omega), if_neg (by omega), if_pos (by omega), show kk - 1 - nb + jj - (kk - 1 - nb) = jj by omega, hpt]
          · rw [up_ne _ _ c1, hWv t ht]
            by_cases c2 : kk - 1 - nb ≤ t ∧ t < kk - 1 - nb + jj
            · rw [if_pos c2, if_pos (by omega)]
            · rw [if_neg c2, if_neg (by omega)]) _ _ _ B (lv_sub hl [0, 1, 2, 3, 4, 5, 6, 7] rfl)
            exact LB _ fw Iw Aw Rw Zw 0 (Nat.lt_succ_self _) hCw hfrw (by omega) (fun _ => rfl) hAw hA2 (fun t _ => by rw [if_neg (by omega)]) _ _ _ B (lv_sub hl [0, 1, 2, 3, 4, 5, 6, 7] rfl)
          · exfalso; omega
    exact LA _ f_32 I_14 A_32 R_14 Z_14 ta (Nat.lt_succ_self _) hC_32 hfr_32 (by omega) hIc (fun q h1 h2 h3 h4 => by rw [hA_32, upA_ne _ _ h1, hAc q h1 h3 h4, hA_5, upA_ne _ _ h2]) hA322 (fun t ht => by rw [hA_32, upA_self, hzw t (by omega), if_pos ht, hAca]; exact hx0 t ht) (fun t h1 h2 => by rw [hA_32, upA_self, hzw t (by omega), if_pos h2, hAca, if_neg (by omega)]; exact htaz t h1 h2) (fun t h1 h2 => by rw [hA_32, upA_self, hzw t h2, if_neg (by omega)]) _ _ _ B (lv_sub hl [0, 1, 4, 5, 3, 2] rfl)
  · exfalso; omega
