/-! exact division of rows -/
theorem sm_one {f : Nat → Int} {j : Nat} : ∀ n, (∀ k, k < n → k ≠ j → f k = 0) → sm f n = if j < n then f j else 0 := by
  intro n
  induction n with
  | zero => intro _; rfl
  | succ n ih =>
    intro h
    rw [sm, ih (fun k hk hj => h k (by omega) hj)]
    by_cases hn : n = j
    · subst hn
      rw [if_neg (by omega), if_pos (by omega)]; omega
    · rw [h n (by omega) hn]
      by_cases hj : j < n
      · rw [if_pos hj, if_pos (by omega)]; omega
      · rw [if_neg hj, if_neg (by omega)]; omega
theorem cv_top {D B : Nat → Int} {t0 nb t : Nat} (hB : ∀ j, nb < j → j < 6 → B j = 0) (hD : ∀ j, t0 < j → j < 6 → D j = 0) (h0 : t0 < 6) (hn : nb < 6) (ht : t0 + nb ≤ t) : cv D B 5 6 t = if t = t0 + nb then D t0 * B nb else 0 := by
  have h1 := sm_one (f := fun k => if k ≤ t ∧ t - k ≤ 5 then D k * B (t - k) else 0) (j := t0) 6 (fun k hk hj => by
    show (if k ≤ t ∧ t - k ≤ 5 then D k * B (t - k) else 0) = 0
    split
    · rename_i hh
      rcases Nat.lt_or_ge k t0 with h2 | h2
      · rw [hB (t - k) (by omega) (by omega)]; simp
      · rw [hD k (by omega) hk]; simp
    · rfl)
  rw [if_pos h0] at h1
  show sm _ 6 = _
  rw [h1]
  by_cases hc : t = t0 + nb
  · rw [if_pos (by omega), if_pos hc, show t - t0 = nb by omega]
  · rw [if_neg hc]
    split
    · rw [hB (t - t0) (by omega) (by omega)]; simp
    · rfl
theorem cv_drop (D B : Nat → Int) {t0 t : Nat} (h0 : t0 < 6) : cv D B 5 6 t = cv (up D t0 0) B 5 6 t + (if t0 ≤ t ∧ t - t0 ≤ 5 then D t0 * B (t - t0) else 0) := by
  have h1 := sm_one (f := fun k => (if k ≤ t ∧ t - k ≤ 5 then D k * B (t - k) else 0) - (if k ≤ t ∧ t - k ≤ 5 then up D t0 0 k * B (t - k) else 0)) (j := t0) 6 (fun k hk hj => by
    show (if k ≤ t ∧ t - k ≤ 5 then D k * B (t - k) else 0) - (if k ≤ t ∧ t - k ≤ 5 then up D t0 0 k * B (t - k) else 0) = 0
    rw [up_ne _ _ hj]; omega)
  rw [sm_sub, if_pos h0] at h1
  have e1 : cv D B 5 6 t = sm (fun k => if k ≤ t ∧ t - k ≤ 5 then D k * B (t - k) else 0) 6 := rfl
  have e2 : cv (up D t0 0) B 5 6 t = sm (fun k => if k ≤ t ∧ t - k ≤ 5 then up D t0 0 k * B (t - k) else 0) 6 := rfl
  rw [e1, e2]
  rw [up_self] at h1
  have e3 : (if t0 ≤ t ∧ t - t0 ≤ 5 then (0 : Int) * B (t - t0) else 0) = 0 := by split <;> simp
  rw [e3] at h1
  omega
theorem largest {P : Nat → Prop} : ∀ n, (∃ i, i < n ∧ P i) → ∃ i, i < n ∧ P i ∧ ∀ j, i < j → j < n → ¬ P j := by
  intro n
  induction n with
  | zero => intro ⟨i, h, _⟩; omega
  | succ n ih =>
    intro ⟨i, h, hp⟩
    by_cases hn : P n
    · exact ⟨n, by omega, hn, fun j h1 h2 => by omega⟩
    · have hi : i < n := by
        rcases Nat.lt_or_ge i n with h1 | h1
        · exact h1
        · rw [show i = n by omega] at hp; exact absurd hp hn
      obtain ⟨k, h1, h2, h3⟩ := ih ⟨i, hi, hp⟩
      refine ⟨k, by omega, h2, fun j h4 h5 => ?_⟩
      by_cases hj : j = n
      · rw [hj]; exact hn
      · exact h3 j h4 (by omega)
/-- where the top of what is left stands -/
theorem quo_top {x D B : Nat → Int} {nb kx : Nat} (hB : ∀ j, nb < j → j < 6 → B j = 0) (hBn : B nb ≠ 0) (hn : nb < 6) (hx : ∀ t, t < 6 → x t = cv D B 5 6 t) (hD : ∀ j, j < 6 → D j ≠ 0 → j + nb ≤ 5) (hk6 : kx ≤ 6) (hz : ∀ j, kx ≤ j → j < 6 → x j = 0) (hl : 0 < kx → x (kx - 1) ≠ 0) (h0 : 0 < kx) : ∃ t0, kx = t0 + nb + 1 ∧ t0 < 6 ∧ D t0 ≠ 0 ∧ x (kx - 1) = D t0 * B nb ∧ ∀ j, t0 < j → j < 6 → D j = 0 := by
  have hne : ∃ i, i < 6 ∧ D i ≠ 0 := Classical.byContradiction (fun hn2 => by
    refine hl h0 ?_
    rw [hx (kx - 1) (by omega)]
    have zD : ∀ j, j < 6 → D j = 0 := fun j hj => Classical.byContradiction (fun h => hn2 ⟨j, hj, h⟩)
    have h1 := sm_one (f := fun k => if k ≤ kx - 1 ∧ kx - 1 - k ≤ 5 then D k * B (kx - 1 - k) else 0) (j := 6) 6 (fun k hk _ => by
      show (if k ≤ kx - 1 ∧ kx - 1 - k ≤ 5 then D k * B (kx - 1 - k) else 0) = 0
      rw [zD k hk]; split <;> simp)
    rw [if_neg (by omega)] at h1
    exact h1)
  obtain ⟨t0, h1, h2, h3⟩ := largest 6 hne
  have hD0 : ∀ j, t0 < j → j < 6 → D j = 0 := fun j h4 h5 => Classical.byContradiction (fun h => h3 j h4 h5 h)
  have h4 := hD t0 h1 h2
  have h5 := cv_top (t := t0 + nb) hB hD0 h1 hn (Nat.le_refl _)
  rw [if_pos rfl] at h5
  have h6 : D t0 * B nb ≠ 0 := Int.mul_ne_zero h2 hBn
  have h7 : t0 + nb < kx := by
    rcases Nat.lt_or_ge (t0 + nb) kx with h | h
    · exact h
    · have := hz (t0 + nb) h (by omega)
      rw [hx _ (by omega), h5] at this
      exact absurd this h6
  have h8 : kx - 1 = t0 + nb := by
    rcases Nat.lt_or_ge (t0 + nb) (kx - 1) with h | h
    · have h9 := cv_top (t := kx - 1) hB hD0 h1 hn (by omega)
      rw [if_neg (by omega), ← hx _ (by omega)] at h9
      exact absurd h9 (hl h0)
    · omega
  exact ⟨t0, by omega, h1, h2, by rw [hx _ (by omega), h8, h5], hD0⟩
theorem quo_next {x y D B : Nat → Int} {nb t0 : Nat} (hB : ∀ j, nb < j → j < 6 → B j = 0) (ht : t0 < 6) (hx : ∀ t, t < 6 → x t = cv D B 5 6 t) (hy : ∀ t, t < 6 → y t = if t0 ≤ t ∧ t ≤ t0 + nb then x t - D t0 * B (t - t0) else x t) : ∀ t, t < 6 → y t = cv (up D t0 0) B 5 6 t := by
  intro t ht6
  have h1 := cv_drop D B (t := t) ht
  rw [hy t ht6, hx t ht6]
  by_cases hc : t0 ≤ t ∧ t ≤ t0 + nb
  · rw [if_pos hc]
    rw [if_pos (by omega)] at h1
    omega
  · rw [if_neg hc]
    by_cases hd : t0 ≤ t ∧ t - t0 ≤ 5
    · rw [if_pos hd, hB (t - t0) (by omega) (by omega)] at h1
      omega
    · rw [if_neg hd] at h1
      omega
theorem quo_end {x D B : Nat → Int} {nb kx : Nat} (hB : ∀ j, nb < j → j < 6 → B j = 0) (hBn : B nb ≠ 0) (hn : nb < 6) (hx : ∀ t, t < 6 → x t = cv D B 5 6 t) (hD : ∀ j, j < 6 → D j ≠ 0 → j + nb ≤ 5) (hz : ∀ j, kx ≤ j → j < 6 → x j = 0) (hk : kx ≤ nb) : ∀ j, j < 6 → D j = 0 := by
  refine Classical.byContradiction (fun hn2 => ?_)
  have hne : ∃ i, i < 6 ∧ D i ≠ 0 := Classical.byContradiction (fun h => hn2 (fun j hj => Classical.byContradiction (fun h2 => h ⟨j, hj, h2⟩)))
  obtain ⟨t0, h1, h2, h3⟩ := largest 6 hne
  have hD0 : ∀ j, t0 < j → j < 6 → D j = 0 := fun j h4 h5 => Classical.byContradiction (fun h => h3 j h4 h5 h)
  have h4 := hD t0 h1 h2
  have h5 := cv_top (t := t0 + nb) hB hD0 h1 hn (Nat.le_refl _)
  rw [if_pos rfl, ← hx _ (by omega), hz (t0 + nb) (by omega) (by omega)] at h5
  exact Int.mul_ne_zero h2 hBn h5.symm
theorem cv_bd {D B : Nat → Int} {t : Nat} (hD : ∀ j, j < 6 → -268435456 ≤ D j ∧ D j ≤ 268435456) (hB : ∀ j, j < 6 → -268435456 ≤ B j ∧ B j ≤ 268435456) : -1000000000000000000 < cv D B 5 6 t ∧ cv D B 5 6 t < 1000000000000000000 := by
  have h1 : ∀ n : Nat, n ≤ 6 → -((n : Int) * 72057594037927936) ≤ sm (fun k => if k ≤ t ∧ t - k ≤ 5 then D k * B (t - k) else 0) n ∧ sm (fun k => if k ≤ t ∧ t - k ≤ 5 then D k * B (t - k) else 0) n ≤ (n : Int) * 72057594037927936 := by
    intro n
    induction n with
    | zero => intro _; simp [sm]
    | succ n ih =>
      intro hn
      have h2 := ih (by omega)
      rw [sm]
      have h3 : -72057594037927936 ≤ (if n ≤ t ∧ t - n ≤ 5 then D n * B (t - n) else 0) ∧ (if n ≤ t ∧ t - n ≤ 5 then D n * B (t - n) else 0) ≤ 72057594037927936 := by
        split
        · rename_i hh
          have a1 := hD n (by omega)
          have a2 := hB (t - n) (by omega)
          have p1 := Int.mul_nonneg (show 0 ≤ 268435456 - D n by omega) (show 0 ≤ 268435456 - B (t - n) by omega)
          have p2 := Int.mul_nonneg (show 0 ≤ 268435456 - D n by omega) (show 0 ≤ 268435456 + B (t - n) by omega)
          have p3 := Int.mul_nonneg (show 0 ≤ 268435456 + D n by omega) (show 0 ≤ 268435456 - B (t - n) by omega)
          have p4 := Int.mul_nonneg (show 0 ≤ 268435456 + D n by omega) (show 0 ≤ 268435456 + B (t - n) by omega)
          constructor <;> grind
        · omega
      omega
  have := h1 6 (Nat.le_refl _)
  have e : cv D B 5 6 t = sm (fun k => if k ≤ t ∧ t - k ≤ 5 then D k * B (t - k) else 0) 6 := rfl
  rw [e]
  omega
theorem d_Mo_quotient_0 : decode prog_9_method_34_code 0 = .ok (.aload_n 2, 1) := by decide +kernel
theorem d_Mo_quotient_1 : decode prog_9_method_34_code 1 = .ok (.iconst 5, 1) := by decide +kernel
theorem d_Mo_quotient_2 : decode prog_9_method_34_code 2 = .ok (.invokestatic 128, 3) := by decide +kernel
theorem d_Mo_quotient_5 : decode prog_9_method_34_code 5 = .ok (.istore_n 3, 1) := by decide +kernel
theorem d_Mo_quotient_6 : decode prog_9_method_34_code 6 = .ok (.iconst 0, 1) := by decide +kernel
theorem d_Mo_quotient_7 : decode prog_9_method_34_code 7 = .ok (.istore 4, 2) := by decide +kernel
theorem d_Mo_quotient_9 : decode prog_9_method_34_code 9 = .ok (.iload 4, 2) := by decide +kernel
theorem d_Mo_quotient_11 : decode prog_9_method_34_code 11 = .ok (.bipush 6, 2) := by decide +kernel
theorem d_Mo_quotient_13 : decode prog_9_method_34_code 13 = .ok (.if_icmp .ge 17, 3) := by decide +kernel
theorem d_Mo_quotient_16 : decode prog_9_method_34_code 16 = .ok (.aload_n 0, 1) := by decide +kernel
theorem d_Mo_quotient_17 : decode prog_9_method_34_code 17 = .ok (.getfield 36, 3) := by decide +kernel
theorem d_Mo_quotient_20 : decode prog_9_method_34_code 20 = .ok (.iload 4, 2) := by decide +kernel
theorem d_Mo_quotient_22 : decode prog_9_method_34_code 22 = .ok (.lconst 0, 1) := by decide +kernel
theorem d_Mo_quotient_23 : decode prog_9_method_34_code 23 = .ok (.lastore, 1) := by decide +kernel
theorem d_Mo_quotient_24 : decode prog_9_method_34_code 24 = .ok (.iinc 4 1, 3) := by decide +kernel
theorem d_Mo_quotient_27 : decode prog_9_method_34_code 27 = .ok (.goto (-18), 3) := by decide +kernel
theorem d_Mo_quotient_30 : decode prog_9_method_34_code 30 = .ok (.aload_n 1, 1) := by decide +kernel
theorem d_Mo_quotient_31 : decode prog_9_method_34_code 31 = .ok (.iconst 5, 1) := by decide +kernel
theorem d_Mo_quotient_32 : decode prog_9_method_34_code 32 = .ok (.invokestatic 128, 3) := by decide +kernel
theorem d_Mo_quotient_35 : decode prog_9_method_34_code 35 = .ok (.istore 4, 2) := by decide +kernel
theorem d_Mo_quotient_37 : decode prog_9_method_34_code 37 = .ok (.iload 4, 2) := by decide +kernel
theorem d_Mo_quotient_39 : decode prog_9_method_34_code 39 = .ok (.iload_n 3, 1) := by decide +kernel
theorem d_Mo_quotient_40 : decode prog_9_method_34_code 40 = .ok (.if_icmp .lt 68, 3) := by decide +kernel
theorem d_Mo_quotient_43 : decode prog_9_method_34_code 43 = .ok (.aload_n 1, 1) := by decide +kernel
theorem d_Mo_quotient_44 : decode prog_9_method_34_code 44 = .ok (.iload 4, 2) := by decide +kernel
theorem d_Mo_quotient_46 : decode prog_9_method_34_code 46 = .ok (.laload, 1) := by decide +kernel
theorem d_Mo_quotient_47 : decode prog_9_method_34_code 47 = .ok (.aload_n 2, 1) := by decide +kernel
theorem d_Mo_quotient_48 : decode prog_9_method_34_code 48 = .ok (.iload_n 3, 1) := by decide +kernel
theorem d_Mo_quotient_49 : decode prog_9_method_34_code 49 = .ok (.laload, 1) := by decide +kernel
theorem d_Mo_quotient_50 : decode prog_9_method_34_code 50 = .ok (.ldiv, 1) := by decide +kernel
theorem d_Mo_quotient_51 : decode prog_9_method_34_code 51 = .ok (.lstore 5, 2) := by decide +kernel
theorem d_Mo_quotient_53 : decode prog_9_method_34_code 53 = .ok (.aload_n 0, 1) := by decide +kernel
theorem d_Mo_quotient_54 : decode prog_9_method_34_code 54 = .ok (.getfield 36, 3) := by decide +kernel
theorem d_Mo_quotient_57 : decode prog_9_method_34_code 57 = .ok (.iload 4, 2) := by decide +kernel
theorem d_Mo_quotient_59 : decode prog_9_method_34_code 59 = .ok (.iload_n 3, 1) := by decide +kernel
theorem d_Mo_quotient_60 : decode prog_9_method_34_code 60 = .ok (.isub, 1) := by decide +kernel
theorem d_Mo_quotient_61 : decode prog_9_method_34_code 61 = .ok (.lload 5, 2) := by decide +kernel
theorem d_Mo_quotient_63 : decode prog_9_method_34_code 63 = .ok (.lastore, 1) := by decide +kernel
theorem d_Mo_quotient_64 : decode prog_9_method_34_code 64 = .ok (.iconst 0, 1) := by decide +kernel
theorem d_Mo_quotient_65 : decode prog_9_method_34_code 65 = .ok (.istore 7, 2) := by decide +kernel
theorem d_Mo_quotient_67 : decode prog_9_method_34_code 67 = .ok (.iload 7, 2) := by decide +kernel
theorem d_Mo_quotient_69 : decode prog_9_method_34_code 69 = .ok (.iload_n 3, 1) := by decide +kernel
theorem d_Mo_quotient_70 : decode prog_9_method_34_code 70 = .ok (.if_icmp .gt 28, 3) := by decide +kernel
theorem d_Mo_quotient_73 : decode prog_9_method_34_code 73 = .ok (.aload_n 1, 1) := by decide +kernel
theorem d_Mo_quotient_74 : decode prog_9_method_34_code 74 = .ok (.iload 4, 2) := by decide +kernel
theorem d_Mo_quotient_76 : decode prog_9_method_34_code 76 = .ok (.iload_n 3, 1) := by decide +kernel
theorem d_Mo_quotient_77 : decode prog_9_method_34_code 77 = .ok (.isub, 1) := by decide +kernel
theorem d_Mo_quotient_78 : decode prog_9_method_34_code 78 = .ok (.iload 7, 2) := by decide +kernel
theorem d_Mo_quotient_80 : decode prog_9_method_34_code 80 = .ok (.iadd, 1) := by decide +kernel
theorem d_Mo_quotient_81 : decode prog_9_method_34_code 81 = .ok (.dup2, 1) := by decide +kernel
theorem d_Mo_quotient_82 : decode prog_9_method_34_code 82 = .ok (.laload, 1) := by decide +kernel
theorem d_Mo_quotient_83 : decode prog_9_method_34_code 83 = .ok (.lload 5, 2) := by decide +kernel
theorem d_Mo_quotient_85 : decode prog_9_method_34_code 85 = .ok (.aload_n 2, 1) := by decide +kernel
theorem d_Mo_quotient_86 : decode prog_9_method_34_code 86 = .ok (.iload 7, 2) := by decide +kernel
theorem d_Mo_quotient_88 : decode prog_9_method_34_code 88 = .ok (.laload, 1) := by decide +kernel
theorem d_Mo_quotient_89 : decode prog_9_method_34_code 89 = .ok (.lmul, 1) := by decide +kernel
theorem d_Mo_quotient_90 : decode prog_9_method_34_code 90 = .ok (.lsub, 1) := by decide +kernel
theorem d_Mo_quotient_91 : decode prog_9_method_34_code 91 = .ok (.lastore, 1) := by decide +kernel
theorem d_Mo_quotient_92 : decode prog_9_method_34_code 92 = .ok (.iinc 7 1, 3) := by decide +kernel
theorem d_Mo_quotient_95 : decode prog_9_method_34_code 95 = .ok (.goto (-28), 3) := by decide +kernel
theorem d_Mo_quotient_98 : decode prog_9_method_34_code 98 = .ok (.aload_n 1, 1) := by decide +kernel
theorem d_Mo_quotient_99 : decode prog_9_method_34_code 99 = .ok (.iconst 5, 1) := by decide +kernel
theorem d_Mo_quotient_100 : decode prog_9_method_34_code 100 = .ok (.invokestatic 128, 3) := by decide +kernel
theorem d_Mo_quotient_103 : decode prog_9_method_34_code 103 = .ok (.istore 4, 2) := by decide +kernel
theorem d_Mo_quotient_105 : decode prog_9_method_34_code 105 = .ok (.goto (-68), 3) := by decide +kernel
theorem d_Mo_quotient_108 : decode prog_9_method_34_code 108 = .ok (.return_, 1) := by decide +kernel
set_option maxHeartbeats 8000000 in
set_option maxRecDepth 100000 in
theorem c_Mo_quotient (l : Launch) (D : va_G) (cs : Nat → ClassId) (L : List Nat) (f : Nat → va_E) (sz : Nat) (y m1 m2 m3 m5 m6 m7 m8 m9 m10 m11 m12 m13 m15 : Nat) (th pn rw_ fu fb : Int) (ta tb nb : Nat) (ww aw bw C0 : Nat → Int) (hF : Fc L [y, m10, ta, tb]) (ha : f y = .inr (7, [.int (iI th), .ref m1, .ref m2, .ref m3, .int (iI pn), .ref m5, .ref m6, .ref m7, .ref m8, .ref m9, .ref m10, .ref m11, .ref m12, .ref m13, .int (iI rw_), .ref m15, .long (lI fu), .long (lI fb)])) (hm10 : f m10 = .inl (cs 1, 6, .inr (.inl (al ww)))) (hta : f ta = .inl (cs 1, 6, .inr (.inl (al aw)))) (htb : f tb = .inl (cs 1, 6, .inr (.inl (al bw)))) (hnb6 : nb < 6) (hBz : ∀ j, nb < j → j < 6 → bw j = 0) (hBn : bw nb ≠ 0) (hBb : ∀ j, j < 6 → -268435456 ≤ bw j ∧ bw j ≤ 268435456) (hCb : ∀ j, j < 6 → -268435456 ≤ C0 j ∧ C0 j ≤ 268435456) (hCd : ∀ j, j < 6 → C0 j ≠ 0 → j + nb ≤ 5) (hAC : ∀ t, t < 6 → aw t = cv C0 bw 5 6 t) : Met l (⟨"RealRootsModel", "quotient", "([J[J)V"⟩ : MethodName) (.code (⟨"RealRootsModel", "quotient", "([J[J)V"⟩ : MethodName) prog_9_method_34_code 8 (Option.none : Option Jvm.ClassFile.FieldType) :: gw) ({ frames := 1, cells := 0, slots := 0, locals := 40 }) (va_Pc [.ref y, .ref ta, .ref tb] (K0 D vwCl (TY cs) L f sz)) (va_Qv (fun (g : Nat → va_E) => ∃ z' x' : Nat → Int, (∀ j, j < 6 → z' j = C0 j) ∧ g = mw f [(m10, .inl (cs 1, 6, .inr (.inl (al (z'))))), (ta, .inl (cs 1, 6, .inr (.inl (al (x')))))]) (K1 D vwCl (TY cs) (AL L sz) L) (AL L sz)) 0 0 (AL L sz) := by
  refine Met.ofW (cc := prog_9_method_34_code) (maxL := 8) (ret := (Option.none : Option Jvm.ClassFile.FieldType)) (by decide) rfl ?_
  intro p e s m args below meth c s₁ Bd hml hv
  obtain ⟨rfl, hk0⟩ := hv
  obtain ⟨hsz, B⟩ := hk0.start
  subst hsz
  have hx := Bd.exec
  have hb := Bd.bytes
  have hr := Bd.returns
  have hlocks := Bd.notSynchronized
  have hts0 := atoms_spec Bd.pre
  have hown : s.vm.findClass RX7 = some m.cls := findClass_of_methodNamed Bd.named
  have hA : ∀ q, s.heap.size ≤ q → AL L s.heap.size q := fun _ h => Or.inr h
  have hl := lv_entry ([.ref y, .ref ta, .ref tb]) (n := 8) (Nat.le_of_ble_eq_true rfl)
  rw [lg_entry_eq]
  generalize (lg_sl ([.ref y, .ref ta, .ref tb]) ++ List.replicate (8 - (lg_sl ([.ref y, .ref ta, .ref tb])).length) Slot.unset).toArray = ls at hl ⊢
  refine absQ (fun Q R av hQ hR hav => ?_)
  have hts : ∀ w ∈ gw, w.before av s = true := by rw [hav]; exact fun w h => hts0 w (List.mem_cons_of_mem _ h)
  have hRf : R.frames = 1 := by rw [hR]; rfl
  have hRl : R.locals = 40 := by rw [hR]; rfl
  have hRc : R.cells = 0 := by rw [hR]; rfl
  have hRs : R.slots = 0 := by rw [hR]; rfl
  clear hR hts0 Bd
  have hl : lv_has ls 8 [(0, .ref y), (1, .ref ta), (2, .ref tb)] := hl
  have hfx : ∀ q ∈ ([(y, .inr (7, [.int (iI th), .ref m1, .ref m2, .ref m3, .int (iI pn), .ref m5, .ref m6, .ref m7, .ref m8, .ref m9, .ref m10, .ref m11, .ref m12, .ref m13, .int (iI rw_), .ref m15, .long (lI fu), .long (lI fb)])), (m10, .inl (cs 1, 6, .inr (.inl (al ww)))), (ta, .inl (cs 1, 6, .inr (.inl (al aw)))), (tb, .inl (cs 1, 6, .inr (.inl (al bw))))] : List (Nat × va_E)), f q.1 = q.2 := fun q hq => by
    simp only [List.mem_cons, List.not_mem_nil, or_false] at hq
    rcases hq with rfl | rfl | rfl | rfl
    · exact ha
    · exact hm10
    · exact hta
    · exact htb
  have hmw : mw f [(y, .inr (7, [.int (iI th), .ref m1, .ref m2, .ref m3, .int (iI pn), .ref m5, .ref m6, .ref m7, .ref m8, .ref m9, .ref m10, .ref m11, .ref m12, .ref m13, .int (iI rw_), .ref m15, .long (lI fu), .long (lI fb)])), (m10, .inl (cs 1, 6, .inr (.inl (al ww)))), (ta, .inl (cs 1, 6, .inr (.inl (al aw)))), (tb, .inl (cs 1, 6, .inr (.inl (al bw))))] = f := mw_self (fun k a e hk => hfx (a, e) (List.mem_of_getElem? hk))
  have B := B.focus [(y, .inr (7, [.int (iI th), .ref m1, .ref m2, .ref m3, .int (iI pn), .ref m5, .ref m6, .ref m7, .ref m8, .ref m9, .ref m10, .ref m11, .ref m12, .ref m13, .int (iI rw_), .ref m15, .long (lI fu), .long (lI fb)])), (m10, .inl (cs 1, 6, .inr (.inl (al ww)))), (ta, .inl (cs 1, 6, .inr (.inl (al aw)))), (tb, .inl (cs 1, 6, .inr (.inl (al bw))))] hfx
  refine lv_aload_n hx hb d_Mo_quotient_0 rfl (lv_at hl 2 rfl) ?_
  refine x_iconst hx hb d_Mo_quotient_1 ?_
  refine x_calli B hA (va_runS (As := [.ref tb, .int (iI 5)]) (rest := []) ⟨hx, hb, hml, hown, hts⟩ (c_Mo_degreeIn l D cs _ _ _ tb bw (hF.pick [3] rfl rfl) (mw_get (X := [(y, .inr (7, [.int (iI th), .ref m1, .ref m2, .ref m3, .int (iI pn), .ref m5, .ref m6, .ref m7, .ref m8, .ref m9, .ref m10, .ref m11, .ref m12, .ref m13, .int (iI rw_), .ref m15, .long (lI fu), .long (lI fb)])), (m10, .inl (cs 1, 6, .inr (.inl (al ww)))), (ta, .inl (cs 1, 6, .inr (.inl (al aw)))), (tb, .inl (cs 1, 6, .inr (.inl (al bw))))]) hF.1 (k := 3) rfl) (fun j hj => by have h9 := hBb j hj; omega)) (va_cwS 2 hts (gw_S w_859 w_860 w_8 w_861) rfl rfl rfl (by decide +kernel) ⟨by rw [hRf]; exact Nat.le_of_ble_eq_true rfl, by rw [hRl]; exact Nat.le_of_ble_eq_true rfl⟩) ⟨K0.blind, B.pre _⟩ rfl rfl hl.1 rfl (lv_room (Nat.le_of_ble_eq_true rfl)) d_Mo_quotient_2 ⟨by rw [hRc]; omega, by rw [hRs]; omega⟩) (fun r2 g2 H locs hw B => ?_)
  obtain ⟨kb, rfl, hkb6, hkbz, hkbl, rfl⟩ := hw
  have B : Wb D vwCl (TY cs) L (mw f [(y, .inr (7, [.int (iI th), .ref m1, .ref m2, .ref m3, .int (iI pn), .ref m5, .ref m6, .ref m7, .ref m8, .ref m9, .ref m10, .ref m11, .ref m12, .ref m13, .int (iI rw_), .ref m15, .long (lI fu), .long (lI fb)])), (m10, .inl (cs 1, 6, .inr (.inl (al ww)))), (ta, .inl (cs 1, 6, .inr (.inl (al aw)))), (tb, .inl (cs 1, 6, .inr (.inl (al bw))))]) (AL L s.heap.size) s H _ := B
  have hkb : kb = nb + 1 := by
    rcases Nat.lt_trichotomy kb (nb + 1) with h | h | h
    · exact absurd (hkbz nb (by omega) (by omega)) hBn
    · exact h
    · exact absurd (hBz (kb - 1) (by omega) (by omega)) (hkbl (by omega))
  rw [show (kb : Int) - 1 = (nb : Int) by omega]
  refine lv_istore_n (lv' := [(3, .int (iI ((nb : Int)))), (0, .ref y), (1, .ref ta), (2, .ref tb)]) hx hb d_Mo_quotient_5 rfl hl (by decide) rfl (fun ls hl => ?_)
  refine x_iconst hx hb d_Mo_quotient_6 ?_
  refine lv_istore (lv' := [(4, .int (iI 0)), (3, .int (iI ((nb : Int)))), (0, .ref y), (1, .ref ta), (2, .ref tb)]) hx hb d_Mo_quotient_7 hl (by decide) rfl (fun ls hl => ?_)
  have L1 : ∀ (fuel : Nat) (k : Nat) (z : Nat → Int), 6 - k < fuel → (k ≤ 6) → (∀ j, j < k → z j = 0) → ∀ (H : Heap) (locs : List Loc) (ls : Array Slot), Wb D vwCl (TY cs) L (mw f [(y, .inr (7, [.int (iI th), .ref m1, .ref m2, .ref m3, .int (iI pn), .ref m5, .ref m6, .ref m7, .ref m8, .ref m9, .ref m10, .ref m11, .ref m12, .ref m13, .int (iI rw_), .ref m15, .long (lI fu), .long (lI fb)])), (m10, .inl (cs 1, 6, .inr (.inl (al z)))), (ta, .inl (cs 1, 6, .inr (.inl (al aw)))), (tb, .inl (cs 1, 6, .inr (.inl (al bw))))]) (AL L s.heap.size) s H locs → lv_has ls 8 [(4, .int (iI ((k : Int)))), (3, .int (iI ((nb : Int)))), (0, .ref y), (1, .ref ta), (2, .ref tb)] → W p l e R s m av below meth c H locs (0) (0) Q (F0 m 9 ls []) := by
    intro fuel
    induction fuel with
    | zero => intro k z hfu; exact absurd hfu (Nat.not_lt_zero _)
    | succ fuel ih_L1 =>
      intro k z hfu_L1 hk hI H locs ls B hl
      refine lv_iload hx hb d_Mo_quotient_9 (lv_at hl 0 rfl) ?_
      refine x_bipush hx hb d_Mo_quotient_11 (by decide) ?_
      refine x_icmp_ge (tgt := 30) hx hb d_Mo_quotient_13 (by decide) (by omega) (by omega) (fun h13 => ?_) (fun h13 => ?_)
      · refine lv_aload_n hx hb d_Mo_quotient_30 rfl (lv_at hl 3 rfl) ?_
        refine x_iconst hx hb d_Mo_quotient_31 ?_
        refine x_calli B hA (va_runS (As := [.ref ta, .int (iI 5)]) (rest := []) ⟨hx, hb, hml, hown, hts⟩ (c_Mo_degreeIn l D cs _ _ _ ta aw (hF.pick [2] rfl rfl) (mw_get (X := [(y, .inr (7, [.int (iI th), .ref m1, .ref m2, .ref m3, .int (iI pn), .ref m5, .ref m6, .ref m7, .ref m8, .ref m9, .ref m10, .ref m11, .ref m12, .ref m13, .int (iI rw_), .ref m15, .long (lI fu), .long (lI fb)])), (m10, .inl (cs 1, 6, .inr (.inl (al z)))), (ta, .inl (cs 1, 6, .inr (.inl (al aw)))), (tb, .inl (cs 1, 6, .inr (.inl (al bw))))]) hF.1 (k := 2) rfl) (fun j hj => by have h9 := cv_bd (t := j) hCb hBb; rw [hAC j hj]; omega)) (va_cwS 2 hts (gw_S w_859 w_860 w_8 w_861) rfl rfl rfl (by decide +kernel) ⟨by rw [hRf]; exact Nat.le_of_ble_eq_true rfl, by rw [hRl]; exact Nat.le_of_ble_eq_true rfl⟩) ⟨K0.blind, B.pre _⟩ rfl rfl hl.1 rfl (lv_room (Nat.le_of_ble_eq_true rfl)) d_Mo_quotient_32 ⟨by rw [hRc]; omega, by rw [hRs]; omega⟩) (fun r32 g32 H locs hw B => ?_)
        obtain ⟨ka, rfl, hka6, hkaz, hkal, rfl⟩ := hw
        have B : Wb D vwCl (TY cs) L (mw f [(y, .inr (7, [.int (iI th), .ref m1, .ref m2, .ref m3, .int (iI pn), .ref m5, .ref m6, .ref m7, .ref m8, .ref m9, .ref m10, .ref m11, .ref m12, .ref m13, .int (iI rw_), .ref m15, .long (lI fu), .long (lI fb)])), (m10, .inl (cs 1, 6, .inr (.inl (al z)))), (ta, .inl (cs 1, 6, .inr (.inl (al aw)))), (tb, .inl (cs 1, 6, .inr (.inl (al bw))))]) (AL L s.heap.size) s H _ := B
        refine lv_istore (lv' := [(4, .int (iI ((ka : Int) - 1))), (3, .int (iI ((nb : Int)))), (0, .ref y), (1, .ref ta), (2, .ref tb)]) hx hb d_Mo_quotient_35 hl (by decide) rfl (fun ls hl => ?_)
        have L2 : ∀ (fuel : Nat) (kx : Nat) (x : Nat → Int) (z2 : Nat → Int) (D0 : Nat → Int), kx < fuel → (kx ≤ 6) → (∀ j, kx ≤ j → j < 6 → x j = 0) → (0 < kx → x (kx - 1) ≠ 0) → (∀ t, t < 6 → x t = cv D0 bw 5 6 t) → (∀ j, j < 6 → (D0 j = C0 j ∧ z2 j = 0) ∨ (D0 j = 0 ∧ z2 j = C0 j)) → ∀ (H : Heap) (locs : List Loc) (ls : Array Slot), Wb D vwCl (TY cs) L (mw f [(y, .inr (7, [.int (iI th), .ref m1, .ref m2, .ref m3, .int (iI pn), .ref m5, .ref m6, .ref m7, .ref m8, .ref m9, .ref m10, .ref m11, .ref m12, .ref m13, .int (iI rw_), .ref m15, .long (lI fu), .long (lI fb)])), (m10, .inl (cs 1, 6, .inr (.inl (al z2)))), (ta, .inl (cs 1, 6, .inr (.inl (al x)))), (tb, .inl (cs 1, 6, .inr (.inl (al bw))))]) (AL L s.heap.size) s H locs → lv_has ls 8 [(4, .int (iI ((kx : Int) - 1))), (3, .int (iI ((nb : Int)))), (0, .ref y), (1, .ref ta), (2, .ref tb)] → W p l e R s m av below meth c H locs (0) (0) Q (F0 m 37 ls []) := by
          intro fuel
          induction fuel with
          | zero => intro kx x z2 D0 hfu; exact absurd hfu (Nat.not_lt_zero _)
          | succ fuel ih_L2 =>
            intro kx x z2 D0 hfu_L2 hk6 hxz hxl hxc hDC H locs ls B hl
            have hDn : ∀ j, j < 6 → D0 j ≠ 0 → j + nb ≤ 5 := fun j hj h => by rcases hDC j hj with h1 | h1; exact hCd j hj (by rw [← h1.1]; exact h); exact absurd h1.1 h
            have hDb : ∀ j, j < 6 → -268435456 ≤ D0 j ∧ D0 j ≤ 268435456 := fun j hj => by rcases hDC j hj with h1 | h1; rw [h1.1]; exact hCb j hj; rw [h1.1]; omega
            refine lv_iload hx hb d_Mo_quotient_37 (lv_at hl 0 rfl) ?_
            refine lv_iload_n hx hb d_Mo_quotient_39 rfl (lv_at hl 1 rfl) ?_
            refine x_icmp_lt (tgt := 108) hx hb d_Mo_quotient_40 (by decide) (by omega) (by omega) (fun h40 => ?_) (fun h40 => ?_)
            · subst hQ hav
              exact x_vret hx hb hr hlocks B d_Mo_quotient_108 (by
      have hDz := quo_end hBz hBn hnb6 hxc hDn hxz (by omega)
      exact ⟨z2, x, fun j hj => by rcases hDC j hj with h | h; rw [h.2, ← h.1, hDz j hj]; exact h.2, Eq.trans (mw_drop (f := f) (X := [(m10, .inl (cs 1, 6, .inr (.inl (al z2)))), (ta, .inl (cs 1, 6, .inr (.inl (al x)))), (tb, .inl (cs 1, 6, .inr (.inl (al bw))))]) ha (List.nodup_cons.mp hF.1).1) (mw_tail (X := [(m10, .inl (cs 1, 6, .inr (.inl (al z2)))), (ta, .inl (cs 1, 6, .inr (.inl (al x))))]) (Y := [(tb, .inl (cs 1, 6, .inr (.inl (al bw))))]) (fun p hp => hfx p (List.mem_cons_of_mem _ (List.mem_cons_of_mem _ (List.mem_cons_of_mem _ (hp))))))⟩)
            · obtain ⟨t0, hkx, ht6, hDt, hxt, hD0⟩ := quo_top hBz hBn hnb6 hxc hDn hk6 hxz hxl (by omega)
              rw [show (kx : Int) - 1 = ((t0 + nb : Nat) : Int) by omega] at hl
              rw [show kx - 1 = t0 + nb by omega] at hxt
              have htn := hDn t0 ht6 hDt
              have hxr : -1000000000000000000 < x (t0 + nb) ∧ x (t0 + nb) < 1000000000000000000 := by rw [hxc _ (by omega)]; exact cv_bd hDb hBb
              have hbn := hBb nb hnb6
              refine lv_aload_n hx hb d_Mo_quotient_43 rfl (lv_at hl 3 rfl) ?_
              refine lv_iload hx hb d_Mo_quotient_44 (lv_at hl 0 rfl) ?_
              refine x_lald hx hb B hF 2 1 rfl rfl (t0 + nb) (by omega) (by omega) (by decide) d_Mo_quotient_46 ?_
              refine lv_aload_n hx hb d_Mo_quotient_47 rfl (lv_at hl 4 rfl) ?_
              refine lv_iload_n hx hb d_Mo_quotient_48 rfl (lv_at hl 1 rfl) ?_
              refine x_lald hx hb B hF 3 1 rfl rfl nb (by omega) (by omega) (by decide) d_Mo_quotient_49 ?_
              refine x_ldiv hx hb d_Mo_quotient_50 (by omega) (by omega) (by omega) ?_
              rw [show (x (t0 + nb)).tdiv (bw nb) = D0 t0 by rw [hxt]; exact Int.mul_tdiv_cancel _ hBn]
              refine lv_lstore (lv' := [(5, .long (lI (D0 t0))), (4, .int (iI (((t0 + nb : Nat) : Int)))), (3, .int (iI ((nb : Int)))), (0, .ref y), (1, .ref ta), (2, .ref tb)]) hx hb d_Mo_quotient_51 hl (by decide) rfl (fun ls hl => ?_)
              refine lv_aload_n hx hb d_Mo_quotient_53 rfl (lv_at hl 3 rfl) ?_
              refine x_get (C := RX7) (T := TX7) (N := 18) hx hb hts inX7 hown B hF 0 rfl rfl 10 (by decide) (hts _ w_687) (fun _ h9 => h9) rfl d_Mo_quotient_54 ?_
              refine lv_iload hx hb d_Mo_quotient_57 (lv_at hl 1 rfl) ?_
              refine lv_iload_n hx hb d_Mo_quotient_59 rfl (lv_at hl 2 rfl) ?_
              refine x_isub hx hb d_Mo_quotient_60 ?_
              refine lv_lload hx hb d_Mo_quotient_61 (lv_at hl 0 rfl) ?_
              refine x_last hx hb B hF 1 1 rfl rfl t0 (by omega) (by omega) (by decide) d_Mo_quotient_63 (fun H locs B => ?_)
              have B : Wb D vwCl (TY cs) L (mw f [(y, .inr (7, [.int (iI th), .ref m1, .ref m2, .ref m3, .int (iI pn), .ref m5, .ref m6, .ref m7, .ref m8, .ref m9, .ref m10, .ref m11, .ref m12, .ref m13, .int (iI rw_), .ref m15, .long (lI fu), .long (lI fb)])), (m10, .inl (cs 1, 6, .inr (.inl (al (up z2 t0 (D0 t0)))))), (ta, .inl (cs 1, 6, .inr (.inl (al x)))), (tb, .inl (cs 1, 6, .inr (.inl (al bw))))]) (AL L s.heap.size) s H _ := B
              refine x_iconst hx hb d_Mo_quotient_64 ?_
              refine lv_istore (lv' := [(7, .int (iI 0)), (5, .long (lI (D0 t0))), (4, .int (iI (((t0 + nb : Nat) : Int)))), (3, .int (iI ((nb : Int)))), (0, .ref y), (1, .ref ta), (2, .ref tb)]) hx hb d_Mo_quotient_65 hl (by decide) rfl (fun ls hl => ?_)
              have L3 : ∀ (fuel : Nat) (i : Nat) (y2 : Nat → Int), nb + 1 - i < fuel → (i ≤ nb + 1) → (∀ t, t < 6 → y2 t = if t0 ≤ t ∧ t < t0 + i then x t - D0 t0 * bw (t - t0) else x t) → ∀ (H : Heap) (locs : List Loc) (ls : Array Slot), Wb D vwCl (TY cs) L (mw f [(y, .inr (7, [.int (iI th), .ref m1, .ref m2, .ref m3, .int (iI pn), .ref m5, .ref m6, .ref m7, .ref m8, .ref m9, .ref m10, .ref m11, .ref m12, .ref m13, .int (iI rw_), .ref m15, .long (lI fu), .long (lI fb)])), (m10, .inl (cs 1, 6, .inr (.inl (al (up z2 t0 (D0 t0)))))), (ta, .inl (cs 1, 6, .inr (.inl (al y2)))), (tb, .inl (cs 1, 6, .inr (.inl (al bw))))]) (AL L s.heap.size) s H locs → lv_has ls 8 [(7, .int (iI ((i : Int)))), (5, .long (lI (D0 t0))), (4, .int (iI (((t0 + nb : Nat) : Int)))), (3, .int (iI ((nb : Int)))), (0, .ref y), (1, .ref ta), (2, .ref tb)] → W p l e R s m av below meth c H locs (0) (0) Q (F0 m 67 ls []) := by
                intro fuel
                induction fuel with
                | zero => intro i y2 hfu; exact absurd hfu (Nat.not_lt_zero _)
                | succ fuel ih_L3 =>
                  intro i y2 hfu_L3 hi hy H locs ls B hl
                  refine lv_iload hx hb d_Mo_quotient_67 (lv_at hl 0 rfl) ?_
                  refine lv_iload_n hx hb d_Mo_quotient_69 rfl (lv_at hl 3 rfl) ?_
                  refine x_icmp_gt (tgt := 98) hx hb d_Mo_quotient_70 (by decide) (by omega) (by omega) (fun h70 => ?_) (fun h70 => ?_)
                  · have hyc := quo_next (y := y2) hBz ht6 hxc (fun t ht => by rw [hy t ht]; by_cases hc : t0 ≤ t ∧ t < t0 + i; rw [if_pos hc, if_pos (by omega)]; rw [if_neg hc, if_neg (by omega)])
                    have hub : ∀ j, j < 6 → -268435456 ≤ up D0 t0 0 j ∧ up D0 t0 0 j ≤ 268435456 := fun j hj => by by_cases h : j = t0; rw [h, up_self]; omega; rw [up_ne _ _ h]; exact hDb j hj
                    refine lv_aload_n hx hb d_Mo_quotient_98 rfl (lv_at hl 5 rfl) ?_
                    refine x_iconst hx hb d_Mo_quotient_99 ?_
                    refine x_calli B hA (va_runS (As := [.ref ta, .int (iI 5)]) (rest := []) ⟨hx, hb, hml, hown, hts⟩ (c_Mo_degreeIn l D cs _ _ _ ta y2 (hF.pick [2] rfl rfl) (mw_get (X := [(y, .inr (7, [.int (iI th), .ref m1, .ref m2, .ref m3, .int (iI pn), .ref m5, .ref m6, .ref m7, .ref m8, .ref m9, .ref m10, .ref m11, .ref m12, .ref m13, .int (iI rw_), .ref m15, .long (lI fu), .long (lI fb)])), (m10, .inl (cs 1, 6, .inr (.inl (al (up z2 t0 (D0 t0)))))), (ta, .inl (cs 1, 6, .inr (.inl (al y2)))), (tb, .inl (cs 1, 6, .inr (.inl (al bw))))]) hF.1 (k := 2) rfl) (fun j hj => by have h9 := cv_bd (t := j) hub hBb; rw [hyc j hj]; omega)) (va_cwS 2 hts (gw_S w_859 w_860 w_8 w_861) rfl rfl rfl (by decide +kernel) ⟨by rw [hRf]; exact Nat.le_of_ble_eq_true rfl, by rw [hRl]; exact Nat.le_of_ble_eq_true rfl⟩) ⟨K0.blind, B.pre _⟩ rfl rfl hl.1 rfl (lv_room (Nat.le_of_ble_eq_true rfl)) d_Mo_quotient_100 ⟨by rw [hRc]; omega, by rw [hRs]; omega⟩) (fun r100 g100 H locs hw B => ?_)
                    obtain ⟨k2, rfl, hk26, hk2z, hk2l, rfl⟩ := hw
                    have B : Wb D vwCl (TY cs) L (mw f [(y, .inr (7, [.int (iI th), .ref m1, .ref m2, .ref m3, .int (iI pn), .ref m5, .ref m6, .ref m7, .ref m8, .ref m9, .ref m10, .ref m11, .ref m12, .ref m13, .int (iI rw_), .ref m15, .long (lI fu), .long (lI fb)])), (m10, .inl (cs 1, 6, .inr (.inl (al (up z2 t0 (D0 t0)))))), (ta, .inl (cs 1, 6, .inr (.inl (al y2)))), (tb, .inl (cs 1, 6, .inr (.inl (al bw))))]) (AL L s.heap.size) s H _ := B
                    have hk2x : k2 < kx := by
                      rcases Nat.lt_or_ge k2 kx with h | h
                      · exact h
                      · exfalso
                        refine hk2l (by omega) ?_
                        have hu0 : ∀ j, t0 < j → j < 6 → up D0 t0 0 j = 0 := fun j h1 h2 => by rw [up_ne _ _ (by omega)]; exact hD0 j h1 h2
                        rw [hyc _ (by omega), cv_top (t := k2 - 1) hBz hu0 ht6 hnb6 (by omega), up_self, Int.zero_mul]
                        split <;> rfl
                    refine lv_istore (lv' := [(4, .int (iI ((k2 : Int) - 1))), (7, .int (iI ((i : Int)))), (5, .long (lI (D0 t0))), (3, .int (iI ((nb : Int)))), (0, .ref y), (1, .ref ta), (2, .ref tb)]) hx hb d_Mo_quotient_103 hl (by decide) rfl (fun ls hl => ?_)
                    refine lv_goto (tgt := 37) hx hb d_Mo_quotient_105 (by decide) ?_
                    exact ih_L2 k2 y2 (up z2 t0 (D0 t0)) (up D0 t0 0) (by omega) hk26 hk2z hk2l hyc (fun j hj => by
          by_cases hjt : j = t0
          · rw [hjt, up_self, up_self]; exact Or.inr ⟨rfl, by rcases hDC t0 ht6 with h | h; exact h.1; exact absurd h.1 hDt⟩
          · rw [up_ne _ _ hjt, up_ne _ _ hjt]; exact hDC j hj) _ _ _ B (lv_sub hl [0, 3, 4, 5, 6] rfl)
                  · refine lv_aload_n hx hb d_Mo_quotient_73 rfl (lv_at hl 5 rfl) ?_
                    refine lv_iload hx hb d_Mo_quotient_74 (lv_at hl 2 rfl) ?_
                    refine lv_iload_n hx hb d_Mo_quotient_76 rfl (lv_at hl 3 rfl) ?_
                    refine x_isub hx hb d_Mo_quotient_77 ?_
                    refine lv_iload hx hb d_Mo_quotient_78 (lv_at hl 0 rfl) ?_
                    refine x_iadd hx hb d_Mo_quotient_80 ?_
                    refine lv_dup2_11 hx hb d_Mo_quotient_81 rfl rfl ?_
                    refine x_lald hx hb B hF 2 1 rfl rfl (t0 + i) (by omega) (by omega) (by decide) d_Mo_quotient_82 ?_
                    refine lv_lload hx hb d_Mo_quotient_83 (lv_at hl 1 rfl) ?_
                    refine lv_aload_n hx hb d_Mo_quotient_85 rfl (lv_at hl 6 rfl) ?_
                    refine lv_iload hx hb d_Mo_quotient_86 (lv_at hl 0 rfl) ?_
                    refine x_lald hx hb B hF 3 1 rfl rfl i (by omega) (by omega) (by decide) d_Mo_quotient_88 ?_
                    refine x_lmul hx hb d_Mo_quotient_89 ?_
                    refine x_lsub hx hb d_Mo_quotient_90 ?_
                    refine x_last hx hb B hF 2 1 rfl rfl (t0 + i) (by omega) (by omega) (by decide) d_Mo_quotient_91 (fun H locs B => ?_)
                    have B : Wb D vwCl (TY cs) L (mw f [(y, .inr (7, [.int (iI th), .ref m1, .ref m2, .ref m3, .int (iI pn), .ref m5, .ref m6, .ref m7, .ref m8, .ref m9, .ref m10, .ref m11, .ref m12, .ref m13, .int (iI rw_), .ref m15, .long (lI fu), .long (lI fb)])), (m10, .inl (cs 1, 6, .inr (.inl (al (up z2 t0 (D0 t0)))))), (ta, .inl (cs 1, 6, .inr (.inl (al (up y2 (t0 + i) ((y2 (t0 + i)) - ((D0 t0) * (bw i)))))))), (tb, .inl (cs 1, 6, .inr (.inl (al bw))))]) (AL L s.heap.size) s H _ := B
                    refine x_iinc (lv' := [(7, .int (iI (((i : Int)) + 1))), (5, .long (lI (D0 t0))), (4, .int (iI (((t0 + nb : Nat) : Int)))), (3, .int (iI ((nb : Int)))), (0, .ref y), (1, .ref ta), (2, .ref tb)]) hx hb d_Mo_quotient_92 hl (q := 0) rfl rfl (by decide) rfl (fun ls hl => ?_)
                    refine lv_goto (tgt := 67) hx hb d_Mo_quotient_95 (by decide) ?_
                    exact ih_L3 (i + 1) (up y2 (t0 + i) ((y2 (t0 + i)) - ((D0 t0) * (bw i)))) (by omega) (by omega) (fun t ht => by
          by_cases hti : t = t0 + i
          · rw [hti, up_self, hy (t0 + i) (by omega), if_neg (by omega), if_pos (by omega), show t0 + i - t0 = i by omega]
          · rw [up_ne _ _ hti, hy t ht]
            by_cases hc : t0 ≤ t ∧ t < t0 + i
            · rw [if_pos hc, if_pos (by omega)]
            · rw [if_neg hc, if_neg (by omega)]) _ _ _ B (lv_sub hl [0, 1, 2, 3, 4, 5, 6] rfl)
              exact L3 _ 0 x (Nat.lt_succ_self _) (by omega) (fun t ht => by rw [if_neg (by omega)]) _ _ _ B (lv_sub hl [0, 1, 2, 3, 4, 5, 6] rfl)
        exact L2 _ ka aw z C0 (Nat.lt_succ_self _) hka6 hkaz hkal hAC (fun j hj => Or.inl ⟨rfl, hI j (by omega)⟩) _ _ _ B (lv_sub hl [0, 1, 2, 3, 4] rfl)
      · refine lv_aload_n hx hb d_Mo_quotient_16 rfl (lv_at hl 2 rfl) ?_
        refine x_get (C := RX7) (T := TX7) (N := 18) hx hb hts inX7 hown B hF 0 rfl rfl 10 (by decide) (hts _ w_687) (fun _ h9 => h9) rfl d_Mo_quotient_17 ?_
        refine lv_iload hx hb d_Mo_quotient_20 (lv_at hl 0 rfl) ?_
        refine x_lconst (z := 0) hx hb d_Mo_quotient_22 (by decide) ?_
        refine x_last hx hb B hF 1 1 rfl rfl k (by omega) (by omega) (by decide) d_Mo_quotient_23 (fun H locs B => ?_)
        have B : Wb D vwCl (TY cs) L (mw f [(y, .inr (7, [.int (iI th), .ref m1, .ref m2, .ref m3, .int (iI pn), .ref m5, .ref m6, .ref m7, .ref m8, .ref m9, .ref m10, .ref m11, .ref m12, .ref m13, .int (iI rw_), .ref m15, .long (lI fu), .long (lI fb)])), (m10, .inl (cs 1, 6, .inr (.inl (al (up z k 0))))), (ta, .inl (cs 1, 6, .inr (.inl (al aw)))), (tb, .inl (cs 1, 6, .inr (.inl (al bw))))]) (AL L s.heap.size) s H _ := B
        refine x_iinc (lv' := [(4, .int (iI (((k : Int)) + 1))), (3, .int (iI ((nb : Int)))), (0, .ref y), (1, .ref ta), (2, .ref tb)]) hx hb d_Mo_quotient_24 hl (q := 0) rfl rfl (by decide) rfl (fun ls hl => ?_)
        refine lv_goto (tgt := 9) hx hb d_Mo_quotient_27 (by decide) ?_
        exact ih_L1 (k + 1) (up z k 0) (by omega) (by omega) (fun j hj => by
          by_cases hjk : j = k
          · rw [hjk, up_self]
          · rw [up_ne _ _ hjk]; exact hI j (by omega)) _ _ _ B (lv_sub hl [0, 1, 2, 3, 4] rfl)
  exact L1 _ 0 ww (Nat.lt_succ_self _) (by omega) (fun j hj => by omega) _ _ _ B (lv_sub hl [0, 1, 2, 3, 4] rfl)
