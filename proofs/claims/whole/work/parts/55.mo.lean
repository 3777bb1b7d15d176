/-! one step of a division of polynomials -/
theorem es_sc (k : Int) (c : Nat → Int) (n : Nat) (x : Rat) : es (fun j => k * c j) n x = (k : Rat) * es c n x := by
  induction n with
  | zero => simp only [es]; grind
  | succ n ih => simp only [es, ih, Rat.intCast_mul]; grind
theorem es_more {c : Nat → Int} {n : Nat} (x : Rat) : ∀ m, n ≤ m → (∀ j, n ≤ j → j < m → c j = 0) → es c m x = es c n x := by
  intro m
  induction m with
  | zero => intro h _; rw [show n = 0 by omega]
  | succ m ih =>
    intro h hz
    by_cases hn : n = m + 1
    · rw [hn]
    · rw [es, ih (by omega) (fun j h1 h2 => hz j h1 (by omega)), hz m (by omega) (by omega)]
      simp
      grind
theorem rem_step {P q nw : Nat → Int} {m n : Nat} {s L : Int} (hm : m < 6) (hn : n ≤ m) (hP : ∀ j, m < j → j < 6 → P j = 0) (hq : ∀ j, n < j → j < 6 → q j = 0) (hs : s = (q n).sign) (hL : L = ((q n).natAbs : Int)) (hnw : ∀ j, j ≤ m → nw j = if m - n ≤ j then P j * L + -s * (q (j - (m - n)) * P m) else P j * L) (hnz : ∀ j, m < j → j < 6 → nw j = P j) : nw m = 0 ∧ ∀ x, es nw 6 x = (L : Rat) * es P 6 x + (((-s * P m : Int) : Rat) * x ^ (m - n)) * es q 6 x := by
  have hsL : s * q n = L := by
    rw [hs, hL]
    rcases Int.lt_trichotomy (q n) 0 with h | h | h
    · rw [Int.sign_eq_neg_one_of_neg h]; omega
    · rw [h]; rfl
    · rw [Int.sign_eq_one_of_pos h]; omega
  refine ⟨?_, fun x => ?_⟩
  · rw [hnw m (Nat.le_refl _), if_pos (by omega), show m - (m - n) = n by omega, ← hsL]
    grind
  · have e1 : es nw 6 x = es (fun j => L * P j + (if m - n ≤ j then (-s * P m) * q (j - (m - n)) else 0)) 6 x := by
      refine es_congr (fun j hj => ?_) x
      by_cases hjm : j ≤ m
      · rw [hnw j hjm]
        split
        · grind
        · grind
      · rw [hnz j (by omega) hj, hP j (by omega) hj]
        split
        · rw [hq (j - (m - n)) (by omega) (by omega)]; simp
        · simp
    have e2 := es_shift q (-s * P m) (m - n) (6 - (m - n)) x
    rw [show m - n + (6 - (m - n)) = 6 by omega] at e2
    have e3 : es q 6 x = es q (6 - (m - n)) x := es_more x 6 (by omega) (fun j h1 h2 => hq j (by omega) h2)
    rw [e1, es_add, es_sc, e2, e3]
/-- P2 is P times a fraction above 0, and a multiple of q -/
def Rem (P q P2 : Nat → Int) : Prop := ∃ (la : Rat) (Q : List Rat), 0 < la ∧ ∀ x, es P2 6 x = la * es P 6 x + ev Q x * es q 6 x
theorem Rem.refl (P q : Nat → Int) : Rem P q P := ⟨1, [], by decide, fun x => by simp only [ev]; grind⟩
theorem Rem.step {P q P2 P3 P4 : Nat → Int} {L c : Int} {k : Rat} {d : Nat} (h : Rem P q P2) (hL : 0 < L) (hc : 0 < c) (h3 : ∀ x, es P3 6 x = (L : Rat) * es P2 6 x + (k * x ^ d) * es q 6 x) (h4 : ∀ j, j < 6 → P3 j = c * P4 j) : Rem P q P4 := by
  obtain ⟨la, Q, hla, h⟩ := h
  have hL' : (0 : Rat) < (L : Rat) := by exact_mod_cast hL
  have hc' : (0 : Rat) < (c : Rat) := by exact_mod_cast hc
  have hi : (0 : Rat) < (c : Rat)⁻¹ := Rat.inv_pos.mpr hc'
  have hcc : (c : Rat)⁻¹ * (c : Rat) = 1 := Rat.inv_mul_cancel _ (by grind)
  refine ⟨(c : Rat)⁻¹ * ((L : Rat) * la), psc (c : Rat)⁻¹ (padd (psc (L : Rat) Q) (mono d k)), Rat.mul_pos hi (Rat.mul_pos hL' hla), fun x => ?_⟩
  have e1 : es P3 6 x = (c : Rat) * es P4 6 x := by rw [← es_sc]; exact es_congr (fun j hj => h4 j hj) x
  have e2 := h3 x
  have e3 := h x
  have e4 : es P4 6 x = (c : Rat)⁻¹ * es P3 6 x := by rw [e1]; grind
  rw [ev_sc, ev_add, ev_sc, ev_mono, e4, e2, e3]
  grind
theorem pow2_bd {a b u v : Int} {i j : Nat} (ha : (a.natAbs : Int) < 2 ^ i) (hb : (b.natAbs : Int) < 2 ^ j) (hu : (u.natAbs : Int) < 2 ^ j) (hv : (v.natAbs : Int) < 2 ^ i) {s : Int} (hs : s = 1 ∨ s = -1 ∨ s = 0) : ((a * b + -s * (u * v)).natAbs : Int) < 2 ^ (i + (j + 1)) ∧ ((a * b).natAbs : Int) < 2 ^ (i + (j + 1)) ∧ ((a * b).natAbs : Int) < 2 ^ (i + j) ∧ ((u * v).natAbs : Int) < 2 ^ (i + j) := by
  have p1 : (0 : Int) < 2 ^ i := Int.pow_pos (by decide)
  have p2 : (0 : Int) < 2 ^ j := Int.pow_pos (by decide)
  have e1 : ((a * b).natAbs : Int) = (a.natAbs : Int) * (b.natAbs : Int) := by rw [Int.natAbs_mul, Int.natCast_mul]
  have e2 : ((u * v).natAbs : Int) = (u.natAbs : Int) * (v.natAbs : Int) := by rw [Int.natAbs_mul, Int.natCast_mul]
  have m1 := Int.mul_le_mul (show (a.natAbs : Int) ≤ 2 ^ i - 1 by omega) (show (b.natAbs : Int) ≤ 2 ^ j by omega) (by omega) (by omega)
  have m2 := Int.mul_le_mul (show (u.natAbs : Int) ≤ 2 ^ j by omega) (show (v.natAbs : Int) ≤ 2 ^ i - 1 by omega) (by omega) (by omega)
  have e3 : (2 : Int) ^ (i + (j + 1)) = 2 * (2 ^ i * 2 ^ j) := by rw [Int.pow_add, Int.pow_succ]; grind
  have e4 : (2 : Int) ^ (i + j) = 2 ^ i * 2 ^ j := Int.pow_add _ _ _
  rw [← e1] at m1
  rw [← e2] at m2
  rw [e3, e4]
  have q1 : (2 ^ i - 1) * 2 ^ j = 2 ^ i * 2 ^ j - (2 : Int) ^ j := by rw [Int.sub_mul]; omega
  have q2 : (2 : Int) ^ j * (2 ^ i - 1) = 2 ^ i * 2 ^ j - (2 : Int) ^ j := by rw [Int.mul_sub, Int.mul_comm]; omega
  rw [q1] at m1
  rw [q2] at m2
  generalize (2 : Int) ^ i * 2 ^ j = T at *
  generalize a * b = A at *
  generalize u * v = U at *
  have hU : -s * U = U ∨ -s * U = -U ∨ -s * U = 0 := by rcases hs with rfl | rfl | rfl <;> omega
  omega
theorem less_facts {A B : Nat → Int} {c : Nat} (h : ∀ j, j < 6 → A j = (c : Int) * B j) (h0 : c = 0 → ∀ j, j < 6 → B j = 0) : (∃ c' : Int, 0 < c' ∧ ∀ j, j < 6 → A j = c' * B j) ∧ (∀ j, j < 6 → A j = 0 → B j = 0) ∧ ∀ j, j < 6 → ((B j).natAbs : Int) ≤ ((A j).natAbs : Int) := by
  rcases Nat.eq_zero_or_pos c with hc | hc
  · have hB := h0 hc
    refine ⟨⟨1, by decide, fun j hj => by rw [h j hj, hB j hj]; simp⟩, fun j hj _ => hB j hj, fun j hj => by rw [hB j hj]; simp⟩
  · refine ⟨⟨(c : Int), by omega, h⟩, fun j hj hA => ?_, fun j hj => ?_⟩
    · rw [h j hj] at hA
      rcases Int.mul_eq_zero.mp hA with h1 | h1
      · omega
      · exact h1
    · rw [h j hj, Int.natAbs_mul, Int.natCast_mul, Int.natAbs_natCast]
      have := Int.mul_le_mul_of_nonneg_right (show (1 : Int) ≤ (c : Int) by omega) (show (0 : Int) ≤ ((B j).natAbs : Int) by omega)
      omega
/-- bits of a polynomial while it is divided -/
def rE (al be e k : Nat) : Nat := al + (e + 1 - k) * (be + 1)
theorem rE_step (al be e k : Nat) (h1 : 1 ≤ k) (h2 : k ≤ e + 1) : rE al be e (k - 1) = rE al be e k + (be + 1) := by
  unfold rE
  rw [show e + 1 - (k - 1) = (e + 1 - k) + 1 by omega, Nat.add_mul]
  omega
theorem rE_mono (al be e : Nat) {k k' : Nat} (h : k' ≤ k) : rE al be e k ≤ rE al be e k' := by
  unfold rE
  have := Nat.mul_le_mul_right (be + 1) (show e + 1 - k ≤ e + 1 - k' by omega)
  omega
theorem pow2_le {i j : Nat} (h : i ≤ j) : (2 : Int) ^ i ≤ 2 ^ j := by
  have : (2 : Nat) ^ i ≤ 2 ^ j := Nat.pow_le_pow_right (by decide) h
  exact_mod_cast this
theorem sign_cases (z : Int) : z.sign = 1 ∨ z.sign = -1 ∨ z.sign = 0 := by
  rcases Int.lt_trichotomy z 0 with h | h | h
  · right; left; exact Int.sign_eq_neg_one_of_neg h
  · right; right; rw [h]; rfl
  · left; exact Int.sign_eq_one_of_pos h
/-- a coefficient behind one step -/
def nwc (P q : Nat → Int) (d n : Nat) (s L : Int) (j : Nat) : Int := if d - n ≤ j then P j * L + -s * (q (j - (d - n)) * P d) else P j * L
theorem nwc_bd {P q : Nat → Int} {d n i b : Nat} {s L : Int} {j : Nat} (hs : s = 1 ∨ s = -1 ∨ s = 0) (hP : ∀ j, j < 6 → ((P j).natAbs : Int) < 2 ^ i) (hq : ∀ j, j < 6 → ((q j).natAbs : Int) < 2 ^ b) (hL : (L.natAbs : Int) < 2 ^ b) (hj : j ≤ d) (hd : d < 6) : ((nwc P q d n s L j).natAbs : Int) < 2 ^ (i + (b + 1)) := by
  unfold nwc
  have h := pow2_bd (a := P j) (b := L) (u := q (j - (d - n))) (v := P d) (hP j (by omega)) hL (hq _ (by omega)) (hP d hd) hs
  split
  · exact h.1
  · exact h.2.1
theorem pow_Mp {i : Nat} (h : i ≤ 1984) : (2 : Int) ^ i ≤ Mp 62 := by
  rw [Mp_pow]
  exact pow2_le h
theorem pow_Mp3 {i : Nat} (h : i ≤ 1984) : (2 : Int) ^ i ≤ Mp 63 := Int.le_trans (pow_Mp h) (Mp_le (by decide))
theorem d_Mo_remainder_0 : decode prog_9_method_19_code 0 = .ok (.aload_n 0, 1) := by decide +kernel
theorem d_Mo_remainder_1 : decode prog_9_method_19_code 1 = .ok (.iload_n 1, 1) := by decide +kernel
theorem d_Mo_remainder_2 : decode prog_9_method_19_code 2 = .ok (.invokevirtual 99, 3) := by decide +kernel
theorem d_Mo_remainder_5 : decode prog_9_method_19_code 5 = .ok (.istore 4, 2) := by decide +kernel
theorem d_Mo_remainder_7 : decode prog_9_method_19_code 7 = .ok (.iload 4, 2) := by decide +kernel
theorem d_Mo_remainder_9 : decode prog_9_method_19_code 9 = .ok (.iload_n 3, 1) := by decide +kernel
theorem d_Mo_remainder_10 : decode prog_9_method_19_code 10 = .ok (.if_icmp .lt 140, 3) := by decide +kernel
theorem d_Mo_remainder_13 : decode prog_9_method_19_code 13 = .ok (.iload 4, 2) := by decide +kernel
theorem d_Mo_remainder_15 : decode prog_9_method_19_code 15 = .ok (.ifCond .lt 135, 3) := by decide +kernel
theorem d_Mo_remainder_18 : decode prog_9_method_19_code 18 = .ok (.aload_n 0, 1) := by decide +kernel
theorem d_Mo_remainder_19 : decode prog_9_method_19_code 19 = .ok (.sipush 170, 3) := by decide +kernel
theorem d_Mo_remainder_22 : decode prog_9_method_19_code 22 = .ok (.iload_n 1, 1) := by decide +kernel
theorem d_Mo_remainder_23 : decode prog_9_method_19_code 23 = .ok (.iload 4, 2) := by decide +kernel
theorem d_Mo_remainder_25 : decode prog_9_method_19_code 25 = .ok (.iadd, 1) := by decide +kernel
theorem d_Mo_remainder_26 : decode prog_9_method_19_code 26 = .ok (.invokevirtual 65, 3) := by decide +kernel
theorem d_Mo_remainder_29 : decode prog_9_method_19_code 29 = .ok (.aload_n 0, 1) := by decide +kernel
theorem d_Mo_remainder_30 : decode prog_9_method_19_code 30 = .ok (.sipush 171, 3) := by decide +kernel
theorem d_Mo_remainder_33 : decode prog_9_method_19_code 33 = .ok (.iload_n 2, 1) := by decide +kernel
theorem d_Mo_remainder_34 : decode prog_9_method_19_code 34 = .ok (.iload_n 3, 1) := by decide +kernel
theorem d_Mo_remainder_35 : decode prog_9_method_19_code 35 = .ok (.iadd, 1) := by decide +kernel
theorem d_Mo_remainder_36 : decode prog_9_method_19_code 36 = .ok (.invokevirtual 65, 3) := by decide +kernel
theorem d_Mo_remainder_39 : decode prog_9_method_19_code 39 = .ok (.aload_n 0, 1) := by decide +kernel
theorem d_Mo_remainder_40 : decode prog_9_method_19_code 40 = .ok (.getfield 16, 3) := by decide +kernel
theorem d_Mo_remainder_43 : decode prog_9_method_19_code 43 = .ok (.sipush 171, 3) := by decide +kernel
theorem d_Mo_remainder_46 : decode prog_9_method_19_code 46 = .ok (.iaload, 1) := by decide +kernel
theorem d_Mo_remainder_47 : decode prog_9_method_19_code 47 = .ok (.istore 5, 2) := by decide +kernel
theorem d_Mo_remainder_49 : decode prog_9_method_19_code 49 = .ok (.aload_n 0, 1) := by decide +kernel
theorem d_Mo_remainder_50 : decode prog_9_method_19_code 50 = .ok (.getfield 16, 3) := by decide +kernel
theorem d_Mo_remainder_53 : decode prog_9_method_19_code 53 = .ok (.sipush 171, 3) := by decide +kernel
theorem d_Mo_remainder_56 : decode prog_9_method_19_code 56 = .ok (.iconst 1, 1) := by decide +kernel
theorem d_Mo_remainder_57 : decode prog_9_method_19_code 57 = .ok (.iastore, 1) := by decide +kernel
theorem d_Mo_remainder_58 : decode prog_9_method_19_code 58 = .ok (.iconst 0, 1) := by decide +kernel
theorem d_Mo_remainder_59 : decode prog_9_method_19_code 59 = .ok (.istore 6, 2) := by decide +kernel
theorem d_Mo_remainder_61 : decode prog_9_method_19_code 61 = .ok (.iload 6, 2) := by decide +kernel
theorem d_Mo_remainder_63 : decode prog_9_method_19_code 63 = .ok (.iload 4, 2) := by decide +kernel
theorem d_Mo_remainder_65 : decode prog_9_method_19_code 65 = .ok (.if_icmp .gt 70, 3) := by decide +kernel
theorem d_Mo_remainder_68 : decode prog_9_method_19_code 68 = .ok (.aload_n 0, 1) := by decide +kernel
theorem d_Mo_remainder_69 : decode prog_9_method_19_code 69 = .ok (.iload_n 1, 1) := by decide +kernel
theorem d_Mo_remainder_70 : decode prog_9_method_19_code 70 = .ok (.iload 6, 2) := by decide +kernel
theorem d_Mo_remainder_72 : decode prog_9_method_19_code 72 = .ok (.iadd, 1) := by decide +kernel
theorem d_Mo_remainder_73 : decode prog_9_method_19_code 73 = .ok (.iload_n 1, 1) := by decide +kernel
theorem d_Mo_remainder_74 : decode prog_9_method_19_code 74 = .ok (.iload 6, 2) := by decide +kernel
theorem d_Mo_remainder_76 : decode prog_9_method_19_code 76 = .ok (.iadd, 1) := by decide +kernel
theorem d_Mo_remainder_77 : decode prog_9_method_19_code 77 = .ok (.sipush 171, 3) := by decide +kernel
theorem d_Mo_remainder_80 : decode prog_9_method_19_code 80 = .ok (.invokevirtual 102, 3) := by decide +kernel
theorem d_Mo_remainder_83 : decode prog_9_method_19_code 83 = .ok (.iload 6, 2) := by decide +kernel
theorem d_Mo_remainder_85 : decode prog_9_method_19_code 85 = .ok (.iload 4, 2) := by decide +kernel
theorem d_Mo_remainder_87 : decode prog_9_method_19_code 87 = .ok (.iload_n 3, 1) := by decide +kernel
theorem d_Mo_remainder_88 : decode prog_9_method_19_code 88 = .ok (.isub, 1) := by decide +kernel
theorem d_Mo_remainder_89 : decode prog_9_method_19_code 89 = .ok (.if_icmp .lt 40, 3) := by decide +kernel
theorem d_Mo_remainder_92 : decode prog_9_method_19_code 92 = .ok (.aload_n 0, 1) := by decide +kernel
theorem d_Mo_remainder_93 : decode prog_9_method_19_code 93 = .ok (.sipush 169, 3) := by decide +kernel
theorem d_Mo_remainder_96 : decode prog_9_method_19_code 96 = .ok (.iload_n 2, 1) := by decide +kernel
theorem d_Mo_remainder_97 : decode prog_9_method_19_code 97 = .ok (.iload 6, 2) := by decide +kernel
theorem d_Mo_remainder_99 : decode prog_9_method_19_code 99 = .ok (.iadd, 1) := by decide +kernel
theorem d_Mo_remainder_100 : decode prog_9_method_19_code 100 = .ok (.iload 4, 2) := by decide +kernel
theorem d_Mo_remainder_102 : decode prog_9_method_19_code 102 = .ok (.iload_n 3, 1) := by decide +kernel
theorem d_Mo_remainder_103 : decode prog_9_method_19_code 103 = .ok (.isub, 1) := by decide +kernel
theorem d_Mo_remainder_104 : decode prog_9_method_19_code 104 = .ok (.isub, 1) := by decide +kernel
theorem d_Mo_remainder_105 : decode prog_9_method_19_code 105 = .ok (.sipush 170, 3) := by decide +kernel
theorem d_Mo_remainder_108 : decode prog_9_method_19_code 108 = .ok (.invokevirtual 102, 3) := by decide +kernel
theorem d_Mo_remainder_111 : decode prog_9_method_19_code 111 = .ok (.aload_n 0, 1) := by decide +kernel
theorem d_Mo_remainder_112 : decode prog_9_method_19_code 112 = .ok (.iload_n 1, 1) := by decide +kernel
theorem d_Mo_remainder_113 : decode prog_9_method_19_code 113 = .ok (.iload 6, 2) := by decide +kernel
theorem d_Mo_remainder_115 : decode prog_9_method_19_code 115 = .ok (.iadd, 1) := by decide +kernel
theorem d_Mo_remainder_116 : decode prog_9_method_19_code 116 = .ok (.iload_n 1, 1) := by decide +kernel
theorem d_Mo_remainder_117 : decode prog_9_method_19_code 117 = .ok (.iload 6, 2) := by decide +kernel
theorem d_Mo_remainder_119 : decode prog_9_method_19_code 119 = .ok (.iadd, 1) := by decide +kernel
theorem d_Mo_remainder_120 : decode prog_9_method_19_code 120 = .ok (.sipush 169, 3) := by decide +kernel
theorem d_Mo_remainder_123 : decode prog_9_method_19_code 123 = .ok (.iload 5, 2) := by decide +kernel
theorem d_Mo_remainder_125 : decode prog_9_method_19_code 125 = .ok (.ineg, 1) := by decide +kernel
theorem d_Mo_remainder_126 : decode prog_9_method_19_code 126 = .ok (.invokevirtual 88, 3) := by decide +kernel
theorem d_Mo_remainder_129 : decode prog_9_method_19_code 129 = .ok (.iinc 6 1, 3) := by decide +kernel
theorem d_Mo_remainder_132 : decode prog_9_method_19_code 132 = .ok (.goto (-71), 3) := by decide +kernel
theorem d_Mo_remainder_135 : decode prog_9_method_19_code 135 = .ok (.aload_n 0, 1) := by decide +kernel
theorem d_Mo_remainder_136 : decode prog_9_method_19_code 136 = .ok (.iload_n 1, 1) := by decide +kernel
theorem d_Mo_remainder_137 : decode prog_9_method_19_code 137 = .ok (.invokevirtual 105, 3) := by decide +kernel
theorem d_Mo_remainder_140 : decode prog_9_method_19_code 140 = .ok (.aload_n 0, 1) := by decide +kernel
theorem d_Mo_remainder_141 : decode prog_9_method_19_code 141 = .ok (.iload_n 1, 1) := by decide +kernel
theorem d_Mo_remainder_142 : decode prog_9_method_19_code 142 = .ok (.invokevirtual 99, 3) := by decide +kernel
theorem d_Mo_remainder_145 : decode prog_9_method_19_code 145 = .ok (.istore 4, 2) := by decide +kernel
theorem d_Mo_remainder_147 : decode prog_9_method_19_code 147 = .ok (.goto (-140), 3) := by decide +kernel
theorem d_Mo_remainder_150 : decode prog_9_method_19_code 150 = .ok (.return_, 1) := by decide +kernel
set_option maxHeartbeats 8000000 in
set_option maxRecDepth 100000 in
theorem c_Mo_remainder (l : Launch) (D : va_G) (cs : Nat → ClassId) (L : List Nat) (f : Nat → va_E) (sz : Nat) (y m1 m2 m3 m5 m6 m7 m8 m9 m10 m11 m12 m13 m15 : Nat) (th pn rw_ fu fb : Int) (lm mn sn Z : Nat → Int) (p0 q0 nq e0 al be : Nat) (hF : Fc L [y, m1, m2, m3]) (ha : f y = .inr (7, [.int (iI th), .ref m1, .ref m2, .ref m3, .int (iI pn), .ref m5, .ref m6, .ref m7, .ref m8, .ref m9, .ref m10, .ref m11, .ref m12, .ref m13, .int (iI rw_), .ref m15, .long (lI fu), .long (lI fb)])) (hm1 : f m1 = .inl (cs 0, 11520, .inl (ai lm))) (hm2 : f m2 = .inl (cs 0, 180, .inl (ai mn))) (hm3 : f m3 = .inl (cs 0, 180, .inl (ai sn))) (hRS : RS lm mn sn Z) (hp8 : p0 + 5 < 169) (hq8 : q0 + 5 < 169) (hpq : p0 + 5 < q0 ∨ q0 + 5 < p0) (hnq : nq ≤ 5) (he5 : e0 ≤ 5) (hpe : ∀ j, e0 < j → j < 6 → Z (p0 + j) = 0) (hqz : ∀ j, nq < j → j < 6 → Z (q0 + j) = 0) (hql : Z (q0 + nq) ≠ 0) (hpa : ∀ j, j < 6 → ((Z (p0 + j)).natAbs : Int) < 2 ^ al) (hqb : ∀ j, j < 6 → ((Z (q0 + j)).natAbs : Int) < 2 ^ be) (hroom : rE al be e0 nq ≤ 1950) : Met l (⟨"RealRootsModel", "remainder", "(III)V"⟩ : MethodName) (.code (⟨"RealRootsModel", "remainder", "(III)V"⟩ : MethodName) prog_9_method_19_code 7 (Option.none : Option Jvm.ClassFile.FieldType) :: gw) ({ frames := 6, cells := 0, slots := 0, locals := 190 }) (va_Pc [.ref y, .int (iI ((p0 : Int))), .int (iI ((q0 : Int))), .int (iI ((nq : Int)))] (K0 D vwCl (TY cs) L f sz)) (va_Qv (fun (g : Nat → va_E) => ∃ lm' mn' sn' Z' : Nat → Int, RS lm' mn' sn' Z' ∧ Rem (fun j => Z (p0 + j)) (fun j => Z (q0 + j)) (fun j => Z' (p0 + j)) ∧ (∀ j, nq ≤ j → j < 6 → Z' (p0 + j) = 0) ∧ (∀ j, j < 6 → ((Z' (p0 + j)).natAbs : Int) < 2 ^ rE al be e0 nq) ∧ (∀ v, (v < p0 ∨ p0 + 5 < v) → v < 169 → Z' v = Z v) ∧ g = mw f [(m1, .inl (cs 0, 11520, .inl (ai (lm')))), (m2, .inl (cs 0, 180, .inl (ai (mn')))), (m3, .inl (cs 0, 180, .inl (ai (sn'))))]) (K1 D vwCl (TY cs) (AL L sz) L) (AL L sz)) 0 0 (AL L sz) := by
  refine Met.ofW (cc := prog_9_method_19_code) (maxL := 7) (ret := (Option.none : Option Jvm.ClassFile.FieldType)) (by decide) rfl ?_
  intro p e s m args below meth c s₁ Bd hml hv
  obtain ⟨rfl, hk0⟩ := hv
  obtain ⟨hsz, B⟩ := hk0.start
  subst hsz
  have hx := Bd.exec
  have hb := Bd.bytes
  have hr := Bd.returns
  have hlocks := Bd.notSynchronized
  have hts0 := atoms_spec Bd.pre
  have hown : s.vm.findClass RX7 = some m.cls := findClass_of_methodNamed Bd.named
  have hA : ∀ q, s.heap.size ≤ q → AL L s.heap.size q := fun _ h => Or.inr h
  have hl := lv_entry ([.ref y, .int (iI ((p0 : Int))), .int (iI ((q0 : Int))), .int (iI ((nq : Int)))]) (n := 7) (Nat.le_of_ble_eq_true rfl)
  rw [lg_entry_eq]
  generalize (lg_sl ([.ref y, .int (iI ((p0 : Int))), .int (iI ((q0 : Int))), .int (iI ((nq : Int)))]) ++ List.replicate (7 - (lg_sl ([.ref y, .int (iI ((p0 : Int))), .int (iI ((q0 : Int))), .int (iI ((nq : Int)))])).length) Slot.unset).toArray = ls at hl ⊢
  refine absQ (fun Q R av hQ hR hav => ?_)
  have hts : ∀ w ∈ gw, w.before av s = true := by rw [hav]; exact fun w h => hts0 w (List.mem_cons_of_mem _ h)
  have hRf : R.frames = 6 := by rw [hR]; rfl
  have hRl : R.locals = 190 := by rw [hR]; rfl
  have hRc : R.cells = 0 := by rw [hR]; rfl
  have hRs : R.slots = 0 := by rw [hR]; rfl
  clear hR hts0 Bd
  have hl : lv_has ls 7 [(0, .ref y), (1, .int (iI ((p0 : Int)))), (2, .int (iI ((q0 : Int)))), (3, .int (iI ((nq : Int))))] := hl
  have hfx : ∀ q ∈ ([(y, .inr (7, [.int (iI th), .ref m1, .ref m2, .ref m3, .int (iI pn), .ref m5, .ref m6, .ref m7, .ref m8, .ref m9, .ref m10, .ref m11, .ref m12, .ref m13, .int (iI rw_), .ref m15, .long (lI fu), .long (lI fb)])), (m1, .inl (cs 0, 11520, .inl (ai lm))), (m2, .inl (cs 0, 180, .inl (ai mn))), (m3, .inl (cs 0, 180, .inl (ai sn)))] : List (Nat × va_E)), f q.1 = q.2 := fun q hq => by
    simp only [List.mem_cons, List.not_mem_nil, or_false] at hq
    rcases hq with rfl | rfl | rfl | rfl
    · exact ha
    · exact hm1
    · exact hm2
    · exact hm3
  have hmw : mw f [(y, .inr (7, [.int (iI th), .ref m1, .ref m2, .ref m3, .int (iI pn), .ref m5, .ref m6, .ref m7, .ref m8, .ref m9, .ref m10, .ref m11, .ref m12, .ref m13, .int (iI rw_), .ref m15, .long (lI fu), .long (lI fb)])), (m1, .inl (cs 0, 11520, .inl (ai lm))), (m2, .inl (cs 0, 180, .inl (ai mn))), (m3, .inl (cs 0, 180, .inl (ai sn)))] = f := mw_self (fun k a e hk => hfx (a, e) (List.mem_of_getElem? hk))
  have B := B.focus [(y, .inr (7, [.int (iI th), .ref m1, .ref m2, .ref m3, .int (iI pn), .ref m5, .ref m6, .ref m7, .ref m8, .ref m9, .ref m10, .ref m11, .ref m12, .ref m13, .int (iI rw_), .ref m15, .long (lI fu), .long (lI fb)])), (m1, .inl (cs 0, 11520, .inl (ai lm))), (m2, .inl (cs 0, 180, .inl (ai mn))), (m3, .inl (cs 0, 180, .inl (ai sn)))] hfx
  refine lv_aload_n hx hb d_Mo_remainder_0 rfl (lv_at hl 0 rfl) ?_
  refine lv_iload_n hx hb d_Mo_remainder_1 rfl (lv_at hl 1 rfl) ?_
  refine x_calli B hA (va_runV (As := [.int (iI ((p0 : Int)))]) (rest := []) ⟨hx, hb, hml, hown, hts⟩ (c_Mo_degreeAt l D cs _ _ _ y m1 m2 m3 m5 m6 m7 m8 m9 m10 m11 m12 m13 m15 th pn rw_ fu fb lm mn sn Z p0 hF (mw_get (X := [(y, .inr (7, [.int (iI th), .ref m1, .ref m2, .ref m3, .int (iI pn), .ref m5, .ref m6, .ref m7, .ref m8, .ref m9, .ref m10, .ref m11, .ref m12, .ref m13, .int (iI rw_), .ref m15, .long (lI fu), .long (lI fb)])), (m1, .inl (cs 0, 11520, .inl (ai lm))), (m2, .inl (cs 0, 180, .inl (ai mn))), (m3, .inl (cs 0, 180, .inl (ai sn)))]) hF.1 (k := 0) rfl) (mw_get (X := [(y, .inr (7, [.int (iI th), .ref m1, .ref m2, .ref m3, .int (iI pn), .ref m5, .ref m6, .ref m7, .ref m8, .ref m9, .ref m10, .ref m11, .ref m12, .ref m13, .int (iI rw_), .ref m15, .long (lI fu), .long (lI fb)])), (m1, .inl (cs 0, 11520, .inl (ai lm))), (m2, .inl (cs 0, 180, .inl (ai mn))), (m3, .inl (cs 0, 180, .inl (ai sn)))]) hF.1 (k := 1) rfl) (mw_get (X := [(y, .inr (7, [.int (iI th), .ref m1, .ref m2, .ref m3, .int (iI pn), .ref m5, .ref m6, .ref m7, .ref m8, .ref m9, .ref m10, .ref m11, .ref m12, .ref m13, .int (iI rw_), .ref m15, .long (lI fu), .long (lI fb)])), (m1, .inl (cs 0, 11520, .inl (ai lm))), (m2, .inl (cs 0, 180, .inl (ai mn))), (m3, .inl (cs 0, 180, .inl (ai sn)))]) hF.1 (k := 2) rfl) (mw_get (X := [(y, .inr (7, [.int (iI th), .ref m1, .ref m2, .ref m3, .int (iI pn), .ref m5, .ref m6, .ref m7, .ref m8, .ref m9, .ref m10, .ref m11, .ref m12, .ref m13, .int (iI rw_), .ref m15, .long (lI fu), .long (lI fb)])), (m1, .inl (cs 0, 11520, .inl (ai lm))), (m2, .inl (cs 0, 180, .inl (ai mn))), (m3, .inl (cs 0, 180, .inl (ai sn)))]) hF.1 (k := 3) rfl) hRS (by omega)) (cwV 1 hts (gw_V w_796 w_798 s_36 w_8 w_799) rfl rfl rfl (by decide +kernel) ⟨by rw [hRf]; exact Nat.le_of_ble_eq_true rfl, by rw [hRl]; exact Nat.le_of_ble_eq_true rfl⟩) ⟨K0.blind, B.recv (hF.2 _ (mw_key (k := 0) (X := [(y, .inr (7, [.int (iI th), .ref m1, .ref m2, .ref m3, .int (iI pn), .ref m5, .ref m6, .ref m7, .ref m8, .ref m9, .ref m10, .ref m11, .ref m12, .ref m13, .int (iI rw_), .ref m15, .long (lI fu), .long (lI fb)])), (m1, .inl (cs 0, 11520, .inl (ai lm))), (m2, .inl (cs 0, 180, .inl (ai mn))), (m3, .inl (cs 0, 180, .inl (ai sn)))]) rfl)) (mw_get (X := [(y, .inr (7, [.int (iI th), .ref m1, .ref m2, .ref m3, .int (iI pn), .ref m5, .ref m6, .ref m7, .ref m8, .ref m9, .ref m10, .ref m11, .ref m12, .ref m13, .int (iI rw_), .ref m15, .long (lI fu), .long (lI fb)])), (m1, .inl (cs 0, 11520, .inl (ai lm))), (m2, .inl (cs 0, 180, .inl (ai mn))), (m3, .inl (cs 0, 180, .inl (ai sn)))]) hF.1 (k := 0) rfl) rfl, B.pre _⟩ rfl rfl hl.1 rfl (lv_room (Nat.le_of_ble_eq_true rfl)) d_Mo_remainder_2 ⟨by rw [hRc]; omega, by rw [hRs]; omega⟩) (fun r2 g2 H locs hw B => ?_)
  obtain ⟨k0, rfl, hk06, hk0z, hk0l, rfl⟩ := hw
  have B : Wb D vwCl (TY cs) L (mw f [(y, .inr (7, [.int (iI th), .ref m1, .ref m2, .ref m3, .int (iI pn), .ref m5, .ref m6, .ref m7, .ref m8, .ref m9, .ref m10, .ref m11, .ref m12, .ref m13, .int (iI rw_), .ref m15, .long (lI fu), .long (lI fb)])), (m1, .inl (cs 0, 11520, .inl (ai lm))), (m2, .inl (cs 0, 180, .inl (ai mn))), (m3, .inl (cs 0, 180, .inl (ai sn)))]) (AL L s.heap.size) s H _ := B
  have hk0e : k0 ≤ e0 + 1 := by rcases Nat.lt_or_ge (e0 + 1) k0 with h | h; exact absurd (hpe (k0 - 1) (by omega) (by omega)) (hk0l (by omega)); exact h
  refine lv_istore (lv' := [(4, .int (iI ((k0 : Int) - 1))), (0, .ref y), (1, .int (iI ((p0 : Int)))), (2, .int (iI ((q0 : Int)))), (3, .int (iI ((nq : Int))))]) hx hb d_Mo_remainder_5 hl (by decide) rfl (fun ls hl => ?_)
  have LP : ∀ (fuel : Nat) (k : Nat) (lm2 : Nat → Int) (mn2 : Nat → Int) (sn2 : Nat → Int) (Z2 : Nat → Int), k < fuel → (RS lm2 mn2 sn2 Z2) → (k ≤ e0 + 1) → (∀ j, k ≤ j → j < 6 → Z2 (p0 + j) = 0) → (0 < k → Z2 (p0 + (k - 1)) ≠ 0) → (∀ j, j < 6 → ((Z2 (p0 + j)).natAbs : Int) < 2 ^ rE al be e0 (max k nq)) → (Rem (fun j => Z (p0 + j)) (fun j => Z (q0 + j)) (fun j => Z2 (p0 + j))) → (∀ v, (v < p0 ∨ p0 + 5 < v) → v < 169 → Z2 v = Z v) → ∀ (H : Heap) (locs : List Loc) (ls : Array Slot), Wb D vwCl (TY cs) L (mw f [(y, .inr (7, [.int (iI th), .ref m1, .ref m2, .ref m3, .int (iI pn), .ref m5, .ref m6, .ref m7, .ref m8, .ref m9, .ref m10, .ref m11, .ref m12, .ref m13, .int (iI rw_), .ref m15, .long (lI fu), .long (lI fb)])), (m1, .inl (cs 0, 11520, .inl (ai lm2))), (m2, .inl (cs 0, 180, .inl (ai mn2))), (m3, .inl (cs 0, 180, .inl (ai sn2)))]) (AL L s.heap.size) s H locs → lv_has ls 7 [(4, .int (iI ((k : Int) - 1))), (0, .ref y), (1, .int (iI ((p0 : Int)))), (2, .int (iI ((q0 : Int)))), (3, .int (iI ((nq : Int))))] → W p l e R s m av below meth c H locs (0) (0) Q (F0 m 7 ls []) := by
    intro fuel
    induction fuel with
    | zero => intro k lm2 mn2 sn2 Z2 hfu; exact absurd hfu (Nat.not_lt_zero _)
    | succ fuel ih_LP =>
      intro k lm2 mn2 sn2 Z2 hfu_LP hR hk hz hld hbz hrel ho H locs ls B hl
      refine lv_iload hx hb d_Mo_remainder_7 (lv_at hl 0 rfl) ?_
      refine lv_iload_n hx hb d_Mo_remainder_9 rfl (lv_at hl 4 rfl) ?_
      refine x_icmp_lt (tgt := 150) hx hb d_Mo_remainder_10 (by decide) (by omega) (by omega) (fun h10 => ?_) (fun h10 => ?_)
      · subst hQ hav
        exact x_vret hx hb hr hlocks B d_Mo_remainder_150 (by
      have hkn : k ≤ nq := by omega
      rw [show max k nq = nq by omega] at hbz
      exact ⟨_, _, _, Z2, hR, hrel, fun j h1 h2 => hz j (by omega) h2, hbz, ho, mw_drop (f := f) (X := [(m1, .inl (cs 0, 11520, .inl (ai lm2))), (m2, .inl (cs 0, 180, .inl (ai mn2))), (m3, .inl (cs 0, 180, .inl (ai sn2)))]) ha (List.nodup_cons.mp hF.1).1⟩)
      · refine lv_iload hx hb d_Mo_remainder_13 (lv_at hl 0 rfl) ?_
        refine x_if_lt (tgt := 150) hx hb d_Mo_remainder_15 (by decide) (by omega) (fun h15 => ?_) (fun h15 => ?_)
        · subst hQ hav
          exact x_vret hx hb hr hlocks B d_Mo_remainder_150 (by
      have hkn : k ≤ nq := by omega
      rw [show max k nq = nq by omega] at hbz
      exact ⟨_, _, _, Z2, hR, hrel, fun j h1 h2 => hz j (by omega) h2, hbz, ho, mw_drop (f := f) (X := [(m1, .inl (cs 0, 11520, .inl (ai lm2))), (m2, .inl (cs 0, 180, .inl (ai mn2))), (m3, .inl (cs 0, 180, .inl (ai sn2)))]) ha (List.nodup_cons.mp hF.1).1⟩)
        · obtain ⟨dg, rfl⟩ : ∃ dg, k = dg + 1 := ⟨k - 1, by omega⟩
          rw [show ((dg + 1 : Nat) : Int) - 1 = (dg : Int) by omega] at hl
          have hl : lv_has ls 7 [(4, .int (iI ((dg : Int)))), (0, .ref y), (1, .int (iI ((p0 : Int)))), (2, .int (iI ((q0 : Int)))), (3, .int (iI ((nq : Int))))] := hl
          have hld := hld (by omega)
          rw [show dg + 1 - 1 = dg by omega] at hld
          rw [show max (dg + 1) nq = dg + 1 by omega] at hbz
          have hE1 := rE_step al be e0 (dg + 1) (by omega) (by omega)
          have hE2 := rE_mono al be e0 (show nq ≤ dg + 1 - 1 by omega)
          have hE3 : rE al be e0 (dg + 1) + (be + 1) ≤ 1950 := by unfold rE at *; omega
          have hL0 : 0 < ((Z (q0 + nq)).natAbs : Int) := by omega
          refine lv_aload_n hx hb d_Mo_remainder_18 rfl (lv_at hl 1 rfl) ?_
          refine x_sipush hx hb d_Mo_remainder_19 (by decide) ?_
          refine lv_iload_n hx hb d_Mo_remainder_22 rfl (lv_at hl 2 rfl) ?_
          refine lv_iload hx hb d_Mo_remainder_23 (lv_at hl 0 rfl) ?_
          refine x_iadd hx hb d_Mo_remainder_25 ?_
          refine x_callv B hA (va_runV (As := [.int (iI 170), .int (iI (((p0 : Int)) + ((dg : Int))))]) (rest := []) ⟨hx, hb, hml, hown, hts⟩ (c_Mo_copy l D cs _ _ _ y m1 m2 m3 m5 m6 m7 m8 m9 m10 m11 m12 m13 m15 th pn rw_ fu fb lm2 mn2 sn2 Z2 170 (p0 + dg) hF (mw_get (X := [(y, .inr (7, [.int (iI th), .ref m1, .ref m2, .ref m3, .int (iI pn), .ref m5, .ref m6, .ref m7, .ref m8, .ref m9, .ref m10, .ref m11, .ref m12, .ref m13, .int (iI rw_), .ref m15, .long (lI fu), .long (lI fb)])), (m1, .inl (cs 0, 11520, .inl (ai lm2))), (m2, .inl (cs 0, 180, .inl (ai mn2))), (m3, .inl (cs 0, 180, .inl (ai sn2)))]) hF.1 (k := 0) rfl) (mw_get (X := [(y, .inr (7, [.int (iI th), .ref m1, .ref m2, .ref m3, .int (iI pn), .ref m5, .ref m6, .ref m7, .ref m8, .ref m9, .ref m10, .ref m11, .ref m12, .ref m13, .int (iI rw_), .ref m15, .long (lI fu), .long (lI fb)])), (m1, .inl (cs 0, 11520, .inl (ai lm2))), (m2, .inl (cs 0, 180, .inl (ai mn2))), (m3, .inl (cs 0, 180, .inl (ai sn2)))]) hF.1 (k := 1) rfl) (mw_get (X := [(y, .inr (7, [.int (iI th), .ref m1, .ref m2, .ref m3, .int (iI pn), .ref m5, .ref m6, .ref m7, .ref m8, .ref m9, .ref m10, .ref m11, .ref m12, .ref m13, .int (iI rw_), .ref m15, .long (lI fu), .long (lI fb)])), (m1, .inl (cs 0, 11520, .inl (ai lm2))), (m2, .inl (cs 0, 180, .inl (ai mn2))), (m3, .inl (cs 0, 180, .inl (ai sn2)))]) hF.1 (k := 2) rfl) (mw_get (X := [(y, .inr (7, [.int (iI th), .ref m1, .ref m2, .ref m3, .int (iI pn), .ref m5, .ref m6, .ref m7, .ref m8, .ref m9, .ref m10, .ref m11, .ref m12, .ref m13, .int (iI rw_), .ref m15, .long (lI fu), .long (lI fb)])), (m1, .inl (cs 0, 11520, .inl (ai lm2))), (m2, .inl (cs 0, 180, .inl (ai mn2))), (m3, .inl (cs 0, 180, .inl (ai sn2)))]) hF.1 (k := 3) rfl) hR (by decide) (by omega)) (cwV 2 hts (gw_V w_804 w_806 s_38 w_8 w_807) rfl rfl rfl (by decide +kernel) ⟨by rw [hRf]; exact Nat.le_of_ble_eq_true rfl, by rw [hRl]; exact Nat.le_of_ble_eq_true rfl⟩) ⟨K0.blind, B.recv (hF.2 _ (mw_key (k := 0) (X := [(y, .inr (7, [.int (iI th), .ref m1, .ref m2, .ref m3, .int (iI pn), .ref m5, .ref m6, .ref m7, .ref m8, .ref m9, .ref m10, .ref m11, .ref m12, .ref m13, .int (iI rw_), .ref m15, .long (lI fu), .long (lI fb)])), (m1, .inl (cs 0, 11520, .inl (ai lm2))), (m2, .inl (cs 0, 180, .inl (ai mn2))), (m3, .inl (cs 0, 180, .inl (ai sn2)))]) rfl)) (mw_get (X := [(y, .inr (7, [.int (iI th), .ref m1, .ref m2, .ref m3, .int (iI pn), .ref m5, .ref m6, .ref m7, .ref m8, .ref m9, .ref m10, .ref m11, .ref m12, .ref m13, .int (iI rw_), .ref m15, .long (lI fu), .long (lI fb)])), (m1, .inl (cs 0, 11520, .inl (ai lm2))), (m2, .inl (cs 0, 180, .inl (ai mn2))), (m3, .inl (cs 0, 180, .inl (ai sn2)))]) hF.1 (k := 0) rfl) rfl, B.pre _⟩ rfl rfl hl.1 rfl (lv_room (Nat.le_of_ble_eq_true rfl)) d_Mo_remainder_26 ⟨by rw [hRc]; omega, by rw [hRs]; omega⟩) (fun g26 H locs hw B => ?_)
          obtain ⟨lm26, mn26, sn26, hRa, rfl⟩ := hw
          have B := B.of_eq (mw_put3 (X := [(y, .inr (7, [.int (iI th), .ref m1, .ref m2, .ref m3, .int (iI pn), .ref m5, .ref m6, .ref m7, .ref m8, .ref m9, .ref m10, .ref m11, .ref m12, .ref m13, .int (iI rw_), .ref m15, .long (lI fu), .long (lI fb)])), (m1, .inl (cs 0, 11520, .inl (ai lm2))), (m2, .inl (cs 0, 180, .inl (ai mn2))), (m3, .inl (cs 0, 180, .inl (ai sn2)))]) hF.1 (k1 := 1) (k2 := 2) (k3 := 3) rfl rfl rfl)
          have B : Wb D vwCl (TY cs) L (mw f [(y, .inr (7, [.int (iI th), .ref m1, .ref m2, .ref m3, .int (iI pn), .ref m5, .ref m6, .ref m7, .ref m8, .ref m9, .ref m10, .ref m11, .ref m12, .ref m13, .int (iI rw_), .ref m15, .long (lI fu), .long (lI fb)])), (m1, .inl (cs 0, 11520, .inl (ai lm26))), (m2, .inl (cs 0, 180, .inl (ai mn26))), (m3, .inl (cs 0, 180, .inl (ai sn26)))]) (AL L s.heap.size) s H _ := B
          refine lv_aload_n hx hb d_Mo_remainder_29 rfl (lv_at hl 1 rfl) ?_
          refine x_sipush hx hb d_Mo_remainder_30 (by decide) ?_
          refine lv_iload_n hx hb d_Mo_remainder_33 rfl (lv_at hl 3 rfl) ?_
          refine lv_iload_n hx hb d_Mo_remainder_34 rfl (lv_at hl 4 rfl) ?_
          refine x_iadd hx hb d_Mo_remainder_35 ?_
          refine x_callv B hA (va_runV (As := [.int (iI 171), .int (iI (((q0 : Int)) + ((nq : Int))))]) (rest := []) ⟨hx, hb, hml, hown, hts⟩ (c_Mo_copy l D cs _ _ _ y m1 m2 m3 m5 m6 m7 m8 m9 m10 m11 m12 m13 m15 th pn rw_ fu fb lm26 mn26 sn26 (up Z2 170 (Z2 (p0 + dg))) 171 (q0 + nq) hF (mw_get (X := [(y, .inr (7, [.int (iI th), .ref m1, .ref m2, .ref m3, .int (iI pn), .ref m5, .ref m6, .ref m7, .ref m8, .ref m9, .ref m10, .ref m11, .ref m12, .ref m13, .int (iI rw_), .ref m15, .long (lI fu), .long (lI fb)])), (m1, .inl (cs 0, 11520, .inl (ai lm26))), (m2, .inl (cs 0, 180, .inl (ai mn26))), (m3, .inl (cs 0, 180, .inl (ai sn26)))]) hF.1 (k := 0) rfl) (mw_get (X := [(y, .inr (7, [.int (iI th), .ref m1, .ref m2, .ref m3, .int (iI pn), .ref m5, .ref m6, .ref m7, .ref m8, .ref m9, .ref m10, .ref m11, .ref m12, .ref m13, .int (iI rw_), .ref m15, .long (lI fu), .long (lI fb)])), (m1, .inl (cs 0, 11520, .inl (ai lm26))), (m2, .inl (cs 0, 180, .inl (ai mn26))), (m3, .inl (cs 0, 180, .inl (ai sn26)))]) hF.1 (k := 1) rfl) (mw_get (X := [(y, .inr (7, [.int (iI th), .ref m1, .ref m2, .ref m3, .int (iI pn), .ref m5, .ref m6, .ref m7, .ref m8, .ref m9, .ref m10, .ref m11, .ref m12, .ref m13, .int (iI rw_), .ref m15, .long (lI fu), .long (lI fb)])), (m1, .inl (cs 0, 11520, .inl (ai lm26))), (m2, .inl (cs 0, 180, .inl (ai mn26))), (m3, .inl (cs 0, 180, .inl (ai sn26)))]) hF.1 (k := 2) rfl) (mw_get (X := [(y, .inr (7, [.int (iI th), .ref m1, .ref m2, .ref m3, .int (iI pn), .ref m5, .ref m6, .ref m7, .ref m8, .ref m9, .ref m10, .ref m11, .ref m12, .ref m13, .int (iI rw_), .ref m15, .long (lI fu), .long (lI fb)])), (m1, .inl (cs 0, 11520, .inl (ai lm26))), (m2, .inl (cs 0, 180, .inl (ai mn26))), (m3, .inl (cs 0, 180, .inl (ai sn26)))]) hF.1 (k := 3) rfl) hRa (by decide) (by omega)) (cwV 2 hts (gw_V w_804 w_806 s_38 w_8 w_807) rfl rfl rfl (by decide +kernel) ⟨by rw [hRf]; exact Nat.le_of_ble_eq_true rfl, by rw [hRl]; exact Nat.le_of_ble_eq_true rfl⟩) ⟨K0.blind, B.recv (hF.2 _ (mw_key (k := 0) (X := [(y, .inr (7, [.int (iI th), .ref m1, .ref m2, .ref m3, .int (iI pn), .ref m5, .ref m6, .ref m7, .ref m8, .ref m9, .ref m10, .ref m11, .ref m12, .ref m13, .int (iI rw_), .ref m15, .long (lI fu), .long (lI fb)])), (m1, .inl (cs 0, 11520, .inl (ai lm26))), (m2, .inl (cs 0, 180, .inl (ai mn26))), (m3, .inl (cs 0, 180, .inl (ai sn26)))]) rfl)) (mw_get (X := [(y, .inr (7, [.int (iI th), .ref m1, .ref m2, .ref m3, .int (iI pn), .ref m5, .ref m6, .ref m7, .ref m8, .ref m9, .ref m10, .ref m11, .ref m12, .ref m13, .int (iI rw_), .ref m15, .long (lI fu), .long (lI fb)])), (m1, .inl (cs 0, 11520, .inl (ai lm26))), (m2, .inl (cs 0, 180, .inl (ai mn26))), (m3, .inl (cs 0, 180, .inl (ai sn26)))]) hF.1 (k := 0) rfl) rfl, B.pre _⟩ rfl rfl hl.1 rfl (lv_room (Nat.le_of_ble_eq_true rfl)) d_Mo_remainder_36 ⟨by rw [hRc]; omega, by rw [hRs]; omega⟩) (fun g36 H locs hw B => ?_)
          obtain ⟨lm36, mn36, sn36, hRb, rfl⟩ := hw
          have B := B.of_eq (mw_put3 (X := [(y, .inr (7, [.int (iI th), .ref m1, .ref m2, .ref m3, .int (iI pn), .ref m5, .ref m6, .ref m7, .ref m8, .ref m9, .ref m10, .ref m11, .ref m12, .ref m13, .int (iI rw_), .ref m15, .long (lI fu), .long (lI fb)])), (m1, .inl (cs 0, 11520, .inl (ai lm26))), (m2, .inl (cs 0, 180, .inl (ai mn26))), (m3, .inl (cs 0, 180, .inl (ai sn26)))]) hF.1 (k1 := 1) (k2 := 2) (k3 := 3) rfl rfl rfl)
          have B : Wb D vwCl (TY cs) L (mw f [(y, .inr (7, [.int (iI th), .ref m1, .ref m2, .ref m3, .int (iI pn), .ref m5, .ref m6, .ref m7, .ref m8, .ref m9, .ref m10, .ref m11, .ref m12, .ref m13, .int (iI rw_), .ref m15, .long (lI fu), .long (lI fb)])), (m1, .inl (cs 0, 11520, .inl (ai lm36))), (m2, .inl (cs 0, 180, .inl (ai mn36))), (m3, .inl (cs 0, 180, .inl (ai sn36)))]) (AL L s.heap.size) s H _ := B
          rw [up_ne Z2 _ (show q0 + nq ≠ 170 by omega), ho (q0 + nq) (by omega) (by omega)] at hRb
          have hs5 : sn36 171 = (Z (q0 + nq)).sign := by have h9 := (hRb 171 (by decide)).2.2.2.2.1; rw [up_self] at h9; exact h9
          have hs5c := sign_cases (Z (q0 + nq))
          rw [← hs5] at hs5c
          have hs5n : sn36 171 ≠ 0 := by rw [hs5]; exact fun h => hql (Int.sign_eq_zero_iff_zero.mp h)
          refine lv_aload_n hx hb d_Mo_remainder_39 rfl (lv_at hl 1 rfl) ?_
          refine x_get (C := RX7) (T := TX7) (N := 18) hx hb hts inX7 hown B hF 0 rfl rfl 3 (by decide) (hts _ w_680) (fun _ h9 => h9) rfl d_Mo_remainder_40 ?_
          refine x_sipush hx hb d_Mo_remainder_43 (by decide) ?_
          refine x_iald hx hb B hF 3 0 rfl rfl 171 (by omega) (by omega) (by decide) d_Mo_remainder_46 ?_
          refine lv_istore (lv' := [(5, .int (iI (sn36 171))), (4, .int (iI ((dg : Int)))), (0, .ref y), (1, .int (iI ((p0 : Int)))), (2, .int (iI ((q0 : Int)))), (3, .int (iI ((nq : Int))))]) hx hb d_Mo_remainder_47 hl (by decide) rfl (fun ls hl => ?_)
          refine lv_aload_n hx hb d_Mo_remainder_49 rfl (lv_at hl 2 rfl) ?_
          refine x_get (C := RX7) (T := TX7) (N := 18) hx hb hts inX7 hown B hF 0 rfl rfl 3 (by decide) (hts _ w_680) (fun _ h9 => h9) rfl d_Mo_remainder_50 ?_
          refine x_sipush hx hb d_Mo_remainder_53 (by decide) ?_
          refine x_iconst hx hb d_Mo_remainder_56 ?_
          refine x_iast hx hb B hF 3 0 rfl rfl 171 (by omega) (by omega) (by decide) d_Mo_remainder_57 (fun H locs B => ?_)
          have B : Wb D vwCl (TY cs) L (mw f [(y, .inr (7, [.int (iI th), .ref m1, .ref m2, .ref m3, .int (iI pn), .ref m5, .ref m6, .ref m7, .ref m8, .ref m9, .ref m10, .ref m11, .ref m12, .ref m13, .int (iI rw_), .ref m15, .long (lI fu), .long (lI fb)])), (m1, .inl (cs 0, 11520, .inl (ai lm36))), (m2, .inl (cs 0, 180, .inl (ai mn36))), (m3, .inl (cs 0, 180, .inl (ai (up sn36 171 1))))]) (AL L s.heap.size) s H _ := B
          have hRg : RS lm36 mn36 (up sn36 171 1) (up (up Z2 170 (Z2 (p0 + dg))) 171 ((Z (q0 + nq)).natAbs : Int)) := by
              have h8 := RS.set (z := ((Z (q0 + nq)).natAbs : Int)) (hRb.off 171) ((Off.refl 171 lm36 mn36 sn36).sign 1) (by
                have h9 := (hRb 171 (by decide)).abs
                rw [up_self, if_neg hs5n] at h9
                rw [up_self]
                exact h9)
              rw [up_up] at h8
              exact h8
          have hLb : ((((Z (q0 + nq)).natAbs : Int)).natAbs : Int) < 2 ^ be := by rw [Int.natAbs_natCast]; exact hqb nq (by omega)
          refine x_iconst hx hb d_Mo_remainder_58 ?_
          refine lv_istore (lv' := [(6, .int (iI 0)), (5, .int (iI (sn36 171))), (4, .int (iI ((dg : Int)))), (0, .ref y), (1, .int (iI ((p0 : Int)))), (2, .int (iI ((q0 : Int)))), (3, .int (iI ((nq : Int))))]) hx hb d_Mo_remainder_59 hl (by decide) rfl (fun ls hl => ?_)
          have L2 : ∀ (fuel : Nat) (i : Nat) (lm3 : Nat → Int) (mn3 : Nat → Int) (sn3 : Nat → Int) (Z3 : Nat → Int), dg + 1 - i < fuel → (i ≤ dg + 1) → (RS lm3 mn3 sn3 Z3) → (∀ j, j < i → Z3 (p0 + j) = nwc (fun j => Z2 (p0 + j)) (fun j => Z (q0 + j)) dg nq (sn36 171) ((Z (q0 + nq)).natAbs : Int) j) → (∀ j, i ≤ j → j < 6 → Z3 (p0 + j) = Z2 (p0 + j)) → (Z3 170 = Z2 (p0 + dg)) → (Z3 171 = ((Z (q0 + nq)).natAbs : Int)) → (∀ v, (v < p0 ∨ p0 + 5 < v) → v < 169 → Z3 v = Z v) → ∀ (H : Heap) (locs : List Loc) (ls : Array Slot), Wb D vwCl (TY cs) L (mw f [(y, .inr (7, [.int (iI th), .ref m1, .ref m2, .ref m3, .int (iI pn), .ref m5, .ref m6, .ref m7, .ref m8, .ref m9, .ref m10, .ref m11, .ref m12, .ref m13, .int (iI rw_), .ref m15, .long (lI fu), .long (lI fb)])), (m1, .inl (cs 0, 11520, .inl (ai lm3))), (m2, .inl (cs 0, 180, .inl (ai mn3))), (m3, .inl (cs 0, 180, .inl (ai sn3)))]) (AL L s.heap.size) s H locs → lv_has ls 7 [(6, .int (iI ((i : Int)))), (5, .int (iI (sn36 171))), (4, .int (iI ((dg : Int)))), (0, .ref y), (1, .int (iI ((p0 : Int)))), (2, .int (iI ((q0 : Int)))), (3, .int (iI ((nq : Int))))] → W p l e R s m av below meth c H locs (0) (0) Q (F0 m 61 ls []) := by
            intro fuel
            induction fuel with
            | zero => intro i lm3 mn3 sn3 Z3 hfu; exact absurd hfu (Nat.not_lt_zero _)
            | succ fuel ih_L2 =>
              intro i lm3 mn3 sn3 Z3 hfu_L2 hi hR3 hd hu h170 h171 ho3 H locs ls B hl
              refine lv_iload hx hb d_Mo_remainder_61 (lv_at hl 0 rfl) ?_
              refine lv_iload hx hb d_Mo_remainder_63 (lv_at hl 2 rfl) ?_
              refine x_icmp_gt (tgt := 135) hx hb d_Mo_remainder_65 (by decide) (by omega) (by omega) (fun h65 => ?_) (fun h65 => ?_)
              · have hie : i = dg + 1 := by omega
                have h3b : ∀ j, j < 6 → ((Z3 (p0 + j)).natAbs : Int) < 2 ^ (rE al be e0 (dg + 1) + (be + 1)) := fun j hj => by
                    by_cases hjd : j ≤ dg
                    · rw [hd j (by omega)]; exact nwc_bd hs5c hbz hqb hLb hjd (by omega)
                    · rw [hu j (by omega) hj, hz j (by omega) hj]; exact pw2 _
                have hrs := rem_step (P := (fun j => Z2 (p0 + j))) (q := (fun j => Z (q0 + j))) (nw := (fun j => Z3 (p0 + j))) (m := dg) (n := nq) (s := sn36 171) (L := ((Z (q0 + nq)).natAbs : Int)) (by omega) (by omega) (fun j h1 h2 => hz j (by omega) h2) hqz hs5 rfl (fun j hj => hd j (by omega)) (fun j h1 h2 => hu j (by omega) h2)
                refine lv_aload_n hx hb d_Mo_remainder_135 rfl (lv_at hl 3 rfl) ?_
                refine lv_iload_n hx hb d_Mo_remainder_136 rfl (lv_at hl 4 rfl) ?_
                refine x_callv B hA (va_runV (As := [.int (iI ((p0 : Int)))]) (rest := []) ⟨hx, hb, hml, hown, hts⟩ (c_Mo_lessen l D cs _ _ _ y m1 m2 m3 m5 m6 m7 m8 m9 m10 m11 m12 m13 m15 th pn rw_ fu fb lm3 mn3 sn3 Z3 p0 hF (mw_get (X := [(y, .inr (7, [.int (iI th), .ref m1, .ref m2, .ref m3, .int (iI pn), .ref m5, .ref m6, .ref m7, .ref m8, .ref m9, .ref m10, .ref m11, .ref m12, .ref m13, .int (iI rw_), .ref m15, .long (lI fu), .long (lI fb)])), (m1, .inl (cs 0, 11520, .inl (ai lm3))), (m2, .inl (cs 0, 180, .inl (ai mn3))), (m3, .inl (cs 0, 180, .inl (ai sn3)))]) hF.1 (k := 0) rfl) (mw_get (X := [(y, .inr (7, [.int (iI th), .ref m1, .ref m2, .ref m3, .int (iI pn), .ref m5, .ref m6, .ref m7, .ref m8, .ref m9, .ref m10, .ref m11, .ref m12, .ref m13, .int (iI rw_), .ref m15, .long (lI fu), .long (lI fb)])), (m1, .inl (cs 0, 11520, .inl (ai lm3))), (m2, .inl (cs 0, 180, .inl (ai mn3))), (m3, .inl (cs 0, 180, .inl (ai sn3)))]) hF.1 (k := 1) rfl) (mw_get (X := [(y, .inr (7, [.int (iI th), .ref m1, .ref m2, .ref m3, .int (iI pn), .ref m5, .ref m6, .ref m7, .ref m8, .ref m9, .ref m10, .ref m11, .ref m12, .ref m13, .int (iI rw_), .ref m15, .long (lI fu), .long (lI fb)])), (m1, .inl (cs 0, 11520, .inl (ai lm3))), (m2, .inl (cs 0, 180, .inl (ai mn3))), (m3, .inl (cs 0, 180, .inl (ai sn3)))]) hF.1 (k := 2) rfl) (mw_get (X := [(y, .inr (7, [.int (iI th), .ref m1, .ref m2, .ref m3, .int (iI pn), .ref m5, .ref m6, .ref m7, .ref m8, .ref m9, .ref m10, .ref m11, .ref m12, .ref m13, .int (iI rw_), .ref m15, .long (lI fu), .long (lI fb)])), (m1, .inl (cs 0, 11520, .inl (ai lm3))), (m2, .inl (cs 0, 180, .inl (ai mn3))), (m3, .inl (cs 0, 180, .inl (ai sn3)))]) hF.1 (k := 3) rfl) hR3 (by omega) (fun j hj => Int.lt_of_lt_of_le (h3b j hj) (pow_Mp (by omega)))) (cwV 1 hts (gw_V w_832 w_834 s_44 w_8 w_835) rfl rfl rfl (by decide +kernel) ⟨by rw [hRf]; exact Nat.le_of_ble_eq_true rfl, by rw [hRl]; exact Nat.le_of_ble_eq_true rfl⟩) ⟨K0.blind, B.recv (hF.2 _ (mw_key (k := 0) (X := [(y, .inr (7, [.int (iI th), .ref m1, .ref m2, .ref m3, .int (iI pn), .ref m5, .ref m6, .ref m7, .ref m8, .ref m9, .ref m10, .ref m11, .ref m12, .ref m13, .int (iI rw_), .ref m15, .long (lI fu), .long (lI fb)])), (m1, .inl (cs 0, 11520, .inl (ai lm3))), (m2, .inl (cs 0, 180, .inl (ai mn3))), (m3, .inl (cs 0, 180, .inl (ai sn3)))]) rfl)) (mw_get (X := [(y, .inr (7, [.int (iI th), .ref m1, .ref m2, .ref m3, .int (iI pn), .ref m5, .ref m6, .ref m7, .ref m8, .ref m9, .ref m10, .ref m11, .ref m12, .ref m13, .int (iI rw_), .ref m15, .long (lI fu), .long (lI fb)])), (m1, .inl (cs 0, 11520, .inl (ai lm3))), (m2, .inl (cs 0, 180, .inl (ai mn3))), (m3, .inl (cs 0, 180, .inl (ai sn3)))]) hF.1 (k := 0) rfl) rfl, B.pre _⟩ rfl rfl hl.1 rfl (lv_room (Nat.le_of_ble_eq_true rfl)) d_Mo_remainder_137 ⟨by rw [hRc]; omega, by rw [hRs]; omega⟩) (fun g137 H locs hw B => ?_)
                obtain ⟨lm137, mn137, sn137, Z4, hR4, h4m, h4z, h4o, rfl⟩ := hw
                have B := B.of_eq (mw_put3 (X := [(y, .inr (7, [.int (iI th), .ref m1, .ref m2, .ref m3, .int (iI pn), .ref m5, .ref m6, .ref m7, .ref m8, .ref m9, .ref m10, .ref m11, .ref m12, .ref m13, .int (iI rw_), .ref m15, .long (lI fu), .long (lI fb)])), (m1, .inl (cs 0, 11520, .inl (ai lm3))), (m2, .inl (cs 0, 180, .inl (ai mn3))), (m3, .inl (cs 0, 180, .inl (ai sn3)))]) hF.1 (k1 := 1) (k2 := 2) (k3 := 3) rfl rfl rfl)
                have B : Wb D vwCl (TY cs) L (mw f [(y, .inr (7, [.int (iI th), .ref m1, .ref m2, .ref m3, .int (iI pn), .ref m5, .ref m6, .ref m7, .ref m8, .ref m9, .ref m10, .ref m11, .ref m12, .ref m13, .int (iI rw_), .ref m15, .long (lI fu), .long (lI fb)])), (m1, .inl (cs 0, 11520, .inl (ai lm137))), (m2, .inl (cs 0, 180, .inl (ai mn137))), (m3, .inl (cs 0, 180, .inl (ai sn137)))]) (AL L s.heap.size) s H _ := B
                have hlf := less_facts (A := (fun j => Z3 (p0 + j))) (B := (fun j => Z4 (p0 + j))) h4m h4z
                refine lv_aload_n hx hb d_Mo_remainder_140 rfl (lv_at hl 3 rfl) ?_
                refine lv_iload_n hx hb d_Mo_remainder_141 rfl (lv_at hl 4 rfl) ?_
                refine x_calli B hA (va_runV (As := [.int (iI ((p0 : Int)))]) (rest := []) ⟨hx, hb, hml, hown, hts⟩ (c_Mo_degreeAt l D cs _ _ _ y m1 m2 m3 m5 m6 m7 m8 m9 m10 m11 m12 m13 m15 th pn rw_ fu fb lm137 mn137 sn137 Z4 p0 hF (mw_get (X := [(y, .inr (7, [.int (iI th), .ref m1, .ref m2, .ref m3, .int (iI pn), .ref m5, .ref m6, .ref m7, .ref m8, .ref m9, .ref m10, .ref m11, .ref m12, .ref m13, .int (iI rw_), .ref m15, .long (lI fu), .long (lI fb)])), (m1, .inl (cs 0, 11520, .inl (ai lm137))), (m2, .inl (cs 0, 180, .inl (ai mn137))), (m3, .inl (cs 0, 180, .inl (ai sn137)))]) hF.1 (k := 0) rfl) (mw_get (X := [(y, .inr (7, [.int (iI th), .ref m1, .ref m2, .ref m3, .int (iI pn), .ref m5, .ref m6, .ref m7, .ref m8, .ref m9, .ref m10, .ref m11, .ref m12, .ref m13, .int (iI rw_), .ref m15, .long (lI fu), .long (lI fb)])), (m1, .inl (cs 0, 11520, .inl (ai lm137))), (m2, .inl (cs 0, 180, .inl (ai mn137))), (m3, .inl (cs 0, 180, .inl (ai sn137)))]) hF.1 (k := 1) rfl) (mw_get (X := [(y, .inr (7, [.int (iI th), .ref m1, .ref m2, .ref m3, .int (iI pn), .ref m5, .ref m6, .ref m7, .ref m8, .ref m9, .ref m10, .ref m11, .ref m12, .ref m13, .int (iI rw_), .ref m15, .long (lI fu), .long (lI fb)])), (m1, .inl (cs 0, 11520, .inl (ai lm137))), (m2, .inl (cs 0, 180, .inl (ai mn137))), (m3, .inl (cs 0, 180, .inl (ai sn137)))]) hF.1 (k := 2) rfl) (mw_get (X := [(y, .inr (7, [.int (iI th), .ref m1, .ref m2, .ref m3, .int (iI pn), .ref m5, .ref m6, .ref m7, .ref m8, .ref m9, .ref m10, .ref m11, .ref m12, .ref m13, .int (iI rw_), .ref m15, .long (lI fu), .long (lI fb)])), (m1, .inl (cs 0, 11520, .inl (ai lm137))), (m2, .inl (cs 0, 180, .inl (ai mn137))), (m3, .inl (cs 0, 180, .inl (ai sn137)))]) hF.1 (k := 3) rfl) hR4 (by omega)) (cwV 1 hts (gw_V w_796 w_798 s_36 w_8 w_799) rfl rfl rfl (by decide +kernel) ⟨by rw [hRf]; exact Nat.le_of_ble_eq_true rfl, by rw [hRl]; exact Nat.le_of_ble_eq_true rfl⟩) ⟨K0.blind, B.recv (hF.2 _ (mw_key (k := 0) (X := [(y, .inr (7, [.int (iI th), .ref m1, .ref m2, .ref m3, .int (iI pn), .ref m5, .ref m6, .ref m7, .ref m8, .ref m9, .ref m10, .ref m11, .ref m12, .ref m13, .int (iI rw_), .ref m15, .long (lI fu), .long (lI fb)])), (m1, .inl (cs 0, 11520, .inl (ai lm137))), (m2, .inl (cs 0, 180, .inl (ai mn137))), (m3, .inl (cs 0, 180, .inl (ai sn137)))]) rfl)) (mw_get (X := [(y, .inr (7, [.int (iI th), .ref m1, .ref m2, .ref m3, .int (iI pn), .ref m5, .ref m6, .ref m7, .ref m8, .ref m9, .ref m10, .ref m11, .ref m12, .ref m13, .int (iI rw_), .ref m15, .long (lI fu), .long (lI fb)])), (m1, .inl (cs 0, 11520, .inl (ai lm137))), (m2, .inl (cs 0, 180, .inl (ai mn137))), (m3, .inl (cs 0, 180, .inl (ai sn137)))]) hF.1 (k := 0) rfl) rfl, B.pre _⟩ rfl rfl hl.1 rfl (lv_room (Nat.le_of_ble_eq_true rfl)) d_Mo_remainder_142 ⟨by rw [hRc]; omega, by rw [hRs]; omega⟩) (fun r142 g142 H locs hw B => ?_)
                obtain ⟨k2, rfl, hk26, hk2z, hk2l, rfl⟩ := hw
                have B : Wb D vwCl (TY cs) L (mw f [(y, .inr (7, [.int (iI th), .ref m1, .ref m2, .ref m3, .int (iI pn), .ref m5, .ref m6, .ref m7, .ref m8, .ref m9, .ref m10, .ref m11, .ref m12, .ref m13, .int (iI rw_), .ref m15, .long (lI fu), .long (lI fb)])), (m1, .inl (cs 0, 11520, .inl (ai lm137))), (m2, .inl (cs 0, 180, .inl (ai mn137))), (m3, .inl (cs 0, 180, .inl (ai sn137)))]) (AL L s.heap.size) s H _ := B
                have hk2d : k2 ≤ dg := by
                  rcases Nat.lt_or_ge dg k2 with h | h
                  · exfalso
                    refine hk2l (by omega) (hlf.2.1 (k2 - 1) (by omega) ?_)
                    by_cases hkd : k2 - 1 = dg
                    · rw [hkd]; exact hrs.1
                    · exact (hu (k2 - 1) (by omega) (by omega)).trans (hz (k2 - 1) (by omega) (by omega))
                  · exact h
                refine lv_istore (lv' := [(4, .int (iI ((k2 : Int) - 1))), (6, .int (iI ((i : Int)))), (5, .int (iI (sn36 171))), (0, .ref y), (1, .int (iI ((p0 : Int)))), (2, .int (iI ((q0 : Int)))), (3, .int (iI ((nq : Int))))]) hx hb d_Mo_remainder_145 hl (by decide) rfl (fun ls hl => ?_)
                refine lv_goto (tgt := 7) hx hb d_Mo_remainder_147 (by decide) ?_
                exact ih_LP k2 lm137 mn137 sn137 Z4 (by omega) hR4 (by omega) hk2z hk2l (fun j hj => Int.lt_of_le_of_lt (hlf.2.2 j hj) (Int.lt_of_lt_of_le (h3b j hj) (pow2_le (by have h8 := rE_step al be e0 (dg + 1) (by omega) (by omega); have h9 := rE_mono al be e0 (show max k2 nq ≤ dg + 1 - 1 by omega); omega)))) (hlf.1.elim (fun c' hc' => Rem.step hrel hL0 hc'.1 hrs.2 hc'.2)) (fun v h1 h2 => by rw [h4o v h1 (by omega) (by omega) (by omega) (by omega) (by omega) (by omega)]; exact ho3 v h1 h2) _ _ _ B (lv_sub hl [0, 3, 4, 5, 6] rfl)
              · have hbd := pow2_bd (a := Z2 (p0 + i)) (b := ((Z (q0 + nq)).natAbs : Int)) (u := Z (q0 + (i - (dg - nq)))) (v := Z2 (p0 + dg)) (hbz i (by omega)) hLb (hqb _ (by omega)) (hbz dg (by omega)) hs5c
                have hM1 : (2 : Int) ^ (rE al be e0 (dg + 1) + be) ≤ Mp 63 := pow_Mp3 (by omega)
                have hui := hu i (Nat.le_refl _) (by omega)
                refine lv_aload_n hx hb d_Mo_remainder_68 rfl (lv_at hl 3 rfl) ?_
                refine lv_iload_n hx hb d_Mo_remainder_69 rfl (lv_at hl 4 rfl) ?_
                refine lv_iload hx hb d_Mo_remainder_70 (lv_at hl 0 rfl) ?_
                refine x_iadd hx hb d_Mo_remainder_72 ?_
                refine lv_iload_n hx hb d_Mo_remainder_73 rfl (lv_at hl 4 rfl) ?_
                refine lv_iload hx hb d_Mo_remainder_74 (lv_at hl 0 rfl) ?_
                refine x_iadd hx hb d_Mo_remainder_76 ?_
                refine x_sipush hx hb d_Mo_remainder_77 (by decide) ?_
                refine x_callv B hA (va_runV (As := [.int (iI (((p0 : Int)) + ((i : Int)))), .int (iI (((p0 : Int)) + ((i : Int)))), .int (iI 171)]) (rest := []) ⟨hx, hb, hml, hown, hts⟩ (c_Mo_multiply l D cs _ _ _ y m1 m2 m3 m5 m6 m7 m8 m9 m10 m11 m12 m13 m15 th pn rw_ fu fb lm3 mn3 sn3 Z3 (p0 + i) (p0 + i) 171 hF (mw_get (X := [(y, .inr (7, [.int (iI th), .ref m1, .ref m2, .ref m3, .int (iI pn), .ref m5, .ref m6, .ref m7, .ref m8, .ref m9, .ref m10, .ref m11, .ref m12, .ref m13, .int (iI rw_), .ref m15, .long (lI fu), .long (lI fb)])), (m1, .inl (cs 0, 11520, .inl (ai lm3))), (m2, .inl (cs 0, 180, .inl (ai mn3))), (m3, .inl (cs 0, 180, .inl (ai sn3)))]) hF.1 (k := 0) rfl) (mw_get (X := [(y, .inr (7, [.int (iI th), .ref m1, .ref m2, .ref m3, .int (iI pn), .ref m5, .ref m6, .ref m7, .ref m8, .ref m9, .ref m10, .ref m11, .ref m12, .ref m13, .int (iI rw_), .ref m15, .long (lI fu), .long (lI fb)])), (m1, .inl (cs 0, 11520, .inl (ai lm3))), (m2, .inl (cs 0, 180, .inl (ai mn3))), (m3, .inl (cs 0, 180, .inl (ai sn3)))]) hF.1 (k := 1) rfl) (mw_get (X := [(y, .inr (7, [.int (iI th), .ref m1, .ref m2, .ref m3, .int (iI pn), .ref m5, .ref m6, .ref m7, .ref m8, .ref m9, .ref m10, .ref m11, .ref m12, .ref m13, .int (iI rw_), .ref m15, .long (lI fu), .long (lI fb)])), (m1, .inl (cs 0, 11520, .inl (ai lm3))), (m2, .inl (cs 0, 180, .inl (ai mn3))), (m3, .inl (cs 0, 180, .inl (ai sn3)))]) hF.1 (k := 2) rfl) (mw_get (X := [(y, .inr (7, [.int (iI th), .ref m1, .ref m2, .ref m3, .int (iI pn), .ref m5, .ref m6, .ref m7, .ref m8, .ref m9, .ref m10, .ref m11, .ref m12, .ref m13, .int (iI rw_), .ref m15, .long (lI fu), .long (lI fb)])), (m1, .inl (cs 0, 11520, .inl (ai lm3))), (m2, .inl (cs 0, 180, .inl (ai mn3))), (m3, .inl (cs 0, 180, .inl (ai sn3)))]) hF.1 (k := 3) rfl) hR3 (by omega) (by omega) (by decide) (by omega) (by decide) (by rw [hui, h171]; have := hbd.2.2.1; omega)) (cwV 3 hts (gw_V w_808 w_810 s_39 w_8 w_811) rfl rfl rfl (by decide +kernel) ⟨by rw [hRf]; exact Nat.le_of_ble_eq_true rfl, by rw [hRl]; exact Nat.le_of_ble_eq_true rfl⟩) ⟨K0.blind, B.recv (hF.2 _ (mw_key (k := 0) (X := [(y, .inr (7, [.int (iI th), .ref m1, .ref m2, .ref m3, .int (iI pn), .ref m5, .ref m6, .ref m7, .ref m8, .ref m9, .ref m10, .ref m11, .ref m12, .ref m13, .int (iI rw_), .ref m15, .long (lI fu), .long (lI fb)])), (m1, .inl (cs 0, 11520, .inl (ai lm3))), (m2, .inl (cs 0, 180, .inl (ai mn3))), (m3, .inl (cs 0, 180, .inl (ai sn3)))]) rfl)) (mw_get (X := [(y, .inr (7, [.int (iI th), .ref m1, .ref m2, .ref m3, .int (iI pn), .ref m5, .ref m6, .ref m7, .ref m8, .ref m9, .ref m10, .ref m11, .ref m12, .ref m13, .int (iI rw_), .ref m15, .long (lI fu), .long (lI fb)])), (m1, .inl (cs 0, 11520, .inl (ai lm3))), (m2, .inl (cs 0, 180, .inl (ai mn3))), (m3, .inl (cs 0, 180, .inl (ai sn3)))]) hF.1 (k := 0) rfl) rfl, B.pre _⟩ rfl rfl hl.1 rfl (lv_room (Nat.le_of_ble_eq_true rfl)) d_Mo_remainder_80 ⟨by rw [hRc]; omega, by rw [hRs]; omega⟩) (fun g80 H locs hw B => ?_)
                obtain ⟨lm80, mn80, sn80, hRj, rfl⟩ := hw
                have B := B.of_eq (mw_put3 (X := [(y, .inr (7, [.int (iI th), .ref m1, .ref m2, .ref m3, .int (iI pn), .ref m5, .ref m6, .ref m7, .ref m8, .ref m9, .ref m10, .ref m11, .ref m12, .ref m13, .int (iI rw_), .ref m15, .long (lI fu), .long (lI fb)])), (m1, .inl (cs 0, 11520, .inl (ai lm3))), (m2, .inl (cs 0, 180, .inl (ai mn3))), (m3, .inl (cs 0, 180, .inl (ai sn3)))]) hF.1 (k1 := 1) (k2 := 2) (k3 := 3) rfl rfl rfl)
                have B : Wb D vwCl (TY cs) L (mw f [(y, .inr (7, [.int (iI th), .ref m1, .ref m2, .ref m3, .int (iI pn), .ref m5, .ref m6, .ref m7, .ref m8, .ref m9, .ref m10, .ref m11, .ref m12, .ref m13, .int (iI rw_), .ref m15, .long (lI fu), .long (lI fb)])), (m1, .inl (cs 0, 11520, .inl (ai lm80))), (m2, .inl (cs 0, 180, .inl (ai mn80))), (m3, .inl (cs 0, 180, .inl (ai sn80)))]) (AL L s.heap.size) s H _ := B
                rw [hui, h171] at hRj
                refine lv_iload hx hb d_Mo_remainder_83 (lv_at hl 0 rfl) ?_
                refine lv_iload hx hb d_Mo_remainder_85 (lv_at hl 2 rfl) ?_
                refine lv_iload_n hx hb d_Mo_remainder_87 rfl (lv_at hl 6 rfl) ?_
                refine x_isub hx hb d_Mo_remainder_88 ?_
                refine x_icmp_lt (tgt := 129) hx hb d_Mo_remainder_89 (by decide) (by omega) (by omega) (fun h89 => ?_) (fun h89 => ?_)
                · refine x_iinc (lv' := [(6, .int (iI (((i : Int)) + 1))), (5, .int (iI (sn36 171))), (4, .int (iI ((dg : Int)))), (0, .ref y), (1, .int (iI ((p0 : Int)))), (2, .int (iI ((q0 : Int)))), (3, .int (iI ((nq : Int))))]) hx hb d_Mo_remainder_129 hl (q := 0) rfl rfl (by decide) rfl (fun ls hl => ?_)
                  refine lv_goto (tgt := 61) hx hb d_Mo_remainder_132 (by decide) ?_
                  exact ih_L2 (i + 1) lm80 mn80 sn80 (up (up Z3 178 (Z2 (p0 + i) * ((Z (q0 + nq)).natAbs : Int))) (p0 + i) (Z2 (p0 + i) * ((Z (q0 + nq)).natAbs : Int))) (by omega) (by omega) hRj (fun j hj => by
          by_cases hji : j = i
          · rw [hji, up_self, nwc, if_neg (by omega)]
          · rw [up_ne _ _ (show p0 + j ≠ p0 + i by omega), up_ne _ _ (show p0 + j ≠ 178 by omega)]; exact hd j (by omega)) (fun j h1 h2 => by rw [up_ne _ _ (show p0 + j ≠ p0 + i by omega), up_ne _ _ (show p0 + j ≠ 178 by omega)]; exact hu j (by omega) h2) (by rw [up_ne _ _ (show 170 ≠ p0 + i by omega), up_ne _ _ (show 170 ≠ 178 by omega)]; exact h170) (by rw [up_ne _ _ (show 171 ≠ p0 + i by omega), up_ne _ _ (show 171 ≠ 178 by omega)]; exact h171) (fun v h1 h2 => by rw [up_ne _ _ (show v ≠ p0 + i by omega), up_ne _ _ (show v ≠ 178 by omega)]; exact ho3 v h1 h2) _ _ _ B (lv_sub hl [0, 1, 2, 3, 4, 5, 6] rfl)
                · refine lv_aload_n hx hb d_Mo_remainder_92 rfl (lv_at hl 3 rfl) ?_
                  refine x_sipush hx hb d_Mo_remainder_93 (by decide) ?_
                  refine lv_iload_n hx hb d_Mo_remainder_96 rfl (lv_at hl 5 rfl) ?_
                  refine lv_iload hx hb d_Mo_remainder_97 (lv_at hl 0 rfl) ?_
                  refine x_iadd hx hb d_Mo_remainder_99 ?_
                  refine lv_iload hx hb d_Mo_remainder_100 (lv_at hl 2 rfl) ?_
                  refine lv_iload_n hx hb d_Mo_remainder_102 rfl (lv_at hl 6 rfl) ?_
                  refine x_isub hx hb d_Mo_remainder_103 ?_
                  refine x_isub hx hb d_Mo_remainder_104 ?_
                  refine x_sipush hx hb d_Mo_remainder_105 (by decide) ?_
                  rw [show (q0 : Int) + (i : Int) - ((dg : Int) - (nq : Int)) = ((q0 + (i - (dg - nq)) : Nat) : Int) by omega]
                  have hzq : (up (up Z3 178 (Z2 (p0 + i) * ((Z (q0 + nq)).natAbs : Int))) (p0 + i) (Z2 (p0 + i) * ((Z (q0 + nq)).natAbs : Int))) (q0 + (i - (dg - nq))) = Z (q0 + (i - (dg - nq))) := by rw [up_ne _ _ (by omega), up_ne _ _ (by omega)]; exact ho3 _ (by omega) (by omega)
                  have hz170 : (up (up Z3 178 (Z2 (p0 + i) * ((Z (q0 + nq)).natAbs : Int))) (p0 + i) (Z2 (p0 + i) * ((Z (q0 + nq)).natAbs : Int))) 170 = Z2 (p0 + dg) := by rw [up_ne _ _ (by omega), up_ne _ _ (by decide)]; exact h170
                  refine x_callv B hA (va_runV (As := [.int (iI 169), .int (iI (((q0 + (i - (dg - nq)) : Nat) : Int))), .int (iI 170)]) (rest := []) ⟨hx, hb, hml, hown, hts⟩ (c_Mo_multiply l D cs _ _ _ y m1 m2 m3 m5 m6 m7 m8 m9 m10 m11 m12 m13 m15 th pn rw_ fu fb lm80 mn80 sn80 (up (up Z3 178 (Z2 (p0 + i) * ((Z (q0 + nq)).natAbs : Int))) (p0 + i) (Z2 (p0 + i) * ((Z (q0 + nq)).natAbs : Int))) 169 (q0 + (i - (dg - nq))) 170 hF (mw_get (X := [(y, .inr (7, [.int (iI th), .ref m1, .ref m2, .ref m3, .int (iI pn), .ref m5, .ref m6, .ref m7, .ref m8, .ref m9, .ref m10, .ref m11, .ref m12, .ref m13, .int (iI rw_), .ref m15, .long (lI fu), .long (lI fb)])), (m1, .inl (cs 0, 11520, .inl (ai lm80))), (m2, .inl (cs 0, 180, .inl (ai mn80))), (m3, .inl (cs 0, 180, .inl (ai sn80)))]) hF.1 (k := 0) rfl) (mw_get (X := [(y, .inr (7, [.int (iI th), .ref m1, .ref m2, .ref m3, .int (iI pn), .ref m5, .ref m6, .ref m7, .ref m8, .ref m9, .ref m10, .ref m11, .ref m12, .ref m13, .int (iI rw_), .ref m15, .long (lI fu), .long (lI fb)])), (m1, .inl (cs 0, 11520, .inl (ai lm80))), (m2, .inl (cs 0, 180, .inl (ai mn80))), (m3, .inl (cs 0, 180, .inl (ai sn80)))]) hF.1 (k := 1) rfl) (mw_get (X := [(y, .inr (7, [.int (iI th), .ref m1, .ref m2, .ref m3, .int (iI pn), .ref m5, .ref m6, .ref m7, .ref m8, .ref m9, .ref m10, .ref m11, .ref m12, .ref m13, .int (iI rw_), .ref m15, .long (lI fu), .long (lI fb)])), (m1, .inl (cs 0, 11520, .inl (ai lm80))), (m2, .inl (cs 0, 180, .inl (ai mn80))), (m3, .inl (cs 0, 180, .inl (ai sn80)))]) hF.1 (k := 2) rfl) (mw_get (X := [(y, .inr (7, [.int (iI th), .ref m1, .ref m2, .ref m3, .int (iI pn), .ref m5, .ref m6, .ref m7, .ref m8, .ref m9, .ref m10, .ref m11, .ref m12, .ref m13, .int (iI rw_), .ref m15, .long (lI fu), .long (lI fb)])), (m1, .inl (cs 0, 11520, .inl (ai lm80))), (m2, .inl (cs 0, 180, .inl (ai mn80))), (m3, .inl (cs 0, 180, .inl (ai sn80)))]) hF.1 (k := 3) rfl) hRj (by decide) (by omega) (by decide) (by omega) (by decide) (by rw [hzq, hz170]; have := hbd.2.2.2; omega)) (cwV 3 hts (gw_V w_808 w_810 s_39 w_8 w_811) rfl rfl rfl (by decide +kernel) ⟨by rw [hRf]; exact Nat.le_of_ble_eq_true rfl, by rw [hRl]; exact Nat.le_of_ble_eq_true rfl⟩) ⟨K0.blind, B.recv (hF.2 _ (mw_key (k := 0) (X := [(y, .inr (7, [.int (iI th), .ref m1, .ref m2, .ref m3, .int (iI pn), .ref m5, .ref m6, .ref m7, .ref m8, .ref m9, .ref m10, .ref m11, .ref m12, .ref m13, .int (iI rw_), .ref m15, .long (lI fu), .long (lI fb)])), (m1, .inl (cs 0, 11520, .inl (ai lm80))), (m2, .inl (cs 0, 180, .inl (ai mn80))), (m3, .inl (cs 0, 180, .inl (ai sn80)))]) rfl)) (mw_get (X := [(y, .inr (7, [.int (iI th), .ref m1, .ref m2, .ref m3, .int (iI pn), .ref m5, .ref m6, .ref m7, .ref m8, .ref m9, .ref m10, .ref m11, .ref m12, .ref m13, .int (iI rw_), .ref m15, .long (lI fu), .long (lI fb)])), (m1, .inl (cs 0, 11520, .inl (ai lm80))), (m2, .inl (cs 0, 180, .inl (ai mn80))), (m3, .inl (cs 0, 180, .inl (ai sn80)))]) hF.1 (k := 0) rfl) rfl, B.pre _⟩ rfl rfl hl.1 rfl (lv_room (Nat.le_of_ble_eq_true rfl)) d_Mo_remainder_108 ⟨by rw [hRc]; omega, by rw [hRs]; omega⟩) (fun g108 H locs hw B => ?_)
                  obtain ⟨lm108, mn108, sn108, hRk2, rfl⟩ := hw
                  have B := B.of_eq (mw_put3 (X := [(y, .inr (7, [.int (iI th), .ref m1, .ref m2, .ref m3, .int (iI pn), .ref m5, .ref m6, .ref m7, .ref m8, .ref m9, .ref m10, .ref m11, .ref m12, .ref m13, .int (iI rw_), .ref m15, .long (lI fu), .long (lI fb)])), (m1, .inl (cs 0, 11520, .inl (ai lm80))), (m2, .inl (cs 0, 180, .inl (ai mn80))), (m3, .inl (cs 0, 180, .inl (ai sn80)))]) hF.1 (k1 := 1) (k2 := 2) (k3 := 3) rfl rfl rfl)
                  have B : Wb D vwCl (TY cs) L (mw f [(y, .inr (7, [.int (iI th), .ref m1, .ref m2, .ref m3, .int (iI pn), .ref m5, .ref m6, .ref m7, .ref m8, .ref m9, .ref m10, .ref m11, .ref m12, .ref m13, .int (iI rw_), .ref m15, .long (lI fu), .long (lI fb)])), (m1, .inl (cs 0, 11520, .inl (ai lm108))), (m2, .inl (cs 0, 180, .inl (ai mn108))), (m3, .inl (cs 0, 180, .inl (ai sn108)))]) (AL L s.heap.size) s H _ := B
                  rw [hzq, hz170] at hRk2
                  have hzi : (up (up (up (up Z3 178 (Z2 (p0 + i) * ((Z (q0 + nq)).natAbs : Int))) (p0 + i) (Z2 (p0 + i) * ((Z (q0 + nq)).natAbs : Int))) 178 (Z (q0 + (i - (dg - nq))) * Z2 (p0 + dg))) 169 (Z (q0 + (i - (dg - nq))) * Z2 (p0 + dg))) (p0 + i) = (Z2 (p0 + i) * ((Z (q0 + nq)).natAbs : Int)) := by rw [up_ne _ _ (by omega), up_ne _ _ (by omega), up_self]
                  have hz169 : (up (up (up (up Z3 178 (Z2 (p0 + i) * ((Z (q0 + nq)).natAbs : Int))) (p0 + i) (Z2 (p0 + i) * ((Z (q0 + nq)).natAbs : Int))) 178 (Z (q0 + (i - (dg - nq))) * Z2 (p0 + dg))) 169 (Z (q0 + (i - (dg - nq))) * Z2 (p0 + dg))) 169 = (Z (q0 + (i - (dg - nq))) * Z2 (p0 + dg)) := by rw [up_self]
                  refine lv_aload_n hx hb d_Mo_remainder_111 rfl (lv_at hl 3 rfl) ?_
                  refine lv_iload_n hx hb d_Mo_remainder_112 rfl (lv_at hl 4 rfl) ?_
                  refine lv_iload hx hb d_Mo_remainder_113 (lv_at hl 0 rfl) ?_
                  refine x_iadd hx hb d_Mo_remainder_115 ?_
                  refine lv_iload_n hx hb d_Mo_remainder_116 rfl (lv_at hl 4 rfl) ?_
                  refine lv_iload hx hb d_Mo_remainder_117 (lv_at hl 0 rfl) ?_
                  refine x_iadd hx hb d_Mo_remainder_119 ?_
                  refine x_sipush hx hb d_Mo_remainder_120 (by decide) ?_
                  refine lv_iload hx hb d_Mo_remainder_123 (lv_at hl 1 rfl) ?_
                  refine x_ineg hx hb d_Mo_remainder_125 ?_
                  refine x_callv B hA (va_runV (As := [.int (iI (((p0 : Int)) + ((i : Int)))), .int (iI (((p0 : Int)) + ((i : Int)))), .int (iI 169), .int (iI (-(sn36 171)))]) (rest := []) ⟨hx, hb, hml, hown, hts⟩ (c_Mo_add l D cs _ _ _ y m1 m2 m3 m5 m6 m7 m8 m9 m10 m11 m12 m13 m15 th pn rw_ fu fb lm108 mn108 sn108 (up (up (up (up Z3 178 (Z2 (p0 + i) * ((Z (q0 + nq)).natAbs : Int))) (p0 + i) (Z2 (p0 + i) * ((Z (q0 + nq)).natAbs : Int))) 178 (Z (q0 + (i - (dg - nq))) * Z2 (p0 + dg))) 169 (Z (q0 + (i - (dg - nq))) * Z2 (p0 + dg))) (p0 + i) (p0 + i) 169 (-(sn36 171)) hF (mw_get (X := [(y, .inr (7, [.int (iI th), .ref m1, .ref m2, .ref m3, .int (iI pn), .ref m5, .ref m6, .ref m7, .ref m8, .ref m9, .ref m10, .ref m11, .ref m12, .ref m13, .int (iI rw_), .ref m15, .long (lI fu), .long (lI fb)])), (m1, .inl (cs 0, 11520, .inl (ai lm108))), (m2, .inl (cs 0, 180, .inl (ai mn108))), (m3, .inl (cs 0, 180, .inl (ai sn108)))]) hF.1 (k := 0) rfl) (mw_get (X := [(y, .inr (7, [.int (iI th), .ref m1, .ref m2, .ref m3, .int (iI pn), .ref m5, .ref m6, .ref m7, .ref m8, .ref m9, .ref m10, .ref m11, .ref m12, .ref m13, .int (iI rw_), .ref m15, .long (lI fu), .long (lI fb)])), (m1, .inl (cs 0, 11520, .inl (ai lm108))), (m2, .inl (cs 0, 180, .inl (ai mn108))), (m3, .inl (cs 0, 180, .inl (ai sn108)))]) hF.1 (k := 1) rfl) (mw_get (X := [(y, .inr (7, [.int (iI th), .ref m1, .ref m2, .ref m3, .int (iI pn), .ref m5, .ref m6, .ref m7, .ref m8, .ref m9, .ref m10, .ref m11, .ref m12, .ref m13, .int (iI rw_), .ref m15, .long (lI fu), .long (lI fb)])), (m1, .inl (cs 0, 11520, .inl (ai lm108))), (m2, .inl (cs 0, 180, .inl (ai mn108))), (m3, .inl (cs 0, 180, .inl (ai sn108)))]) hF.1 (k := 2) rfl) (mw_get (X := [(y, .inr (7, [.int (iI th), .ref m1, .ref m2, .ref m3, .int (iI pn), .ref m5, .ref m6, .ref m7, .ref m8, .ref m9, .ref m10, .ref m11, .ref m12, .ref m13, .int (iI rw_), .ref m15, .long (lI fu), .long (lI fb)])), (m1, .inl (cs 0, 11520, .inl (ai lm108))), (m2, .inl (cs 0, 180, .inl (ai mn108))), (m3, .inl (cs 0, 180, .inl (ai sn108)))]) hF.1 (k := 3) rfl) hRk2 (by omega) (by omega) (by decide) (by omega) (by rw [hzi]; have := hbd.2.2.1; omega) (by rw [hz169]; have := hbd.2.2.2; omega)) (cwV 4 hts (gw_V w_820 w_822 s_41 w_8 w_823) rfl rfl rfl (by decide +kernel) ⟨by rw [hRf]; exact Nat.le_of_ble_eq_true rfl, by rw [hRl]; exact Nat.le_of_ble_eq_true rfl⟩) ⟨K0.blind, B.recv (hF.2 _ (mw_key (k := 0) (X := [(y, .inr (7, [.int (iI th), .ref m1, .ref m2, .ref m3, .int (iI pn), .ref m5, .ref m6, .ref m7, .ref m8, .ref m9, .ref m10, .ref m11, .ref m12, .ref m13, .int (iI rw_), .ref m15, .long (lI fu), .long (lI fb)])), (m1, .inl (cs 0, 11520, .inl (ai lm108))), (m2, .inl (cs 0, 180, .inl (ai mn108))), (m3, .inl (cs 0, 180, .inl (ai sn108)))]) rfl)) (mw_get (X := [(y, .inr (7, [.int (iI th), .ref m1, .ref m2, .ref m3, .int (iI pn), .ref m5, .ref m6, .ref m7, .ref m8, .ref m9, .ref m10, .ref m11, .ref m12, .ref m13, .int (iI rw_), .ref m15, .long (lI fu), .long (lI fb)])), (m1, .inl (cs 0, 11520, .inl (ai lm108))), (m2, .inl (cs 0, 180, .inl (ai mn108))), (m3, .inl (cs 0, 180, .inl (ai sn108)))]) hF.1 (k := 0) rfl) rfl, B.pre _⟩ rfl rfl hl.1 rfl (lv_room (Nat.le_of_ble_eq_true rfl)) d_Mo_remainder_126 ⟨by rw [hRc]; omega, by rw [hRs]; omega⟩) (fun g126 H locs hw B => ?_)
                  obtain ⟨lm126, mn126, sn126, hRm, rfl⟩ := hw
                  have B := B.of_eq (mw_put3 (X := [(y, .inr (7, [.int (iI th), .ref m1, .ref m2, .ref m3, .int (iI pn), .ref m5, .ref m6, .ref m7, .ref m8, .ref m9, .ref m10, .ref m11, .ref m12, .ref m13, .int (iI rw_), .ref m15, .long (lI fu), .long (lI fb)])), (m1, .inl (cs 0, 11520, .inl (ai lm108))), (m2, .inl (cs 0, 180, .inl (ai mn108))), (m3, .inl (cs 0, 180, .inl (ai sn108)))]) hF.1 (k1 := 1) (k2 := 2) (k3 := 3) rfl rfl rfl)
                  have B : Wb D vwCl (TY cs) L (mw f [(y, .inr (7, [.int (iI th), .ref m1, .ref m2, .ref m3, .int (iI pn), .ref m5, .ref m6, .ref m7, .ref m8, .ref m9, .ref m10, .ref m11, .ref m12, .ref m13, .int (iI rw_), .ref m15, .long (lI fu), .long (lI fb)])), (m1, .inl (cs 0, 11520, .inl (ai lm126))), (m2, .inl (cs 0, 180, .inl (ai mn126))), (m3, .inl (cs 0, 180, .inl (ai sn126)))]) (AL L s.heap.size) s H _ := B
                  rw [hzi, hz169] at hRm
                  refine x_iinc (lv' := [(6, .int (iI (((i : Int)) + 1))), (5, .int (iI (sn36 171))), (4, .int (iI ((dg : Int)))), (0, .ref y), (1, .int (iI ((p0 : Int)))), (2, .int (iI ((q0 : Int)))), (3, .int (iI ((nq : Int))))]) hx hb d_Mo_remainder_129 hl (q := 0) rfl rfl (by decide) rfl (fun ls hl => ?_)
                  refine lv_goto (tgt := 61) hx hb d_Mo_remainder_132 (by decide) ?_
                  exact ih_L2 (i + 1) lm126 mn126 sn126 (up (up (up (up (up Z3 178 (Z2 (p0 + i) * ((Z (q0 + nq)).natAbs : Int))) (p0 + i) (Z2 (p0 + i) * ((Z (q0 + nq)).natAbs : Int))) 178 (Z (q0 + (i - (dg - nq))) * Z2 (p0 + dg))) 169 (Z (q0 + (i - (dg - nq))) * Z2 (p0 + dg))) (p0 + i) ((Z2 (p0 + i) * ((Z (q0 + nq)).natAbs : Int)) + -(sn36 171) * (Z (q0 + (i - (dg - nq))) * Z2 (p0 + dg)))) (by omega) (by omega) hRm (fun j hj => by
          by_cases hji : j = i
          · rw [hji, up_self, nwc, if_pos (by omega)]
          · rw [up_ne _ _ (show p0 + j ≠ p0 + i by omega), up_ne _ _ (show p0 + j ≠ 169 by omega), up_ne _ _ (show p0 + j ≠ 178 by omega), up_ne _ _ (show p0 + j ≠ p0 + i by omega), up_ne _ _ (show p0 + j ≠ 178 by omega)]; exact hd j (by omega)) (fun j h1 h2 => by rw [up_ne _ _ (show p0 + j ≠ p0 + i by omega), up_ne _ _ (show p0 + j ≠ 169 by omega), up_ne _ _ (show p0 + j ≠ 178 by omega), up_ne _ _ (show p0 + j ≠ p0 + i by omega), up_ne _ _ (show p0 + j ≠ 178 by omega)]; exact hu j (by omega) h2) (by rw [up_ne _ _ (show 170 ≠ p0 + i by omega), up_ne _ _ (show 170 ≠ 169 by omega), up_ne _ _ (show 170 ≠ 178 by omega), up_ne _ _ (show 170 ≠ p0 + i by omega), up_ne _ _ (show 170 ≠ 178 by omega)]; exact h170) (by rw [up_ne _ _ (show 171 ≠ p0 + i by omega), up_ne _ _ (show 171 ≠ 169 by omega), up_ne _ _ (show 171 ≠ 178 by omega), up_ne _ _ (show 171 ≠ p0 + i by omega), up_ne _ _ (show 171 ≠ 178 by omega)]; exact h171) (fun v h1 h2 => by rw [up_ne _ _ (show v ≠ p0 + i by omega), up_ne _ _ (show v ≠ 169 by omega), up_ne _ _ (show v ≠ 178 by omega), up_ne _ _ (show v ≠ p0 + i by omega), up_ne _ _ (show v ≠ 178 by omega)]; exact ho3 v h1 h2) _ _ _ B (lv_sub hl [0, 1, 2, 3, 4, 5, 6] rfl)
          exact L2 _ 0 lm36 mn36 (up sn36 171 1) (up (up Z2 170 (Z2 (p0 + dg))) 171 ((Z (q0 + nq)).natAbs : Int)) (Nat.lt_succ_self _) (by omega) hRg (fun j hj => by omega) (fun j h1 h2 => by rw [up_ne _ _ (by omega), up_ne _ _ (by omega)]) (by rw [up_ne _ _ (by decide), up_self]) (by rw [up_self]) (fun v h1 h2 => by rw [up_ne _ _ (by omega), up_ne _ _ (by omega)]; exact ho v h1 h2) _ _ _ B (lv_sub hl [0, 1, 2, 3, 4, 5, 6] rfl)
  exact LP _ k0 lm mn sn Z (Nat.lt_succ_self _) hRS hk0e hk0z hk0l (fun j hj => Int.lt_of_lt_of_le (hpa j hj) (pow2_le (by unfold rE; omega))) (Rem.refl _ _) (fun v _ _ => rfl) _ _ _ B (lv_sub hl [0, 1, 2, 3, 4] rfl)
