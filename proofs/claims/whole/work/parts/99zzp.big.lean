/-! two Bigs of the state change -/
theorem CSt.big2 {cs : Nat → ClassId} {L : List Nat} {ad Qm : Nat → Nat} {f g : Nat → va_E} {I : Nat → Int} {A : Nat → Nat → Int} {R : Nat → Nat} {Zf : Nat → Int} (hAd : AdOk L ad Qm) (h : CSt cs ad Qm f I A R Zf) {a b : Nat} (ha : Bg ad a) (hb : Bg ad b) {s1 s2 z y : Int} {n1 n2 : Nat} {l1 l2 : Nat → Int} (hz1 : BV s1 (n1 : Int) l1 z) (hz2 : BV s2 (n2 : Int) l2 y) (hg : g = mw f [(a, .inr (0, [.int (iI s1), .int (iI ((n1 : Int))), .ref (Qm a)])), (Qm a, .inl (cs 0, 48, .inl (ai l1))), (b, .inr (0, [.int (iI s2), .int (iI ((n2 : Int))), .ref (Qm b)])), (Qm b, .inl (cs 0, 48, .inl (ai l2)))]) : CSt cs ad Qm g I A R (up (up Zf b y) a z) ∧ ∀ k, Awy ad k → g k = f k := by
  have hg2 : g = mw (mw f [(b, .inr (0, [.int (iI s2), .int (iI ((n2 : Int))), .ref (Qm b)])), (Qm b, .inl (cs 0, 48, .inl (ai l2)))]) [(a, .inr (0, [.int (iI s1), .int (iI ((n1 : Int))), .ref (Qm a)])), (Qm a, .inl (cs 0, 48, .inl (ai l1)))] := by rw [mw_app]; exact hg
  obtain ⟨q1, q2⟩ := CSt.big1 hAd h hb hz2 rfl
  obtain ⟨q3, q4⟩ := CSt.big1 hAd q1 ha hz1 hg2
  exact ⟨q3, fun k hk => (q4 k hk).trans (q2 k hk)⟩
theorem odd_t0 {G t : Nat} {o : Int} (hG : G % 2 = 1) (h : (G : Int) = 2 ^ t * o) : t = 0 := by
  rcases t with _ | t
  · rfl
  · exfalso
    rw [Int.pow_succ] at h
    have : (G : Int) = 2 * (2 ^ t * o) := by rw [h]; grind
    omega
/-- the quotient by its lowest bits -/
theorem quo_fo {za fo : Int} {G : Nat} (hG : G % 2 = 1) (hd : (G : Int) ∣ za) (hf : fo = za.sign * (G : Int).sign * (((za / (G : Int)).natAbs : Int) % 4611686018427387904)) : (-4611686018427387904 < fo ∧ fo < 4611686018427387904) ∧ (((za / (G : Int)).natAbs : Int) < 4611686018427387904 → fo = za / (G : Int) ∧ fo * (G : Int) = za) ∧ (4611686018427387904 ≤ ((za / (G : Int)).natAbs : Int) → fo * (G : Int) ≠ za) := by
  have hG0 : 0 < (G : Int) := by omega
  obtain ⟨q, rfl⟩ := hd
  rw [Int.mul_ediv_cancel_left _ (show (G : Int) ≠ 0 by omega)] at hf ⊢
  rw [Int.sign_mul, Int.sign_eq_one_of_pos hG0, Int.one_mul, Int.mul_one] at hf
  have hr : 0 ≤ (q.natAbs : Int) % 4611686018427387904 ∧ (q.natAbs : Int) % 4611686018427387904 < 4611686018427387904 := ⟨Int.emod_nonneg _ (by decide), Int.emod_lt_of_pos _ (by decide)⟩
  have hs : q.sign = 1 ∨ q.sign = 0 ∨ q.sign = -1 := by
    rcases Int.lt_trichotomy q 0 with c | c | c
    · exact Or.inr (Or.inr (Int.sign_eq_neg_one_of_neg c))
    · exact Or.inr (Or.inl (by rw [c]; rfl))
    · exact Or.inl (Int.sign_eq_one_of_pos c)
  have hb : -4611686018427387904 < fo ∧ fo < 4611686018427387904 := by
    generalize (q.natAbs : Int) % 4611686018427387904 = r at *
    rcases hs with c | c | c <;> rw [c] at hf <;> omega
  refine ⟨hb, fun h => ?_, fun h e => ?_⟩
  · rw [Int.emod_eq_of_lt (by omega) h, Int.sign_mul_natAbs] at hf
    exact ⟨hf, by rw [hf, Int.mul_comm]⟩
  · rw [Int.mul_comm] at e
    have e2 : fo = q := Int.eq_of_mul_eq_mul_left (show (G : Int) ≠ 0 by omega) e
    clear hf hr
    omega
theorem bnd_302 {fo za : Int} {G : Nat} (h1 : -4611686018427387904 < fo ∧ fo < 4611686018427387904) (h2 : (G : Int) < 2 ^ 240) (h3 : (za.natAbs : Int) < 2 ^ 240) : ((fo * (G : Int)).natAbs : Int) < Bp 47 ∧ ((fo * (G : Int)).natAbs : Int) + (za.natAbs : Int) < Bp 48 := by
  have a1 : ((fo * (G : Int)).natAbs : Int) ≤ 4611686018427387904 * 2 ^ 240 := by
    rw [Int.natAbs_mul, Int.natCast_mul, Int.natAbs_natCast]
    exact Int.mul_le_mul (by omega) (Int.le_of_lt h2) (by omega) (by decide)
  have a2 : (4611686018427387904 * 2 ^ 240 : Int) < Bp 47 := by decide +kernel
  have a3 : (4611686018427387904 * 2 ^ 240 + 2 ^ 240 : Int) < Bp 48 := by decide +kernel
  generalize (2 : Int) ^ 240 = T at *
  generalize ((fo * (G : Int)).natAbs : Int) = x at *
  generalize Bp 47 = y at *
  generalize Bp 48 = y2 at *
  omega
theorem gcd_two {x y o1 o2 : Nat} (h1 : o1 % 2 = 1) (h2 : o2 % 2 = 1) (h : (2 ^ x * o1) % 2 = 1 ∨ (2 ^ y * o2) % 2 = 1) : Nat.gcd (2 ^ x * o1) (2 ^ y * o2) = Nat.gcd o1 o2 := by
  have z : ∀ t o : Nat, (2 ^ t * o) % 2 = 1 → t = 0 := fun t o h => by
    rcases t with _ | t
    · rfl
    · rw [Nat.pow_succ, Nat.mul_comm (2 ^ t) 2, Nat.mul_assoc] at h; omega
  rcases h with h | h
  · rw [z x o1 h, Nat.pow_zero, Nat.one_mul, Nat.gcd_comm, gcd_odd h1, Nat.gcd_comm]
  · rw [z y o2 h, Nat.pow_zero, Nat.one_mul, gcd_odd h2]
/-- what is left of a number whose twos are t, without m of them -/
theorem part_twos {w t m : Nat} {o : Int} (e : (w : Int) = 2 ^ t * o) (ho : o % 2 = 1) (hm : m ≤ t) : ∃ w1 : Nat, w = 2 ^ m * w1 ∧ (m = t → w1 % 2 = 1) := by
  have hp : (0 : Int) < 2 ^ t := Int.pow_pos (by decide)
  have ho0 : 0 ≤ o := by
    rcases Int.lt_or_le o 0 with k | k
    · have := Int.mul_pos hp (show 0 < -o by omega)
      rw [Int.mul_neg, ← e] at this
      omega
    · exact k
  refine ⟨2 ^ (t - m) * o.toNat, ?_, fun h => ?_⟩
  · rw [← Nat.mul_assoc, ← Nat.pow_add, show m + (t - m) = t by omega]
    have : ((w : Nat) : Int) = ((2 ^ t * o.toNat : Nat) : Int) := by rw [e, Int.natCast_mul, Int.natCast_pow, Int.toNat_of_nonneg ho0]; rfl
    exact Int.ofNat.inj this
  · rw [h, Nat.sub_self, Nat.pow_zero, Nat.one_mul]; omega
/-- the fraction in lowest terms -/
theorem red_all {u l u1 l1 m x y o1 o2 : Nat} (hu : u ≠ 0) (hl : l ≠ 0) (e1 : u = 2 ^ m * u1) (e2 : l = 2 ^ m * l1) (hod : u1 % 2 = 1 ∨ l1 % 2 = 1) (f1 : u1 = 2 ^ x * o1) (f2 : l1 = 2 ^ y * o2) (h1 : o1 % 2 = 1) (h2 : o2 % 2 = 1) : (Nat.gcd o1 o2) % 2 = 1 ∧ Nat.gcd o1 o2 ∣ u1 ∧ Nat.gcd o1 o2 ∣ l1 ∧ u1 / Nat.gcd o1 o2 = u / Nat.gcd u l ∧ l1 / Nat.gcd o1 o2 = l / Nat.gcd u l ∧ 1 ≤ u / Nat.gcd u l ∧ 1 ≤ l / Nat.gcd u l := by
  have hg1 : Nat.gcd u1 l1 = Nat.gcd o1 o2 := by rw [f1, f2]; rw [f1, f2] at hod; exact gcd_two h1 h2 hod
  have hg : Nat.gcd u l = 2 ^ m * Nat.gcd o1 o2 := by rw [e1, e2, Nat.gcd_mul_left, hg1]
  have hp : 0 < 2 ^ m := Nat.two_pow_pos m
  have q1 : u1 / Nat.gcd o1 o2 = u / Nat.gcd u l := by rw [hg, e1, Nat.mul_div_mul_left _ _ hp]
  have q2 : l1 / Nat.gcd o1 o2 = l / Nat.gcd u l := by rw [hg, e2, Nat.mul_div_mul_left _ _ hp]
  have d1 : Nat.gcd o1 o2 ∣ u1 := by rw [← hg1]; exact Nat.gcd_dvd_left _ _
  have d2 : Nat.gcd o1 o2 ∣ l1 := by rw [← hg1]; exact Nat.gcd_dvd_right _ _
  refine ⟨?_, d1, d2, q1, q2, ?_, ?_⟩
  · obtain ⟨k, hk⟩ := Nat.gcd_dvd_left o1 o2
    rcases Nat.mod_two_eq_zero_or_one (Nat.gcd o1 o2) with c | c
    · exfalso
      have : o1 % 2 = 0 := by rw [hk, Nat.mul_mod, c, Nat.zero_mul]
      omega
    · exact c
  · exact Nat.div_pos (Nat.le_of_dvd (by omega) (Nat.gcd_dvd_left u l)) (Nat.gcd_pos_of_pos_left _ (by omega))
  · exact Nat.div_pos (Nat.le_of_dvd (by omega) (Nat.gcd_dvd_right u l)) (Nat.gcd_pos_of_pos_right _ (by omega))
theorem tdiv_pow {s : Int} {m u1 : Nat} (hs : s = 1 ∨ s = -1) : (s * ((2 ^ m * u1 : Nat) : Int)).tdiv (2 ^ m) = s * (u1 : Int) := by
  have hp : (2 : Int) ^ m ≠ 0 := Int.ne_of_gt (Int.pow_pos (by decide))
  rw [Int.natCast_mul, Int.natCast_pow, show s * (((2 : Nat) : Int) ^ m * (u1 : Int)) = 2 ^ m * (s * u1) by rw [show ((2 : Nat) : Int) = 2 from rfl]; grind, Int.mul_tdiv_cancel_left _ hp]
theorem div_sgn {s : Int} {u1 G : Nat} (hs : s = 1 ∨ s = -1) (hG : 0 < G) (hd : G ∣ u1) : s * (u1 : Int) / (G : Int) = s * ((u1 / G : Nat) : Int) ∧ (G : Int) ∣ s * (u1 : Int) := by
  obtain ⟨q, rfl⟩ := hd
  rw [Nat.mul_div_cancel_left _ hG, Int.natCast_mul, show s * ((G : Int) * (q : Int)) = (G : Int) * (s * q) by grind]
  exact ⟨Int.mul_ediv_cancel_left _ (by omega), ⟨_, rfl⟩⟩
/-- a fact that is kept out of sight -/
def Hid (p : Prop) : Prop := p
def Nb2 (z : Int) : Prop := (z.natAbs : Int) < 2 ^ 240
theorem red_start (U Lz : Int) (hL : Lz ≠ 0) : ∃ (u l0 : Nat) (sg0 : Int), Hid (u = U.natAbs ∧ l0 = Lz.natAbs ∧ sg0 = Lz.sign * U.sign) ∧ U * Lz.sign = sg0 * (u : Int) ∧ l0 ≠ 0 ∧ ((U = 0 ∧ u = 0) ∨ (U ≠ 0 ∧ u ≠ 0 ∧ (sg0 = 1 ∨ sg0 = -1))) := by
  refine ⟨U.natAbs, Lz.natAbs, Lz.sign * U.sign, ⟨rfl, rfl, rfl⟩, by rw [Int.mul_assoc, Int.sign_mul_natAbs, Int.mul_comm], by omega, ?_⟩
  have hLs : Lz.sign = 1 ∨ Lz.sign = -1 := by
    rcases Int.lt_trichotomy Lz 0 with k | k | k
    · exact Or.inr (Int.sign_eq_neg_one_of_neg k)
    · exact absurd k hL
    · exact Or.inl (Int.sign_eq_one_of_pos k)
  rcases Int.lt_trichotomy U 0 with k | k | k
  · refine Or.inr ⟨by omega, by omega, ?_⟩
    rw [Int.sign_eq_neg_one_of_neg k]
    rcases hLs with c | c <;> rw [c]
    · exact Or.inr rfl
    · exact Or.inl rfl
  · exact Or.inl ⟨k, by omega⟩
  · refine Or.inr ⟨by omega, by omega, ?_⟩
    rw [Int.sign_eq_one_of_pos k]
    rcases hLs with c | c <;> rw [c]
    · exact Or.inl rfl
    · exact Or.inr rfl
theorem sgn_su {U sg0 z : Int} {u : Nat} (hz : z = sg0 * (u : Int)) (h : (U = 0 ∧ u = 0) ∨ (U ≠ 0 ∧ u ≠ 0 ∧ (sg0 = 1 ∨ sg0 = -1))) : (z.sign = 0 ∧ U = 0) ∨ (z.sign ≠ 0 ∧ U ≠ 0) := by
  rcases h with ⟨k, k2⟩ | ⟨k, k2, k3⟩
  · refine Or.inl ⟨?_, k⟩
    rw [hz, k2]; simp
  · refine Or.inr ⟨?_, k⟩
    rw [hz]
    rcases k3 with c | c <;> rw [c]
    · rw [Int.one_mul, Int.sign_eq_one_of_pos (by omega)]; decide
    · rw [Int.sign_eq_neg_one_of_neg (by omega)]; decide
theorem sg_ox {sg0 o1 : Int} {u t1 : Nat} (hs : sg0 = 1 ∨ sg0 = -1) (h : sg0 * (u : Int) = 2 ^ t1 * o1) (ho : o1 % 2 = 1) : ∃ ox : Int, (u : Int) = 2 ^ t1 * ox ∧ ox % 2 = 1 := by
  rcases hs with c | c
  · exact ⟨o1, by rw [c, Int.one_mul] at h; exact h, ho⟩
  · exact ⟨-o1, by rw [c] at h; rw [Int.mul_neg, ← h]; omega, by omega⟩
theorem sg_ne0 {sg0 z : Int} {u : Nat} (hs : sg0 = 1 ∨ sg0 = -1) (hu : u ≠ 0) (hz : z = sg0 * (u : Int)) : z ≠ 0 := by
  rw [hz]; rcases hs with c | c <;> rw [c] <;> omega
theorem sg_abs {sg0 z : Int} {u : Nat} (hs : sg0 = 1 ∨ sg0 = -1) (hz : z = sg0 * (u : Int)) : z.natAbs = u := by
  rw [hz]; rcases hs with c | c <;> rw [c] <;> omega
theorem nn_c {sg0 nn : Int} {qn : Nat} (hs : sg0 = 1 ∨ sg0 = -1) (h : nn = if ((sg0 * (qn : Int)).natAbs : Int) < 4611686018427387904 then sg0 * (qn : Int) else 0) : (qn < 4611686018427387904 ∧ ((nn = (qn : Int) ∧ sg0 = 1) ∨ (nn = -(qn : Int) ∧ sg0 = -1))) ∨ (4611686018427387904 ≤ qn ∧ nn = 0) := by
  rcases hs with c | c <;> rw [c] at h <;> split at h <;> omega
theorem nd_c {nd : Int} {qd : Nat} (h : nd = if (((qd : Int)).natAbs : Int) < 4611686018427387904 then (qd : Int) else 0) : (qd < 4611686018427387904 ∧ nd = (qd : Int)) ∨ (4611686018427387904 ≤ qd ∧ nd = 0) := by
  split at h <;> omega
theorem nat_ne0 {w : Nat} (h : w ≠ 0) : (w : Int) ≠ 0 := by omega
