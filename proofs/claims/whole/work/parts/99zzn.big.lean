/-! one Big of the state changes -/
theorem CSt.big1 {cs : Nat → ClassId} {L : List Nat} {ad Qm : Nat → Nat} {f g : Nat → va_E} {I : Nat → Int} {A : Nat → Nat → Int} {R : Nat → Nat} {Zf : Nat → Int} (hAd : AdOk L ad Qm) (h : CSt cs ad Qm f I A R Zf) {a : Nat} (ha : Bg ad a) {s1 z : Int} {n1 : Nat} {l1 : Nat → Int} (hz : BV s1 (n1 : Int) l1 z) (hg : g = mw f [(a, .inr (0, [.int (iI s1), .int (iI ((n1 : Int))), .ref (Qm a)])), (Qm a, .inl (cs 0, 48, .inl (ai l1)))]) : CSt cs ad Qm g I A R (up Zf a z) ∧ ∀ k, Awy ad k → g k = f k := by
  have hfr : ∀ k, Out (Bg ad) Qm k → g k = f k := fun k hk => by rw [hg, mw_out (hk.two ha)]
  refine ⟨h.bigs ?_ (fun k hk => hfr _ (hAd.out hk)), fun k hk => hfr k (hk.out hAd)⟩
  rw [hg]
  exact BH.set hAd.sp h.2.2.1 ha hz
theorem CSt.side1 {cs : Nat → ClassId} {L : List Nat} {ad Qm : Nat → Nat} {f g : Nat → va_E} {I : Nat → Int} {A : Nat → Nat → Int} {R : Nat → Nat} {Zf : Nat → Int} (hAd : AdOk L ad Qm) (h : CSt cs ad Qm f I A R Zf) {a : Nat} (ha : Bg ad a) {s1 z : Int} {n1 : Nat} {l1 : Nat → Int} (h2 : f (Qm a) = .inl (cs 0, 48, .inl (ai l1))) (hz : BV s1 (n1 : Int) l1 z) (hg : g = mw f [(a, .inr (0, [.int (iI s1), .int (iI ((n1 : Int))), .ref (Qm a)]))]) : CSt cs ad Qm g I A R (up Zf a z) ∧ ∀ k, Awy ad k → g k = f k := by
  have hfr : ∀ k, Out (Bg ad) Qm k → g k = f k := fun k hk => by rw [hg, mw_out (hk.one ha)]
  refine ⟨h.bigs ?_ (fun k hk => hfr _ (hAd.out hk)), fun k hk => hfr k (hk.out hAd)⟩
  rw [hg]
  exact BH.side hAd.sp h.2.2.1 ha h2 hz
theorem BV.abs1 {sd n : Int} {g : Nat → Int} {z : Int} (h : BV sd n g z) (hz : z ≠ 0) : BV 1 n g (z.natAbs : Int) := by
  have h1 : z.sign = 1 ∨ z.sign = -1 := by
    rcases Int.lt_trichotomy z 0 with c | c | c
    · exact Or.inr (Int.sign_eq_neg_one_of_neg c)
    · exact absurd c hz
    · exact Or.inl (Int.sign_eq_one_of_pos c)
  have h2 := h.sgm h1
  rw [sgn_abs, h.2.2.2.2.1] at h2
  have h3 : z.sign * z.sign = 1 := by rcases h1 with c | c <;> rw [c] <;> rfl
  rw [h3] at h2
  exact h2
theorem odd_cop {m : Nat} (h : m % 2 = 1) (t : Nat) : Nat.Coprime (2 ^ t) m := by
  refine Nat.Coprime.pow_left t ?_
  have h1 := Nat.gcd_dvd_left 2 m
  have h2 := Nat.gcd_dvd_right 2 m
  have h3 := Nat.le_of_dvd (by decide) h1
  have h4 : 0 < Nat.gcd 2 m := Nat.gcd_pos_of_pos_left _ (by decide)
  unfold Nat.Coprime
  rcases (show Nat.gcd 2 m = 1 ∨ Nat.gcd 2 m = 2 by omega) with c | c
  · exact c
  · rw [c] at h2; omega
theorem gcd_odd {t o m : Nat} (h : m % 2 = 1) : Nat.gcd (2 ^ t * o) m = Nat.gcd o m := (odd_cop h t).gcd_mul_left_cancel o
theorem gcd_dif (d b : Nat) : Nat.gcd d b = Nat.gcd (d + b) b := Nat.dvd_antisymm (Nat.dvd_gcd (Nat.dvd_add (Nat.gcd_dvd_left d b) (Nat.gcd_dvd_right d b)) (Nat.gcd_dvd_right d b)) (Nat.dvd_gcd ((Nat.dvd_add_right (Nat.gcd_dvd_right (d + b) b)).mp (by rw [Nat.add_comm b d]; exact Nat.gcd_dvd_left (d + b) b)) (Nat.gcd_dvd_right (d + b) b))
/-- what twos and shiftDown leave -/
theorem odd_part {z : Int} {t : Nat} (h0 : 0 ≤ z) (h1 : z = 0 → t = 0) (h2 : z ≠ 0 → ∃ o : Int, z = 2 ^ t * o ∧ o % 2 = 1) : ∃ o : Nat, z.tdiv (2 ^ t) = (o : Int) ∧ (z = 0 → o = 0) ∧ (z ≠ 0 → o % 2 = 1) ∧ z = ((2 ^ t * o : Nat) : Int) := by
  by_cases c : z = 0
  · refine ⟨0, by rw [c, Int.zero_tdiv]; rfl, fun _ => rfl, fun h => absurd c h, by rw [c, Nat.mul_zero]; rfl⟩
  · obtain ⟨o, e, ho⟩ := h2 c
    have hp : (0 : Int) < 2 ^ t := Int.pow_pos (by decide)
    have ho0 : 0 ≤ o := by
      rcases Int.lt_or_le o 0 with k | k
      · have := Int.mul_pos hp (show 0 < -o by omega)
        rw [Int.mul_neg, ← e] at this
        omega
      · exact k
    refine ⟨o.toNat, ?_, fun h => absurd h c, fun _ => by omega, ?_⟩
    · rw [e, Int.mul_tdiv_cancel_left _ (by omega)]; omega
    · rw [e, Int.natCast_mul, Int.natCast_pow, Int.toNat_of_nonneg ho0]; rfl
/-- a step of the search: c is the difference, m the less one -/
theorem fd_step {a b c m t o : Nat} (ha : a % 2 = 1) (hb : b % 2 = 1) (hm : (m = b ∧ c + b = a) ∨ (m = a ∧ c + a = b)) (h0 : c = 0 → o = 0) (h1 : c ≠ 0 → o % 2 = 1) (he : c = 2 ^ t * o) : Nat.gcd o m = Nat.gcd a b ∧ 2 * (o * m) ≤ a * b ∧ (o ≤ a ∨ o ≤ b) ∧ m % 2 = 1 := by
  have hmo : m % 2 = 1 := by rcases hm with ⟨e, _⟩ | ⟨e, _⟩ <;> rw [e] <;> assumption
  have g1 : Nat.gcd c m = Nat.gcd a b := by
    rcases hm with ⟨e, f⟩ | ⟨e, f⟩
    · rw [e, ← f]; exact gcd_dif c b
    · rw [e, ← f, Nat.gcd_comm a]; exact gcd_dif c a
  have g2 : Nat.gcd o m = Nat.gcd a b := by rw [← g1, he]; exact (gcd_odd hmo).symm
  have h2 : 2 * o ≤ c := by
    by_cases k : c = 0
    · rw [h0 k]; omega
    · have k1 := h1 k
      rcases t with _ | t
      · rw [Nat.pow_zero, Nat.one_mul] at he
        rcases hm with ⟨e, f⟩ | ⟨e, f⟩ <;> omega
      · rw [he, Nat.pow_succ, Nat.mul_comm (2 ^ t) 2, Nat.mul_assoc]
        have : 1 * o ≤ 2 ^ t * o := Nat.mul_le_mul_right o (Nat.one_le_two_pow)
        omega
  refine ⟨g2, ?_, by rcases hm with ⟨e, f⟩ | ⟨e, f⟩ <;> omega, hmo⟩
  have h3 : 2 * (o * m) ≤ c * m := by rw [← Nat.mul_assoc]; exact Nat.mul_le_mul_right m h2
  refine Nat.le_trans h3 ?_
  rcases hm with ⟨e, f⟩ | ⟨e, f⟩
  · rw [e]; exact Nat.mul_le_mul_right b (by omega)
  · rw [e, Nat.mul_comm]; exact Nat.mul_le_mul_left a (by omega)
/-- the steps are enough -/
theorem fd_end {a b ss : Nat} (hb : 0 < b) (h : a * b * 2 ^ ss ≤ 2 ^ 480) (hs : 2976 < ss) : a = 0 := by
  rcases Nat.eq_zero_or_pos a with c | c
  · exact c
  · exfalso
    have h1 : 1 ≤ a * b := Nat.mul_pos c hb
    have h2 : 1 * 2 ^ ss ≤ a * b * 2 ^ ss := Nat.mul_le_mul_right _ h1
    have h3 : 2 ^ 481 ≤ 2 ^ ss := Nat.pow_le_pow_right (by decide) (by omega)
    have h4 : (2 : Nat) ^ 480 < 2 ^ 481 := by decide +kernel
    omega
theorem fd_next {a b o m ss : Nat} (h : a * b * 2 ^ ss ≤ 2 ^ 480) (h2 : 2 * (o * m) ≤ a * b) : o * m * 2 ^ (ss + 1) ≤ 2 ^ 480 := by
  refine Nat.le_trans ?_ h
  rw [Nat.pow_succ, Nat.mul_comm (2 ^ ss) 2, ← Nat.mul_assoc, Nat.mul_comm (o * m) 2]
  exact Nat.mul_le_mul_right _ h2
theorem fd_first {a b : Nat} (ha : a < 2 ^ 240) (hb : b < 2 ^ 240) : a * b * 2 ^ 0 ≤ 2 ^ 480 := by
  rw [Nat.pow_zero, Nat.mul_one, show (2 : Nat) ^ 480 = 2 ^ 240 * 2 ^ 240 by decide +kernel]
  exact Nat.mul_le_mul (Nat.le_of_lt ha) (Nat.le_of_lt hb)
theorem le_240 {a b : Nat} (h : a ≤ 2 ^ 240 ∧ b ≤ 2 ^ 240) : (((a : Int)).natAbs : Int) + (((b : Int)).natAbs : Int) < Bp 48 := by
  have h1 : (2 : Nat) ^ 240 = 1766847064778384329583297500742918515827483896875618958121606201292619776 := by decide +kernel
  have h2 : (3533694129556768659166595001485837031654967793751237916243212402585239552 : Int) < Bp 48 := by decide +kernel
  omega
