/-! places of roots: v is the root's floor, in steps of 2^-dp -/
theorem pw2_ne (n : Nat) : (2 : Int) ^ n ≠ 0 := by have := pw2 n; omega
theorem pw2_add (a b : Nat) : (2 : Int) ^ (a + b) = 2 ^ a * 2 ^ b := Int.pow_add _ _ _
theorem pw2_pred {n : Nat} (h : 0 < n) : (2 : Int) ^ n = 2 ^ (n - 1) * 2 := by
  cases n with
  | zero => omega
  | succ n => rw [Nat.add_sub_cancel, Int.pow_succ]
theorem Pw_rng {u : Nat → Int} {k : Nat} (h : Lb u k) : 0 ≤ Pw u k ∧ Pw u k < 2 ^ (31 * k) := by
  induction k with
  | zero => exact ⟨by simp [Pw], by simp [Pw]⟩
  | succ k ih =>
    have r := ih (fun j hj => h j (by omega))
    have w := h k (by omega)
    rw [Pw, show 31 * (k + 1) = 31 * k + 31 by omega, pw2_add, show (2 : Int) ^ 31 = 2147483648 from rfl]
    generalize (2 : Int) ^ (31 * k) = T at *
    omega
theorem Pw_div {u : Nat → Int} {k : Nat} : ∀ m, Lb u (k + m) → Pw u k = Pw u (k + m) / 2 ^ (31 * m)
  | 0, _ => by simp
  | m + 1, h => by
    have ih := Pw_div (u := u) (k := k) m (fun j hj => h j (by omega))
    have w := h (k + m) (by omega)
    rw [← Nat.add_assoc, Pw, show 31 * (m + 1) = 31 + 31 * m by omega, pw2_add, ← Int.ediv_ediv_of_nonneg (by decide), show (2 : Int) ^ 31 = 2147483648 from rfl, show (Pw u (k + m) * 2147483648 + u (k + m)) / 2147483648 = Pw u (k + m) by omega]
    exact ih
theorem Pw_8 {u : Nat → Int} {k : Nat} (h : Lb u 8) (hk : k ≤ 8) : Pw u k = Pw u 8 / 2 ^ (31 * (8 - k)) := by
  have := Pw_div (u := u) (k := k) (8 - k) (by rw [show k + (8 - k) = 8 by omega]; exact h)
  rw [show k + (8 - k) = 8 by omega] at this
  exact this
theorem Pw_up (u : Nat → Int) (j : Nat) (x : Int) : ∀ n, j < n → Pw (up u j x) n = Pw u n + (x - u j) * 2 ^ (31 * (n - 1 - j))
  | 0, h => absurd h (Nat.not_lt_zero _)
  | n + 1, h => by
    rw [Pw, Pw]
    by_cases hj : j = n
    · rw [hj, up_self, Pw_congr (u := up u n x) (v := u) (fun i hi => up_ne _ _ (by omega)), show n + 1 - 1 - n = 0 by omega, Nat.mul_zero, Int.pow_zero]
      omega
    · rw [Pw_up u j x n (by omega), up_ne _ _ (fun h => hj h.symm), show 31 * (n + 1 - 1 - j) = 31 * (n - 1 - j) + 31 by omega, pw2_add, show (2 : Int) ^ 31 = 2147483648 from rfl]
      generalize (2 : Int) ^ (31 * (n - 1 - j)) = T
      grind
theorem Pw_bit {u : Nat → Int} {j s : Nat} (h : Lb u 8) (hj : j < 8) (hs : s < 31) : u j / 2 ^ s % 2 = Pw u 8 / 2 ^ (31 * (7 - j) + s) % 2 := by
  have e1 := Pw_8 h (show j + 1 ≤ 8 by omega)
  rw [show 8 - (j + 1) = 7 - j by omega, Pw] at e1
  rw [pw2_add, ← Int.ediv_ediv_of_nonneg (Int.le_of_lt (pw2 _)), ← e1]
  have e2 : Pw u j * 2147483648 + u j = u j + (Pw u j * 2 ^ (30 - s) * 2) * 2 ^ s := by
    have : (2147483648 : Int) = 2 ^ (30 - s) * 2 * 2 ^ s := by
      rw [← Int.pow_succ, ← pw2_add, show 30 - s + 1 + s = 31 by omega]; rfl
    rw [this]; grind
  rw [e2, Int.add_mul_ediv_right _ _ (pw2_ne s)]
  omega
def Pl (wh : Int) (dp : Nat) (wd : Nat → Int) (v : Int) : Prop := dp ≤ 248 ∧ Lb wd 8 ∧ ∃ fr : Int, (0 ≤ fr ∧ fr < 2 ^ dp) ∧ Pw wd 8 = fr * 2 ^ (248 - dp) ∧ v = wh * 2 ^ dp + fr
theorem Pl.congr {wh : Int} {dp : Nat} {wd wd' : Nat → Int} {v : Int} (h : Pl wh dp wd v) (hh : ∀ j, j < 8 → wd' j = wd j) : Pl wh dp wd' v := by
  obtain ⟨h1, h2, fr, h3, h4, h5⟩ := h
  exact ⟨h1, fun j hj => by rw [hh j hj]; exact h2 j hj, fr, h3, by rw [Pw_congr hh]; exact h4, h5⟩
theorem Pl.begin {fl : Int} {wd : Nat → Int} (h : ∀ j, j < 8 → wd j = 0) : Pl fl 0 wd fl := by
  refine ⟨by omega, fun j hj => by rw [h j hj]; omega, 0, ⟨by omega, by decide⟩, ?_, by rw [Int.pow_zero]; omega⟩
  rw [Pw_congr (v := fun _ => 0) h]; rfl
theorem Pl.bit {wh : Int} {dp : Nat} {wd : Nat → Int} {v : Int} (h : Pl wh dp wd v) (hd : dp < 248) : wd (dp / 31) / 2 ^ (30 - dp % 31) % 2 = 0 := by
  obtain ⟨h1, h2, fr, h3, h4, h5⟩ := h
  rw [Pw_bit h2 (by omega) (by omega), h4, show 31 * (7 - dp / 31) + (30 - dp % 31) = 247 - dp by omega, show 248 - dp = 1 + (247 - dp) by omega, pw2_add, ← Int.mul_assoc, Int.mul_ediv_cancel _ (pw2_ne _)]
  omega
theorem Pl.bit1 {wh : Int} {dp : Nat} {wd : Nat → Int} {v : Int} (h : Pl wh dp wd v) (hd : 0 < dp) (ho : v % 2 = 1) : wd ((dp - 1) / 31) / 2 ^ (30 - (dp - 1) % 31) % 2 = 1 := by
  obtain ⟨h1, h2, fr, h3, h4, h5⟩ := h
  rw [Pw_bit h2 (by omega) (by omega), h4, show 31 * (7 - (dp - 1) / 31) + (30 - (dp - 1) % 31) = 248 - dp by omega, Int.mul_ediv_cancel _ (pw2_ne _)]
  have e : (2 : Int) ^ dp = 2 ^ (dp - 1) * 2 := pw2_pred hd
  rw [e, ← Int.mul_assoc] at h5
  omega
theorem bit_room {z : Int} {s : Nat} (hs : s < 31) (hz : 0 ≤ z ∧ z < 2147483648) (h : z / 2 ^ s % 2 = 0) : 0 ≤ z + 2 ^ s ∧ z + 2 ^ s < 2147483648 := by
  have hp := pw2 s
  refine ⟨by omega, ?_⟩
  have e : (2147483648 : Int) = 2 ^ (31 - s) * 2 ^ s := by rw [← pw2_add, show 31 - s + s = 31 by omega]; rfl
  have e2 : (2 : Int) ^ (31 - s) = 2 * 2 ^ (30 - s) := by rw [show 31 - s = 30 - s + 1 by omega, Int.pow_succ, Int.mul_comm]
  have h1 : z / 2 ^ s < 2 ^ (31 - s) := Int.ediv_lt_of_lt_mul hp (by rw [← e]; exact hz.2)
  have h2 : z / 2 ^ s + 2 ≤ 2 ^ (31 - s) := by omega
  have h3 := Int.mul_ediv_add_emod z (2 ^ s)
  have h4 := Int.emod_lt_of_pos z hp
  have h5 : (z / 2 ^ s + 2) * 2 ^ s ≤ 2 ^ (31 - s) * 2 ^ s := Int.mul_le_mul_of_nonneg_right h2 (Int.le_of_lt hp)
  rw [← e, Int.add_mul, Int.mul_comm (z / 2 ^ s)] at h5
  omega
theorem bit_less {z : Int} {s : Nat} (hz : 0 ≤ z ∧ z < 2147483648) (h : z / 2 ^ s % 2 = 1) : 0 ≤ z - 2 ^ s ∧ z - 2 ^ s < 2147483648 := by
  have hp := pw2 s
  refine ⟨?_, by omega⟩
  have h3 := Int.mul_ediv_add_emod z (2 ^ s)
  have h4 := Int.emod_nonneg z (pw2_ne s)
  have h1 : 0 ≤ z / 2 ^ s := Int.ediv_nonneg hz.1 (Int.le_of_lt hp)
  have h6 : 1 ≤ z / 2 ^ s := by omega
  have h5 : 2 ^ s * 1 ≤ 2 ^ s * (z / 2 ^ s) := Int.mul_le_mul_of_nonneg_left h6 (Int.le_of_lt hp)
  omega
theorem Pl.lengthen {wh : Int} {dp : Nat} {wd : Nat → Int} {v : Int} (h : Pl wh dp wd v) (hd : dp < 248) : Pl wh (dp + 1) (up wd (dp / 31) (wd (dp / 31) + 2 ^ (30 - dp % 31))) (2 * v + 1) := by
  have hb := h.bit hd
  obtain ⟨h1, h2, fr, h3, h4, h5⟩ := h
  have r := bit_room (s := 30 - dp % 31) (by omega) (h2 (dp / 31) (by omega)) hb
  refine ⟨by omega, h2.put r, 2 * fr + 1, ?_, ?_, ?_⟩
  · rw [Int.pow_succ]; omega
  · rw [Pw_up _ _ _ 8 (by omega), h4, show wd (dp / 31) + 2 ^ (30 - dp % 31) - wd (dp / 31) = 2 ^ (30 - dp % 31) by omega, ← pw2_add, show 30 - dp % 31 + 31 * (8 - 1 - dp / 31) = 247 - dp by omega, show 248 - (dp + 1) = 247 - dp by omega, show 248 - dp = 247 - dp + 1 by omega, Int.pow_succ]
    grind
  · rw [h5, Int.pow_succ]; grind
theorem Pl.clear {wh : Int} {dp : Nat} {wd : Nat → Int} {v : Int} (h : Pl wh dp wd v) (hd : 0 < dp) (ho : v % 2 = 1) : Pl wh dp (up wd ((dp - 1) / 31) (wd ((dp - 1) / 31) - 2 ^ (30 - (dp - 1) % 31))) (v - 1) := by
  have hb := h.bit1 hd ho
  obtain ⟨h1, h2, fr, h3, h4, h5⟩ := h
  have r := bit_less (s := 30 - (dp - 1) % 31) (h2 ((dp - 1) / 31) (by omega)) hb
  have e : (2 : Int) ^ dp = 2 ^ (dp - 1) * 2 := pw2_pred hd
  have hf : 1 ≤ fr := by rw [e, ← Int.mul_assoc] at h5; omega
  refine ⟨by omega, h2.put r, fr - 1, by omega, ?_, by omega⟩
  rw [Pw_up _ _ _ 8 (by omega), h4, show wd ((dp - 1) / 31) - 2 ^ (30 - (dp - 1) % 31) - wd ((dp - 1) / 31) = -2 ^ (30 - (dp - 1) % 31) by omega, Int.neg_mul, ← pw2_add, show 30 - (dp - 1) % 31 + 31 * (8 - 1 - (dp - 1) / 31) = 248 - dp by omega]
  grind
theorem Wv_Pw (w : Nat → Int) : ∀ n, Wv w n = Pw w n
  | 0 => rfl
  | n + 1 => by
    have ih := Wv_Pw w n
    unfold Wv at ih ⊢
    rw [Pw, ← ih, show n + 1 = 1 + n by omega, Bs_split]
    have e1 : Bs (fun k => w (1 + n - 1 - k)) 1 = w n := by
      rw [Bs_succ, Bs_zero]
      show 0 + w (1 + n - 1 - 0) * Bp 0 = w n
      rw [show 1 + n - 1 - 0 = n by omega]
      simp [Bp]
    have e2 : Bs (fun j => (fun k => w (1 + n - 1 - k)) (j + 1)) n = Bs (fun k => w (n - 1 - k)) n := Bs_congr (fun j hj => by
      show w (1 + n - 1 - (j + 1)) = w (n - 1 - j)
      rw [show 1 + n - 1 - (j + 1) = n - 1 - j by omega])
    rw [e1, e2, show Bp 1 = 2147483648 from by simp [Bp]]
    grind
/-- the upper number of a place's start -/
theorem Pl.up {wh : Int} {dp : Nat} {wd : Nat → Int} {v : Int} (h : Pl wh dp wd v) : wh * Bp ((dp + 30) / 31) + Wv wd ((dp + 30) / 31) = v * 2 ^ (31 * ((dp + 30) / 31) - dp) ∧ Bp ((dp + 30) / 31) = 2 ^ (31 * ((dp + 30) / 31) - dp) * 2 ^ dp := by
  obtain ⟨h1, h2, fr, h3, h4, h5⟩ := h
  have e0 : Bp ((dp + 30) / 31) = 2 ^ (31 * ((dp + 30) / 31) - dp) * 2 ^ dp := by rw [Bp_pow, ← pw2_add, show 31 * ((dp + 30) / 31) - dp + dp = 31 * ((dp + 30) / 31) by omega]
  refine ⟨?_, e0⟩
  have e1 := Pw_8 h2 (show (dp + 30) / 31 ≤ 8 by omega)
  have e2 : Pw wd ((dp + 30) / 31) = fr * 2 ^ (31 * ((dp + 30) / 31) - dp) := by
    rw [e1, h4, show 248 - dp = 31 * ((dp + 30) / 31) - dp + 31 * (8 - (dp + 30) / 31) by omega, pw2_add, ← Int.mul_assoc, Int.mul_ediv_cancel _ (pw2_ne _)]
  rw [Wv_Pw, e2, e0, h5]
  grind
theorem Pt_of {v : Int} {k dp : Nat} {u b : Int} (hu : u = v * 2 ^ k) (hb : b = 2 ^ k * 2 ^ dp) : (u : Rat) / (b : Rat) = Pt v dp := by
  have p1 := pt_pos k
  have p2 := pt_pos dp
  have n1 : ((2 ^ k : Int) : Rat) ≠ 0 := by grind
  have n2 : ((2 ^ dp : Int) : Rat) ≠ 0 := by grind
  unfold Pt
  rw [hu, hb, Rat.intCast_mul, Rat.intCast_mul]
  generalize ((2 ^ k : Int) : Rat) = a at *
  generalize ((2 ^ dp : Int) : Rat) = c at *
  grind
theorem wpre_Pw {wd : Nat → Int} {b : Nat} (h : Lb wd 8) (hb : b ≤ 248) : wpre wd b = Pw wd 8 / 2 ^ (248 - b) := by
  unfold wpre
  by_cases c : b % 31 = 0
  · rw [if_pos c, Pw_8 h (by omega), show 31 * (8 - b / 31) = 248 - b by omega]
  · rw [if_neg c]
    have e1 := Pw_8 h (show b / 31 + 1 ≤ 8 by omega)
    rw [Pw] at e1
    have e2 : Pw wd (b / 31) * 2147483648 = Pw wd (b / 31) * 2 ^ (b % 31) * 2 ^ (31 - b % 31) := by
      rw [Int.mul_assoc, ← pw2_add, show b % 31 + (31 - b % 31) = 31 by omega]; rfl
    have e3 : Pw wd (b / 31) * 2 ^ (b % 31) + wd (b / 31) / 2 ^ (31 - b % 31) = (Pw wd (b / 31) * 2147483648 + wd (b / 31)) / 2 ^ (31 - b % 31) := by
      rw [e2, Int.add_comm, Int.add_comm (Pw wd (b / 31) * 2 ^ (b % 31) * 2 ^ (31 - b % 31)), Int.add_mul_ediv_right _ _ (pw2_ne _)]
    rw [e3, e1, Int.ediv_ediv_of_nonneg (Int.le_of_lt (pw2 _)), ← pw2_add, show 31 * (8 - (b / 31 + 1)) + (31 - b % 31) = 248 - b by omega]
/-- the first bits of a place -/
theorem Pl.pre {wh : Int} {dp : Nat} {wd : Nat → Int} {v : Int} (h : Pl wh dp wd v) {b : Nat} (hb : b ≤ dp) : v / 2 ^ (dp - b) = wh * 2 ^ b + wpre wd b ∧ 0 ≤ wpre wd b ∧ wpre wd b < 2 ^ b := by
  obtain ⟨h1, h2, fr, h3, h4, h5⟩ := h
  have hp := pw2 (dp - b)
  have e1 : wpre wd b = fr / 2 ^ (dp - b) := by
    rw [wpre_Pw h2 (by omega), h4, show 248 - b = dp - b + (248 - dp) by omega, pw2_add, Int.mul_ediv_mul_of_pos_left _ _ (pw2 _)]
  have e2 : (2 : Int) ^ dp = 2 ^ b * 2 ^ (dp - b) := by rw [← pw2_add, show b + (dp - b) = dp by omega]
  refine ⟨?_, by rw [e1]; exact Int.ediv_nonneg h3.1 (Int.le_of_lt hp), by rw [e1]; exact Int.ediv_lt_of_lt_mul hp (by rw [← e2]; exact h3.2)⟩
  rw [e1, h5, e2, ← Int.mul_assoc, Int.add_comm, Int.add_mul_ediv_right _ _ (pw2_ne _), Int.add_comm]
theorem Pl.cmp {wh wh2 : Int} {dp dq : Nat} {wd ud : Nat → Int} {v u : Int} (h : Pl wh dp wd v) (h2 : Pl wh2 dq ud u) : (if wh = wh2 then cmq (wpre wd (min dp dq)) (wpre ud (min dp dq)) else cmq wh wh2) = cmq (v / 2 ^ (dp - min dp dq)) (u / 2 ^ (dq - min dp dq)) := by
  obtain ⟨a1, a2, a3⟩ := h.pre (show min dp dq ≤ dp by omega)
  obtain ⟨b1, b2, b3⟩ := h2.pre (show min dp dq ≤ dq by omega)
  rw [a1, b1]
  generalize wpre wd (min dp dq) = x at *
  generalize wpre ud (min dp dq) = y at *
  have hp := pw2 (min dp dq)
  generalize (2 : Int) ^ (min dp dq) = T at *
  rcases Int.lt_trichotomy wh wh2 with c | c | c
  · rw [if_neg (by omega), cmq_m1 c]
    have : (wh + 1) * T ≤ wh2 * T := Int.mul_le_mul_of_nonneg_right (by omega) (Int.le_of_lt hp)
    rw [Int.add_mul] at this
    exact (cmq_m1 (by omega)).symm
  · rw [if_pos c, c]
    rcases Int.lt_trichotomy x y with d | d | d
    · rw [cmq_m1 d, cmq_m1 (by omega)]
    · rw [cmq_00 d, cmq_00 (by omega)]
    · rw [cmq_p1 d, cmq_p1 (by omega)]
  · rw [if_neg (by omega), cmq_p1 c]
    have : (wh2 + 1) * T ≤ wh * T := Int.mul_le_mul_of_nonneg_right (by omega) (Int.le_of_lt hp)
    rw [Int.add_mul] at this
    exact (cmq_p1 (by omega)).symm
theorem Pl.scl {wh : Int} {dp : Nat} {wd : Nat → Int} {v : Int} (h : Pl wh dp wd v) {b : Nat} (hb : b ≤ dp) (h40 : b ≤ 40) : wh * (1 * 2 ^ b) + (wd 0 * 2147483648 + wd 1) / 2 ^ (62 - b) = v / 2 ^ (dp - b) := by
  have h1 := h.1
  rw [(h.pre hb).1, wpre_Pw h.2.1 (by omega), Int.one_mul]
  have e1 := Pw_8 h.2.1 (show 2 ≤ 8 by omega)
  have e0 : Pw wd 2 = wd 0 * 2147483648 + wd 1 := by simp only [Pw]; omega
  rw [← e0, e1, Int.ediv_ediv_of_nonneg (Int.le_of_lt (pw2 _)), ← pw2_add, show 31 * (8 - 2) + (62 - b) = 248 - b by omega]
