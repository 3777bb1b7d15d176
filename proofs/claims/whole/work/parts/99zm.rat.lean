/-! fractions and cells -/
theorem num3 : ∀ a, a < 6 → 2 * (((ma a : Nat) : Rat) * lpb 1002 (a + 1) * wcel) * (1000000 : Rat) ^ a < 1 := by decide +kernel
theorem frac_mul {n d : Int} (hd : 1 ≤ d) : (n : Rat) / (d : Rat) * (d : Rat) = (n : Rat) ∧ 0 < (d : Rat) := by
  have h0 : (0 : Rat) < (d : Rat) := by
    have := Rat.intCast_lt_intCast.mpr (show (0 : Int) < d by omega)
    exact this
  have h1 : (d : Rat) ≠ 0 := by grind
  exact ⟨by grind, h0⟩
theorem frac_lt {n d c : Int} {b : Nat} (hd : 1 ≤ d) : n * 2 ^ b < c * d ↔ (n : Rat) / (d : Rat) < Pt c b := by
  obtain ⟨e1, h0⟩ := frac_mul (n := n) hd
  have e2 := Pt_mul c b
  have p := pt_pos b
  have hp : 0 < (d : Rat) * ((2 ^ b : Int) : Rat) := Rat.mul_pos h0 p
  have key : n * 2 ^ b < c * d ↔ (n : Rat) / (d : Rat) * ((d : Rat) * ((2 ^ b : Int) : Rat)) < Pt c b * ((d : Rat) * ((2 ^ b : Int) : Rat)) := by
    rw [show (n : Rat) / (d : Rat) * ((d : Rat) * ((2 ^ b : Int) : Rat)) = ((n * 2 ^ b : Int) : Rat) by rw [Rat.intCast_mul, ← e1]; grind, show Pt c b * ((d : Rat) * ((2 ^ b : Int) : Rat)) = ((c * d : Int) : Rat) by rw [Rat.intCast_mul, ← e2]; grind, Rat.intCast_lt_intCast]
  rw [key]
  refine ⟨fun h => ?_, fun h => Rat.mul_lt_mul_of_pos_right h hp⟩
  refine Classical.byContradiction (fun hn => ?_)
  have h2 : Pt c b ≤ (n : Rat) / (d : Rat) := by grind
  have h3 : Pt c b * ((d : Rat) * ((2 ^ b : Int) : Rat)) ≤ (n : Rat) / (d : Rat) * ((d : Rat) * ((2 ^ b : Int) : Rat)) := Rat.mul_le_mul_of_nonneg_right h2 (by grind)
  grind
/-- a fraction within a root's cell of 256 bits is the root -/
theorem rat_root {p1 F : Nat → Int} {N : Rat → Int} {v n d : Int} (hP : Part p1 F) (hN : NB F N) (hd : 1 ≤ d ∧ d ≤ 1000000) (hj : N (Pt v 256) < N (Pt (v + 1) 256)) (h1 : Pt v 256 ≤ (n : Rat) / (d : Rat)) (h2 : (n : Rat) / (d : Rat) < Pt (v + 1) 256) : es F 6 ((n : Rat) / (d : Rat)) = 0 := by
  obtain ⟨a, hs⟩ := hP.small
  obtain ⟨w1, w2⟩ := Pt_w v (show 248 ≤ 256 by omega)
  obtain ⟨n1, n2⟩ := NB.near hP hN (Rat.le_trans w2 wcel1) hj
  have m0 : (0 : Rat) ≤ ((ma a : Nat) : Rat) := by exact_mod_cast Nat.zero_le _
  have s1 := jump_small hN hP.2.2.1 hs.1 hs.2.2.1 m0 hs.rat n1 n2 w1 w2 hj
  have hL := Rat.mul_nonneg m0 (lpb_nn (show (0 : Rat) ≤ 1002 by decide) (a + 1))
  have num := num3 a hs.1
  have he := hsum_es F a n d (by omega) a (Nat.le_refl a)
  have ef : (fun k => F (a - a + k)) = F := funext (fun k => by rw [Nat.sub_self, Nat.zero_add])
  rw [ef] at he
  have dd := pw_bd (show (0 : Rat) ≤ 1000000 by decide) (x := (d : Rat)) (by
    have c1 := Rat.intCast_le_intCast.mpr hd.2
    have c2 := Rat.intCast_le_intCast.mpr (show (-1000000 : Int) ≤ d by omega)
    exact ⟨c2, c1⟩) a
  have d0 : 0 < (d : Rat) ^ a := Rat.pow_pos (frac_mul (n := n) hd.1).2
  generalize (n : Rat) / (d : Rat) = x at *
  have e6 : ∀ z, es F 6 z = es F (a + 1) z := fun z => es_more z 6 (by have := hs.1; omega) (fun j h1 h2 => hs.2.2.1 j (by omega) h2)
  have l1 := es_lip (show (0 : Rat) ≤ 1002 by decide) m0 n1 (show -1002 ≤ x ∧ x ≤ 1002 by grind) h1 (a + 1) (fun k hk => hs.rat k (by have := hs.1; omega))
  rw [← e6, ← e6] at l1
  rw [← e6] at he
  have mm : ((ma a : Nat) : Rat) * lpb 1002 (a + 1) * (x - Pt v 256) ≤ ((ma a : Nat) : Rat) * lpb 1002 (a + 1) * wcel := Rat.mul_le_mul_of_nonneg_left (by grind) hL
  have kw : 0 ≤ ((ma a : Nat) : Rat) * lpb 1002 (a + 1) * wcel := Rat.mul_nonneg hL (by decide +kernel)
  generalize ((ma a : Nat) : Rat) * lpb 1002 (a + 1) * wcel = K at *
  generalize ((ma a : Nat) : Rat) * lpb 1002 (a + 1) = K1 at *
  generalize (1000000 : Rat) ^ a = T at *
  generalize (d : Rat) ^ a = D at *
  have q1 : -(2 * K) ≤ es F 6 x := by grind
  have q2 : es F 6 x ≤ 2 * K := by grind
  have q3 : D * (2 * K) ≤ T * (2 * K) := Rat.mul_le_mul_of_nonneg_right dd.2.2 (by grind)
  have q4 : D * es F 6 x ≤ D * (2 * K) := Rat.mul_le_mul_of_nonneg_left q2 (by grind)
  have q5 : D * (-(2 * K)) ≤ D * es F 6 x := Rat.mul_le_mul_of_nonneg_left q1 (by grind)
  generalize hsum F a n d a = h at *
  have h0 : h = 0 := by
    rcases Int.lt_trichotomy h 0 with c | c | c
    · exfalso
      have c1 := Rat.intCast_le_intCast.mpr (show h ≤ -1 by omega)
      have c2 : ((-1 : Int) : Rat) = -1 := rfl
      grind
    · exact c
    · exfalso
      have c1 := Rat.intCast_le_intCast.mpr (show 1 ≤ h by omega)
      have c2 : ((1 : Int) : Rat) = 1 := rfl
      grind
  rw [h0] at he
  have c0 : ((0 : Int) : Rat) = 0 := rfl
  have hD : D ≠ 0 := by grind
  have : D * es F 6 x = 0 := by grind
  rcases Rat.mul_eq_zero.mp this with hh | hh
  · exact absurd hh hD
  · exact hh
/-- roots at x or below -/
def Nle (F : Nat → Int) (N : Rat → Int) (x : Rat) : Int := N x + (if sg (es F 6 x) = 0 then 1 else 0)
theorem Nle.mono {F : Nat → Int} {N : Rat → Int} (hN : NB F N) (hF : Sqf F) {x y : Rat} (hxy : x < y) : Nle F N x ≤ N y := by
  unfold Nle
  split
  · rename_i h
    have := hN.zero hF hxy (sg_eq0 h)
    omega
  · have := hN.mono hF (Rat.le_of_lt hxy)
    omega
theorem Nle.ge (F : Nat → Int) (N : Rat → Int) (x : Rat) : N x ≤ Nle F N x := by
  unfold Nle
  split <;> omega
theorem cell_frac {p1 F : Nat → Int} {N : Rat → Int} {i z n d : Int} (hP : Part p1 F) (hN : NB F N) (hd : 1 ≤ d ∧ d ≤ 1000000) (hz : Cell N i z 256) : n * 2 ^ 256 < z * d ↔ Nle F N ((n : Rat) / (d : Rat)) ≤ i := by
  rw [frac_lt hd.1]
  have hF := hP.2.2.1
  refine ⟨fun h => Int.le_trans (Nle.mono hN hF h) hz.2.1, fun h => ?_⟩
  refine Classical.byContradiction (fun hn => ?_)
  have h1 : Pt z 256 ≤ (n : Rat) / (d : Rat) := by grind
  have hj : N (Pt z 256) < N (Pt (z + 1) 256) := Int.lt_of_le_of_lt hz.2.1 hz.2.2
  by_cases h2 : (n : Rat) / (d : Rat) < Pt (z + 1) 256
  · have h0 := rat_root hP hN hd hj h1 h2
    have h3 := hN.mono hF h1
    have h4 := (cell_one hP hN (show 248 ≤ 256 by omega) hj).1
    have h5 : Nle F N ((n : Rat) / (d : Rat)) = N ((n : Rat) / (d : Rat)) + 1 := by unfold Nle; rw [h0, sg_zero, if_pos rfl]
    have h6 := hz.2.2
    omega
  · have h3 := hN.mono hF (show Pt (z + 1) 256 ≤ (n : Rat) / (d : Rat) by grind)
    have h4 := Nle.ge F N ((n : Rat) / (d : Rat))
    have h5 := hz.2.2
    omega
theorem btw_sum {c : Nat → Int} {n d m e a b : Int} {nm : Nat} (ha : ∀ k : Nat, k < nm → (n * 2 ^ 256 < c k * d ↔ a ≤ (k : Int))) (hb : ∀ k : Nat, k < nm → (m * 2 ^ 256 < c k * e ↔ b ≤ (k : Int))) (h0 : 0 ≤ a) (hab : a ≤ b) (hbn : b ≤ (nm : Int)) : btw c n d m e nm = b - a := by
  have key : ∀ j : Nat, j ≤ nm → ((j : Int) ≤ a → btw c n d m e j = 0) ∧ (a ≤ (j : Int) → (j : Int) ≤ b → btw c n d m e j = (j : Int) - a) ∧ (b ≤ (j : Int) → btw c n d m e j = b - a) := by
    intro j
    induction j with
    | zero => exact fun _ => ⟨fun _ => rfl, fun h1 _ => by rw [btw]; omega, fun h1 => by rw [btw]; omega⟩
    | succ j ih =>
      intro hj
      obtain ⟨i1, i2, i3⟩ := ih (by omega)
      have e1 := ha j (by omega)
      have e2 := hb j (by omega)
      rw [btw]
      split
      · rename_i hh
        rw [e1, e2] at hh
        refine ⟨fun h => by omega, fun h1 h2 => ?_, fun h1 => ?_⟩
        · rw [i2 hh.1 (by omega)]; omega
        · rw [i2 hh.1 (by omega)]; omega
      · rename_i hh
        rw [e1, e2] at hh
        refine ⟨fun h => ?_, fun h1 h2 => ?_, fun h1 => ?_⟩
        · rw [i1 (by omega)]; omega
        · by_cases q : (j : Int) < a
          · rw [i1 (by omega)]; omega
          · exfalso; exact hh ⟨by omega, by omega⟩
        · by_cases q : b ≤ (j : Int)
          · rw [i3 q]; omega
          · by_cases q2 : a ≤ (j : Int)
            · exfalso; exact hh ⟨q2, q⟩
            · rw [i1 (by omega)]; omega
  exact (key nm (Nat.le_refl _)).2.2 hbn
theorem Sseq.row0 {F : Nat → Int} {r : Nat → Nat → Int} {n : Nat} (h : Sseq F r n) : ∀ j, j < 6 → r 0 j = F j := by
  rcases h.2.2.2 with ⟨_, q, _⟩ | ⟨q, _⟩
  · exact q
  · exact q.2.1
theorem look_le {F : Nat → Int} {N : Rat → Int} {r : Nat → Nat → Int} {n : Nat} (hN : NB F N) (hS : Sseq F r n) (x : Rat) : tn (fun k => sgL (r k)) n - tn (fun k => sg (es (r k) 6 x)) n = Nle F N x := by
  have h1 := nbf_look r n x
  have h2 := NB.uniq (show NB F (NbF r n) from ⟨_, _, hS, fun _ => rfl⟩) hN x
  unfold Nle
  rw [h2, ← h1, show sg (es (r 0) 6 x) = sg (es F 6 x) by rw [es_congr hS.row0]]
  omega
theorem btw_eq {V F : Nat → Int} {N : Rat → Int} {cc : Nat → Int} {n d m e : Int} {nm : Nat} {r r2 : Nat → Nat → Int} {ln ln2 : Nat} (hV : Nz V) (hM : ∀ j, j < 6 → -1000 ≤ V j ∧ V j ≤ 1000) (hf : FreeOf V F) (hN : NB F N) (hnm : N 2048 = (nm : Int)) (hc : ∀ i : Nat, i < nm → Cell N (i : Int) (cc i) 256) (hd : 1 ≤ d ∧ d ≤ 1000000) (he : 1 ≤ e ∧ e ≤ 1000000) (hle : n * e ≤ m * d) (hS : Sseq F r ln) (hS2 : Sseq F r2 ln2) (hrr : ∀ k, k < 7 → ∀ j, j < 6 → r2 k j = r k j) : tn (fun k => sg (es (r k) 6 ((n : Rat) / (d : Rat)))) ln - tn (fun k => sg (es (r2 k) 6 ((m : Rat) / (e : Rat)))) ln2 = btw cc n d m e nm := by
  obtain ⟨⟨p1, hP⟩, _⟩ := hf.part hV hM
  have hF := hP.2.2.1
  have l1 := look_le hN hS ((n : Rat) / (d : Rat))
  have l2 := look_le hN hS2 ((m : Rat) / (e : Rat))
  have el := Sseq.len hS hS2
  subst el
  have h6 := hS.2.1
  have e1 : tn (fun k => sgL (r2 k)) ln = tn (fun k => sgL (r k)) ln := (tn_congr (fun k hk => Pp.left (Pp.of_eq (r := r k) (r' := r2 k) (fun j hj => hrr k (by omega) j hj)))).1
  obtain ⟨o1, o2⟩ := NB.out hP hN
  have far : ∀ x, Nle F N x ≤ (nm : Int) := fun x => by
    by_cases c : x < 2048
    · have := Nle.mono hN hF c
      omega
    · have h1 := Nle.mono hN hF (show x < x + 1 by grind)
      have h2 := o2 (x + 1) 2048 (by grind) (by grind)
      omega
  have low : ∀ x, 0 ≤ N x := fun x => by
    by_cases c : x ≤ -1001
    · rw [o1 x c]; omega
    · have h1 := hN.mono hF (show -1001 ≤ x by grind)
      rw [o1 (-1001) (by grind)] at h1
      exact h1
  have hmon : Nle F N ((n : Rat) / (d : Rat)) ≤ Nle F N ((m : Rat) / (e : Rat)) := by
    obtain ⟨a1, a0⟩ := frac_mul (n := n) hd.1
    obtain ⟨b1, b0⟩ := frac_mul (n := m) he.1
    have c1 := Rat.intCast_le_intCast.mpr hle
    rw [Rat.intCast_mul, Rat.intCast_mul] at c1
    by_cases c : (n : Rat) / (d : Rat) < (m : Rat) / (e : Rat)
    · exact Int.le_trans (Nle.mono hN hF c) (Nle.ge F N _)
    · by_cases c2 : (m : Rat) / (e : Rat) < (n : Rat) / (d : Rat)
      · exfalso
        have k1 : (m : Rat) / (e : Rat) * ((d : Rat) * (e : Rat)) < (n : Rat) / (d : Rat) * ((d : Rat) * (e : Rat)) := Rat.mul_lt_mul_of_pos_right c2 (Rat.mul_pos a0 b0)
        rw [show (m : Rat) / (e : Rat) * ((d : Rat) * (e : Rat)) = (m : Rat) / (e : Rat) * (e : Rat) * (d : Rat) by grind, show (n : Rat) / (d : Rat) * ((d : Rat) * (e : Rat)) = (n : Rat) / (d : Rat) * (d : Rat) * (e : Rat) by grind, a1, b1] at k1
        exact absurd c1 (Rat.not_le.mpr k1)
      · rw [show (n : Rat) / (d : Rat) = (m : Rat) / (e : Rat) by grind]
        exact Int.le_refl _
  rw [btw_sum (a := Nle F N ((n : Rat) / (d : Rat))) (b := Nle F N ((m : Rat) / (e : Rat))) (fun k hk => cell_frac hP hN hd (hc k hk)) (fun k hk => cell_frac hP hN he (hc k hk)) (Int.le_trans (low _) (Nle.ge F N _)) hmon (far _)]
  omega
