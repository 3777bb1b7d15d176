/-! the answers of both: fraction, times, newton, the line, make -/
theorem laid_cell {V F cc : Nat → Int} {nm : Nat} (hV : Nz V) (h : Laid V F (nm : Int) cc) {i : Nat} (hi : i < nm) : ∃ N, NB F N ∧ FreeOf V F ∧ Cell N (i : Int) (cc i) 256 := by
  rcases h with ⟨z, _⟩ | ⟨_, hf, hr⟩
  · exact (nz_no hV z).elim
  · rcases hr with ⟨_, h0⟩ | ⟨_, r, n, hS, _, hc⟩
    · omega
    · exact ⟨NbF r n, ⟨r, n, hS, fun _ => rfl⟩, hf, hc i (by omega)⟩
theorem clg_cell {c d n : Int} (hd : 1 ≤ d ∧ d ≤ 1000) (h1 : c * d ≤ n * 2 ^ 256) (h2 : n * 2 ^ 256 < c * d + d) : clg (c * d) = n := by
  rw [clg_mod]
  have hp : (1000 : Int) < 2 ^ 256 := by decide +kernel
  generalize c * d = z at *
  have e1 := Int.mul_ediv_add_emod z (2 ^ 256)
  have e2 := Int.emod_nonneg z (show (2 : Int) ^ 256 ≠ 0 by omega)
  have e3 := Int.emod_lt_of_pos z (show (0 : Int) < 2 ^ 256 by omega)
  generalize (2 : Int) ^ 256 = Q at *
  generalize z / Q = s at *
  generalize z % Q = r at *
  have b : Q * (n - s) = n * Q - Q * s := by grind
  have k1 : ∀ t : Int, t ≤ n - s → Q * t ≤ Q * (n - s) := fun t ht => Int.mul_le_mul_of_nonneg_left ht (by omega)
  have k2 : ∀ t : Int, n - s ≤ t → Q * (n - s) ≤ Q * t := fun t ht => Int.mul_le_mul_of_nonneg_left ht (by omega)
  by_cases c0 : r = 0
  · rw [if_pos c0]
    rcases Int.lt_trichotomy (n - s) 0 with c | c | c
    · have := k2 (-1) (by omega); omega
    · omega
    · have := k1 1 (by omega); omega
  · rw [if_neg c0]
    rcases Int.lt_trichotomy (n - s) 1 with c | c | c
    · have := k2 0 (by omega); omega
    · omega
    · have := k1 2 (by omega); omega
theorem clg_ge (z : Int) : z ≤ clg z * 2 ^ 256 := by
  rw [clg_mod]
  have e1 := Int.mul_ediv_add_emod z (2 ^ 256)
  have e3 := Int.emod_lt_of_pos z (show (0 : Int) < 2 ^ 256 by decide +kernel)
  generalize (2 : Int) ^ 256 = Q at *
  generalize z / Q = s at *
  generalize z % Q = r at *
  have b : s * Q = Q * s := Int.mul_comm _ _
  have b2 : (s + 1) * Q = Q * s + Q := by grind
  by_cases c0 : r = 0
  · rw [if_pos c0]; omega
  · rw [if_neg c0]; omega
/-- two fractions with small lower numbers in one cell are the same -/
theorem two_frac {c n d m e : Int} (hd : 1 ≤ d ∧ d ≤ 1000) (he : 1 ≤ e ∧ e ≤ 1000) (h1 : c * d ≤ n * 2 ^ 256) (h2 : n * 2 ^ 256 < c * d + d) (h3 : c * e ≤ m * 2 ^ 256) (h4 : m * 2 ^ 256 < c * e + e) : n * e = m * d := by
  have hp : (1000000 : Int) < 2 ^ 256 := by decide +kernel
  generalize (2 : Int) ^ 256 = Q at *
  have a1 := Int.mul_le_mul_of_nonneg_right h1 (show 0 ≤ e by omega)
  have a2 := Int.mul_lt_mul_of_pos_right h2 (show 0 < e by omega)
  have a3 := Int.mul_le_mul_of_nonneg_right h3 (show 0 ≤ d by omega)
  have a4 := Int.mul_lt_mul_of_pos_right h4 (show 0 < d by omega)
  have hde : d * e ≤ 1000 * 1000 := Int.mul_le_mul hd.2 he.2 (by omega) (by omega)
  have b0 : Q * (n * e - m * d) = n * Q * e - m * Q * d := by grind
  have b1 : c * d * e = c * e * d := by grind
  have b2 : (c * d + d) * e = c * d * e + d * e := by grind
  have b3 : (c * e + e) * d = c * e * d + d * e := by grind
  rcases Int.lt_trichotomy (n * e - m * d) 0 with k | k | k
  · have := Int.mul_le_mul_of_nonneg_left (show n * e - m * d ≤ -1 by omega) (show 0 ≤ Q by omega); omega
  · omega
  · have := Int.mul_le_mul_of_nonneg_left (show 1 ≤ n * e - m * d by omega) (show 0 ≤ Q by omega); omega
theorem gl_frac {V W F cc : Nat → Int} {nm i nn : Nat} {un ud a3 : Int} {r2 : Int64} (hM : Bd V) (hVW : EqV V W) (hV : Nz V) (hl : Laid V F (nm : Int) cc) (hi : i < nm) (hF : FrP (cc i) un ud) (hn6 : nn < 6) (hWn : W nn ≠ 0) (hWz : ∀ j, nn < j → j < 6 → W j = 0)
    (h2 : (∃ d : Nat, 1 ≤ d ∧ (d : Int) ≤ ((W nn).natAbs : Int) ∧ FrOk W (cc i) ((W nn).natAbs : Int) d ∧ (∀ e : Nat, 1 ≤ e → e < d → ¬ FrOk W (cc i) ((W nn).natAbs : Int) e) ∧ r2 = lI (if a3 = 0 then clg (cc i * (d : Int)) else (d : Int))) ∨ ((∀ e : Nat, 1 ≤ e → (e : Int) ≤ ((W nn).natAbs : Int) → ¬ FrOk W (cc i) ((W nn).natAbs : Int) e) ∧ r2 = lI 0)) : lI (if a3 = 0 then un else ud) = r2 := by
  obtain ⟨N, hN, hf, hc⟩ := laid_cell hV hl hi
  obtain ⟨⟨p1, hP⟩, _⟩ := FreeOf.part hV hM hf
  have hWb : ((W nn).natAbs : Int) ≤ 1000 := by have h9 := hM nn hn6; rw [← hVW nn hn6] at h9; omega
  have hj : N (Pt (cc i) 256) < N (Pt (cc i + 1) 256) := Int.lt_of_le_of_lt hc.2.1 hc.2.2
  have e1 : ∀ z d : Int, (z + 1) * d = z * d + d := fun z d => by rw [Int.add_mul, Int.one_mul]
  have ok : ∀ n d : Int, 1 ≤ d → d ≤ 1000 → Nat.gcd n.natAbs d.natAbs = 1 → cc i * d ≤ n * 2 ^ 256 → n * 2 ^ 256 < cc i * d + d → ∃ dn : Nat, d = (dn : Int) ∧ (dn : Int) ≤ ((W nn).natAbs : Int) ∧ FrOk W (cc i) ((W nn).natAbs : Int) dn := by
    intro n d hd hd2 hg h3 h4
    have hr := rat_root hP hN ⟨hd, by omega⟩ hj ((frac_le hd).mp h3) ((frac_lt hd).mp (by rw [e1]; exact h4))
    have hrV : es W 6 ((n : Rat) / (d : Rat)) = 0 := by
      obtain ⟨q, hq⟩ := (free_in hV hf).1
      have h9 := hq ((n : Rat) / (d : Rat))
      rw [← es_ev, ← es_ev, hr] at h9
      rw [es_congr hVW, h9]; grind
    have hdv := low_lead hd hg hn6 hWz hrV
    have hdn : (d.toNat : Int) = d := Int.toNat_of_nonneg (by omega)
    refine ⟨d.toNat, hdn.symm, ?_, ?_, ?_, ?_⟩
    · rw [hdn]
      exact Int.le_of_dvd (by omega) (Int.dvd_natAbs.mpr hdv)
    · rw [hdn]
      exact Int.emod_eq_zero_of_dvd (Int.dvd_natAbs.mpr hdv)
    · rw [hdn, clg_cell ⟨hd, hd2⟩ h3 h4]; exact h4
    · rw [hdn, clg_cell ⟨hd, hd2⟩ h3 h4, hrV, sg_zero]
  rcases hF with ⟨f1, f2, f3, f4, f5⟩ | ⟨f1, f2, f3⟩
  · rw [e1] at f5
    obtain ⟨dn, hdn, hdl, hok⟩ := ok un ud f1 f2 f3 f4 f5
    rcases h2 with ⟨d, d1, d2, d3, d4, e⟩ | ⟨h, _⟩
    · have t := two_frac ⟨f1, f2⟩ (e := (d : Int)) (by omega) f4 f5 (clg_ge _) d3.2.1
      have hle : d ≤ dn := Classical.byContradiction (fun hn => d4 dn (by omega) (by omega) hok)
      have hdv : ud ∣ (d : Int) := cop_dvd f3 ⟨clg (cc i * (d : Int)), by rw [Int.mul_comm (d : Int), t, Int.mul_comm]⟩
      have hud := Int.le_of_dvd (by omega) hdv
      have hdd : (d : Int) = ud := by omega
      rw [e, hdd, clg_cell ⟨f1, f2⟩ f4 f5]
    · exact absurd hok (h dn (by omega) hdl)
  · rcases h2 with ⟨d, d1, d2, d3, d4, e⟩ | ⟨_, e⟩
    · exact absurd ⟨clg_ge _, by rw [e1]; exact d3.2.1⟩ (f3 (clg (cc i * (d : Int))) (d : Int) (by omega) (by omega))
    · rw [e, f1, f2]
      congr 1
      split <;> rfl
theorem TF.congr {A B : Nat → Int} {c : Int} {n : Nat} (h : TF A c n) (hB : EqV A B) : TF B c n := by
  obtain ⟨x, ⟨R, F, r0, r1, r2⟩, hx⟩ := h
  exact ⟨x, ⟨R, F, fun j hj => (r0 j hj).trans (hB j hj).symm, r1, r2⟩, hx⟩
theorem gl_mult {V W F P cc : Nat → Int} {N : Rat → Int} {c i0 : Int} {mu n : Nat} (hM : Bd V) (hVW : EqV V W) (hV : Nz V) (hf : FreeOf V F) (hN : NB F N) (hz : Cell N i0 c 256) (hR : Rt F P c) (hE : Ex (il P 6) mu (il V 6)) (hT : TF W c n) : n = mu := by
  obtain ⟨⟨p1, hP⟩, hcg, _⟩ := FreeOf.part hV hM hf
  exact times_eq hV hf hP hcg hN hz hR hE (hT.congr hVW.symm)
theorem top_uniq {V W : Nat → Int} {a b : Nat} (hVW : EqV V W) (ha : a < 6) (h1 : V a ≠ 0) (h2 : ∀ j, a < j → j < 6 → V j = 0) (hb : b < 6) (h3 : W b ≠ 0) (h4 : ∀ j, b < j → j < 6 → W j = 0) : a = b := by
  rcases Nat.lt_trichotomy a b with c | c | c
  · exact absurd ((hVW b hb).trans (h2 b c hb)) h3
  · exact c
  · exact absurd ((hVW a ha).symm.trans (h4 a c ha)) h1
theorem gl_nwt {V W : Nat → Int} {a b : Nat} {u v w : Int} (hVW : EqV V W) (ha : a < 6) (h1 : V a ≠ 0) (h2 : ∀ j, a < j → j < 6 → V j = 0) (hb : b < 6) (h3 : W b ≠ 0) (h4 : ∀ j, b < j → j < 6 → W j = 0) : nwt (hsum (dva W) (b - 1) u v (b - 1)) (hsum W b u v b) u v w = nwt (hsum (dva V) (a - 1) u v (a - 1)) (hsum V a u v a) u v w := by
  have e := top_uniq hVW ha h1 h2 hb h3 h4
  subst e
  rw [hsum_congr (c := dva W) (d := dva V) (dva_congr hVW) (by omega), hsum_congr (c := W) (d := V) hVW ha]
/-- the line and the reference's roots -/
theorem ln_link {I : Nat → Int} {A : Nat → Nat → Int} {z cv bl ro fr Z : Nat → Int} {p : Nat} (hI : Inv I A) (hp : p < 12) (hV : Nz (A (20 + p))) (hs : I (20 + p) = 1) (hc : ∀ i : Nat, (i : Int) < I (40 + p) → CellOf (A (40 + p)) (i : Int) (z (5 * p + i))) (hLA : LaidAll cv bl ro fr Z) (hb : bl p ≠ 0) (hVW : EqV (A (20 + p)) (fun j => cv (6 * p + j))) : ro p = I (40 + p) ∧ (0 ≤ I (40 + p) ∧ I (40 + p) ≤ 5) ∧ (∀ i : Nat, (i : Int) < I (40 + p) → Z (5 * p + i) = z (5 * p + i)) ∧ ∀ i j : Nat, i < j → (j : Int) < I (40 + p) → z (5 * p + i) ≠ z (5 * p + j) := by
  obtain ⟨nm, N, dp, v, hcr⟩ := hI.crv hp hs
  have hM := hI.1.2.1 p hp
  obtain ⟨c, hl, hcc⟩ := free_laid hV hM hcr.2.1 hcr.2.2.2.2.1 hcr.2.2.2.2.2.1
  obtain ⟨⟨p1, hPt⟩, _⟩ := hcr.part hM
  have hSq := hPt.2.2.1
  obtain ⟨q1, _, q3⟩ := lu hM hVW hl (hLA.1 p hp hb)
  have e := hcr.2.2.1
  have hN := hcr.2.2.2.2.1
  rw [e]
  have hz : ∀ i : Nat, (i : Int) < (nm : Int) → z (5 * p + i) = c i := fun i hi => Cell.uniq (fun x y _ _ h => hN.mono hSq h) (hcc i (by omega)) (hc i (by rw [e]; exact hi) N hN)
  refine ⟨q1, ⟨by omega, by have := hcr.2.2.2.1; omega⟩, fun i hi => by rw [hz i hi]; exact q3 i hi, fun i j hij hj => ?_⟩
  rw [hz i (by omega), hz j hj]
  intro he
  have k1 := hcc i (by omega)
  have k2 := hcc j (by omega)
  rw [he] at k1
  have k3 := (cell_one hPt hN (show 248 ≤ 256 by omega) (Int.lt_of_le_of_lt k2.2.1 k2.2.2)).1
  have k4 := k1.2.1
  have k5 := k2.2.2
  omega
theorem gl_line {I : Nat → Int} {A : Nat → Nat → Int} {cv bl ro fr Z : Nat → Int} {np : Nat} (hI : Inv I A) (h2 : I 2 = 1) (hnp : I 0 = (np : Int)) (hLA : LaidAll cv bl ro fr Z) (hb : ∀ q, q < np → bl q ≠ 0) (hVW : ∀ q, q < np → EqV (A (20 + q)) (fun j => cv (6 * q + j))) : cnt ro Z (fun _ => true) np = I 1 ∧ ∀ (p i : Nat), p < np → (i : Int) < ro p → ∀ k : Nat, (k : Int) < I 1 → A 5 k = A 6 (5 * p + i) → cnt ro Z (fun t => decide (t < Z (5 * p + i))) np = (k : Int) := by
  have hnp12 : np ≤ 12 := by have := hI.1.1; omega
  obtain ⟨z, hz1, hz2, hz3, hz4, hz5⟩ : LnOk I A := by
    rcases hI.2 with h | ⟨_, h⟩
    · omega
    · exact h
  have lk : ∀ q, q < np → Nz (A (20 + q)) → ro q = I (40 + q) ∧ (0 ≤ I (40 + q) ∧ I (40 + q) ≤ 5) ∧ (∀ i : Nat, (i : Int) < I (40 + q) → Z (5 * q + i) = z (5 * q + i)) ∧ ∀ i j : Nat, i < j → (j : Int) < I (40 + q) → z (5 * q + i) ≠ z (5 * q + j) := fun q hq hN => by
    obtain ⟨a1, a2⟩ := hz1 q (by omega) (by omega) hN
    exact ln_link hI (by omega) hN a1 a2 hLA (hb q hq) (hVW q hq)
  have zr : ∀ q, q < np → ¬ Nz (A (20 + q)) → ro q = 0 := fun q hq hN => lz (W := fun j => cv (6 * q + j)) (fun j hj => by
    exact (hVW q hq j hj).trans (Classical.byContradiction (fun h => hN ⟨j, hj, h⟩))) (hLA.1 q (by omega) (hb q hq))
  obtain ⟨m, hm⟩ : ∃ m : Nat, I 1 = (m : Int) := ⟨(I 1).toNat, by omega⟩
  have c1 : ∀ k : Nat, k + 1 < m → z (A 5 k).toNat < z (A 5 (k + 1)).toNat := fun k hk => hz4 k (by omega)
  have c2 : ∀ k, k < m → ∃ q, q < np ∧ ∃ i, i < (ro q).toNat ∧ Z (5 * q + i) = z (A 5 k).toNat := fun k hk => by
    obtain ⟨p, i, a1, a2, a3, a4, a5⟩ := hz3 k (by omega)
    obtain ⟨b1, b2, b3, _⟩ := lk p (by omega) a3
    refine ⟨p, by omega, i, by omega, ?_⟩
    rw [a5, Int.toNat_natCast]
    exact b3 i a4
  have c3 : ∀ q, q < np → ∀ i, i < (ro q).toNat → ∃ k, k < m ∧ z (A 5 k).toNat = Z (5 * q + i) := fun q hq i hi => by
    by_cases hN : Nz (A (20 + q))
    · obtain ⟨b1, b2, b3, _⟩ := lk q hq hN
      obtain ⟨k, k1, k2, k3⟩ := hz5 q i (by omega) (by omega) hN (by omega)
      exact ⟨k, by omega, by rw [k3]; exact (b3 i (by omega)).symm⟩
    · have := zr q hq hN; omega
  have c4 : ∀ q, q < np → ∀ i j, i < j → j < (ro q).toNat → Z (5 * q + i) ≠ Z (5 * q + j) := fun q hq i j hij hj => by
    by_cases hN : Nz (A (20 + q))
    · obtain ⟨b1, b2, b3, b4⟩ := lk q hq hN
      rw [b3 i (by omega), b3 j (by omega)]
      exact b4 i j hij (by omega)
    · have := zr q hq hN; omega
  refine ⟨by rw [hm]; exact cnt_all (w := fun k => z (A 5 k).toNat) c1 c2 c3 c4, fun p i hp hi k hk he => ?_⟩
  have hN : Nz (A (20 + p)) := Classical.byContradiction (fun h => by have := zr p hp h; omega)
  obtain ⟨b1, b2, b3, b4⟩ := lk p hp hN
  obtain ⟨k2, k3, k4, k5⟩ := hz5 p i (by omega) (by omega) hN (by omega)
  have e9 : z (A 5 k).toNat = Z (5 * p + i) := by rw [he, k4, k5]; exact (b3 i (by omega)).symm
  rw [← e9]
  exact cnt_rank (w := fun k => z (A 5 k).toNat) c1 c2 c3 c4 (by omega)
theorem cv_congr2 {C B B' : Nat → Int} {a t : Nat} : ∀ n, (∀ j, j ≤ a → B j = B' j) → cv C B a n t = cv C B' a n t := by
  intro n h
  unfold cv
  congr 1
  funext k
  split
  · rw [h _ (by omega)]
  · rfl
theorem pow_flp (A : Nat → Int) (j : Nat) : A j * (-1) ^ j = flp A j := by
  unfold flp
  have h : ∀ n : Nat, ((-1 : Int)) ^ (2 * n) = 1 := fun n => by rw [Int.pow_mul, show ((-1 : Int)) ^ 2 = 1 from rfl, Int.one_pow]
  rcases Nat.mod_two_eq_zero_or_one j with c | c
  · rw [if_pos c, show j = 2 * (j / 2) by omega, h, Int.mul_one]
  · rw [if_neg (by omega), show j = 2 * (j / 2) + 1 by omega, Int.pow_succ, h]; omega
/-- the new row: both keep it, or none -/
theorem mk_ok {W q : Nat → Int} (h : ∀ j, j < 12 → q j = W j) : MkBad q ↔ ∃ j, j < 12 ∧ ¬ WOk W j := by
  unfold MkBad WOk
  refine ⟨fun ⟨j, hj, h1⟩ => ⟨j, hj, fun h2 => ?_⟩, fun ⟨j, hj, h1⟩ => Classical.byContradiction (fun h2 => h1 ⟨fun h3 => ?_, fun h3 => ?_⟩)⟩
  · rw [h j hj] at h1
    rcases Nat.lt_or_ge j 6 with c | c
    · have := h2.1 c; omega
    · have := h2.2 c; omega
  · have h4 : ¬ (q j < -1000 ∨ 1000 < q j) := fun h5 => h2 ⟨j, hj, h5.elim Or.inl (fun h6 => Or.inr (Or.inl h6))⟩
    rw [h j hj] at h4
    omega
  · have h4 : ¬ (5 < j ∧ q j ≠ 0) := fun h5 => h2 ⟨j, hj, Or.inr (Or.inr h5)⟩
    rw [h j hj] at h4
    omega
theorem hrn_cg {A B : Nat → Int} {b : Int} (h : EqV A B) : ∀ m, m ≤ 6 → ∀ j, hrn B b m j = hrn A b m j
  | 0, _, _ => rfl
  | m + 1, hm, j => by
    rw [hrn, hrn, hrn_cg h m (by omega) j]
    split
    · rw [h (5 - m) (by omega)]
    · rw [hrn_cg h m (by omega)]
theorem mk_0 {A A' B B' W q : Nat → Int} {b : Int} (ha : EqV A A') (hb : EqV B B') (hW : (∀ j : Nat, j < 6 → W j = A j + B j) ∧ ∀ j : Nat, 6 ≤ j → j < 12 → W j = 0) (h : MkP 0 A' B' b q) : ∀ j, j < 12 → q j = W j := fun j hj => by
  obtain ⟨h0, _, _, _, _, _, _, _, _, _, hz⟩ := h
  rcases Nat.lt_or_ge j 6 with c | c
  · rw [h0 rfl j c, hW.1 j c, ha j c, hb j c]
  · rw [hz (by decide) j c hj, hW.2 j c hj]
theorem mk_1 {A A' B B' W q : Nat → Int} {b : Int} (ha : EqV A A') (hb : EqV B B') (hW : (∀ j : Nat, j < 6 → W j = A j + -B j) ∧ ∀ j : Nat, 6 ≤ j → j < 12 → W j = 0) (h : MkP 1 A' B' b q) : ∀ j, j < 12 → q j = W j := fun j hj => by
  obtain ⟨_, h0, _, _, _, _, _, _, _, _, hz⟩ := h
  rcases Nat.lt_or_ge j 6 with c | c
  · rw [h0 rfl j c, hW.1 j c, ha j c, hb j c]
  · rw [hz (by decide) j c hj, hW.2 j c hj]
theorem mk_2 {A A' B B' W q : Nat → Int} {b : Int} (ha : EqV A A') (hb : EqV B B') (hW : ∀ t : Nat, t < 12 → W t = cv A B 5 6 t) (h : MkP 2 A' B' b q) : ∀ j, j < 12 → q j = W j := fun j hj => by
  obtain ⟨_, _, h0, _, _, _, _, _, _, _, hz⟩ := h
  rw [h0 rfl j hj, hW j hj, cv_congr 6 (C := A') (D := A) (fun j hj => ha j hj), cv_congr2 6 (fun j hj => hb j (by omega))]
theorem mk_3 {A A' B' W q : Nat → Int} {b : Int} (ha : EqV A A') (hW : ∀ j : Nat, j < 12 → W j = if j < 6 then dva A j else 0) (h : MkP 3 A' B' b q) : ∀ j, j < 12 → q j = W j := fun j hj => by
  obtain ⟨_, _, _, h0, _, _, _, _, _, _, hz⟩ := h
  rw [hW j hj]
  rcases Nat.lt_or_ge j 6 with c | c
  · rw [h0 rfl j c, if_pos c, dva_congr ha j c]
  · rw [hz (by decide) j c hj, if_neg (by omega)]
theorem mk_4 {A A' B B' W q : Nat → Int} {b : Int} (ha : EqV A A') (hb : EqV B B') (hW : ∃ G : Nat → Int, Gcd A B G ∧ ∀ j : Nat, j < 12 → W j = if j < 6 then G j else 0) (h : MkP 4 A' B' b q) : ∀ j, j < 12 → q j = W j := fun j hj => by
  obtain ⟨_, _, _, _, h0, _, _, _, _, _, hz⟩ := h
  obtain ⟨G, hG, hW⟩ := hW
  have h1 : Gcd A B q := (h0 rfl).congr ha.symm hb.symm
  rw [hW j hj]
  rcases Nat.lt_or_ge j 6 with c | c
  · rw [if_pos c, hG.uniq h1 j c]
  · rw [hz (by decide) j c hj, if_neg (by omega)]
theorem mk_5 {A A' B' W q : Nat → Int} {b : Int} (hA : Nz A) (ha : EqV A A') (hW : FreeOf A W ∧ ∀ j : Nat, 6 ≤ j → j < 12 → W j = 0) (h : MkP 5 A' B' b q) : ∀ j, j < 12 → q j = W j := fun j hj => by
  obtain ⟨_, _, _, _, _, h0, _, _, _, _, hz⟩ := h
  have h1 : FreeOf A q := (h0 rfl).congr ha.symm (fun _ _ => rfl)
  rcases Nat.lt_or_ge j 6 with c | c
  · exact hW.1.uniq hA h1 j c
  · rw [hz (by decide) j c hj, hW.2 j c hj]
theorem mk_6 {A A' B' W q : Nat → Int} {b : Int} (ha : EqV A A') (hW : (∀ j : Nat, j < 6 → W j = hrn A b 6 j) ∧ ∀ j : Nat, 6 ≤ j → j < 12 → W j = 0) (h : MkP 6 A' B' b q) : ∀ j, j < 12 → q j = W j := fun j hj => by
  obtain ⟨_, _, _, _, _, _, h0, _, _, _, hz⟩ := h
  rcases Nat.lt_or_ge j 6 with c | c
  · rw [h0 rfl j c, hW.1 j c, hrn_cg ha 6 (Nat.le_refl _)]
  · rw [hz (by decide) j c hj, hW.2 j c hj]
theorem mk_7 {A A' B' W q : Nat → Int} {b : Int} (ha : EqV A A') (hW : (∀ j : Nat, j < 6 → W j = A j * (-1) ^ j) ∧ ∀ j : Nat, 6 ≤ j → j < 12 → W j = 0) (h : MkP 7 A' B' b q) : ∀ j, j < 12 → q j = W j := fun j hj => by
  obtain ⟨_, _, _, _, _, _, _, h0, _, _, hz⟩ := h
  rcases Nat.lt_or_ge j 6 with c | c
  · rw [h0 rfl j c, hW.1 j c, pow_flp]
    unfold flp
    rw [ha j c]
  · rw [hz (by decide) j c hj, hW.2 j c hj]
theorem mk_8 {A A' B' W q : Nat → Int} {b : Int} (ha : EqV A A') (hW : ∃ kt : Nat, kt ≤ 6 ∧ (∀ j, kt ≤ j → j < 6 → A j = 0) ∧ (0 < kt → A (kt - 1) ≠ 0) ∧ ∀ j : Nat, j < 12 → W j = if j < kt then A (kt - 1 - j) else 0) (h : MkP 8 A' B' b q) : ∀ j, j < 12 → q j = W j := fun j hj => by
  obtain ⟨_, _, _, _, _, _, _, _, h0, _, hz⟩ := h
  obtain ⟨kt, k1, k2, k3, k4⟩ := hW
  have hd : dgn A' 6 = kt := dgn_eq (fun h => by rw [ha _ (by omega)]; exact k3 h) 6 k1 (fun j h1 h2 => by rw [ha j h2]; exact k2 j h1 h2)
  rw [k4 j hj]
  rcases Nat.lt_or_ge j 6 with c | c
  · rw [h0 rfl j c, hd]
    split
    · rw [ha _ (by omega)]
    · rfl
  · rw [hz (by decide) j c hj, if_neg (by omega)]
theorem mk_9 {A A' B' W q : Nat → Int} {b : Int} (ha : EqV A A') (hW : (∀ j : Nat, j < 6 → W j = A j * b ^ j) ∧ ∀ j : Nat, 6 ≤ j → j < 12 → W j = 0) (h : MkP 9 A' B' b q) : ∀ j, j < 12 → q j = W j := fun j hj => by
  obtain ⟨_, _, _, _, _, _, _, _, _, h0, hz⟩ := h
  rcases Nat.lt_or_ge j 6 with c | c
  · rw [h0 rfl j c, hW.1 j c, ha j c]
  · rw [hz (by decide) j c hj, hW.2 j c hj]
