/-! the spot and the chain over the class's cells -/
theorem ex_le {a i n : Nat} (hi : i ≤ n) (hE : a + n * 261 ≤ 1430) : a + i * 261 ≤ 1430 := Nat.le_trans (Nat.add_le_add_left (Nat.mul_le_mul_right 261 hi) a) hE
theorem ex_60 (a i : Nat) : a + i * 260 ≤ a + i * 261 := by omega
theorem ex_s (a i : Nat) : a + i * (260 + 1) + 260 ≤ a + (i + 1) * 261 := by omega
theorem ex_v {i n : Nat} (h : i < n) (hn : n < 6) : (i + 1) * 249 ≤ 1430 := by
  have : (i + 1) * 249 ≤ 5 * 249 := Nat.mul_le_mul_right _ (by omega)
  omega
theorem ab_nn (z : Int) : (0 : Int) ≤ (z.natAbs : Int) := by omega
theorem sp_room {c : Nat → Int} {n a : Nat} {u v : Int} (hc : RowB c a) (hn : n < 6) (hE : a + n * 261 ≤ 1430) (hu : (u.natAbs : Int) < 2 ^ 260) (hv : (v.natAbs : Int) < 2 ^ 249) : ∀ i, i ≤ n → ((hs0 c n u v i * u).natAbs : Int) < Bp 47 ∧ ((c (n - i) * v ^ i).natAbs : Int) < Bp 47 ∧ ((hs0 c n u v i * u).natAbs : Int) + ((c (n - i) * v ^ i).natAbs : Int) < Bp 48 ∧ (i < n → ((v ^ i * v).natAbs : Int) < Bp 47) := by
  intro i hi
  have hv2 : (v.natAbs : Int) < 2 ^ 260 := Int.lt_of_lt_of_le hv (pow2_le (by decide))
  have hvp := vpow_bd hv2 i
  have hni : n - i < 6 := Nat.lt_of_le_of_lt (Nat.sub_le _ _) hn
  have h1 : ((hs0 c n u v i * u).natAbs : Int) < 2 ^ (a + i * 261) := by
    cases i with
    | zero =>
      show ((0 * u).natAbs : Int) < _
      rw [Int.zero_mul]; exact pw2 _
    | succ i =>
      have h2 := hs_bd (c := c) (n := n) (u := u) (v := v) (a := a) (b := 260) hc hu hv2 hn i
      show ((hsum c n u v i * u).natAbs : Int) < _
      rw [Int.natAbs_mul, Int.natCast_mul]
      have h3 := Int.mul_le_mul_of_nonneg_left (Int.le_of_lt hu) (ab_nn (hsum c n u v i))
      have h4 := Int.mul_lt_mul_of_pos_right h2 (pw2 260)
      rw [← pw2_add] at h4
      exact Int.lt_of_le_of_lt h3 (Int.lt_of_lt_of_le h4 (pow2_le (ex_s a i)))
  have h2 : ((c (n - i) * v ^ i).natAbs : Int) < 2 ^ (a + i * 261) := by
    rw [Int.natAbs_mul, Int.natCast_mul]
    have h3 := hc (n - i) hni
    have h4 : ((c (n - i)).natAbs : Int) * ((v ^ i).natAbs : Int) ≤ ((c (n - i)).natAbs : Int) * 2 ^ (i * 260) := Int.mul_le_mul_of_nonneg_left hvp (ab_nn _)
    have h5 : ((c (n - i)).natAbs : Int) * 2 ^ (i * 260) < 2 ^ a * 2 ^ (i * 260) := Int.mul_lt_mul_of_pos_right h3 (pw2 _)
    rw [← pw2_add] at h5
    exact Int.lt_of_le_of_lt h4 (Int.lt_of_lt_of_le h5 (pow2_le (ex_60 a i)))
  have hle : (2 : Int) ^ (a + i * 261) ≤ 2 ^ 1430 := pow2_le (ex_le hi hE)
  have c1 := Int.lt_of_lt_of_le h1 hle
  have c2 := Int.lt_of_lt_of_le h2 hle
  have b47 : (2 : Int) ^ 1430 < Bp 47 := by rw [Bp_pow 47]; exact pow2_lt (by decide)
  have b48 : (2 : Int) ^ 1430 + 2 ^ 1430 < Bp 48 := by decide +kernel
  refine ⟨Int.lt_trans c1 b47, Int.lt_trans c2 b47, Int.lt_trans (Int.add_lt_add c1 c2) b48, fun hlt => ?_⟩
  have h3 := vpow_bd (v := v) (b := 249) hv (i + 1)
  rw [Int.pow_succ] at h3
  exact Int.lt_of_le_of_lt (Int.le_trans h3 (pow2_le (ex_v hlt hn))) b47
theorem Sseq.congr2 {a : Nat → Int} {r r' : Nat → Nat → Int} {n : Nat} (h : Sseq a r n) (hh : ∀ k, k < n → ∀ j, j < 6 → r' k j = r k j) : Sseq a r' n := by
  obtain ⟨h1, h2, h3, h4⟩ := h
  refine ⟨h1, h2, h3, ?_⟩
  rcases h4 with ⟨h5, h6, h7⟩ | ⟨h5, h6⟩
  · exact Or.inl ⟨h5, fun j hj => by rw [hh 0 (by omega) j hj]; exact h6 j hj, h7⟩
  · have := h5.1
    refine Or.inr ⟨h5.congr hh, ?_⟩
    rw [il_congr6 (hh (n - 1) (by omega)), il_congr6 (hh (n - 2) (by omega))]
    exact h6
/-- the chain is the sign row of F -/
def ChF (F : Nat → Int) (I : Nat → Int) (A : Nat → Nat → Int) (R : Nat → Nat) (Z : Nat → Int) : Prop := ∃ n : Nat, I 3 = (n : Int) ∧ Sseq F (ChRow R Z) n ∧ TopsC (A 7) (ChRow R Z) n ∧ BtC (ChRow R Z) n
theorem ChF.keep {F : Nat → Int} {I I' : Nat → Int} {A A' : Nat → Nat → Int} {R R' : Nat → Nat} {Z Z' : Nat → Int} (h : ChF F I A R Z) (hI : I' 3 = I 3) (hA : A' 7 = A 7) (hZ : ∀ t, t < 42 → Z' (R' t) = Z (R t)) : ChF F I' A' R' Z' := by
  obtain ⟨n, h1, h2, h3, h4⟩ := h
  have hn := h2.2.1
  have hh : ∀ k, k < n → ∀ j, j < 6 → ChRow R' Z' k j = ChRow R Z k j := fun k hk j hj => hZ _ (by omega)
  exact ⟨n, by rw [hI]; exact h1, h2.congr2 hh, h3.congr hh (fun k _ => by rw [hA]), h4.congr hh⟩
theorem CSt.bigsL {cs : Nat → ClassId} {L : List Nat} {ad Qm : Nat → Nat} {f g : Nat → va_E} {I : Nat → Int} {A : Nat → Nat → Int} {R : Nat → Nat} {Zf Z' : Nat → Int} (hAd : AdOk L ad Qm) (h : CSt cs ad Qm f I A R Zf) (ks : List Nat) (hB : BH cs g (Bg ad) Qm Z') (hfr : ∀ k, Out (Bg ad) Qm k → k ∉ ks.map ad → g k = f k) (hks : ∀ k ∈ ks, k < 183 ∧ g (ad k) = f (ad k)) : CSt cs ad Qm g I A R Z' := h.bigs hB (fun k hk => by
  by_cases hm : k ∈ ks
  · exact (hks k hm).2
  · refine hfr (ad k) (hAd.out hk) (fun hm2 => ?_)
    obtain ⟨j, hj, e⟩ := List.mem_map.mp hm2
    have := hAd.2.1 j k (by have := (hks j hj).1; omega) (by omega) e
    exact hm (by rw [← this]; exact hj))
theorem CSt.rck {cs : Nat → ClassId} {ad Qm : Nat → Nat} {f : Nat → va_E} {I : Nat → Int} {A : Nat → Nat → Int} {R : Nat → Nat} {Zf : Nat → Int} (h : CSt cs ad Qm f I A R Zf) {t : Nat} (ht : t < 42) : Ckk ad (R t) := (h.2.2.2.1.1 t ht).1
theorem ckk_ne {L : List Nat} {ad Qm : Nat → Nat} (hAd : AdOk L ad Qm) {a k : Nat} (ha : Ckk ad a) (hk : 227 ≤ k ∧ k < 305) : a ≠ ad k := fun h => Ckk.not hAd (show k < 305 by omega) (by omega) (h ▸ ha)
theorem wkk_ne {L : List Nat} {ad Qm : Nat → Nat} (hAd : AdOk L ad Qm) {a b : Nat} (ha : Ckk ad a) (hb : Wkk ad b) : a ≠ b := fun h => Ckk.wk hAd ha (h ▸ hb)
theorem CSt.number {cs : Nat → ClassId} {L : List Nat} {ad Qm : Nat → Nat} {f g : Nat → va_E} {I : Nat → Int} {A : Nat → Nat → Int} {R : Nat → Nat} {Zf : Nat → Int} (hAd : AdOk L ad Qm) (h : CSt cs ad Qm f I A R Zf) {s1 s2 nn dd : Int} {n1 n2 : Nat} {l1 l2 : Nat → Int} (hz1 : BV s1 (n1 : Int) l1 nn) (hz2 : BV s2 (n2 : Int) l2 dd) (hg : g = mw f [(ad 227, .inr (0, [.int (iI s1), .int (iI ((n1 : Int))), .ref (Qm (ad 227))])), (Qm (ad 227), .inl (cs 0, 48, .inl (ai l1))), (ad 228, .inr (0, [.int (iI s2), .int (iI ((n2 : Int))), .ref (Qm (ad 228))])), (Qm (ad 228), .inl (cs 0, 48, .inl (ai l2)))]) : CSt cs ad Qm g I A R (up (up Zf (ad 228) dd) (ad 227) nn) ∧ ∀ k, Awy ad k → g k = f k := by
  have b1 : Bg ad (ad 227) := Bg.pl (by decide)
  have b2 : Bg ad (ad 228) := Bg.pl (by decide)
  have hg2 : g = mw (mw f [(ad 228, .inr (0, [.int (iI s2), .int (iI ((n2 : Int))), .ref (Qm (ad 228))])), (Qm (ad 228), .inl (cs 0, 48, .inl (ai l2)))]) [(ad 227, .inr (0, [.int (iI s1), .int (iI ((n1 : Int))), .ref (Qm (ad 227))])), (Qm (ad 227), .inl (cs 0, 48, .inl (ai l1)))] := by rw [mw_app]; exact hg
  have hfr : ∀ k, Out (Bg ad) Qm k → g k = f k := fun k hk => by rw [hg2, mw_out (hk.two b1), mw_out (hk.two b2)]
  refine ⟨h.bigs ?_ (fun k hk => hfr _ (hAd.out hk)), fun k hk => hfr k (hk.out hAd)⟩
  rw [hg2]
  exact BH.set hAd.sp (BH.set hAd.sp h.2.2.1 b2 hz2) b1 hz1
/-- what the look tells of the count -/
theorem nbf_look (r : Nat → Nat → Int) (n : Nat) (x : Rat) : tn (fun k => sgL (r k)) n - tn (fun k => sg (es (r k) 6 x)) n - (if sg (es (r 0) 6 x) = 0 then 1 else 0) = NbF r n x := by
  show _ = tn (fun k => sgL (r k)) n - (tn (fun k => sg (es (r k) 6 x)) n + (if sg (es (r 0) 6 x) = 0 then 1 else 0))
  omega
theorem tops_dg {t : Nat → Int} {r : Nat → Nat → Int} {n : Nat} (h : TopsC t r n) : ∀ k, k < n → (t k = ((t k).toNat : Int) ∧ (t k).toNat < 6) ∧ r k (t k).toNat ≠ 0 ∧ ∀ j, (t k).toNat < j → j < 6 → r k j = 0 := fun k hk => by
  obtain ⟨d, h1, h2, h3, h4⟩ := h k hk
  rw [h2, Int.toNat_natCast]
  exact ⟨⟨rfl, h1⟩, h3, h4⟩
theorem bt_room {t : Nat → Int} {r : Nat → Nat → Int} {n : Nat} (h : TopsC t r n) (hb : BtC r n) {u v : Int} (hu : (u.natAbs : Int) < 2 ^ 260) (hv : (v.natAbs : Int) < 2 ^ 249) : ∀ k, k < n → ∀ i, i ≤ (t k).toNat → ((hs0 (r k) (t k).toNat u v i * u).natAbs : Int) < Bp 47 ∧ ((r k ((t k).toNat - i) * v ^ i).natAbs : Int) < Bp 47 ∧ ((hs0 (r k) (t k).toNat u v i * u).natAbs : Int) + ((r k ((t k).toNat - i) * v ^ i).natAbs : Int) < Bp 48 ∧ (i < (t k).toNat → ((v ^ i * v).natAbs : Int) < Bp 47) := fun k hk => by
  obtain ⟨⟨h1, h2⟩, h3, h4⟩ := tops_dg h k hk
  obtain ⟨d, a0, g1, g2, g3, g4⟩ := hb k hk
  have hd : (t k).toNat ≤ d := Classical.byContradiction (fun hn => h3 (g2 _ (by omega) h2))
  exact sp_room g3 h2 (ex_le hd g4) hu hv
theorem upW_lt {R : Nat → Nat} {gt gp ga gb t : Nat} (h : t < 42) : upW R gt gp ga gb t = R t := by unfold upW; rw [if_neg (by omega), if_neg (by omega), if_neg (by omega), if_neg (by omega)]
theorem below_eq {F : Nat → Int} {N : Rat → Int} {R R2 : Nat → Nat} {Z Z2 : Nat → Int} {n n2 : Nat} {x : Rat} (hN : NB F N) (hS : Sseq F (ChRow R Z) n) (hS2 : Sseq F (ChRow R2 Z2) n2) (hrow : ∀ t, t < 42 → Z2 (R2 t) = Z (R t)) : tn (fun k => sgL (fun j => Z2 (R2 (6 * k + j)))) n2 - tn (fun k => sg (es (fun j => Z (R (6 * k + j))) 6 x)) n - (if sg (es (fun j => Z (R (6 * 0 + j))) 6 x) = 0 then 1 else 0) = N x := by
  have e := Sseq.len hS hS2
  subst e
  have hn := hS.2.1
  have h1 : tn (fun k => sgL (fun j => Z2 (R2 (6 * k + j)))) n = tn (fun k => sgL (ChRow R Z k)) n := (tn_congr (fun k hk => Pp.left (Pp.of_eq (r := ChRow R Z k) (r' := fun j => Z2 (R2 (6 * k + j))) (fun j hj => hrow _ (by omega))))).1
  rw [h1, NB.uniq (show NB F (NbF (ChRow R Z) n) from ⟨_, _, hS, fun _ => rfl⟩ : NB F (NbF (ChRow R Z) n)) hN x]
  exact nbf_look (ChRow R Z) n x
theorem Wkk.na {L : List Nat} {ad Qm : Nat → Nat} (hAd : AdOk L ad Qm) {a k : Nat} (ha : Wkk ad a) (hk : k < 305) (hk2 : k < 235 ∨ 239 ≤ k) : a ≠ ad k := fun h => Wkk.not hAd hk hk2 (h ▸ ha)
theorem Pt_dbl (v : Int) (b : Nat) : Pt (2 * v) (b + 1) = Pt v b := by
  have := Pt_up v b
  rw [show v * 2 ^ 1 = 2 * v by omega] at this
  exact this
theorem Cell.rng2 {Nb : Rat → Int} {i v : Int} {b : Nat} (h : Cell Nb i v b) : -(2048 * 2 ^ (b + 1)) ≤ 2 * v ∧ 2 * v + 1 < 2048 * 2 ^ (b + 1) := by
  have h1 := h.1
  rw [Int.pow_succ]
  omega
theorem Cell.one {Nb : Rat → Int} {i v : Int} {b : Nat} (h : Cell Nb i v b) (h1 : Nb (Pt (2 * v + 1) (b + 1)) ≤ i) : Cell Nb i (2 * v + 1) (b + 1) := by
  have r := h.rng2
  refine ⟨by omega, h1, ?_⟩
  rw [show 2 * v + 1 + 1 = 2 * (v + 1) by omega, Pt_dbl]
  exact h.2.2
theorem Cell.zro {Nb : Rat → Int} {i v : Int} {b : Nat} (h : Cell Nb i v b) (h1 : i < Nb (Pt (2 * v + 1) (b + 1))) : Cell Nb i (2 * v + 1 - 1) (b + 1) := by
  have r := h.rng2
  rw [show 2 * v + 1 - 1 = 2 * v by omega]
  refine ⟨by omega, ?_, h1⟩
  rw [Pt_dbl]
  exact h.2.1
theorem Pl.whr {wh : Int} {dp : Nat} {wd : Nat → Int} {v : Int} (h : Pl wh dp wd v) (hv : -(2048 * 2 ^ dp) ≤ v ∧ v < 2048 * 2 ^ dp) : -2048 ≤ wh ∧ wh < 2048 := by
  obtain ⟨h1, h2, fr, h3, h4, h5⟩ := h
  have hp := pw2 dp
  generalize (2 : Int) ^ dp = T at *
  refine ⟨Classical.byContradiction (fun hn => ?_), Classical.byContradiction (fun hn => ?_)⟩
  · have : (wh + 1) * T ≤ -2048 * T := Int.mul_le_mul_of_nonneg_right (by omega) (Int.le_of_lt hp)
    rw [Int.add_mul] at this
    omega
  · have : 2048 * T ≤ wh * T := Int.mul_le_mul_of_nonneg_right (by omega) (Int.le_of_lt hp)
    omega
theorem pl_small {v : Int} {dp : Nat} (hd : dp ≤ 248) (hv : -(2048 * 2 ^ dp) ≤ v ∧ v ≤ 2048 * 2 ^ dp) : ((v * 2 ^ (31 * ((dp + 30) / 31) - dp)).natAbs : Int) < 2 ^ 260 ∧ (((2 : Int) ^ (31 * ((dp + 30) / 31) - dp) * 2 ^ dp).natAbs : Int) < 2 ^ 249 ∧ (0 : Int) < 2 ^ (31 * ((dp + 30) / 31) - dp) * 2 ^ dp := by
  have hp := pw2 (31 * ((dp + 30) / 31) - dp)
  have e : (2 : Int) ^ (31 * ((dp + 30) / 31) - dp) * 2 ^ dp = 2 ^ (31 * ((dp + 30) / 31)) := by rw [← pw2_add, show 31 * ((dp + 30) / 31) - dp + dp = 31 * ((dp + 30) / 31) by omega]
  have l := pow2_le (show 31 * ((dp + 30) / 31) ≤ 248 by omega)
  have hp2 := pw2 (31 * ((dp + 30) / 31))
  have l2 : (2 : Int) ^ 248 < 2 ^ 249 := pow2_lt (by decide)
  have l3 : 2048 * (2 : Int) ^ 248 < 2 ^ 260 := by decide +kernel
  rw [e]
  refine ⟨?_, by omega, hp2⟩
  rw [Int.natAbs_mul, Int.natCast_mul]
  have a1 : (v.natAbs : Int) ≤ 2048 * 2 ^ dp := by omega
  have a2 : (((2 : Int) ^ (31 * ((dp + 30) / 31) - dp)).natAbs : Int) = 2 ^ (31 * ((dp + 30) / 31) - dp) := by omega
  rw [a2]
  have a3 : (v.natAbs : Int) * 2 ^ (31 * ((dp + 30) / 31) - dp) ≤ 2048 * 2 ^ dp * 2 ^ (31 * ((dp + 30) / 31) - dp) := Int.mul_le_mul_of_nonneg_right a1 (Int.le_of_lt hp)
  rw [Int.mul_assoc, Int.mul_comm (2 ^ dp), e] at a3
  omega
theorem NB.few {F : Nat → Int} {N : Rat → Int} (h : NB F N) (x : Rat) : -20 ≤ N x ∧ N x ≤ 20 := by
  obtain ⟨r, n, hs, e⟩ := h
  have hn := hs.2.1
  rw [e]
  unfold NbF tn0
  have h1 := tn_range (fun k => sgL (r k)) n
  have h2 := tn_range (fun k => sg (es (r k) 6 x)) n
  split <;> omega
