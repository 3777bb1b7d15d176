/-! the divisor of two by their row of remainders -/
def ChRow (R : Nat → Nat) (Z : Nat → Int) : Nat → Nat → Int := fun k j => Z (R (6 * k + j))
theorem SeqC.congr {a b : Nat → Int} {r r' : Nat → Nat → Int} {n : Nat} (h : SeqC a b r n) (hh : ∀ k, k < n → ∀ j, j < 6 → r' k j = r k j) : SeqC a b r' n := by
  rcases h with ⟨h1, h2, h3⟩ | ⟨h1, h2⟩
  · exact Or.inl ⟨h1, fun j hj => by rw [hh 0 (by omega) j hj]; exact h2 j hj, h3⟩
  · have := h1.1
    refine Or.inr ⟨h1.congr hh, ?_⟩
    rw [il_congr6 (hh (n - 1) (by omega)), il_congr6 (hh (n - 2) (by omega))]
    exact h2
theorem SeqC.sseq {a b : Nat → Int} {r : Nat → Nat → Int} {n : Nat} (h : SeqC a b r n) (hn : 1 ≤ n ∧ n ≤ 6) (ha : Nz a) (hb : ∀ j, j < 6 → b j = dva a j) : Sseq a r n := by
  refine ⟨hn.1, hn.2, ha, ?_⟩
  rcases h with ⟨h1, h2, h3⟩ | ⟨⟨h1, h2, h3, h4, h5⟩, h6⟩
  · exact Or.inl ⟨h1, h2, fun j hj => by rw [← hb j hj]; exact h3 j hj⟩
  · exact Or.inr ⟨⟨h1, h2, fun j hj => by rw [h3 j hj]; exact hb j hj, h4, h5⟩, h6⟩
theorem GI.nr {A B P Q S : Nat → Int} (h : GI A B P Q) (hn : NR P Q S) : GI A B Q S := by
  obtain ⟨⟨u, w, h1⟩, ⟨u2, w2, h2⟩, h3⟩ := h
  obtain ⟨⟨la, T, hla, hr⟩, _⟩ := hn
  have hl : la⁻¹ * la = 1 := Rat.inv_mul_cancel la (by grind)
  refine ⟨⟨u2, w2, h2⟩, ⟨padd (psc (-la) u) (pmul T u2), padd (psc (-la) w) (pmul T w2), fun x => ?_⟩, fun D hQ hRD => h3 D ?_ hQ⟩
  · rw [hr x, h1 x, h2 x, ev_add, ev_add, ev_sc, ev_sc, ev_mul, ev_mul]
    grind
  · refine Dv.comb hRD hQ [-la⁻¹] (psc la⁻¹ T) (fun x => ?_)
    have := hr x
    rw [← es_ev, ← es_ev, ← es_ev, ev_sc, this]
    simp only [ev]
    grind
theorem Spr2.gi {a b : Nat → Int} {r : Nat → Nat → Int} {n : Nat} (h : Spr2 a b r n) : ∀ k, k + 2 ≤ n → GI a b (r k) (r (k + 1)) := by
  intro k
  induction k with
  | zero => intro _; exact (GI.first a b).congr h.2.1 h.2.2.1
  | succ k ih => intro hk; exact (ih (by omega)).nr (h.2.2.2.2 k (by omega))
theorem SeqC.gcd {a b : Nat → Int} {r : Nat → Nat → Int} {n : Nat} (h : SeqC a b r n) (hb : Nz b) : Cmb a b (r (n - 1)) ∧ Dv (il (r (n - 1)) 6) (il a 6) ∧ Dv (il (r (n - 1)) 6) (il b 6) := by
  rcases h with ⟨_, _, h3⟩ | ⟨h1, h2⟩
  · obtain ⟨j, hj, hn⟩ := hb
    exact absurd (h3 j hj) hn
  · have hn := h1.1
    have g := h1.gi (n - 2) (by omega)
    rw [show n - 2 + 1 = n - 1 by omega] at g
    have g2 := g.2.2 (il (r (n - 1)) 6) h2 (Dv.refl _)
    exact ⟨g.2.1, g2.1, g2.2⟩
theorem gcd_fin {a b G W z : Nat → Int} {dt : Nat} {lead : Int} (hd : dt < 6) (hl : lead ≠ 0) (hG : Cmb a b G ∧ Dv (il G 6) (il a 6) ∧ Dv (il G 6) (il b 6)) (hGt : G dt ≠ 0) (hW : ∀ j, j < 6 → W j * G dt = lead * G j) (hp : PrimOf W z) : Gcd a b z := by
  obtain ⟨g1, g2, g3⟩ := hG
  have hl' : (lead : Rat) ≠ 0 := fun h0 => hl (by exact_mod_cast h0)
  have hll : (lead : Rat)⁻¹ * (lead : Rat) = 1 := Rat.inv_mul_cancel _ hl'
  have eP : ∀ x, es (fun j => lead * G j) 6 x = (lead : Rat) * es G 6 x := fun x => es_sc lead G 6 x
  have c1 : Cmb a b (fun j => lead * G j) := by
    obtain ⟨u, w, h1⟩ := g1
    exact ⟨psc lead u, psc lead w, fun x => by rw [eP x, h1 x, ev_sc, ev_sc]; grind⟩
  have dd : ∀ D : Nat → Int, Dv (il G 6) (il D 6) → Dv (il (fun j => lead * G j) 6) (il D 6) := fun D hD => by
    obtain ⟨q, hq⟩ := hD
    refine ⟨psc (lead : Rat)⁻¹ q, fun x => ?_⟩
    rw [hq x, ev_sc, ← es_ev, ← es_ev, eP x]
    grind
  rcases hp with ⟨p1, _⟩ | ⟨c, hc, p1, p2, p3⟩
  · have := hW dt hd
    rw [p1 dt hd, Int.zero_mul] at this
    rcases Int.mul_eq_zero.mp this.symm with h | h
    · exact absurd h hl
    · exact absurd h hGt
  · have hc2 : c * G dt ≠ 0 := Int.mul_ne_zero hc hGt
    have e : ∀ j, j < 6 → (fun j => lead * G j) j = (c * G dt) * z j := fun j hj => by
      show lead * G j = _
      rw [← hW j hj, p1 j hj]
      grind
    exact Or.inr ⟨p2, p3, cmb_scale hc2 e c1, dv_scale hc2 e (dd a g2), dv_scale hc2 e (dd b g3)⟩
theorem PrimOf.ex {A : Nat → Int} (h : Nz A) : ∃ B, PrimOf A B := by
  obtain ⟨D, hD, h1, h2⟩ := top_of h
  by_cases hs : 0 ≤ (A D).tdiv ((cg A 0 6 : Nat) : Int)
  · exact ⟨_, prim_mk (k := D + 1) (B := fun j => (A j).tdiv ((cg A 0 6 : Nat) : Int)) (C := fun j => (A j).tdiv ((cg A 0 6 : Nat) : Int)) (by omega) (by omega) (fun j h3 h4 => h2 j (by omega) h4) h1 (fun j _ => rfl) (Or.inl ⟨hs, fun j _ => rfl⟩)⟩
  · exact ⟨_, prim_mk (k := D + 1) (B := fun j => (A j).tdiv ((cg A 0 6 : Nat) : Int)) (C := fun j => -(A j).tdiv ((cg A 0 6 : Nat) : Int)) (by omega) (by omega) (fun j h3 h4 => h2 j (by omega) h4) h1 (fun j _ => rfl) (Or.inr ⟨by show (A D).tdiv ((cg A 0 6 : Nat) : Int) < 0; omega, fun j _ => rfl⟩)⟩
/-- the lead of a part goes into the lead -/
theorem lead_mul {A C D : Nat → Int} {da dd : Nat} (hAC : ∀ x, es A 6 x = es C 6 x * es D 6 x) (h1 : da < 6) (hA : A da ≠ 0) (hAz : ∀ j, da < j → j < 6 → A j = 0) (h2 : dd < 6) (h0 : D dd ≠ 0) (hDz : ∀ j, dd < j → j < 6 → D j = 0) : ∃ q, A da = q * D dd := by
  have hNC : Nz C := (nz_parts ⟨da, h1, hA⟩ hAC).2
  obtain ⟨dc, h3, h4, h5⟩ := top_of hNC
  have hcv := cv_of hAC
  rcases Nat.lt_or_ge da (dc + dd) with h | h
  · exfalso
    have e1 := cv_top (t := dc + dd) hDz h5 h3 h2 (Nat.le_refl _)
    rw [if_pos rfl, hcv _ (by omega)] at e1
    have nz := Int.mul_ne_zero h4 h0
    by_cases h6 : dc + dd < 6
    · rw [if_pos h6] at e1
      exact nz (by rw [← e1]; exact hAz _ (by omega) h6)
    · rw [if_neg h6] at e1; exact nz e1.symm
  · have e2 := cv_top (t := da) hDz h5 h3 h2 h
    rw [hcv _ (by omega), if_pos h1] at e2
    by_cases h7 : da = dc + dd
    · rw [if_pos h7] at e2; exact ⟨C dc, e2⟩
    · rw [if_neg h7] at e2; exact absurd e2 hA
theorem lead_dv {a b G : Nat → Int} {da db dt : Nat} {M : Int} (hM : 0 ≤ M) (hda : da < 6 ∧ a da ≠ 0 ∧ ∀ j, da < j → j < 6 → a j = 0) (hdb : db < 6 ∧ b db ≠ 0 ∧ ∀ j, db < j → j < 6 → b j = 0) (hdt : dt < 6 ∧ G dt ≠ 0 ∧ ∀ j, dt < j → j < 6 → G j = 0) (ba : ∀ j, j < 6 → -M ≤ a j ∧ a j ≤ M) (bb : ∀ j, j < 6 → -M ≤ b j ∧ b j ≤ M) (h1 : Dv (il G 6) (il a 6)) (h2 : Dv (il G 6) (il b 6)) : ((Nat.gcd (a da).natAbs (b db).natAbs : Nat) : Int) ≠ 0 ∧ ((Nat.gcd (a da).natAbs (b db).natAbs : Nat) : Int) ≤ M ∧ ∀ k, k < 6 → ∃ q, ((Nat.gcd (a da).natAbs (b db).natAbs : Nat) : Int) * G k = G dt * q ∧ (q.natAbs : Int) ≤ M * (49 * M) := by
  obtain ⟨D, hD⟩ := PrimOf.ex (A := G) ⟨dt, hdt.1, hdt.2.1⟩
  rcases hD with ⟨p1, _⟩ | ⟨c, hc, p1, p2, k0, k1, k2, k3⟩
  · exact absurd (p1 dt hdt.1) hdt.2.1
  have v1 := dv_scale hc p1 h1
  have v2 := dv_scale hc p1 h2
  obtain ⟨⟨C1, e1⟩, s1⟩ := prim_small hM ⟨da, hda.1, hda.2.1⟩ ba p2 v1
  obtain ⟨⟨C2, e2⟩, _⟩ := prim_small hM ⟨db, hdb.1, hdb.2.1⟩ bb p2 v2
  have hDz : ∀ j, dt < j → j < 6 → D j = 0 := fun j h3 h4 => by
    have := p1 j h4
    rw [hdt.2.2 j h3 h4] at this
    rcases Int.mul_eq_zero.mp this.symm with h | h
    · exact absurd h hc
    · exact h
  have hD0 : D dt ≠ 0 := fun h => hdt.2.1 (by rw [p1 dt hdt.1, h, Int.mul_zero])
  obtain ⟨q1, f1⟩ := lead_mul e1 hda.1 hda.2.1 hda.2.2 hdt.1 hD0 hDz
  obtain ⟨q2, f2⟩ := lead_mul e2 hdb.1 hdb.2.1 hdb.2.2 hdt.1 hD0 hDz
  have g0 : 0 < Nat.gcd (a da).natAbs (b db).natAbs := Nat.gcd_pos_of_pos_left _ (by have := hda.2.1; omega)
  have gle : Nat.gcd (a da).natAbs (b db).natAbs ≤ (a da).natAbs := Nat.gcd_le_left _ (by have := hda.2.1; omega)
  have gM : ((Nat.gcd (a da).natAbs (b db).natAbs : Nat) : Int) ≤ M := by have := ba da hda.1; omega
  have dv : D dt ∣ ((Nat.gcd (a da).natAbs (b db).natAbs : Nat) : Int) := by
    have n1 : (D dt).natAbs ∣ (a da).natAbs := Int.natAbs_dvd_natAbs.mpr ⟨q1, by rw [f1, Int.mul_comm]⟩
    have n2 : (D dt).natAbs ∣ (b db).natAbs := Int.natAbs_dvd_natAbs.mpr ⟨q2, by rw [f2, Int.mul_comm]⟩
    exact Int.natAbs_dvd.mp (Int.natCast_dvd_natCast.mpr (Nat.dvd_gcd n1 n2))
  obtain ⟨e, he⟩ := dv
  refine ⟨by omega, gM, fun k hk => ⟨e * D k, ?_, ?_⟩⟩
  · rw [he, p1 k hk, p1 dt hdt.1]
    grind
  · rw [Int.natAbs_mul, Int.natCast_mul]
    have b1 := s1 k hk
    have b2 : (e.natAbs : Int) ≤ M := by
      have h3 : (((Nat.gcd (a da).natAbs (b db).natAbs : Nat) : Int)).natAbs = (D dt).natAbs * e.natAbs := by rw [he, Int.natAbs_mul]
      rw [Int.natAbs_natCast] at h3
      have h4 : 1 ≤ (D dt).natAbs := by omega
      have h5 : e.natAbs ≤ (D dt).natAbs * e.natAbs := Nat.le_mul_of_pos_left _ h4
      omega
    exact Int.mul_le_mul b2 (by omega) (by omega) hM
theorem over_eq {za zb q : Int} (hb : zb ≠ 0) (h : za = zb * q) (hq : (q.natAbs : Int) < 4611686018427387904) : za.sign * zb.sign * (((za / zb).natAbs : Int) % 4611686018427387904) = q := by
  have e : za / zb = q := by rw [h]; exact Int.mul_ediv_cancel_left _ hb
  rw [e, Int.emod_eq_of_lt (by omega) hq, h, Int.sign_mul]
  have h1 : zb.sign * zb.sign = 1 := by rcases sign_nz hb with h2 | h2 <;> rw [h2] <;> rfl
  have h2 : zb.sign * q.sign * zb.sign * (q.natAbs : Int) = (zb.sign * zb.sign) * (q.sign * (q.natAbs : Int)) := by grind
  rw [h2, h1, Int.one_mul, Int.sign_mul_natAbs]
