/-! the law's first state -/
def posm (k : Nat) : Nat := if k < 4 then k else if k = 4 then 14 else k - 1
theorem zeros_ok : RS (fun _ => 0) (fun _ => 0) (fun _ => 0) (fun _ => 0) ∧ LaidAll (fun _ => 0) (fun _ => 0) (fun _ => 0) (fun _ => 0) (fun _ => 0) := ⟨fun w _ => ⟨Int.le_refl _, show (0 : Int) ≤ 64 by decide, fun j hj => absurd hj (Nat.not_lt_zero _), fun h => absurd (show (0 : Int) < 0 from h) (by decide), rfl, rfl⟩, fun q _ h => absurd rfl h, fun q _ => ⟨show (0 : Int) ≤ 0 by decide, show (0 : Int) ≤ 1 by decide⟩, fun q _ => ⟨show (-10 : Int) ≤ 0 by decide, show (0 : Int) ≤ 10 by decide⟩⟩
theorem law_first {cs : Nat → ClassId} {g4 g12 f : Nat → va_E} {x y o : Nat} {b4 b12 L : List Nat} (h4 : RRAt cs g4 x b4) (h12 : MoAt cs g12 y 0 0 0 0 0 b12) (hL : L = (x :: b4) ++ (y :: b12 ++ [o])) (hnd : L.Nodup) (hfr : ∀ r ∈ x :: b4, g12 r = g4 r) (hf : f = mw g12 [(o, .inl (cs 1, 1, .inr (.inl (al (fun _ => 0)))))]) : ∃ ad Qm M : Nat → Nat, AdOk L ad Qm ∧ MdOk L ad M ∧ ad 0 = x ∧ M 0 = y ∧ M 4 = o ∧ LI cs ad Qm M f := by
  have hnd2 := hnd
  rw [hL, List.nodup_append] at hnd2
  obtain ⟨n1, n2, n3⟩ := hnd2
  obtain ⟨ad, Qm, I, hAd, had0, hI, hC⟩ := rr_first h4 n1
  obtain ⟨m1, m2, m3, m5, m6, m7, m8, m9, m10, m11, m12, m13, m15, hb12, ey, e1, e2, e3, e5, e6, e7, e8, e9, e10, e11, e12, e13, e15⟩ := h12
  obtain ⟨L2, hL2⟩ : ∃ L2, L2 = y :: b12 ++ [o] := ⟨_, rfl⟩
  rw [← hL2] at n2 n3 hL
  have hL2' : L2 = [y, m1, m2, m3, m5, m6, m7, m8, m9, m10, m11, m12, m13, m15, o] := by rw [hL2, hb12]; rfl
  obtain ⟨M, hM⟩ : ∃ M : Nat → Nat, ∀ k, M k = (L2[posm k]?).getD 0 := ⟨_, fun _ => rfl⟩
  have lt : ∀ k, k < 15 → posm k < 15 := by decide
  have mem : ∀ k, k < 15 → L2[posm k]? = some (M k) := fun k hk => by
    have hlt : posm k < L2.length := by rw [hL2']; exact lt k hk
    rw [hM, List.getElem?_eq_getElem hlt]; rfl
  have at_ : ∀ k v, L2[posm k]? = some v → M k = v := fun k v hv => by rw [hM, hv]; rfl
  have inj : ∀ i j, i < 15 → j < 15 → M i = M j → i = j := fun i j hi hj e => by
    have q1 := mem i hi
    have q2 := mem j hj
    rw [e] at q1
    have := nd_inj n2 q1 q2
    revert i j
    intro i j hi hj e q1 q2 h
    unfold posm at h
    by_cases a1 : i < 4 <;> by_cases a2 : i = 4 <;> by_cases a3 : j < 4 <;> by_cases a4 : j = 4 <;> simp [a1, a2, a3, a4] at h <;> omega
  have inL2 : ∀ k, k < 15 → M k ∈ L2 := fun k hk => List.mem_of_getElem? (mem k hk)
  have awy : ∀ k, k < 15 → Awy ad (M k) := fun k hk j hj e => n3 (ad j) (hAd.1 j hj) (M k) (inL2 k hk) e.symm
  have p0 : M 0 = y := at_ 0 y (by rw [hL2']; rfl)
  have p1 : M 1 = m1 := at_ 1 m1 (by rw [hL2']; rfl)
  have p2 : M 2 = m2 := at_ 2 m2 (by rw [hL2']; rfl)
  have p3 : M 3 = m3 := at_ 3 m3 (by rw [hL2']; rfl)
  have p4 : M 4 = o := at_ 4 o (by rw [hL2']; rfl)
  have p5 : M 5 = m5 := at_ 5 m5 (by rw [hL2']; rfl)
  have p6 : M 6 = m6 := at_ 6 m6 (by rw [hL2']; rfl)
  have p7 : M 7 = m7 := at_ 7 m7 (by rw [hL2']; rfl)
  have p8 : M 8 = m8 := at_ 8 m8 (by rw [hL2']; rfl)
  have p9 : M 9 = m9 := at_ 9 m9 (by rw [hL2']; rfl)
  have p10 : M 10 = m10 := at_ 10 m10 (by rw [hL2']; rfl)
  have p11 : M 11 = m11 := at_ 11 m11 (by rw [hL2']; rfl)
  have p12 : M 12 = m12 := at_ 12 m12 (by rw [hL2']; rfl)
  have p13 : M 13 = m13 := at_ 13 m13 (by rw [hL2']; rfl)
  have p14 : M 14 = m15 := at_ 14 m15 (by rw [hL2']; rfl)
  have hAd2 : AdOk L ad Qm := ⟨fun k hk => by rw [hL]; exact List.mem_append_left _ (hAd.1 k hk), hAd.2.1, hAd.2.2⟩
  have hMd : MdOk L ad M := ⟨fun k hk => by rw [hL]; exact List.mem_append_right _ (inL2 k hk), inj, awy⟩
  have ne4 : ∀ k, k < 15 → k ≠ 4 → M k ≠ o := fun k hk h4 e => h4 (inj k 4 hk (by decide) (by rw [e, p4]))
  have fo : ∀ r, r ≠ o → f r = g12 r := fun r hr => by rw [hf]; exact mw_out (by simp only [List.map_cons, List.map_nil, List.mem_cons, List.not_mem_nil, or_false]; exact hr)
  have fm : ∀ k, k < 15 → k ≠ 4 → f (M k) = g12 (M k) := fun k hk h4 => fo _ (ne4 k hk h4)
  refine ⟨ad, Qm, M, hAd2, hMd, had0, p0, p4, I, (fun _ _ => 0), (fun t => ad (183 + t)), (fun _ => 0), 0, (fun _ => 0), (fun _ => 0), (fun _ => 0), (fun _ => 0), (fun _ => 0), (fun _ => 0), ?_, ?_, ?_, ?_, ?_⟩
  · refine hC.frame hAd (fun k hk => ?_)
    rw [fo _ (fun e => awy 4 (by decide) k hk (by rw [p4]; exact e.symm))]
    exact hfr _ (hAd.1 k hk)
  · exact ⟨⟨by rw [hI 0 (by decide)]; decide, fun p _ j _ => ⟨show (-1000 : Int) ≤ 0 by decide, show (0 : Int) ≤ 1000 by decide⟩, fun p hp => Or.inl (hI _ (by omega))⟩, Or.inl (hI 2 (by decide))⟩
  · rw [hI 0 (by decide)]
    refine ⟨0, 0, 0, (fun _ => 0), (fun _ => 0), (fun _ => 0), (fun _ => 0), (fun _ => 0), (fun _ => 0), (fun _ => 0), (fun _ => 0), (fun _ => 0), ?_, zeros_ok.1, zeros_ok.2, fun j _ => ⟨show (-1000 : Int) ≤ 0 by decide, show (0 : Int) ≤ 1000 by decide⟩, by decide, by decide⟩
    refine ⟨?_, ?_, ?_, ?_, ?_, ?_, ?_, ?_, ?_, ?_, ?_, ?_, ?_, ?_⟩
    · rw [fm 0 (by decide) (by decide)]; unfold MOb; rw [p0, p1, p2, p3, p5, p6, p7, p8, p9, p10, p11, p12, p13, p14]; exact ey
    · rw [fm 1 (by decide) (by decide), p1]; exact e1
    · rw [fm 2 (by decide) (by decide), p2]; exact e2
    · rw [fm 3 (by decide) (by decide), p3]; exact e3
    · rw [fm 5 (by decide) (by decide), p5]; exact e5
    · rw [fm 6 (by decide) (by decide), p6]; exact e6
    · rw [fm 7 (by decide) (by decide), p7]; exact e7
    · rw [fm 8 (by decide) (by decide), p8]; exact e8
    · rw [fm 9 (by decide) (by decide), p9]; exact e9
    · rw [fm 10 (by decide) (by decide), p10]; exact e10
    · rw [fm 11 (by decide) (by decide), p11]; exact e11
    · rw [fm 12 (by decide) (by decide), p12]; exact e12
    · rw [fm 13 (by decide) (by decide), p13]; exact e13
    · rw [fm 14 (by decide) (by decide), p14]; exact e15
  · rw [p4, hf]; exact mw_get (X := [(o, .inl (cs 1, 1, .inr (.inl (al (fun _ => 0)))))]) (k := 0) (by simp) rfl
  · intro q hq
    rw [hI 0 (by decide)] at hq
    omega
