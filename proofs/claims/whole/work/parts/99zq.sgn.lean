/-! sign: what the places tell -/
theorem Kp.trans {I I' I2 : Nat → Int} {A A' A2 : Nat → Nat → Int} (h : Kp I A I' A') (h2 : Kp I' A' I2 A2) : Kp I A I2 A2 := ⟨fun i hi => (h2.1 i hi).trans (h.1 i hi), fun q hq => (h2.2 q hq).trans (h.2 q hq)⟩
theorem Kp.rfl' (I : Nat → Int) (A : Nat → Nat → Int) : Kp I A I A := ⟨fun _ _ => rfl, fun _ _ => rfl⟩
theorem Inv.crv {I : Nat → Int} {A : Nat → Nat → Int} {p : Nat} (h : Inv I A) (hp : p < 12) (hs : I (20 + p) = 1) : ∃ nm N dp v, Crv I A p nm N dp v := by
  rcases h.1.2.2 p hp with g | ⟨_, g⟩
  · omega
  · exact g.crv
theorem Inv.dep {I : Nat → Int} {A : Nat → Nat → Int} {p i : Nat} (h : Inv I A) (hp : p < 12) (hs : I (20 + p) = 1) (hi : (i : Int) < I (40 + p)) : 0 ≤ I (200 + (5 * p + i)) ∧ I (200 + (5 * p + i)) ≤ 248 := by
  obtain ⟨nm, N, dp, v, hc⟩ := h.crv hp hs
  have e := hc.2.2.1
  have g := hc.2.2.2.2.2.2.1 i (by omega)
  have g2 := g.2.1.1
  rw [g.1]
  omega
theorem NB.rng {p1 F : Nat → Int} {N : Rat → Int} {nm : Int} (hP : Part p1 F) (hN : NB F N) (hnm : N 2048 = nm) (x : Rat) : 0 ≤ N x ∧ N x ≤ nm := by
  have hF := hP.2.2.1
  obtain ⟨o1, o2⟩ := NB.out hP hN
  constructor
  · by_cases c : x ≤ -1001
    · rw [o1 x c]; omega
    · have h1 := hN.mono hF (show -1001 ≤ x by grind)
      rw [o1 (-1001) (by grind)] at h1
      exact h1
  · by_cases c : x ≤ 2048
    · have := hN.mono hF c
      omega
    · have h2 := o2 x 2048 (by grind) (by grind)
      omega
theorem no_root {p1 F : Nat → Int} {N : Rat → Int} {nm d : Nat} {cc : Nat → Int} {z : Int} (hP : Part p1 F) (hN : NB F N) (hnm : N 2048 = (nm : Int)) (hc : ∀ i : Nat, i < nm → Cell N (i : Int) (cc i) 256) (hd : d ≤ 256) (h : ∀ j : Nat, j < nm → z / 2 ^ (256 - d) ≠ cc j / 2 ^ (256 - d)) : N (Pt (z / 2 ^ (256 - d)) d) = N (Pt (z / 2 ^ (256 - d) + 1) d) := by
  have hF := hP.2.2.1
  generalize z / 2 ^ (256 - d) = v at *
  have m := hN.mono hF (x := Pt v d) (y := Pt (v + 1) d) (Pt_le (by omega))
  refine Classical.byContradiction (fun hne => ?_)
  have r1 := NB.rng hP hN hnm (Pt v d)
  have r2 := NB.rng hP hN hnm (Pt (v + 1) d)
  obtain ⟨i, hi⟩ : ∃ i : Nat, N (Pt v d) = (i : Int) := ⟨(N (Pt v d)).toNat, by omega⟩
  have h1 : Cell N (i : Int) (cc i / 2 ^ (256 - d)) d := Cell.down hN hF (by rw [show d + (256 - d) = 256 by omega]; exact hc i (by omega))
  have h2 := h i (by omega)
  generalize cc i / 2 ^ (256 - d) = c at *
  rcases Int.lt_trichotomy v c with q | q | q
  · have := hN.mono hF (x := Pt (v + 1) d) (y := Pt c d) (Pt_le (by omega))
    have := h1.2.1
    omega
  · exact h2 q
  · have := hN.mono hF (x := Pt (c + 1) d) (y := Pt v d) (Pt_le (by omega))
    have := h1.2.2
    omega
theorem jump_deg {F : Nat → Int} {N : Rat → Int} {x y : Rat} (hF : Sqf F) (hN : NB F N) (hxy : x < y) (h : N y = N x + 1) : ∃ j, 1 ≤ j ∧ j < 6 ∧ F j ≠ 0 := by
  refine Classical.byContradiction (fun h9 => ?_)
  have hz : ∀ j, 1 ≤ j → j < 6 → F j = 0 := fun j h1 h2 => Classical.byContradiction (fun h3 => h9 ⟨j, h1, h2, h3⟩)
  have e : ∀ t, es F 6 t = es F 1 t := fun t => es_more t 6 (by omega) (fun j h1 h2 => hz j h1 h2)
  have e1 : ∀ t, es F 6 t = (F 0 : Rat) := fun t => by rw [e t, es_front]; simp only [es]; grind
  have h0 : (F 0 : Rat) ≠ 0 := fun h0 => by
    obtain ⟨j, hj, hn⟩ := hF.1
    exact hn (es_row (n := 6) (fun t => by rw [e1 t, h0]) j hj)
  have := (hN.par hF hxy (by rw [e1]; exact sg_ne h0) (by rw [e1]; exact sg_ne h0)).mp (by rw [e1, e1])
  omega
theorem has_cell {p1 F : Nat → Int} {N : Rat → Int} {i z : Int} (hP : Part p1 F) (hN : NB F N) (hz : Cell N i z 256) : HasP F z := by
  have hF := hP.2.2.1
  have hj : N (Pt z 256) < N (Pt (z + 1) 256) := Int.lt_of_le_of_lt hz.2.1 hz.2.2
  obtain ⟨h1, h2⟩ := cell_one hP hN (show 248 ≤ 256 by omega) hj
  have hlt : Pt z 256 < Pt (z + 1) 256 := Pt_lt (by omega)
  refine ⟨jump_deg hF hN hlt h1, ?_⟩
  by_cases c : sg (es F 6 (Pt z 256)) = 0
  · exact Or.inl c
  · refine Or.inr ⟨sg_ne h2, fun e => ?_⟩
    have := (hN.par hF hlt c (sg_ne h2)).mp e
    omega
theorem sign_far {V p1 F : Nat → Int} {N : Rat → Int} {nm d : Nat} {cc : Nat → Int} {z : Int} (hV : Nz V) (hf : FreeOf V F) (hP : Part p1 F) (hN : NB F N) (hnm : N 2048 = (nm : Int)) (hc : ∀ i : Nat, i < nm → Cell N (i : Int) (cc i) 256) (hd : d ≤ 256) (h : ∀ j : Nat, j < nm → z / 2 ^ (256 - d) ≠ cc j / 2 ^ (256 - d)) : ¬ HasP F z ∧ sg (es V 6 (Pt (z / 2 ^ (256 - d)) d)) = sg (es V 6 (Pt z 256)) := by
  have hF := hP.2.2.1
  have e := no_root hP hN hnm hc hd h
  obtain ⟨f1, f2⟩ := Pt_floor z d (256 - d)
  rw [show d + (256 - d) = 256 by omega] at f1 f2
  have hlt : Pt z 256 < Pt (z + 1) 256 := Pt_lt (by omega)
  have m1 := hN.mono hF f1
  have m2 := hN.mono hF (Rat.le_of_lt hlt)
  have m3 := hN.mono hF f2
  have a1 : es F 6 (Pt (z / 2 ^ (256 - d)) d) ≠ 0 := fun h0 => by
    have := hN.zero hF (Pt_lt (b := d) (show z / 2 ^ (256 - d) < z / 2 ^ (256 - d) + 1 by omega)) h0
    omega
  have a2 : es F 6 (Pt z 256) ≠ 0 := fun h0 => by
    have := hN.zero hF hlt h0
    omega
  refine ⟨fun hh => ?_, sg_keep hV hf hF hN f1 (by omega) a1 a2⟩
  rcases hh.2 with g | ⟨g1, g2⟩
  · exact a2 (sg_eq0 g)
  · exact g2 ((hN.par hF hlt (sg_ne a2) g1).mpr (by omega))
