/-! the class's cells: 305 places, ad tells the address of each; ints I, rows A, references R, numbers Zf (written by wip/whole/cst.py) -/
def AdOk (L : List Nat) (ad Qm : Nat → Nat) : Prop := (∀ k, k < 305 → ad k ∈ L) ∧ (∀ i j, i < 305 → j < 305 → ad i = ad j → i = j) ∧ ∀ b, b < 61 → Qm (ad (183 + b)) = ad (244 + b)
def Bg (ad : Nat → Nat) (a : Nat) : Prop := ∃ b, b < 61 ∧ a = ad (183 + b)
def Ckk (ad : Nat → Nat) (a : Nat) : Prop := ∃ b, b < 44 ∧ a = ad (183 + b)
def Wkk (ad : Nat → Nat) (a : Nat) : Prop := ∃ b, 52 ≤ b ∧ b < 56 ∧ a = ad (183 + b)
def Awy (ad : Nat → Nat) (k : Nat) : Prop := ∀ j, j < 305 → k ≠ ad j
def Rok (ad R : Nat → Nat) : Prop := CI (Ckk ad) R (R 42) (ad 226) ∧ (Wkk ad (R 52) ∧ Wkk ad (R 53) ∧ Wkk ad (R 54) ∧ Wkk ad (R 55)) ∧ Ne4 (R 52) (R 53) (R 54) (R 55)
def CE (cs : Nat → ClassId) (ad : Nat → Nat) (I : Nat → Int) (A : Nat → Nat → Int) (R : Nat → Nat) (k : Nat) : va_E :=
  if k = 0 then .inr (6, [.ref (ad 1), .int (iI (I 0)), .ref (ad 2), .ref (ad 5), .ref (ad 7), .ref (ad 8), .ref (ad 9), .ref (ad 10), .ref (ad 11), .ref (ad 12), .ref (ad 13), .ref (ad 14), .int (iI (I 1)), .int (iI (I 2))]) else
  if k = 1 then .inl (cs 4, 12, .inr (.inr (.inr (.inr (rfs 12 (fun p => ad (15 + p))))))) else
  if k = 2 then .inr (1, [.ref (ad 3), .ref (ad 4), .int (iI (I 3)), .int (iI (I 4)), .int (iI (I 5)), .ref (R 42), .ref (ad 226)]) else
  if k = 3 then .inr (0, []) else
  if k = 4 then .inl (cs 0, 7, .inl (ai (A 7))) else
  if k = 5 then .inr (5, [.ref (ad 227), .ref (ad 228), .ref (ad 6), .int (iI (I 6)), .ref (R 52), .ref (R 53), .ref (R 54), .ref (R 55)]) else
  if k = 6 then .inl (cs 3, 6, .inr (.inr (.inr (.inr (rfs 6 (fun j => ad (229 + j))))))) else
  if k = 7 then .inr (4, [.ref (ad 239), .ref (ad 240), .long (lI (I 7)), .long (lI (I 8)), .ref (ad 241), .ref (ad 242), .ref (ad 243)]) else
  if k = 8 then .inl (cs 1, 12, .inr (.inl (al (A 0)))) else
  if k = 9 then .inl (cs 0, 6, .inl (ai (A 1))) else
  if k = 10 then .inl (cs 0, 6, .inl (ai (A 2))) else
  if k = 11 then .inl (cs 0, 5, .inl (ai (A 3))) else
  if k = 12 then .inl (cs 0, 5, .inl (ai (A 4))) else
  if k = 13 then .inl (cs 0, 60, .inl (ai (A 5))) else
  if k = 14 then .inl (cs 0, 60, .inl (ai (A 6))) else
  if k < 27 then .inr (2, [.ref (ad (27 + (k - 15))), .ref (ad (39 + (k - 15))), .ref (ad (51 + (k - 15))), .int (iI (I (20 + (k - 15)))), .int (iI (I (40 + (k - 15))))]) else
  if k < 39 then .inl (cs 0, 6, .inl (ai (A (20 + (k - 27))))) else
  if k < 51 then .inl (cs 0, 6, .inl (ai (A (40 + (k - 39))))) else
  if k < 63 then .inl (cs 5, 5, .inr (.inr (.inr (.inr (rfs 5 (fun i => ad (63 + (5 * (k - 51) + i)))))))) else
  if k < 123 then .inr (3, [.int (iI (I (100 + (k - 63)))), .int (iI (I (200 + (k - 63)))), .ref (ad (123 + (k - 63)))]) else
  .inl (cs 0, 8, .inl (ai (A (100 + (k - 123)))))
theorem CE_x (cs : Nat → ClassId) (ad : Nat → Nat) (I : Nat → Int) (A : Nat → Nat → Int) (R : Nat → Nat) : CE cs ad I A R (0) = .inr (6, [.ref (ad 1), .int (iI (I 0)), .ref (ad 2), .ref (ad 5), .ref (ad 7), .ref (ad 8), .ref (ad 9), .ref (ad 10), .ref (ad 11), .ref (ad 12), .ref (ad 13), .ref (ad 14), .int (iI (I 1)), .int (iI (I 2))]) := by
  rfl
theorem CE_c0 (cs : Nat → ClassId) (ad : Nat → Nat) (I : Nat → Int) (A : Nat → Nat → Int) (R : Nat → Nat) : CE cs ad I A R (1) = .inl (cs 4, 12, .inr (.inr (.inr (.inr (rfs 12 (fun p => ad (15 + p))))))) := by
  rfl
theorem CE_ch (cs : Nat → ClassId) (ad : Nat → Nat) (I : Nat → Int) (A : Nat → Nat → Int) (R : Nat → Nat) : CE cs ad I A R (2) = .inr (1, [.ref (ad 3), .ref (ad 4), .int (iI (I 3)), .int (iI (I 4)), .int (iI (I 5)), .ref (R 42), .ref (ad 226)]) := by
  rfl
theorem CE_tq (cs : Nat → ClassId) (ad : Nat → Nat) (I : Nat → Int) (A : Nat → Nat → Int) (R : Nat → Nat) : CE cs ad I A R (4) = .inl (cs 0, 7, .inl (ai (A 7))) := by
  rfl
theorem CE_sp (cs : Nat → ClassId) (ad : Nat → Nat) (I : Nat → Int) (A : Nat → Nat → Int) (R : Nat → Nat) : CE cs ad I A R (5) = .inr (5, [.ref (ad 227), .ref (ad 228), .ref (ad 6), .int (iI (I 6)), .ref (R 52), .ref (R 53), .ref (R 54), .ref (R 55)]) := by
  rfl
theorem CE_gs (cs : Nat → ClassId) (ad : Nat → Nat) (I : Nat → Int) (A : Nat → Nat → Int) (R : Nat → Nat) : CE cs ad I A R (6) = .inl (cs 3, 6, .inr (.inr (.inr (.inr (rfs 6 (fun j => ad (229 + j))))))) := by
  rfl
theorem CE_ra (cs : Nat → ClassId) (ad : Nat → Nat) (I : Nat → Int) (A : Nat → Nat → Int) (R : Nat → Nat) : CE cs ad I A R (7) = .inr (4, [.ref (ad 239), .ref (ad 240), .long (lI (I 7)), .long (lI (I 8)), .ref (ad 241), .ref (ad 242), .ref (ad 243)]) := by
  rfl
theorem CE_wide (cs : Nat → ClassId) (ad : Nat → Nat) (I : Nat → Int) (A : Nat → Nat → Int) (R : Nat → Nat) : CE cs ad I A R (8) = .inl (cs 1, 12, .inr (.inl (al (A 0)))) := by
  rfl
theorem CE_slope (cs : Nat → ClassId) (ad : Nat → Nat) (I : Nat → Int) (A : Nat → Nat → Int) (R : Nat → Nat) : CE cs ad I A R (9) = .inl (cs 0, 6, .inl (ai (A 1))) := by
  rfl
theorem CE_shared (cs : Nat → ClassId) (ad : Nat → Nat) (I : Nat → Int) (A : Nat → Nat → Int) (R : Nat → Nat) : CE cs ad I A R (10) = .inl (cs 0, 6, .inl (ai (A 2))) := by
  rfl
theorem CE_low (cs : Nat → ClassId) (ad : Nat → Nat) (I : Nat → Int) (A : Nat → Nat → Int) (R : Nat → Nat) : CE cs ad I A R (11) = .inl (cs 0, 5, .inl (ai (A 3))) := by
  rfl
theorem CE_high (cs : Nat → ClassId) (ad : Nat → Nat) (I : Nat → Int) (A : Nat → Nat → Int) (R : Nat → Nat) : CE cs ad I A R (12) = .inl (cs 0, 5, .inl (ai (A 4))) := by
  rfl
theorem CE_line (cs : Nat → ClassId) (ad : Nat → Nat) (I : Nat → Int) (A : Nat → Nat → Int) (R : Nat → Nat) : CE cs ad I A R (13) = .inl (cs 0, 60, .inl (ai (A 5))) := by
  rfl
theorem CE_stf (cs : Nat → ClassId) (ad : Nat → Nat) (I : Nat → Int) (A : Nat → Nat → Int) (R : Nat → Nat) : CE cs ad I A R (14) = .inl (cs 0, 60, .inl (ai (A 6))) := by
  rfl
theorem CE_cu (cs : Nat → ClassId) (ad : Nat → Nat) (I : Nat → Int) (A : Nat → Nat → Int) (R : Nat → Nat) {p : Nat} (hp : p < 12) : CE cs ad I A R (15 + p) = .inr (2, [.ref (ad (27 + p)), .ref (ad (39 + p)), .ref (ad (51 + p)), .int (iI (I (20 + p))), .int (iI (I (40 + p)))]) := by
  unfold CE
  rw [if_neg (by omega), if_neg (by omega), if_neg (by omega), if_neg (by omega), if_neg (by omega), if_neg (by omega), if_neg (by omega), if_neg (by omega), if_neg (by omega), if_neg (by omega), if_neg (by omega), if_neg (by omega), if_neg (by omega), if_neg (by omega), if_neg (by omega), if_pos (by omega), show 15 + p - 15 = p by omega]
theorem CE_va (cs : Nat → ClassId) (ad : Nat → Nat) (I : Nat → Int) (A : Nat → Nat → Int) (R : Nat → Nat) {p : Nat} (hp : p < 12) : CE cs ad I A R (27 + p) = .inl (cs 0, 6, .inl (ai (A (20 + p)))) := by
  unfold CE
  rw [if_neg (by omega), if_neg (by omega), if_neg (by omega), if_neg (by omega), if_neg (by omega), if_neg (by omega), if_neg (by omega), if_neg (by omega), if_neg (by omega), if_neg (by omega), if_neg (by omega), if_neg (by omega), if_neg (by omega), if_neg (by omega), if_neg (by omega), if_neg (by omega), if_pos (by omega), show 27 + p - 27 = p by omega]
theorem CE_fr (cs : Nat → ClassId) (ad : Nat → Nat) (I : Nat → Int) (A : Nat → Nat → Int) (R : Nat → Nat) {p : Nat} (hp : p < 12) : CE cs ad I A R (39 + p) = .inl (cs 0, 6, .inl (ai (A (40 + p)))) := by
  unfold CE
  rw [if_neg (by omega), if_neg (by omega), if_neg (by omega), if_neg (by omega), if_neg (by omega), if_neg (by omega), if_neg (by omega), if_neg (by omega), if_neg (by omega), if_neg (by omega), if_neg (by omega), if_neg (by omega), if_neg (by omega), if_neg (by omega), if_neg (by omega), if_neg (by omega), if_neg (by omega), if_pos (by omega), show 39 + p - 39 = p by omega]
theorem CE_pa (cs : Nat → ClassId) (ad : Nat → Nat) (I : Nat → Int) (A : Nat → Nat → Int) (R : Nat → Nat) {p : Nat} (hp : p < 12) : CE cs ad I A R (51 + p) = .inl (cs 5, 5, .inr (.inr (.inr (.inr (rfs 5 (fun i => ad (63 + (5 * p + i)))))))) := by
  unfold CE
  rw [if_neg (by omega), if_neg (by omega), if_neg (by omega), if_neg (by omega), if_neg (by omega), if_neg (by omega), if_neg (by omega), if_neg (by omega), if_neg (by omega), if_neg (by omega), if_neg (by omega), if_neg (by omega), if_neg (by omega), if_neg (by omega), if_neg (by omega), if_neg (by omega), if_neg (by omega), if_neg (by omega), if_pos (by omega), show 51 + p - 51 = p by omega]
theorem CE_pl (cs : Nat → ClassId) (ad : Nat → Nat) (I : Nat → Int) (A : Nat → Nat → Int) (R : Nat → Nat) {m : Nat} (hm : m < 60) : CE cs ad I A R (63 + m) = .inr (3, [.int (iI (I (100 + m))), .int (iI (I (200 + m))), .ref (ad (123 + m))]) := by
  unfold CE
  rw [if_neg (by omega), if_neg (by omega), if_neg (by omega), if_neg (by omega), if_neg (by omega), if_neg (by omega), if_neg (by omega), if_neg (by omega), if_neg (by omega), if_neg (by omega), if_neg (by omega), if_neg (by omega), if_neg (by omega), if_neg (by omega), if_neg (by omega), if_neg (by omega), if_neg (by omega), if_neg (by omega), if_neg (by omega), if_pos (by omega), show 63 + m - 63 = m by omega]
theorem CE_wq (cs : Nat → ClassId) (ad : Nat → Nat) (I : Nat → Int) (A : Nat → Nat → Int) (R : Nat → Nat) {m : Nat} (hm : m < 60) : CE cs ad I A R (123 + m) = .inl (cs 0, 8, .inl (ai (A (100 + m)))) := by
  unfold CE
  rw [if_neg (by omega), if_neg (by omega), if_neg (by omega), if_neg (by omega), if_neg (by omega), if_neg (by omega), if_neg (by omega), if_neg (by omega), if_neg (by omega), if_neg (by omega), if_neg (by omega), if_neg (by omega), if_neg (by omega), if_neg (by omega), if_neg (by omega), if_neg (by omega), if_neg (by omega), if_neg (by omega), if_neg (by omega), if_neg (by omega), show 123 + m - 123 = m by omega]
def depI (k i : Nat) : Prop := (k = 0 ∧ i < 3) ∨ (k = 2 ∧ 3 ≤ i ∧ i < 6) ∨ (k = 5 ∧ i = 6) ∨ (k = 7 ∧ 7 ≤ i ∧ i < 9) ∨ (15 ≤ k ∧ k < 27 ∧ (i = k + 5 ∨ i = k + 25)) ∨ (63 ≤ k ∧ k < 123 ∧ (i = k + 37 ∨ i = k + 137))
def depA (k q : Nat) : Prop := (8 ≤ k ∧ k < 15 ∧ q = k - 8) ∨ (k = 4 ∧ q = 7) ∨ (27 ≤ k ∧ k < 39 ∧ q = k - 7) ∨ (39 ≤ k ∧ k < 51 ∧ q = k + 1) ∨ (123 ≤ k ∧ k < 183 ∧ q = k - 23)
def depR (k t : Nat) : Prop := (k = 2 ∧ t = 42) ∨ (k = 5 ∧ 52 ≤ t ∧ t < 56)
theorem CE_keep (cs : Nat → ClassId) (ad : Nat → Nat) {I I' : Nat → Int} {A A' : Nat → Nat → Int} {R R' : Nat → Nat} {k : Nat} (hk : k < 183) (hI : ∀ i, depI k i → I' i = I i) (hA : ∀ q, depA k q → A' q = A q) (hR : ∀ t, depR k t → R' t = R t) : CE cs ad I' A' R' k = CE cs ad I A R k := by
  by_cases h15 : k < 15
  · rcases (show k = 0 ∨ k = 1 ∨ k = 2 ∨ k = 3 ∨ k = 4 ∨ k = 5 ∨ k = 6 ∨ k = 7 ∨ k = 8 ∨ k = 9 ∨ k = 10 ∨ k = 11 ∨ k = 12 ∨ k = 13 ∨ k = 14 by omega) with rfl | rfl | rfl | rfl | rfl | rfl | rfl | rfl | rfl | rfl | rfl | rfl | rfl | rfl | rfl
    · rw [CE_x, CE_x, hI 0 (by unfold depI; omega), hI 1 (by unfold depI; omega), hI 2 (by unfold depI; omega)]
    · rfl
    · rw [CE_ch, CE_ch, hI 3 (by unfold depI; omega), hI 4 (by unfold depI; omega), hI 5 (by unfold depI; omega), hR 42 (by unfold depR; omega)]
    · rfl
    · rw [CE_tq, CE_tq, hA 7 (by unfold depA; omega)]
    · rw [CE_sp, CE_sp, hI 6 (by unfold depI; omega), hR 52 (by unfold depR; omega), hR 53 (by unfold depR; omega), hR 54 (by unfold depR; omega), hR 55 (by unfold depR; omega)]
    · rfl
    · rw [CE_ra, CE_ra, hI 7 (by unfold depI; omega), hI 8 (by unfold depI; omega)]
    · rw [CE_wide, CE_wide, hA 0 (by unfold depA; omega)]
    · rw [CE_slope, CE_slope, hA 1 (by unfold depA; omega)]
    · rw [CE_shared, CE_shared, hA 2 (by unfold depA; omega)]
    · rw [CE_low, CE_low, hA 3 (by unfold depA; omega)]
    · rw [CE_high, CE_high, hA 4 (by unfold depA; omega)]
    · rw [CE_line, CE_line, hA 5 (by unfold depA; omega)]
    · rw [CE_stf, CE_stf, hA 6 (by unfold depA; omega)]
  by_cases h27 : k < 27
  · obtain ⟨p, rfl⟩ : ∃ p, k = 15 + p := ⟨k - 15, by omega⟩
    rw [CE_cu cs ad _ _ _ (show p < 12 by omega), CE_cu cs ad _ _ _ (show p < 12 by omega), hI (20 + p) (by unfold depI; omega), hI (40 + p) (by unfold depI; omega)]
  by_cases h39 : k < 39
  · obtain ⟨p, rfl⟩ : ∃ p, k = 27 + p := ⟨k - 27, by omega⟩
    rw [CE_va cs ad _ _ _ (show p < 12 by omega), CE_va cs ad _ _ _ (show p < 12 by omega), hA (20 + p) (by unfold depA; omega)]
  by_cases h51 : k < 51
  · obtain ⟨p, rfl⟩ : ∃ p, k = 39 + p := ⟨k - 39, by omega⟩
    rw [CE_fr cs ad _ _ _ (show p < 12 by omega), CE_fr cs ad _ _ _ (show p < 12 by omega), hA (40 + p) (by unfold depA; omega)]
  by_cases h63 : k < 63
  · obtain ⟨p, rfl⟩ : ∃ p, k = 51 + p := ⟨k - 51, by omega⟩
    rw [CE_pa cs ad _ _ _ (show p < 12 by omega), CE_pa cs ad _ _ _ (show p < 12 by omega)]
  by_cases h123 : k < 123
  · obtain ⟨m, rfl⟩ : ∃ m, k = 63 + m := ⟨k - 63, by omega⟩
    rw [CE_pl cs ad _ _ _ (show m < 60 by omega), CE_pl cs ad _ _ _ (show m < 60 by omega), hI (100 + m) (by unfold depI; omega), hI (200 + m) (by unfold depI; omega)]
  · obtain ⟨m, rfl⟩ : ∃ m, k = 123 + m := ⟨k - 123, by omega⟩
    rw [CE_wq cs ad _ _ _ (show m < 60 by omega), CE_wq cs ad _ _ _ (show m < 60 by omega), hA (100 + m) (by unfold depA; omega)]
def CSt (cs : Nat → ClassId) (ad Qm : Nat → Nat) (f : Nat → va_E) (I : Nat → Int) (A : Nat → Nat → Int) (R : Nat → Nat) (Zf : Nat → Int) : Prop := (∀ k, k < 183 → k ≠ 3 → f (ad k) = CE cs ad I A R k) ∧ (∃ G : Nat → Option Nat, (∀ t, t < 42 → G t = some (R t)) ∧ f (ad 3) = .inl (cs 3, 42, .inr (.inr (.inr (.inr G))))) ∧ BH cs f (Bg ad) Qm Zf ∧ Rok ad R
theorem CSt.x {cs : Nat → ClassId} {ad Qm : Nat → Nat} {f : Nat → va_E} {I : Nat → Int} {A : Nat → Nat → Int} {R : Nat → Nat} {Zf : Nat → Int} (h : CSt cs ad Qm f I A R Zf) : f (ad 0) = .inr (6, [.ref (ad 1), .int (iI (I 0)), .ref (ad 2), .ref (ad 5), .ref (ad 7), .ref (ad 8), .ref (ad 9), .ref (ad 10), .ref (ad 11), .ref (ad 12), .ref (ad 13), .ref (ad 14), .int (iI (I 1)), .int (iI (I 2))]) := h.1 0 (by decide) (by decide)
theorem CSt.c0 {cs : Nat → ClassId} {ad Qm : Nat → Nat} {f : Nat → va_E} {I : Nat → Int} {A : Nat → Nat → Int} {R : Nat → Nat} {Zf : Nat → Int} (h : CSt cs ad Qm f I A R Zf) : f (ad 1) = .inl (cs 4, 12, .inr (.inr (.inr (.inr (rfs 12 (fun p => ad (15 + p))))))) := h.1 1 (by decide) (by decide)
theorem CSt.ch {cs : Nat → ClassId} {ad Qm : Nat → Nat} {f : Nat → va_E} {I : Nat → Int} {A : Nat → Nat → Int} {R : Nat → Nat} {Zf : Nat → Int} (h : CSt cs ad Qm f I A R Zf) : f (ad 2) = .inr (1, [.ref (ad 3), .ref (ad 4), .int (iI (I 3)), .int (iI (I 4)), .int (iI (I 5)), .ref (R 42), .ref (ad 226)]) := h.1 2 (by decide) (by decide)
theorem CSt.tq {cs : Nat → ClassId} {ad Qm : Nat → Nat} {f : Nat → va_E} {I : Nat → Int} {A : Nat → Nat → Int} {R : Nat → Nat} {Zf : Nat → Int} (h : CSt cs ad Qm f I A R Zf) : f (ad 4) = .inl (cs 0, 7, .inl (ai (A 7))) := h.1 4 (by decide) (by decide)
theorem CSt.sp {cs : Nat → ClassId} {ad Qm : Nat → Nat} {f : Nat → va_E} {I : Nat → Int} {A : Nat → Nat → Int} {R : Nat → Nat} {Zf : Nat → Int} (h : CSt cs ad Qm f I A R Zf) : f (ad 5) = .inr (5, [.ref (ad 227), .ref (ad 228), .ref (ad 6), .int (iI (I 6)), .ref (R 52), .ref (R 53), .ref (R 54), .ref (R 55)]) := h.1 5 (by decide) (by decide)
theorem CSt.gs {cs : Nat → ClassId} {ad Qm : Nat → Nat} {f : Nat → va_E} {I : Nat → Int} {A : Nat → Nat → Int} {R : Nat → Nat} {Zf : Nat → Int} (h : CSt cs ad Qm f I A R Zf) : f (ad 6) = .inl (cs 3, 6, .inr (.inr (.inr (.inr (rfs 6 (fun j => ad (229 + j))))))) := h.1 6 (by decide) (by decide)
theorem CSt.ra {cs : Nat → ClassId} {ad Qm : Nat → Nat} {f : Nat → va_E} {I : Nat → Int} {A : Nat → Nat → Int} {R : Nat → Nat} {Zf : Nat → Int} (h : CSt cs ad Qm f I A R Zf) : f (ad 7) = .inr (4, [.ref (ad 239), .ref (ad 240), .long (lI (I 7)), .long (lI (I 8)), .ref (ad 241), .ref (ad 242), .ref (ad 243)]) := h.1 7 (by decide) (by decide)
theorem CSt.wide {cs : Nat → ClassId} {ad Qm : Nat → Nat} {f : Nat → va_E} {I : Nat → Int} {A : Nat → Nat → Int} {R : Nat → Nat} {Zf : Nat → Int} (h : CSt cs ad Qm f I A R Zf) : f (ad 8) = .inl (cs 1, 12, .inr (.inl (al (A 0)))) := h.1 8 (by decide) (by decide)
theorem CSt.slope {cs : Nat → ClassId} {ad Qm : Nat → Nat} {f : Nat → va_E} {I : Nat → Int} {A : Nat → Nat → Int} {R : Nat → Nat} {Zf : Nat → Int} (h : CSt cs ad Qm f I A R Zf) : f (ad 9) = .inl (cs 0, 6, .inl (ai (A 1))) := h.1 9 (by decide) (by decide)
theorem CSt.shared {cs : Nat → ClassId} {ad Qm : Nat → Nat} {f : Nat → va_E} {I : Nat → Int} {A : Nat → Nat → Int} {R : Nat → Nat} {Zf : Nat → Int} (h : CSt cs ad Qm f I A R Zf) : f (ad 10) = .inl (cs 0, 6, .inl (ai (A 2))) := h.1 10 (by decide) (by decide)
theorem CSt.low {cs : Nat → ClassId} {ad Qm : Nat → Nat} {f : Nat → va_E} {I : Nat → Int} {A : Nat → Nat → Int} {R : Nat → Nat} {Zf : Nat → Int} (h : CSt cs ad Qm f I A R Zf) : f (ad 11) = .inl (cs 0, 5, .inl (ai (A 3))) := h.1 11 (by decide) (by decide)
theorem CSt.high {cs : Nat → ClassId} {ad Qm : Nat → Nat} {f : Nat → va_E} {I : Nat → Int} {A : Nat → Nat → Int} {R : Nat → Nat} {Zf : Nat → Int} (h : CSt cs ad Qm f I A R Zf) : f (ad 12) = .inl (cs 0, 5, .inl (ai (A 4))) := h.1 12 (by decide) (by decide)
theorem CSt.line {cs : Nat → ClassId} {ad Qm : Nat → Nat} {f : Nat → va_E} {I : Nat → Int} {A : Nat → Nat → Int} {R : Nat → Nat} {Zf : Nat → Int} (h : CSt cs ad Qm f I A R Zf) : f (ad 13) = .inl (cs 0, 60, .inl (ai (A 5))) := h.1 13 (by decide) (by decide)
theorem CSt.stf {cs : Nat → ClassId} {ad Qm : Nat → Nat} {f : Nat → va_E} {I : Nat → Int} {A : Nat → Nat → Int} {R : Nat → Nat} {Zf : Nat → Int} (h : CSt cs ad Qm f I A R Zf) : f (ad 14) = .inl (cs 0, 60, .inl (ai (A 6))) := h.1 14 (by decide) (by decide)
theorem CSt.cu {cs : Nat → ClassId} {ad Qm : Nat → Nat} {f : Nat → va_E} {I : Nat → Int} {A : Nat → Nat → Int} {R : Nat → Nat} {Zf : Nat → Int} (h : CSt cs ad Qm f I A R Zf) {p : Nat} (hp : p < 12) : f (ad (15 + p)) = .inr (2, [.ref (ad (27 + p)), .ref (ad (39 + p)), .ref (ad (51 + p)), .int (iI (I (20 + p))), .int (iI (I (40 + p)))]) := (h.1 (15 + p) (by omega) (by omega)).trans (CE_cu cs ad I A R hp)
theorem CSt.va {cs : Nat → ClassId} {ad Qm : Nat → Nat} {f : Nat → va_E} {I : Nat → Int} {A : Nat → Nat → Int} {R : Nat → Nat} {Zf : Nat → Int} (h : CSt cs ad Qm f I A R Zf) {p : Nat} (hp : p < 12) : f (ad (27 + p)) = .inl (cs 0, 6, .inl (ai (A (20 + p)))) := (h.1 (27 + p) (by omega) (by omega)).trans (CE_va cs ad I A R hp)
theorem CSt.fr {cs : Nat → ClassId} {ad Qm : Nat → Nat} {f : Nat → va_E} {I : Nat → Int} {A : Nat → Nat → Int} {R : Nat → Nat} {Zf : Nat → Int} (h : CSt cs ad Qm f I A R Zf) {p : Nat} (hp : p < 12) : f (ad (39 + p)) = .inl (cs 0, 6, .inl (ai (A (40 + p)))) := (h.1 (39 + p) (by omega) (by omega)).trans (CE_fr cs ad I A R hp)
theorem CSt.pa {cs : Nat → ClassId} {ad Qm : Nat → Nat} {f : Nat → va_E} {I : Nat → Int} {A : Nat → Nat → Int} {R : Nat → Nat} {Zf : Nat → Int} (h : CSt cs ad Qm f I A R Zf) {p : Nat} (hp : p < 12) : f (ad (51 + p)) = .inl (cs 5, 5, .inr (.inr (.inr (.inr (rfs 5 (fun i => ad (63 + (5 * p + i)))))))) := (h.1 (51 + p) (by omega) (by omega)).trans (CE_pa cs ad I A R hp)
theorem CSt.pl {cs : Nat → ClassId} {ad Qm : Nat → Nat} {f : Nat → va_E} {I : Nat → Int} {A : Nat → Nat → Int} {R : Nat → Nat} {Zf : Nat → Int} (h : CSt cs ad Qm f I A R Zf) {m : Nat} (hm : m < 60) : f (ad (63 + m)) = .inr (3, [.int (iI (I (100 + m))), .int (iI (I (200 + m))), .ref (ad (123 + m))]) := (h.1 (63 + m) (by omega) (by omega)).trans (CE_pl cs ad I A R hm)
theorem CSt.wq {cs : Nat → ClassId} {ad Qm : Nat → Nat} {f : Nat → va_E} {I : Nat → Int} {A : Nat → Nat → Int} {R : Nat → Nat} {Zf : Nat → Int} (h : CSt cs ad Qm f I A R Zf) {m : Nat} (hm : m < 60) : f (ad (123 + m)) = .inl (cs 0, 8, .inl (ai (A (100 + m)))) := (h.1 (123 + m) (by omega) (by omega)).trans (CE_wq cs ad I A R hm)
theorem AdOk.fc {L : List Nat} {ad Qm : Nat → Nat} (h : AdOk L ad Qm) (ks : List Nat) (hN : ks.Nodup) (hk : ∀ k ∈ ks, k < 305) : Fc L (ks.map ad) := by
  refine ⟨?_, fun x hx => ?_⟩
  · rw [List.nodup_iff_pairwise_ne] at hN ⊢
    rw [List.pairwise_map]
    exact hN.imp_of_mem (fun {a b} ha hb hab e => hab (h.2.1 a b (hk a ha) (hk b hb) e))
  · obtain ⟨k, hk1, rfl⟩ := List.mem_map.mp hx
    exact h.1 k (hk k hk1)
theorem AdOk.ne {L : List Nat} {ad Qm : Nat → Nat} (h : AdOk L ad Qm) {i j : Nat} (hi : i < 305) (hj : j < 305) (hij : i ≠ j) : ad i ≠ ad j := fun e => hij (h.2.1 i j hi hj e)
theorem AdOk.sp {L : List Nat} {ad Qm : Nat → Nat} (h : AdOk L ad Qm) : Sp L (Bg ad) Qm := by
  refine ⟨fun a ⟨b, hb, e⟩ => ?_, fun a a' ⟨b, hb, e⟩ ⟨b', hb', e'⟩ => ?_, fun a a' ⟨b, hb, e⟩ ⟨b', hb', e'⟩ hq => ?_⟩
  · rw [e, h.2.2 b hb]; exact ⟨h.1 _ (by omega), h.1 _ (by omega)⟩
  · rw [e, e', h.2.2 b' hb']; exact h.ne (by omega) (by omega) (by omega)
  · rw [e, e', h.2.2 b hb, h.2.2 b' hb'] at hq
    have := h.2.1 _ _ (by omega) (by omega) hq
    rw [e, e', show b = b' by omega]
theorem AdOk.out {L : List Nat} {ad Qm : Nat → Nat} (h : AdOk L ad Qm) {k : Nat} (hk : k < 183) : Out (Bg ad) Qm (ad k) := by
  refine ⟨fun ⟨b, hb, e⟩ => ?_, fun a ⟨b, hb, e⟩ => ?_⟩
  · exact h.ne (by omega) (by omega) (by omega) e
  · rw [e, h.2.2 b hb]; exact h.ne (by omega) (by omega) (by omega)
theorem AdOk.outs {L : List Nat} {ad Qm : Nat → Nat} (h : AdOk L ad Qm) (ks : List Nat) (hk : ∀ k ∈ ks, k < 183) : ∀ a ∈ ks.map ad, Out (Bg ad) Qm a := fun a ha => by
  obtain ⟨k, hk1, rfl⟩ := List.mem_map.mp ha
  exact h.out (hk k hk1)
theorem Awy.out {L : List Nat} {ad Qm : Nat → Nat} (h : AdOk L ad Qm) {k : Nat} (hk : Awy ad k) : Out (Bg ad) Qm k := by
  refine ⟨fun ⟨b, hb, e⟩ => hk _ (by omega) e, fun a ⟨b, hb, e⟩ => ?_⟩
  rw [e, h.2.2 b hb]; exact hk _ (by omega)
theorem Awy.nin {ad : Nat → Nat} {k : Nat} (hk : Awy ad k) (ks : List Nat) (h : ∀ j ∈ ks, j < 305) : k ∉ ks.map ad := fun hm => by
  obtain ⟨j, hj, e⟩ := List.mem_map.mp hm
  exact hk j (h j hj) e.symm
theorem Ckk.bg {ad : Nat → Nat} {a : Nat} (h : Ckk ad a) : Bg ad a := by obtain ⟨b, h1, h2⟩ := h; exact ⟨b, by omega, h2⟩
theorem Wkk.bg {ad : Nat → Nat} {a : Nat} (h : Wkk ad a) : Bg ad a := by obtain ⟨b, h0, h1, h2⟩ := h; exact ⟨b, by omega, h2⟩
theorem Bg.of {ad : Nat → Nat} {b : Nat} (h : b < 61) : Bg ad (ad (183 + b)) := ⟨b, h, rfl⟩
theorem Bg.pl {ad : Nat → Nat} {k : Nat} (h : 183 ≤ k ∧ k < 244) : Bg ad (ad k) := ⟨k - 183, by omega, by rw [show 183 + (k - 183) = k by omega]⟩
theorem Wkk.not {L : List Nat} {ad Qm : Nat → Nat} (h : AdOk L ad Qm) {k : Nat} (hk : k < 305) (hk2 : k < 235 ∨ 239 ≤ k) : ¬ Wkk ad (ad k) := fun ⟨b, h1, h2, h3⟩ => h.ne hk (by omega) (by omega) h3
theorem Ckk.not {L : List Nat} {ad Qm : Nat → Nat} (h : AdOk L ad Qm) {k : Nat} (hk : k < 305) (hk2 : k < 183 ∨ 227 ≤ k) : ¬ Ckk ad (ad k) := fun ⟨b, h1, h3⟩ => h.ne hk (by omega) (by omega) h3
theorem Ckk.wk {L : List Nat} {ad Qm : Nat → Nat} (h : AdOk L ad Qm) {a : Nat} (ha : Ckk ad a) : ¬ Wkk ad a := by
  obtain ⟨b, h1, h2⟩ := ha
  rw [h2]; exact Wkk.not h (by omega) (by omega)
/-- another state: the cells of ks are given, the rest is as it was -/
theorem CSt.next {cs : Nat → ClassId} {ad Qm : Nat → Nat} {f g : Nat → va_E} {I I' : Nat → Int} {A A' : Nat → Nat → Int} {R R' : Nat → Nat} {Zf Z' : Nat → Int} (h : CSt cs ad Qm f I A R Zf) (ks : List Nat) (hB : BH cs g (Bg ad) Qm Z') (hR : Rok ad R') (hfr : ∀ k, k < 183 → k ∉ ks → g (ad k) = f (ad k)) (hks : ∀ k ∈ ks, k ≠ 3 → g (ad k) = CE cs ad I' A' R' k) (h3 : (∀ t, t < 42 → R' t = R t) ∧ 3 ∉ ks ∨ ∃ G : Nat → Option Nat, (∀ t, t < 42 → G t = some (R' t)) ∧ g (ad 3) = .inl (cs 3, 42, .inr (.inr (.inr (.inr G))))) (hI : ∀ i, I' i ≠ I i → ∃ k ∈ ks, depI k i) (hA : ∀ q, A' q ≠ A q → ∃ k ∈ ks, depA k q) (hRR : ∀ t, R' t ≠ R t → t < 42 ∨ ∃ k ∈ ks, depR k t) : CSt cs ad Qm g I' A' R' Z' := by
  have uI : ∀ k k' i, depI k i → depI k' i → k = k' := fun k k' i h1 h2 => by unfold depI at h1 h2; omega
  have uA : ∀ k k' i, depA k i → depA k' i → k = k' := fun k k' i h1 h2 => by unfold depA at h1 h2; omega
  have uR : ∀ k k' i, depR k i → depR k' i → k = k' := fun k k' i h1 h2 => by unfold depR at h1 h2; omega
  refine ⟨fun k hk hk3 => ?_, ?_, hB, hR⟩
  · by_cases hm : k ∈ ks
    · exact hks k hm hk3
    · rw [hfr k hk hm, h.1 k hk hk3]
      symm
      refine CE_keep cs ad hk (fun i hi => ?_) (fun q hq => ?_) (fun t ht => ?_)
      · refine Classical.byContradiction (fun hne => ?_)
        obtain ⟨k', h1, h2⟩ := hI i hne
        exact hm (by rw [uI k k' i hi h2]; exact h1)
      · refine Classical.byContradiction (fun hne => ?_)
        obtain ⟨k', h1, h2⟩ := hA q hne
        exact hm (by rw [uA k k' q hq h2]; exact h1)
      · refine Classical.byContradiction (fun hne => ?_)
        rcases hRR t hne with h1 | ⟨k', h1, h2⟩
        · unfold depR at ht; omega
        · exact hm (by rw [uR k k' t ht h2]; exact h1)
  · rcases h3 with ⟨h4, h5⟩ | h4
    · obtain ⟨G, h6, h7⟩ := h.2.1
      exact ⟨G, fun t ht => by rw [h4 t ht]; exact h6 t ht, by rw [hfr 3 (by decide) h5]; exact h7⟩
    · exact h4
/-- cells that are no Bigs change: I and A -/
theorem CSt.wr {cs : Nat → ClassId} {L : List Nat} {ad Qm : Nat → Nat} {f : Nat → va_E} {I I' : Nat → Int} {A A' : Nat → Nat → Int} {R : Nat → Nat} {Zf : Nat → Int} (hAd : AdOk L ad Qm) (h : CSt cs ad Qm f I A R Zf) (ks : List Nat) (hN : ks.Nodup) (hk : ∀ k ∈ ks, k < 183 ∧ k ≠ 3) (hI : ∀ i, I' i ≠ I i → ∃ k ∈ ks, depI k i) (hA : ∀ q, A' q ≠ A q → ∃ k ∈ ks, depA k q) : CSt cs ad Qm (mw f (ks.map (fun k => (ad k, CE cs ad I' A' R k)))) I' A' R Zf := by
  have e : (ks.map (fun k => (ad k, CE cs ad I' A' R k))).map Prod.fst = ks.map ad := by rw [List.map_map]; rfl
  refine h.next ks (h.2.2.1.keep (fun a ha => ?_)) h.2.2.2 (fun k hk1 hk2 => ?_) (fun k hk1 hk3 => ?_) (Or.inl ⟨fun _ _ => rfl, fun h3 => (hk 3 h3).2 rfl⟩) hI hA (fun t ht => absurd rfl ht)
  · rw [e] at ha; exact hAd.outs ks (fun k hk1 => (hk k hk1).1) a ha
  · refine mw_out (fun hm => ?_)
    rw [e] at hm
    obtain ⟨j, hj, ej⟩ := List.mem_map.mp hm
    have := hAd.2.1 j k (by have := (hk j hj).1; omega) (by omega) ej
    exact hk2 (by rw [← this]; exact hj)
  · obtain ⟨i, hi⟩ := List.getElem?_of_mem hk1
    exact mw_get (k := i) (by rw [e]; exact (hAd.fc ks hN (fun k hk1 => by have := (hk k hk1).1; omega)).1) (by rw [List.getElem?_map, hi]; rfl)
def upA (A : Nat → Nat → Int) (q : Nat) (w : Nat → Int) : Nat → Nat → Int := fun j => if j = q then w else A j
theorem upA_self (A : Nat → Nat → Int) (q : Nat) (w : Nat → Int) : upA A q w q = w := by simp [upA]
theorem upA_ne (A : Nat → Nat → Int) {q j : Nat} (w : Nat → Int) (h : j ≠ q) : upA A q w j = A j := by simp [upA, h]
theorem up_dif {I : Nat → Int} {i j : Nat} {v : Int} (h : up I i v j ≠ I j) : j = i := Classical.byContradiction (fun hne => h (up_ne _ _ hne))
theorem upA_dif {A : Nat → Nat → Int} {i j : Nat} {v : Nat → Int} (h : upA A i v j ≠ A j) : j = i := Classical.byContradiction (fun hne => h (upA_ne _ _ hne))
/-- one row is another -/
theorem CSt.setA {cs : Nat → ClassId} {L : List Nat} {ad Qm : Nat → Nat} {f : Nat → va_E} {I : Nat → Int} {A : Nat → Nat → Int} {R : Nat → Nat} {Zf : Nat → Int} (hAd : AdOk L ad Qm) (h : CSt cs ad Qm f I A R Zf) (k q : Nat) (w : Nat → Int) (hk : k < 183) (hd : depA k q) {e : va_E} (he : e = CE cs ad I (upA A q w) R k) : CSt cs ad Qm (mw f [(ad k, e)]) I (upA A q w) R Zf := by
  rw [he]
  exact CSt.wr hAd h [k] (by simp) (fun j hj => by rw [List.mem_singleton.mp hj]; exact ⟨hk, by unfold depA at hd; omega⟩) (fun i hi => absurd rfl hi) (fun j hj => ⟨k, by simp, by rw [upA_dif hj]; exact hd⟩)
/-- one int is another -/
theorem CSt.setI {cs : Nat → ClassId} {L : List Nat} {ad Qm : Nat → Nat} {f : Nat → va_E} {I : Nat → Int} {A : Nat → Nat → Int} {R : Nat → Nat} {Zf : Nat → Int} (hAd : AdOk L ad Qm) (h : CSt cs ad Qm f I A R Zf) (k i : Nat) (v : Int) (hk : k < 183) (hd : depI k i) {e : va_E} (he : e = CE cs ad (up I i v) A R k) : CSt cs ad Qm (mw f [(ad k, e)]) (up I i v) A R Zf := by
  rw [he]
  exact CSt.wr hAd h [k] (by simp) (fun j hj => by rw [List.mem_singleton.mp hj]; exact ⟨hk, by unfold depI at hd; omega⟩) (fun j hj => ⟨k, by simp, by rw [up_dif hj]; exact hd⟩) (fun q hq => absurd rfl hq)
theorem rfs_at {n : Nat} {t : Nat → Nat} {k : Nat} (h : k < n) : rfs n t k = some (t k) := by simp [rfs, h]
