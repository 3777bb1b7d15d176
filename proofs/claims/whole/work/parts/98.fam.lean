/-! families of Bigs: S tells which addresses, Q the limbs of each, Zf the values -/
def BH (cs : Nat → ClassId) (f : Nat → va_E) (S : Nat → Prop) (Q : Nat → Nat) (Zf : Nat → Int) : Prop := ∀ a, S a → ∃ (sd : Int) (n : Nat) (lm : Nat → Int), f a = .inr (0, [.int (iI sd), .int (iI (n : Int)), .ref (Q a)]) ∧ f (Q a) = .inl (cs 0, 48, .inl (ai lm)) ∧ BV sd (n : Int) lm (Zf a)
def Sp (L : List Nat) (S : Nat → Prop) (Q : Nat → Nat) : Prop := (∀ a, S a → a ∈ L ∧ Q a ∈ L) ∧ (∀ a b, S a → S b → a ≠ Q b) ∧ ∀ a b, S a → S b → Q a = Q b → a = b
def Out (S : Nat → Prop) (Q : Nat → Nat) (k : Nat) : Prop := ¬ S k ∧ ∀ b, S b → k ≠ Q b
theorem Sp.fc1 {L : List Nat} {S : Nat → Prop} {Q : Nat → Nat} (h : Sp L S Q) {a : Nat} (ha : S a) : Fc L [a, Q a] := by
  refine ⟨?_, fun x hx => ?_⟩
  · simp only [List.nodup_cons, List.mem_cons, List.not_mem_nil, or_false, List.nodup_nil, not_false_eq_true, and_true]
    exact h.2.1 a a ha ha
  · simp only [List.mem_cons, List.not_mem_nil, or_false] at hx
    rcases hx with rfl | rfl
    · exact (h.1 _ ha).1
    · exact (h.1 _ ha).2
theorem Sp.fc2 {L : List Nat} {S : Nat → Prop} {Q : Nat → Nat} (h : Sp L S Q) {a b : Nat} (ha : S a) (hb : S b) (hab : a ≠ b) : Fc L [a, Q a, b, Q b] := by
  have q1 := h.2.1 a a ha ha
  have q2 := h.2.1 a b ha hb
  have q3 := h.2.1 b a hb ha
  have q4 := h.2.1 b b hb hb
  have q5 : Q a ≠ Q b := fun e => hab (h.2.2 a b ha hb e)
  refine ⟨?_, fun x hx => ?_⟩
  · simp only [List.nodup_cons, List.mem_cons, List.not_mem_nil, or_false, not_or, List.nodup_nil, not_false_eq_true, and_true]
    exact ⟨⟨q1, hab, q2⟩, ⟨fun e => q3 e.symm, q5⟩, q4⟩
  · simp only [List.mem_cons, List.not_mem_nil, or_false] at hx
    rcases hx with rfl | rfl | rfl | rfl
    · exact (h.1 _ ha).1
    · exact (h.1 _ ha).2
    · exact (h.1 _ hb).1
    · exact (h.1 _ hb).2
theorem Sp.fc3 {L : List Nat} {S : Nat → Prop} {Q : Nat → Nat} (h : Sp L S Q) {a b c : Nat} (ha : S a) (hb : S b) (hc : S c) (hab : a ≠ b) (hac : a ≠ c) (hbc : b ≠ c) : Fc L [a, Q a, b, Q b, c, Q c] := by
  have q1 := h.2.1 a a ha ha
  have q2 := h.2.1 a b ha hb
  have q3 := h.2.1 b a hb ha
  have q4 := h.2.1 b b hb hb
  have q5 : Q a ≠ Q b := fun e => hab (h.2.2 a b ha hb e)
  have q6 := h.2.1 a c ha hc
  have q7 := h.2.1 c a hc ha
  have q8 := h.2.1 c c hc hc
  have q9 := h.2.1 b c hb hc
  have q10 := h.2.1 c b hc hb
  have q11 : Q a ≠ Q c := fun e => hac (h.2.2 a c ha hc e)
  have q12 : Q b ≠ Q c := fun e => hbc (h.2.2 b c hb hc e)
  refine ⟨?_, fun x hx => ?_⟩
  · simp only [List.nodup_cons, List.mem_cons, List.not_mem_nil, or_false, not_or, List.nodup_nil, not_false_eq_true, and_true]
    exact ⟨⟨q1, hab, q2, hac, q6⟩, ⟨fun e => q3 e.symm, q5, fun e => q7 e.symm, q11⟩, ⟨q4, hbc, q9⟩, ⟨fun e => q10 e.symm, q12⟩, q8⟩
  · simp only [List.mem_cons, List.not_mem_nil, or_false] at hx
    rcases hx with rfl | rfl | rfl | rfl | rfl | rfl
    · exact (h.1 _ ha).1
    · exact (h.1 _ ha).2
    · exact (h.1 _ hb).1
    · exact (h.1 _ hb).2
    · exact (h.1 _ hc).1
    · exact (h.1 _ hc).2
theorem BH.keep {cs : Nat → ClassId} {f : Nat → va_E} {S : Nat → Prop} {Q : Nat → Nat} {Zf : Nat → Int} (h : BH cs f S Q Zf) {X : List (Nat × va_E)} (hX : ∀ k ∈ X.map Prod.fst, Out S Q k) : BH cs (mw f X) S Q Zf := fun a ha => by
  obtain ⟨sd, n, lm, h1, h2, h3⟩ := h a ha
  refine ⟨sd, n, lm, ?_, ?_, h3⟩
  · rw [mw_out (fun hm => (hX a hm).1 ha)]; exact h1
  · rw [mw_out (fun hm => (hX _ hm).2 a ha rfl)]; exact h2
theorem BH.set {cs : Nat → ClassId} {L : List Nat} {f : Nat → va_E} {S : Nat → Prop} {Q : Nat → Nat} {Zf : Nat → Int} (hS : Sp L S Q) (h : BH cs f S Q Zf) {a : Nat} (ha : S a) {sd : Int} {n : Nat} {lm : Nat → Int} {z : Int} (hz : BV sd (n : Int) lm z) : BH cs (mw f [(a, .inr (0, [.int (iI sd), .int (iI (n : Int)), .ref (Q a)])), (Q a, .inl (cs 0, 48, .inl (ai lm)))]) S Q (up Zf a z) := fun b hb => by
  have hN := (hS.fc1 ha).1
  by_cases hba : b = a
  · subst hba
    refine ⟨sd, n, lm, mw_get (X := [(b, .inr (0, [.int (iI sd), .int (iI (n : Int)), .ref (Q b)])), (Q b, .inl (cs 0, 48, .inl (ai lm)))]) (k := 0) hN rfl, mw_get (X := [(b, .inr (0, [.int (iI sd), .int (iI (n : Int)), .ref (Q b)])), (Q b, .inl (cs 0, 48, .inl (ai lm)))]) (k := 1) hN rfl, ?_⟩
    rw [up_self]; exact hz
  · obtain ⟨sd, n, lm, h1, h2, h3⟩ := h b hb
    refine ⟨sd, n, lm, ?_, ?_, by rw [up_ne _ _ hba]; exact h3⟩
    · rw [mw_out (by simp only [List.map_cons, List.map_nil, List.mem_cons, List.not_mem_nil, or_false, not_or]; exact ⟨hba, hS.2.1 b a hb ha⟩)]; exact h1
    · rw [mw_out (by simp only [List.map_cons, List.map_nil, List.mem_cons, List.not_mem_nil, or_false, not_or]; exact ⟨fun e => hS.2.1 a b ha hb e.symm, fun e => hba (hS.2.2 b a hb ha e)⟩)]; exact h2
/-- the cells in focus are as they were behind a change elsewhere -/
theorem foc {f : Nat → va_E} {X Y : List (Nat × va_E)} (hN : (X.map Prod.fst).Nodup) (hY : ∀ k ∈ X.map Prod.fst, k ∉ Y.map Prod.fst) : ∀ p ∈ X, mw (mw f X) Y p.1 = p.2 := fun p hp => by
  rw [mw_out (hY p.1 (List.mem_map.mpr ⟨p, hp, rfl⟩))]
  obtain ⟨k, hk⟩ := List.getElem?_of_mem hp
  exact mw_get (k := k) hN hk
theorem Out.two {S : Nat → Prop} {Q : Nat → Nat} {a k : Nat} {e1 e2 : va_E} (h : Out S Q k) (ha : S a) : k ∉ [(a, e1), (Q a, e2)].map Prod.fst := by
  simp only [List.map_cons, List.map_nil, List.mem_cons, List.not_mem_nil, or_false, not_or]
  exact ⟨fun e => h.1 (e ▸ ha), h.2 a ha⟩
/-- Horner's sum from nothing on -/
def hs0 (c : Nat → Int) (n : Nat) (u v : Int) : Nat → Int
  | 0 => 0
  | i + 1 => hsum c n u v i
theorem hs0_next (c : Nat → Int) (n : Nat) (u v : Int) (i : Nat) (hi : i ≤ n) : hs0 c n u v (i + 1) = hs0 c n u v i * u + c (n - i) * v ^ i := by
  cases i with
  | zero => simp [hs0, hsum]
  | succ i => rw [hs0, hs0, hsum, show n - 1 - i = n - (i + 1) by omega]
theorem ne_of_not {P : Nat → Prop} {a b : Nat} (ha : ¬ P a) (hb : P b) : a ≠ b := fun h => ha (by rw [h]; exact hb)
