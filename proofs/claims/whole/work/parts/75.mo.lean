/-! the row of signs: a polynomial, its derivative, then remainders with the other sign -/
def Nz (r : Nat → Int) : Prop := ∃ j, j < 6 ∧ r j ≠ 0
/-- s is a multiple of q less p times a number above 0, of less degree than q -/
def NR (p q s : Nat → Int) : Prop := (∃ (la : Rat) (Q : List Rat), 0 < la ∧ ∀ x, es s 6 x = ev Q x * es q 6 x - la * es p 6 x) ∧ ∃ d, d < 6 ∧ q d ≠ 0 ∧ ∀ j, d ≤ j → j < 6 → s j = 0
def Spre (a : Nat → Int) (r : Nat → Nat → Int) (n : Nat) : Prop := 2 ≤ n ∧ (∀ j, j < 6 → r 0 j = a j) ∧ (∀ j, j < 6 → r 1 j = dva a j) ∧ (∀ k, k < n → Nz (r k)) ∧ ∀ k, k + 2 < n → NR (r k) (r (k + 1)) (r (k + 2))
def Sseq (a : Nat → Int) (r : Nat → Nat → Int) (n : Nat) : Prop := 1 ≤ n ∧ n ≤ 6 ∧ Nz a ∧ ((n = 1 ∧ (∀ j, j < 6 → r 0 j = a j) ∧ ∀ j, j < 6 → dva a j = 0) ∨ (Spre a r n ∧ Dv (il (r (n - 1)) 6) (il (r (n - 2)) 6)))
theorem Rem.dv {P q Z : Nat → Int} (h : Rem P q Z) (hz : ∀ j, j < 6 → Z j = 0) : Dv (il q 6) (il P 6) := by
  obtain ⟨la, Q, hla, h⟩ := h
  have hl : la⁻¹ * la = 1 := Rat.inv_mul_cancel la (by grind)
  refine ⟨psc (-la⁻¹) Q, fun x => ?_⟩
  have h1 := h x
  rw [es_zero hz] at h1
  rw [ev_sc, ← es_ev, ← es_ev]
  grind
theorem Nz.congr {r s : Nat → Int} (h : Nz r) (hh : ∀ j, j < 6 → s j = r j) : Nz s := by
  obtain ⟨j, hj, hr⟩ := h
  exact ⟨j, hj, by rw [hh j hj]; exact hr⟩
theorem NR.congr {p q s p' q' s' : Nat → Int} (h : NR p q s) (hp : ∀ j, j < 6 → p' j = p j) (hq : ∀ j, j < 6 → q' j = q j) (hs : ∀ j, j < 6 → s' j = s j) : NR p' q' s' := by
  obtain ⟨⟨la, Q, hla, h1⟩, d, hd, h2, h3⟩ := h
  refine ⟨⟨la, Q, hla, fun x => by rw [es_congr hp x, es_congr hq x, es_congr hs x]; exact h1 x⟩, d, hd, by rw [hq d hd]; exact h2, fun j h4 h5 => by rw [hs j h5]; exact h3 j h4 h5⟩
theorem Spre.congr {a : Nat → Int} {r r' : Nat → Nat → Int} {n : Nat} (h : Spre a r n) (hh : ∀ k, k < n → ∀ j, j < 6 → r' k j = r k j) : Spre a r' n := by
  obtain ⟨h1, h2, h3, h4, h5⟩ := h
  exact ⟨h1, fun j hj => (hh 0 (by omega) j hj).trans (h2 j hj), fun j hj => (hh 1 (by omega) j hj).trans (h3 j hj), fun k hk => (h4 k hk).congr (hh k hk), fun k hk => (h5 k hk).congr (hh k (by omega)) (hh (k + 1) (by omega)) (hh (k + 2) (by omega))⟩
theorem Spre.snoc {a : Nat → Int} {r r' : Nat → Nat → Int} {n : Nat} (h : Spre a r n) (hh : ∀ k, k < n → ∀ j, j < 6 → r' k j = r k j) (h6 : NR (r (n - 2)) (r (n - 1)) (r' n)) (h7 : Nz (r' n)) : Spre a r' (n + 1) := by
  have h0 := h.congr hh
  obtain ⟨h1, h2, h3, h4, h5⟩ := h0
  refine ⟨by omega, h2, h3, fun k hk => ?_, fun k hk => ?_⟩
  · by_cases hkn : k = n
    · rw [hkn]; exact h7
    · exact h4 k (by omega)
  · by_cases hkn : k + 2 = n
    · rw [show k = n - 2 by omega, show n - 2 + 1 = n - 1 by omega, show n - 2 + 2 = n by omega]
      exact h6.congr (hh _ (by omega)) (hh _ (by omega)) (fun _ _ => rfl)
    · exact h5 k (by omega)
theorem Rem.nr {P q Z s : Nat → Int} (h : Rem P q Z) {d : Nat} (hd : d < 6) (hq : q d ≠ 0) (hz : ∀ j, d ≤ j → j < 6 → Z j = 0) (hs : ∀ j, j < 6 → s j = -Z j) : NR P q s := by
  obtain ⟨la, Q, hla, h⟩ := h
  refine ⟨⟨la, psc (-1) Q, hla, fun x => ?_⟩, d, hd, hq, fun j h1 h2 => by rw [hs j h2, hz j h1 h2]; rfl⟩
  have e1 : es s 6 x = es (fun j => (-1) * Z j) 6 x := es_congr (fun j hj => by rw [hs j hj]; omega) x
  rw [e1, es_sc, h x, ev_sc]
  simp
  grind
/-- the places of the rows have room for signs at fractions of 269 bits -/
def Bts (r : Nat → Nat → Int) (n : Nat) : Prop := ∀ k, k < n → ∃ d a0, d ≤ 5 ∧ (∀ j, d < j → j < 6 → r k j = 0) ∧ (∀ j, j < 6 → ((r k j).natAbs : Int) < 2 ^ a0) ∧ a0 + d * 270 ≤ 1900
theorem Bts.congr {r r' : Nat → Nat → Int} {n : Nat} (h : Bts r n) (hh : ∀ k, k < n → ∀ j, j < 6 → r' k j = r k j) : Bts r' n := fun k hk => by
  obtain ⟨d, a0, h1, h2, h3, h4⟩ := h k hk
  exact ⟨d, a0, h1, fun j h5 h6 => (hh k hk j h6).trans (h2 j h5 h6), fun j hj => by rw [hh k hk j hj]; exact h3 j hj, h4⟩
theorem Bts.snoc {r r' : Nat → Nat → Int} {n : Nat} (h : Bts r n) (hh : ∀ k, k < n → ∀ j, j < 6 → r' k j = r k j) {d a0 : Nat} (h1 : d ≤ 5) (h2 : ∀ j, d < j → j < 6 → r' n j = 0) (h3 : ∀ j, j < 6 → ((r' n j).natAbs : Int) < 2 ^ a0) (h4 : a0 + d * 270 ≤ 1900) : Bts r' (n + 1) := fun k hk => by
  by_cases hkn : k = n
  · rw [hkn]; exact ⟨d, a0, h1, h2, h3, h4⟩
  · exact (h.congr hh) k (by omega)
/-- bits of the remainders that can still come, with room for signs -/
def wOs : Nat → Nat → Nat → Nat → Nat → Bool
  | 0, _, _, _, _ => false
  | n + 1, e, d, al, be => decide (rE al be e d ≤ 1900 ∧ rE al be e d + (d - 1) * 270 ≤ 1900) && (List.range d).all (fun d2 => wOs n d d2 be (rE al be e d))
theorem wOs.use {n e d al be : Nat} (h : wOs n e d al be = true) : ∃ m, n = m + 1 ∧ (rE al be e d ≤ 1900 ∧ rE al be e d + (d - 1) * 270 ≤ 1900) ∧ ∀ d2, d2 < d → wOs m d d2 be (rE al be e d) = true := by
  cases n with
  | zero => simp [wOs] at h
  | succ m =>
    simp only [wOs, Bool.and_eq_true, decide_eq_true_eq, List.all_eq_true, List.mem_range] at h
    exact ⟨m, rfl, h.1, h.2⟩
theorem RV.negs {sd n : Int} {g : Nat → Int} {z s : Int} (h : RV sd n g z) (hs : s = z.sign) : RV (-s) n g (-z) := by
  obtain ⟨h1, h2, h3, h4, h5, h6⟩ := h
  exact ⟨h1, h2, h3, h4, by rw [hs, Int.sign_neg], by rw [Int.natAbs_neg]; exact h6⟩
theorem dva_zero {A : Nat → Int} {n : Nat} (h : ∀ j, n ≤ j → j < 6 → A j = 0) : ∀ j, n - 1 ≤ j → j < 6 → dva A j = 0 := fun j h1 h2 => by
  unfold dva
  split
  · rw [h (j + 1) (by omega) (by omega)]; simp
  · rfl
theorem il_congr6 {c d : Nat → Int} (h : ∀ j, j < 6 → c j = d j) : il c 6 = il d 6 := by
  unfold il
  exact List.map_congr_left (fun k hk => by rw [h k (List.mem_range.mp hk)])
theorem d_Mo_laySigns_0 : decode prog_9_method_39_code 0 = .ok (.aload_n 0, 1) := by decide +kernel
theorem d_Mo_laySigns_1 : decode prog_9_method_39_code 1 = .ok (.bipush 60, 2) := by decide +kernel
theorem d_Mo_laySigns_3 : decode prog_9_method_39_code 3 = .ok (.aload_n 1, 1) := by decide +kernel
theorem d_Mo_laySigns_4 : decode prog_9_method_39_code 4 = .ok (.invokevirtual 132, 3) := by decide +kernel
theorem d_Mo_laySigns_7 : decode prog_9_method_39_code 7 = .ok (.aload_n 0, 1) := by decide +kernel
theorem d_Mo_laySigns_8 : decode prog_9_method_39_code 8 = .ok (.iconst 1, 1) := by decide +kernel
theorem d_Mo_laySigns_9 : decode prog_9_method_39_code 9 = .ok (.putfield 177, 3) := by decide +kernel
theorem d_Mo_laySigns_12 : decode prog_9_method_39_code 12 = .ok (.iconst 0, 1) := by decide +kernel
theorem d_Mo_laySigns_13 : decode prog_9_method_39_code 13 = .ok (.istore_n 2, 1) := by decide +kernel
theorem d_Mo_laySigns_14 : decode prog_9_method_39_code 14 = .ok (.iload_n 2, 1) := by decide +kernel
theorem d_Mo_laySigns_15 : decode prog_9_method_39_code 15 = .ok (.bipush 6, 2) := by decide +kernel
theorem d_Mo_laySigns_17 : decode prog_9_method_39_code 17 = .ok (.if_icmp .ge 18, 3) := by decide +kernel
theorem d_Mo_laySigns_20 : decode prog_9_method_39_code 20 = .ok (.aload_n 0, 1) := by decide +kernel
theorem d_Mo_laySigns_21 : decode prog_9_method_39_code 21 = .ok (.getfield 30, 3) := by decide +kernel
theorem d_Mo_laySigns_24 : decode prog_9_method_39_code 24 = .ok (.iload_n 2, 1) := by decide +kernel
theorem d_Mo_laySigns_25 : decode prog_9_method_39_code 25 = .ok (.aload_n 1, 1) := by decide +kernel
theorem d_Mo_laySigns_26 : decode prog_9_method_39_code 26 = .ok (.iload_n 2, 1) := by decide +kernel
theorem d_Mo_laySigns_27 : decode prog_9_method_39_code 27 = .ok (.laload, 1) := by decide +kernel
theorem d_Mo_laySigns_28 : decode prog_9_method_39_code 28 = .ok (.lastore, 1) := by decide +kernel
theorem d_Mo_laySigns_29 : decode prog_9_method_39_code 29 = .ok (.iinc 2 1, 3) := by decide +kernel
theorem d_Mo_laySigns_32 : decode prog_9_method_39_code 32 = .ok (.goto (-18), 3) := by decide +kernel
theorem d_Mo_laySigns_35 : decode prog_9_method_39_code 35 = .ok (.aload_n 0, 1) := by decide +kernel
theorem d_Mo_laySigns_36 : decode prog_9_method_39_code 36 = .ok (.getfield 30, 3) := by decide +kernel
theorem d_Mo_laySigns_39 : decode prog_9_method_39_code 39 = .ok (.invokestatic 146, 3) := by decide +kernel
theorem d_Mo_laySigns_42 : decode prog_9_method_39_code 42 = .ok (.aload_n 0, 1) := by decide +kernel
theorem d_Mo_laySigns_43 : decode prog_9_method_39_code 43 = .ok (.getfield 30, 3) := by decide +kernel
theorem d_Mo_laySigns_46 : decode prog_9_method_39_code 46 = .ok (.iconst 5, 1) := by decide +kernel
theorem d_Mo_laySigns_47 : decode prog_9_method_39_code 47 = .ok (.invokestatic 128, 3) := by decide +kernel
theorem d_Mo_laySigns_50 : decode prog_9_method_39_code 50 = .ok (.ifCond .ge 4, 3) := by decide +kernel
theorem d_Mo_laySigns_53 : decode prog_9_method_39_code 53 = .ok (.return_, 1) := by decide +kernel
theorem d_Mo_laySigns_54 : decode prog_9_method_39_code 54 = .ok (.aload_n 0, 1) := by decide +kernel
theorem d_Mo_laySigns_55 : decode prog_9_method_39_code 55 = .ok (.bipush 66, 2) := by decide +kernel
theorem d_Mo_laySigns_57 : decode prog_9_method_39_code 57 = .ok (.aload_n 0, 1) := by decide +kernel
theorem d_Mo_laySigns_58 : decode prog_9_method_39_code 58 = .ok (.getfield 30, 3) := by decide +kernel
theorem d_Mo_laySigns_61 : decode prog_9_method_39_code 61 = .ok (.invokevirtual 132, 3) := by decide +kernel
theorem d_Mo_laySigns_64 : decode prog_9_method_39_code 64 = .ok (.aload_n 0, 1) := by decide +kernel
theorem d_Mo_laySigns_65 : decode prog_9_method_39_code 65 = .ok (.iconst 2, 1) := by decide +kernel
theorem d_Mo_laySigns_66 : decode prog_9_method_39_code 66 = .ok (.putfield 177, 3) := by decide +kernel
theorem d_Mo_laySigns_69 : decode prog_9_method_39_code 69 = .ok (.iconst 1, 1) := by decide +kernel
theorem d_Mo_laySigns_70 : decode prog_9_method_39_code 70 = .ok (.istore_n 2, 1) := by decide +kernel
theorem d_Mo_laySigns_71 : decode prog_9_method_39_code 71 = .ok (.iload_n 2, 1) := by decide +kernel
theorem d_Mo_laySigns_72 : decode prog_9_method_39_code 72 = .ok (.ifCond .eq 189, 3) := by decide +kernel
theorem d_Mo_laySigns_75 : decode prog_9_method_39_code 75 = .ok (.aload_n 0, 1) := by decide +kernel
theorem d_Mo_laySigns_76 : decode prog_9_method_39_code 76 = .ok (.getfield 177, 3) := by decide +kernel
theorem d_Mo_laySigns_79 : decode prog_9_method_39_code 79 = .ok (.bipush 7, 2) := by decide +kernel
theorem d_Mo_laySigns_81 : decode prog_9_method_39_code 81 = .ok (.if_icmp .ge 180, 3) := by decide +kernel
theorem d_Mo_laySigns_84 : decode prog_9_method_39_code 84 = .ok (.iconst 0, 1) := by decide +kernel
theorem d_Mo_laySigns_85 : decode prog_9_method_39_code 85 = .ok (.istore_n 3, 1) := by decide +kernel
theorem d_Mo_laySigns_86 : decode prog_9_method_39_code 86 = .ok (.iload_n 3, 1) := by decide +kernel
theorem d_Mo_laySigns_87 : decode prog_9_method_39_code 87 = .ok (.bipush 6, 2) := by decide +kernel
theorem d_Mo_laySigns_89 : decode prog_9_method_39_code 89 = .ok (.if_icmp .ge 31, 3) := by decide +kernel
theorem d_Mo_laySigns_92 : decode prog_9_method_39_code 92 = .ok (.aload_n 0, 1) := by decide +kernel
theorem d_Mo_laySigns_93 : decode prog_9_method_39_code 93 = .ok (.bipush 96, 2) := by decide +kernel
theorem d_Mo_laySigns_95 : decode prog_9_method_39_code 95 = .ok (.iload_n 3, 1) := by decide +kernel
theorem d_Mo_laySigns_96 : decode prog_9_method_39_code 96 = .ok (.iadd, 1) := by decide +kernel
theorem d_Mo_laySigns_97 : decode prog_9_method_39_code 97 = .ok (.bipush 60, 2) := by decide +kernel
theorem d_Mo_laySigns_99 : decode prog_9_method_39_code 99 = .ok (.bipush 6, 2) := by decide +kernel
theorem d_Mo_laySigns_101 : decode prog_9_method_39_code 101 = .ok (.aload_n 0, 1) := by decide +kernel
theorem d_Mo_laySigns_102 : decode prog_9_method_39_code 102 = .ok (.getfield 177, 3) := by decide +kernel
theorem d_Mo_laySigns_105 : decode prog_9_method_39_code 105 = .ok (.iconst 2, 1) := by decide +kernel
theorem d_Mo_laySigns_106 : decode prog_9_method_39_code 106 = .ok (.isub, 1) := by decide +kernel
theorem d_Mo_laySigns_107 : decode prog_9_method_39_code 107 = .ok (.imul, 1) := by decide +kernel
theorem d_Mo_laySigns_108 : decode prog_9_method_39_code 108 = .ok (.iadd, 1) := by decide +kernel
theorem d_Mo_laySigns_109 : decode prog_9_method_39_code 109 = .ok (.iload_n 3, 1) := by decide +kernel
theorem d_Mo_laySigns_110 : decode prog_9_method_39_code 110 = .ok (.iadd, 1) := by decide +kernel
theorem d_Mo_laySigns_111 : decode prog_9_method_39_code 111 = .ok (.invokevirtual 65, 3) := by decide +kernel
theorem d_Mo_laySigns_114 : decode prog_9_method_39_code 114 = .ok (.iinc 3 1, 3) := by decide +kernel
theorem d_Mo_laySigns_117 : decode prog_9_method_39_code 117 = .ok (.goto (-31), 3) := by decide +kernel
theorem d_Mo_laySigns_120 : decode prog_9_method_39_code 120 = .ok (.bipush 60, 2) := by decide +kernel
theorem d_Mo_laySigns_122 : decode prog_9_method_39_code 122 = .ok (.bipush 6, 2) := by decide +kernel
theorem d_Mo_laySigns_124 : decode prog_9_method_39_code 124 = .ok (.aload_n 0, 1) := by decide +kernel
theorem d_Mo_laySigns_125 : decode prog_9_method_39_code 125 = .ok (.getfield 177, 3) := by decide +kernel
theorem d_Mo_laySigns_128 : decode prog_9_method_39_code 128 = .ok (.iconst 1, 1) := by decide +kernel
theorem d_Mo_laySigns_129 : decode prog_9_method_39_code 129 = .ok (.isub, 1) := by decide +kernel
theorem d_Mo_laySigns_130 : decode prog_9_method_39_code 130 = .ok (.imul, 1) := by decide +kernel
theorem d_Mo_laySigns_131 : decode prog_9_method_39_code 131 = .ok (.iadd, 1) := by decide +kernel
theorem d_Mo_laySigns_132 : decode prog_9_method_39_code 132 = .ok (.istore_n 3, 1) := by decide +kernel
theorem d_Mo_laySigns_133 : decode prog_9_method_39_code 133 = .ok (.aload_n 0, 1) := by decide +kernel
theorem d_Mo_laySigns_134 : decode prog_9_method_39_code 134 = .ok (.bipush 96, 2) := by decide +kernel
theorem d_Mo_laySigns_136 : decode prog_9_method_39_code 136 = .ok (.iload_n 3, 1) := by decide +kernel
theorem d_Mo_laySigns_137 : decode prog_9_method_39_code 137 = .ok (.aload_n 0, 1) := by decide +kernel
theorem d_Mo_laySigns_138 : decode prog_9_method_39_code 138 = .ok (.iload_n 3, 1) := by decide +kernel
theorem d_Mo_laySigns_139 : decode prog_9_method_39_code 139 = .ok (.invokevirtual 99, 3) := by decide +kernel
theorem d_Mo_laySigns_142 : decode prog_9_method_39_code 142 = .ok (.invokevirtual 136, 3) := by decide +kernel
theorem d_Mo_laySigns_145 : decode prog_9_method_39_code 145 = .ok (.aload_n 0, 1) := by decide +kernel
theorem d_Mo_laySigns_146 : decode prog_9_method_39_code 146 = .ok (.bipush 96, 2) := by decide +kernel
theorem d_Mo_laySigns_148 : decode prog_9_method_39_code 148 = .ok (.invokevirtual 99, 3) := by decide +kernel
theorem d_Mo_laySigns_151 : decode prog_9_method_39_code 151 = .ok (.ifCond .lt 7, 3) := by decide +kernel
theorem d_Mo_laySigns_154 : decode prog_9_method_39_code 154 = .ok (.iconst 1, 1) := by decide +kernel
theorem d_Mo_laySigns_155 : decode prog_9_method_39_code 155 = .ok (.goto 4, 3) := by decide +kernel
theorem d_Mo_laySigns_158 : decode prog_9_method_39_code 158 = .ok (.iconst 0, 1) := by decide +kernel
theorem d_Mo_laySigns_159 : decode prog_9_method_39_code 159 = .ok (.istore_n 2, 1) := by decide +kernel
theorem d_Mo_laySigns_160 : decode prog_9_method_39_code 160 = .ok (.iconst 0, 1) := by decide +kernel
theorem d_Mo_laySigns_161 : decode prog_9_method_39_code 161 = .ok (.istore 4, 2) := by decide +kernel
theorem d_Mo_laySigns_163 : decode prog_9_method_39_code 163 = .ok (.iload 4, 2) := by decide +kernel
theorem d_Mo_laySigns_165 : decode prog_9_method_39_code 165 = .ok (.bipush 6, 2) := by decide +kernel
theorem d_Mo_laySigns_167 : decode prog_9_method_39_code 167 = .ok (.if_icmp .ge 73, 3) := by decide +kernel
theorem d_Mo_laySigns_170 : decode prog_9_method_39_code 170 = .ok (.iload_n 2, 1) := by decide +kernel
theorem d_Mo_laySigns_171 : decode prog_9_method_39_code 171 = .ok (.ifCond .eq 69, 3) := by decide +kernel
theorem d_Mo_laySigns_174 : decode prog_9_method_39_code 174 = .ok (.aload_n 0, 1) := by decide +kernel
theorem d_Mo_laySigns_175 : decode prog_9_method_39_code 175 = .ok (.getfield 177, 3) := by decide +kernel
theorem d_Mo_laySigns_178 : decode prog_9_method_39_code 178 = .ok (.bipush 6, 2) := by decide +kernel
theorem d_Mo_laySigns_180 : decode prog_9_method_39_code 180 = .ok (.if_icmp .ge 60, 3) := by decide +kernel
theorem d_Mo_laySigns_183 : decode prog_9_method_39_code 183 = .ok (.aload_n 0, 1) := by decide +kernel
theorem d_Mo_laySigns_184 : decode prog_9_method_39_code 184 = .ok (.bipush 60, 2) := by decide +kernel
theorem d_Mo_laySigns_186 : decode prog_9_method_39_code 186 = .ok (.bipush 6, 2) := by decide +kernel
theorem d_Mo_laySigns_188 : decode prog_9_method_39_code 188 = .ok (.aload_n 0, 1) := by decide +kernel
theorem d_Mo_laySigns_189 : decode prog_9_method_39_code 189 = .ok (.getfield 177, 3) := by decide +kernel
theorem d_Mo_laySigns_192 : decode prog_9_method_39_code 192 = .ok (.imul, 1) := by decide +kernel
theorem d_Mo_laySigns_193 : decode prog_9_method_39_code 193 = .ok (.iadd, 1) := by decide +kernel
theorem d_Mo_laySigns_194 : decode prog_9_method_39_code 194 = .ok (.iload 4, 2) := by decide +kernel
theorem d_Mo_laySigns_196 : decode prog_9_method_39_code 196 = .ok (.iadd, 1) := by decide +kernel
theorem d_Mo_laySigns_197 : decode prog_9_method_39_code 197 = .ok (.bipush 96, 2) := by decide +kernel
theorem d_Mo_laySigns_199 : decode prog_9_method_39_code 199 = .ok (.iload 4, 2) := by decide +kernel
theorem d_Mo_laySigns_201 : decode prog_9_method_39_code 201 = .ok (.iadd, 1) := by decide +kernel
theorem d_Mo_laySigns_202 : decode prog_9_method_39_code 202 = .ok (.invokevirtual 65, 3) := by decide +kernel
theorem d_Mo_laySigns_205 : decode prog_9_method_39_code 205 = .ok (.aload_n 0, 1) := by decide +kernel
theorem d_Mo_laySigns_206 : decode prog_9_method_39_code 206 = .ok (.getfield 16, 3) := by decide +kernel
theorem d_Mo_laySigns_209 : decode prog_9_method_39_code 209 = .ok (.bipush 60, 2) := by decide +kernel
theorem d_Mo_laySigns_211 : decode prog_9_method_39_code 211 = .ok (.bipush 6, 2) := by decide +kernel
theorem d_Mo_laySigns_213 : decode prog_9_method_39_code 213 = .ok (.aload_n 0, 1) := by decide +kernel
theorem d_Mo_laySigns_214 : decode prog_9_method_39_code 214 = .ok (.getfield 177, 3) := by decide +kernel
theorem d_Mo_laySigns_217 : decode prog_9_method_39_code 217 = .ok (.imul, 1) := by decide +kernel
theorem d_Mo_laySigns_218 : decode prog_9_method_39_code 218 = .ok (.iadd, 1) := by decide +kernel
theorem d_Mo_laySigns_219 : decode prog_9_method_39_code 219 = .ok (.iload 4, 2) := by decide +kernel
theorem d_Mo_laySigns_221 : decode prog_9_method_39_code 221 = .ok (.iadd, 1) := by decide +kernel
theorem d_Mo_laySigns_222 : decode prog_9_method_39_code 222 = .ok (.aload_n 0, 1) := by decide +kernel
theorem d_Mo_laySigns_223 : decode prog_9_method_39_code 223 = .ok (.getfield 16, 3) := by decide +kernel
theorem d_Mo_laySigns_226 : decode prog_9_method_39_code 226 = .ok (.bipush 96, 2) := by decide +kernel
theorem d_Mo_laySigns_228 : decode prog_9_method_39_code 228 = .ok (.iload 4, 2) := by decide +kernel
theorem d_Mo_laySigns_230 : decode prog_9_method_39_code 230 = .ok (.iadd, 1) := by decide +kernel
theorem d_Mo_laySigns_231 : decode prog_9_method_39_code 231 = .ok (.iaload, 1) := by decide +kernel
theorem d_Mo_laySigns_232 : decode prog_9_method_39_code 232 = .ok (.ineg, 1) := by decide +kernel
theorem d_Mo_laySigns_233 : decode prog_9_method_39_code 233 = .ok (.iastore, 1) := by decide +kernel
theorem d_Mo_laySigns_234 : decode prog_9_method_39_code 234 = .ok (.iinc 4 1, 3) := by decide +kernel
theorem d_Mo_laySigns_237 : decode prog_9_method_39_code 237 = .ok (.goto (-74), 3) := by decide +kernel
theorem d_Mo_laySigns_240 : decode prog_9_method_39_code 240 = .ok (.aload_n 0, 1) := by decide +kernel
theorem d_Mo_laySigns_241 : decode prog_9_method_39_code 241 = .ok (.dup, 1) := by decide +kernel
theorem d_Mo_laySigns_242 : decode prog_9_method_39_code 242 = .ok (.getfield 177, 3) := by decide +kernel
theorem d_Mo_laySigns_245 : decode prog_9_method_39_code 245 = .ok (.iload_n 2, 1) := by decide +kernel
theorem d_Mo_laySigns_246 : decode prog_9_method_39_code 246 = .ok (.ifCond .eq 7, 3) := by decide +kernel
theorem d_Mo_laySigns_249 : decode prog_9_method_39_code 249 = .ok (.iconst 1, 1) := by decide +kernel
theorem d_Mo_laySigns_250 : decode prog_9_method_39_code 250 = .ok (.goto 4, 3) := by decide +kernel
theorem d_Mo_laySigns_253 : decode prog_9_method_39_code 253 = .ok (.iconst 0, 1) := by decide +kernel
theorem d_Mo_laySigns_254 : decode prog_9_method_39_code 254 = .ok (.iadd, 1) := by decide +kernel
theorem d_Mo_laySigns_255 : decode prog_9_method_39_code 255 = .ok (.putfield 177, 3) := by decide +kernel
theorem d_Mo_laySigns_258 : decode prog_9_method_39_code 258 = .ok (.goto (-187), 3) := by decide +kernel
theorem d_Mo_laySigns_261 : decode prog_9_method_39_code 261 = .ok (.return_, 1) := by decide +kernel
set_option maxHeartbeats 8000000 in
set_option maxRecDepth 100000 in
theorem c_Mo_laySigns (l : Launch) (D : va_G) (cs : Nat → ClassId) (L : List Nat) (f : Nat → va_E) (sz : Nat) (y m1 m2 m3 m5 m6 m7 m8 m9 m10 m11 m12 m13 m15 : Nat) (th pn rw_ fu fb : Int) (lm mn sn Z : Nat → Int) (ta : Nat) (w8 aw : Nat → Int) (nal nbe : Nat) (hF : Fc L [y, m1, m2, m3, m8, ta]) (ha : f y = .inr (7, [.int (iI th), .ref m1, .ref m2, .ref m3, .int (iI pn), .ref m5, .ref m6, .ref m7, .ref m8, .ref m9, .ref m10, .ref m11, .ref m12, .ref m13, .int (iI rw_), .ref m15, .long (lI fu), .long (lI fb)])) (hm1 : f m1 = .inl (cs 0, 11520, .inl (ai lm))) (hm2 : f m2 = .inl (cs 0, 180, .inl (ai mn))) (hm3 : f m3 = .inl (cs 0, 180, .inl (ai sn))) (hRS : RS lm mn sn Z) (hm8 : f m8 = .inl (cs 1, 6, .inr (.inl (al w8)))) (hta : f ta = .inl (cs 1, 6, .inr (.inl (al aw)))) (hA0 : Nz aw) (hAM : ∀ j, j < 6 → -1000000000 ≤ aw j ∧ aw j ≤ 1000000000) (hDM : ∀ j, j < 6 → -5000000000 ≤ dva aw j ∧ dva aw j ≤ 5000000000) (hAb : ∀ j, j < 6 → ((aw j).natAbs : Int) < 2 ^ nal) (hDb : ∀ j, j < 6 → ((dva aw j).natAbs : Int) < 2 ^ nbe) (hwk0 : ∀ d, d < 5 → wOs 6 5 d nal nbe = true) (hrm0 : nal + 5 * 270 ≤ 1900) (hrm1 : nbe + 5 * 270 ≤ 1900) : Met l (⟨"RealRootsModel", "laySigns", "([J)V"⟩ : MethodName) (.code (⟨"RealRootsModel", "laySigns", "([J)V"⟩ : MethodName) prog_9_method_39_code 5 (Option.none : Option Jvm.ClassFile.FieldType) :: gw) ({ frames := 7, cells := 0, slots := 0, locals := 220 }) (va_Pc [.ref y, .ref ta] (K0 D vwCl (TY cs) L f sz)) (va_Qv (fun (g : Nat → va_E) => ∃ (lm' mn' sn' Z' z8' : Nat → Int) (n : Nat), RS lm' mn' sn' Z' ∧ Sseq aw (fun k j => Z' (60 + 6 * k + j)) n ∧ Bts (fun k j => Z' (60 + 6 * k + j)) n ∧ (∀ v, (v < 60 ∨ 101 < v) → v < 169 → Z' v = Z v) ∧ g = mw f [(y, .inr (7, [.int (iI th), .ref m1, .ref m2, .ref m3, .int (iI pn), .ref m5, .ref m6, .ref m7, .ref m8, .ref m9, .ref m10, .ref m11, .ref m12, .ref m13, .int (iI ((n : Int))), .ref m15, .long (lI fu), .long (lI fb)])), (m1, .inl (cs 0, 11520, .inl (ai (lm')))), (m2, .inl (cs 0, 180, .inl (ai (mn')))), (m3, .inl (cs 0, 180, .inl (ai (sn')))), (m8, .inl (cs 1, 6, .inr (.inl (al (z8')))))]) (K1 D vwCl (TY cs) (AL L sz) L) (AL L sz)) 0 0 (AL L sz) := by
  refine Met.ofW (cc := prog_9_method_39_code) (maxL := 5) (ret := (Option.none : Option Jvm.ClassFile.FieldType)) (by decide) rfl ?_
  intro p e s m args below meth c s₁ Bd hml hv
  obtain ⟨rfl, hk0⟩ := hv
  obtain ⟨hsz, B⟩ := hk0.start
  subst hsz
  have hx := Bd.exec
  have hb := Bd.bytes
  have hr := Bd.returns
  have hlocks := Bd.notSynchronized
  have hts0 := atoms_spec Bd.pre
  have hown : s.vm.findClass RX7 = some m.cls := findClass_of_methodNamed Bd.named
  have hA : ∀ q, s.heap.size ≤ q → AL L s.heap.size q := fun _ h => Or.inr h
  have hl := lv_entry ([.ref y, .ref ta]) (n := 5) (Nat.le_of_ble_eq_true rfl)
  rw [lg_entry_eq]
  generalize (lg_sl ([.ref y, .ref ta]) ++ List.replicate (5 - (lg_sl ([.ref y, .ref ta])).length) Slot.unset).toArray = ls at hl ⊢
  refine absQ (fun Q R av hQ hR hav => ?_)
  have hts : ∀ w ∈ gw, w.before av s = true := by rw [hav]; exact fun w h => hts0 w (List.mem_cons_of_mem _ h)
  have hRf : R.frames = 7 := by rw [hR]; rfl
  have hRl : R.locals = 220 := by rw [hR]; rfl
  have hRc : R.cells = 0 := by rw [hR]; rfl
  have hRs : R.slots = 0 := by rw [hR]; rfl
  clear hR hts0 Bd
  have hl : lv_has ls 5 [(0, .ref y), (1, .ref ta)] := hl
  have hfx : ∀ q ∈ ([(y, .inr (7, [.int (iI th), .ref m1, .ref m2, .ref m3, .int (iI pn), .ref m5, .ref m6, .ref m7, .ref m8, .ref m9, .ref m10, .ref m11, .ref m12, .ref m13, .int (iI rw_), .ref m15, .long (lI fu), .long (lI fb)])), (m1, .inl (cs 0, 11520, .inl (ai lm))), (m2, .inl (cs 0, 180, .inl (ai mn))), (m3, .inl (cs 0, 180, .inl (ai sn))), (m8, .inl (cs 1, 6, .inr (.inl (al w8)))), (ta, .inl (cs 1, 6, .inr (.inl (al aw))))] : List (Nat × va_E)), f q.1 = q.2 := fun q hq => by
    simp only [List.mem_cons, List.not_mem_nil, or_false] at hq
    rcases hq with rfl | rfl | rfl | rfl | rfl | rfl
    · exact ha
    · exact hm1
    · exact hm2
    · exact hm3
    · exact hm8
    · exact hta
  have hmw : mw f [(y, .inr (7, [.int (iI th), .ref m1, .ref m2, .ref m3, .int (iI pn), .ref m5, .ref m6, .ref m7, .ref m8, .ref m9, .ref m10, .ref m11, .ref m12, .ref m13, .int (iI rw_), .ref m15, .long (lI fu), .long (lI fb)])), (m1, .inl (cs 0, 11520, .inl (ai lm))), (m2, .inl (cs 0, 180, .inl (ai mn))), (m3, .inl (cs 0, 180, .inl (ai sn))), (m8, .inl (cs 1, 6, .inr (.inl (al w8)))), (ta, .inl (cs 1, 6, .inr (.inl (al aw))))] = f := mw_self (fun k a e hk => hfx (a, e) (List.mem_of_getElem? hk))
  have B := B.focus [(y, .inr (7, [.int (iI th), .ref m1, .ref m2, .ref m3, .int (iI pn), .ref m5, .ref m6, .ref m7, .ref m8, .ref m9, .ref m10, .ref m11, .ref m12, .ref m13, .int (iI rw_), .ref m15, .long (lI fu), .long (lI fb)])), (m1, .inl (cs 0, 11520, .inl (ai lm))), (m2, .inl (cs 0, 180, .inl (ai mn))), (m3, .inl (cs 0, 180, .inl (ai sn))), (m8, .inl (cs 1, 6, .inr (.inl (al w8)))), (ta, .inl (cs 1, 6, .inr (.inl (al aw))))] hfx
  refine lv_aload_n hx hb d_Mo_laySigns_0 rfl (lv_at hl 0 rfl) ?_
  refine x_bipush hx hb d_Mo_laySigns_1 (by decide) ?_
  refine lv_aload_n hx hb d_Mo_laySigns_3 rfl (lv_at hl 1 rfl) ?_
  refine x_callv B hA (va_runV (As := [.int (iI 60), .ref ta]) (rest := []) ⟨hx, hb, hml, hown, hts⟩ (c_Mo_put l D cs _ _ _ y m1 m2 m3 m5 m6 m7 m8 m9 m10 m11 m12 m13 m15 th pn rw_ fu fb lm mn sn Z 60 ta aw (hF.pick [0, 1, 2, 3, 5] rfl rfl) (mw_get (X := [(y, .inr (7, [.int (iI th), .ref m1, .ref m2, .ref m3, .int (iI pn), .ref m5, .ref m6, .ref m7, .ref m8, .ref m9, .ref m10, .ref m11, .ref m12, .ref m13, .int (iI rw_), .ref m15, .long (lI fu), .long (lI fb)])), (m1, .inl (cs 0, 11520, .inl (ai lm))), (m2, .inl (cs 0, 180, .inl (ai mn))), (m3, .inl (cs 0, 180, .inl (ai sn))), (m8, .inl (cs 1, 6, .inr (.inl (al w8)))), (ta, .inl (cs 1, 6, .inr (.inl (al aw))))]) hF.1 (k := 0) rfl) (mw_get (X := [(y, .inr (7, [.int (iI th), .ref m1, .ref m2, .ref m3, .int (iI pn), .ref m5, .ref m6, .ref m7, .ref m8, .ref m9, .ref m10, .ref m11, .ref m12, .ref m13, .int (iI rw_), .ref m15, .long (lI fu), .long (lI fb)])), (m1, .inl (cs 0, 11520, .inl (ai lm))), (m2, .inl (cs 0, 180, .inl (ai mn))), (m3, .inl (cs 0, 180, .inl (ai sn))), (m8, .inl (cs 1, 6, .inr (.inl (al w8)))), (ta, .inl (cs 1, 6, .inr (.inl (al aw))))]) hF.1 (k := 1) rfl) (mw_get (X := [(y, .inr (7, [.int (iI th), .ref m1, .ref m2, .ref m3, .int (iI pn), .ref m5, .ref m6, .ref m7, .ref m8, .ref m9, .ref m10, .ref m11, .ref m12, .ref m13, .int (iI rw_), .ref m15, .long (lI fu), .long (lI fb)])), (m1, .inl (cs 0, 11520, .inl (ai lm))), (m2, .inl (cs 0, 180, .inl (ai mn))), (m3, .inl (cs 0, 180, .inl (ai sn))), (m8, .inl (cs 1, 6, .inr (.inl (al w8)))), (ta, .inl (cs 1, 6, .inr (.inl (al aw))))]) hF.1 (k := 2) rfl) (mw_get (X := [(y, .inr (7, [.int (iI th), .ref m1, .ref m2, .ref m3, .int (iI pn), .ref m5, .ref m6, .ref m7, .ref m8, .ref m9, .ref m10, .ref m11, .ref m12, .ref m13, .int (iI rw_), .ref m15, .long (lI fu), .long (lI fb)])), (m1, .inl (cs 0, 11520, .inl (ai lm))), (m2, .inl (cs 0, 180, .inl (ai mn))), (m3, .inl (cs 0, 180, .inl (ai sn))), (m8, .inl (cs 1, 6, .inr (.inl (al w8)))), (ta, .inl (cs 1, 6, .inr (.inl (al aw))))]) hF.1 (k := 3) rfl) hRS (by decide) (mw_get (X := [(y, .inr (7, [.int (iI th), .ref m1, .ref m2, .ref m3, .int (iI pn), .ref m5, .ref m6, .ref m7, .ref m8, .ref m9, .ref m10, .ref m11, .ref m12, .ref m13, .int (iI rw_), .ref m15, .long (lI fu), .long (lI fb)])), (m1, .inl (cs 0, 11520, .inl (ai lm))), (m2, .inl (cs 0, 180, .inl (ai mn))), (m3, .inl (cs 0, 180, .inl (ai sn))), (m8, .inl (cs 1, 6, .inr (.inl (al w8)))), (ta, .inl (cs 1, 6, .inr (.inl (al aw))))]) hF.1 (k := 5) rfl) (fun j hj => by have h9 := hAM j hj; omega)) (cwV 2 hts (gw_V w_788 w_790 s_34 w_8 w_791) rfl rfl rfl (by decide +kernel) ⟨by rw [hRf]; exact Nat.le_of_ble_eq_true rfl, by rw [hRl]; exact Nat.le_of_ble_eq_true rfl⟩) ⟨K0.blind, B.recv (hF.2 _ (mw_key (k := 0) (X := [(y, .inr (7, [.int (iI th), .ref m1, .ref m2, .ref m3, .int (iI pn), .ref m5, .ref m6, .ref m7, .ref m8, .ref m9, .ref m10, .ref m11, .ref m12, .ref m13, .int (iI rw_), .ref m15, .long (lI fu), .long (lI fb)])), (m1, .inl (cs 0, 11520, .inl (ai lm))), (m2, .inl (cs 0, 180, .inl (ai mn))), (m3, .inl (cs 0, 180, .inl (ai sn))), (m8, .inl (cs 1, 6, .inr (.inl (al w8)))), (ta, .inl (cs 1, 6, .inr (.inl (al aw))))]) rfl)) (mw_get (X := [(y, .inr (7, [.int (iI th), .ref m1, .ref m2, .ref m3, .int (iI pn), .ref m5, .ref m6, .ref m7, .ref m8, .ref m9, .ref m10, .ref m11, .ref m12, .ref m13, .int (iI rw_), .ref m15, .long (lI fu), .long (lI fb)])), (m1, .inl (cs 0, 11520, .inl (ai lm))), (m2, .inl (cs 0, 180, .inl (ai mn))), (m3, .inl (cs 0, 180, .inl (ai sn))), (m8, .inl (cs 1, 6, .inr (.inl (al w8)))), (ta, .inl (cs 1, 6, .inr (.inl (al aw))))]) hF.1 (k := 0) rfl) rfl, B.pre _⟩ rfl rfl hl.1 rfl (lv_room (Nat.le_of_ble_eq_true rfl)) d_Mo_laySigns_4 ⟨by rw [hRc]; omega, by rw [hRs]; omega⟩) (fun g4 H locs hw B => ?_)
  obtain ⟨lm4, mn4, sn4, Z1, hR1, h1a, h1o, rfl⟩ := hw
  have B := B.of_eq (mw_put3 (X := [(y, .inr (7, [.int (iI th), .ref m1, .ref m2, .ref m3, .int (iI pn), .ref m5, .ref m6, .ref m7, .ref m8, .ref m9, .ref m10, .ref m11, .ref m12, .ref m13, .int (iI rw_), .ref m15, .long (lI fu), .long (lI fb)])), (m1, .inl (cs 0, 11520, .inl (ai lm))), (m2, .inl (cs 0, 180, .inl (ai mn))), (m3, .inl (cs 0, 180, .inl (ai sn))), (m8, .inl (cs 1, 6, .inr (.inl (al w8)))), (ta, .inl (cs 1, 6, .inr (.inl (al aw))))]) hF.1 (k1 := 1) (k2 := 2) (k3 := 3) rfl rfl rfl)
  have B : Wb D vwCl (TY cs) L (mw f [(y, .inr (7, [.int (iI th), .ref m1, .ref m2, .ref m3, .int (iI pn), .ref m5, .ref m6, .ref m7, .ref m8, .ref m9, .ref m10, .ref m11, .ref m12, .ref m13, .int (iI rw_), .ref m15, .long (lI fu), .long (lI fb)])), (m1, .inl (cs 0, 11520, .inl (ai lm4))), (m2, .inl (cs 0, 180, .inl (ai mn4))), (m3, .inl (cs 0, 180, .inl (ai sn4))), (m8, .inl (cs 1, 6, .inr (.inl (al w8)))), (ta, .inl (cs 1, 6, .inr (.inl (al aw))))]) (AL L s.heap.size) s H _ := B
  refine lv_aload_n hx hb d_Mo_laySigns_7 rfl (lv_at hl 0 rfl) ?_
  refine x_iconst hx hb d_Mo_laySigns_8 ?_
  refine x_put (C := RX7) (T := TX7) (N := 18) hx hb hts inX7 tyX7 tyX7_ok nmX7 hown B hF 0 rfl rfl 14 (by decide) (hts _ w_691) (fun _ h9 => h9) rfl (tyX7_ok 14 (by decide)) rfl rfl (Nat.le_of_ble_eq_true rfl) d_Mo_laySigns_9 (fun H locs B => ?_)
  have B : Wb D vwCl (TY cs) L (mw f [(y, .inr (7, [.int (iI th), .ref m1, .ref m2, .ref m3, .int (iI pn), .ref m5, .ref m6, .ref m7, .ref m8, .ref m9, .ref m10, .ref m11, .ref m12, .ref m13, .int (iI 1), .ref m15, .long (lI fu), .long (lI fb)])), (m1, .inl (cs 0, 11520, .inl (ai lm4))), (m2, .inl (cs 0, 180, .inl (ai mn4))), (m3, .inl (cs 0, 180, .inl (ai sn4))), (m8, .inl (cs 1, 6, .inr (.inl (al w8)))), (ta, .inl (cs 1, 6, .inr (.inl (al aw))))]) (AL L s.heap.size) s H _ := B
  refine x_iconst hx hb d_Mo_laySigns_12 ?_
  refine lv_istore_n (lv' := [(2, .int (iI 0)), (0, .ref y), (1, .ref ta)]) hx hb d_Mo_laySigns_13 rfl hl (by decide) rfl (fun ls hl => ?_)
  have L1 : ∀ (fuel : Nat) (k : Nat) (z8 : Nat → Int), 6 - k < fuel → (k ≤ 6) → (∀ j, j < k → z8 j = aw j) → ∀ (H : Heap) (locs : List Loc) (ls : Array Slot), Wb D vwCl (TY cs) L (mw f [(y, .inr (7, [.int (iI th), .ref m1, .ref m2, .ref m3, .int (iI pn), .ref m5, .ref m6, .ref m7, .ref m8, .ref m9, .ref m10, .ref m11, .ref m12, .ref m13, .int (iI 1), .ref m15, .long (lI fu), .long (lI fb)])), (m1, .inl (cs 0, 11520, .inl (ai lm4))), (m2, .inl (cs 0, 180, .inl (ai mn4))), (m3, .inl (cs 0, 180, .inl (ai sn4))), (m8, .inl (cs 1, 6, .inr (.inl (al z8)))), (ta, .inl (cs 1, 6, .inr (.inl (al aw))))]) (AL L s.heap.size) s H locs → lv_has ls 5 [(2, .int (iI ((k : Int)))), (0, .ref y), (1, .ref ta)] → W p l e R s m av below meth c H locs (0) (0) Q (F0 m 14 ls []) := by
    intro fuel
    induction fuel with
    | zero => intro k z8 hfu; exact absurd hfu (Nat.not_lt_zero _)
    | succ fuel ih_L1 =>
      intro k z8 hfu_L1 hk hI8 H locs ls B hl
      refine lv_iload_n hx hb d_Mo_laySigns_14 rfl (lv_at hl 0 rfl) ?_
      refine x_bipush hx hb d_Mo_laySigns_15 (by decide) ?_
      refine x_icmp_ge (tgt := 35) hx hb d_Mo_laySigns_17 (by decide) (by omega) (by omega) (fun h17 => ?_) (fun h17 => ?_)
      · refine lv_aload_n hx hb d_Mo_laySigns_35 rfl (lv_at hl 1 rfl) ?_
        refine x_get (C := RX7) (T := TX7) (N := 18) hx hb hts inX7 hown B hF 0 rfl rfl 8 (by decide) (hts _ w_685) (fun _ h9 => h9) rfl d_Mo_laySigns_36 ?_
        refine x_callv B hA (va_runS (As := [.ref m8]) (rest := []) ⟨hx, hb, hml, hown, hts⟩ (c_Mo_derive l D cs _ _ _ m8 z8 (hF.pick [4] rfl rfl) (mw_get (X := [(y, .inr (7, [.int (iI th), .ref m1, .ref m2, .ref m3, .int (iI pn), .ref m5, .ref m6, .ref m7, .ref m8, .ref m9, .ref m10, .ref m11, .ref m12, .ref m13, .int (iI 1), .ref m15, .long (lI fu), .long (lI fb)])), (m1, .inl (cs 0, 11520, .inl (ai lm4))), (m2, .inl (cs 0, 180, .inl (ai mn4))), (m3, .inl (cs 0, 180, .inl (ai sn4))), (m8, .inl (cs 1, 6, .inr (.inl (al z8)))), (ta, .inl (cs 1, 6, .inr (.inl (al aw))))]) hF.1 (k := 4) rfl)) (va_cwS 1 hts (gw_S w_866 w_867 w_8 w_868) rfl rfl rfl (by decide +kernel) ⟨by rw [hRf]; exact Nat.le_of_ble_eq_true rfl, by rw [hRl]; exact Nat.le_of_ble_eq_true rfl⟩) ⟨K0.blind, B.pre _⟩ rfl rfl hl.1 rfl (lv_room (Nat.le_of_ble_eq_true rfl)) d_Mo_laySigns_39 ⟨by rw [hRc]; omega, by rw [hRs]; omega⟩) (fun g39 H locs hw B => ?_)
        obtain ⟨d8, hd8, hd85, rfl⟩ := hw
        have B := B.of_eq (mw_put (X := [(y, .inr (7, [.int (iI th), .ref m1, .ref m2, .ref m3, .int (iI pn), .ref m5, .ref m6, .ref m7, .ref m8, .ref m9, .ref m10, .ref m11, .ref m12, .ref m13, .int (iI 1), .ref m15, .long (lI fu), .long (lI fb)])), (m1, .inl (cs 0, 11520, .inl (ai lm4))), (m2, .inl (cs 0, 180, .inl (ai mn4))), (m3, .inl (cs 0, 180, .inl (ai sn4))), (m8, .inl (cs 1, 6, .inr (.inl (al z8)))), (ta, .inl (cs 1, 6, .inr (.inl (al aw))))]) hF.1 (k := 4) rfl)
        have B : Wb D vwCl (TY cs) L (mw f [(y, .inr (7, [.int (iI th), .ref m1, .ref m2, .ref m3, .int (iI pn), .ref m5, .ref m6, .ref m7, .ref m8, .ref m9, .ref m10, .ref m11, .ref m12, .ref m13, .int (iI 1), .ref m15, .long (lI fu), .long (lI fb)])), (m1, .inl (cs 0, 11520, .inl (ai lm4))), (m2, .inl (cs 0, 180, .inl (ai mn4))), (m3, .inl (cs 0, 180, .inl (ai sn4))), (m8, .inl (cs 1, 6, .inr (.inl (al d8)))), (ta, .inl (cs 1, 6, .inr (.inl (al aw))))]) (AL L s.heap.size) s H _ := B
        have h6 : k = 6 := by omega
        have hd9 : ∀ j, j < 6 → d8 j = dva aw j := fun j hj => by unfold dva; split; rw [hd8 j (by omega), hI8 (j + 1) (by omega)]; rw [show j = 5 by omega]; exact hd85
        have hdr : ∀ j, j < 6 → -9223372036854775808 < d8 j ∧ d8 j < 9223372036854775808 := fun j hj => by rw [hd9 j hj]; have h9 := hDM j hj; omega
        refine lv_aload_n hx hb d_Mo_laySigns_42 rfl (lv_at hl 1 rfl) ?_
        refine x_get (C := RX7) (T := TX7) (N := 18) hx hb hts inX7 hown B hF 0 rfl rfl 8 (by decide) (hts _ w_685) (fun _ h9 => h9) rfl d_Mo_laySigns_43 ?_
        refine x_iconst hx hb d_Mo_laySigns_46 ?_
        refine x_calli B hA (va_runS (As := [.ref m8, .int (iI 5)]) (rest := []) ⟨hx, hb, hml, hown, hts⟩ (c_Mo_degreeIn l D cs _ _ _ m8 d8 (hF.pick [4] rfl rfl) (mw_get (X := [(y, .inr (7, [.int (iI th), .ref m1, .ref m2, .ref m3, .int (iI pn), .ref m5, .ref m6, .ref m7, .ref m8, .ref m9, .ref m10, .ref m11, .ref m12, .ref m13, .int (iI 1), .ref m15, .long (lI fu), .long (lI fb)])), (m1, .inl (cs 0, 11520, .inl (ai lm4))), (m2, .inl (cs 0, 180, .inl (ai mn4))), (m3, .inl (cs 0, 180, .inl (ai sn4))), (m8, .inl (cs 1, 6, .inr (.inl (al d8)))), (ta, .inl (cs 1, 6, .inr (.inl (al aw))))]) hF.1 (k := 4) rfl) (fun j hj => by have h9 := hdr j hj; omega)) (va_cwS 2 hts (gw_S w_859 w_860 w_8 w_861) rfl rfl rfl (by decide +kernel) ⟨by rw [hRf]; exact Nat.le_of_ble_eq_true rfl, by rw [hRl]; exact Nat.le_of_ble_eq_true rfl⟩) ⟨K0.blind, B.pre _⟩ rfl rfl hl.1 rfl (lv_room (Nat.le_of_ble_eq_true rfl)) d_Mo_laySigns_47 ⟨by rw [hRc]; omega, by rw [hRs]; omega⟩) (fun r47 g47 H locs hw B => ?_)
        obtain ⟨kd, rfl, hkd6, hkdz, hkdl, rfl⟩ := hw
        have B : Wb D vwCl (TY cs) L (mw f [(y, .inr (7, [.int (iI th), .ref m1, .ref m2, .ref m3, .int (iI pn), .ref m5, .ref m6, .ref m7, .ref m8, .ref m9, .ref m10, .ref m11, .ref m12, .ref m13, .int (iI 1), .ref m15, .long (lI fu), .long (lI fb)])), (m1, .inl (cs 0, 11520, .inl (ai lm4))), (m2, .inl (cs 0, 180, .inl (ai mn4))), (m3, .inl (cs 0, 180, .inl (ai sn4))), (m8, .inl (cs 1, 6, .inr (.inl (al d8)))), (ta, .inl (cs 1, 6, .inr (.inl (al aw))))]) (AL L s.heap.size) s H _ := B
        refine x_if_ge (tgt := 54) hx hb d_Mo_laySigns_50 (by decide) (by omega) (fun h50 => ?_) (fun h50 => ?_)
        · refine lv_aload_n hx hb d_Mo_laySigns_54 rfl (lv_at hl 1 rfl) ?_
          refine x_bipush hx hb d_Mo_laySigns_55 (by decide) ?_
          refine lv_aload_n hx hb d_Mo_laySigns_57 rfl (lv_at hl 1 rfl) ?_
          refine x_get (C := RX7) (T := TX7) (N := 18) hx hb hts inX7 hown B hF 0 rfl rfl 8 (by decide) (hts _ w_685) (fun _ h9 => h9) rfl d_Mo_laySigns_58 ?_
          refine x_callv B hA (va_runV (As := [.int (iI 66), .ref m8]) (rest := []) ⟨hx, hb, hml, hown, hts⟩ (c_Mo_put l D cs _ _ _ y m1 m2 m3 m5 m6 m7 m8 m9 m10 m11 m12 m13 m15 th pn 1 fu fb lm4 mn4 sn4 Z1 66 m8 d8 (hF.pick [0, 1, 2, 3, 4] rfl rfl) (mw_get (X := [(y, .inr (7, [.int (iI th), .ref m1, .ref m2, .ref m3, .int (iI pn), .ref m5, .ref m6, .ref m7, .ref m8, .ref m9, .ref m10, .ref m11, .ref m12, .ref m13, .int (iI 1), .ref m15, .long (lI fu), .long (lI fb)])), (m1, .inl (cs 0, 11520, .inl (ai lm4))), (m2, .inl (cs 0, 180, .inl (ai mn4))), (m3, .inl (cs 0, 180, .inl (ai sn4))), (m8, .inl (cs 1, 6, .inr (.inl (al d8)))), (ta, .inl (cs 1, 6, .inr (.inl (al aw))))]) hF.1 (k := 0) rfl) (mw_get (X := [(y, .inr (7, [.int (iI th), .ref m1, .ref m2, .ref m3, .int (iI pn), .ref m5, .ref m6, .ref m7, .ref m8, .ref m9, .ref m10, .ref m11, .ref m12, .ref m13, .int (iI 1), .ref m15, .long (lI fu), .long (lI fb)])), (m1, .inl (cs 0, 11520, .inl (ai lm4))), (m2, .inl (cs 0, 180, .inl (ai mn4))), (m3, .inl (cs 0, 180, .inl (ai sn4))), (m8, .inl (cs 1, 6, .inr (.inl (al d8)))), (ta, .inl (cs 1, 6, .inr (.inl (al aw))))]) hF.1 (k := 1) rfl) (mw_get (X := [(y, .inr (7, [.int (iI th), .ref m1, .ref m2, .ref m3, .int (iI pn), .ref m5, .ref m6, .ref m7, .ref m8, .ref m9, .ref m10, .ref m11, .ref m12, .ref m13, .int (iI 1), .ref m15, .long (lI fu), .long (lI fb)])), (m1, .inl (cs 0, 11520, .inl (ai lm4))), (m2, .inl (cs 0, 180, .inl (ai mn4))), (m3, .inl (cs 0, 180, .inl (ai sn4))), (m8, .inl (cs 1, 6, .inr (.inl (al d8)))), (ta, .inl (cs 1, 6, .inr (.inl (al aw))))]) hF.1 (k := 2) rfl) (mw_get (X := [(y, .inr (7, [.int (iI th), .ref m1, .ref m2, .ref m3, .int (iI pn), .ref m5, .ref m6, .ref m7, .ref m8, .ref m9, .ref m10, .ref m11, .ref m12, .ref m13, .int (iI 1), .ref m15, .long (lI fu), .long (lI fb)])), (m1, .inl (cs 0, 11520, .inl (ai lm4))), (m2, .inl (cs 0, 180, .inl (ai mn4))), (m3, .inl (cs 0, 180, .inl (ai sn4))), (m8, .inl (cs 1, 6, .inr (.inl (al d8)))), (ta, .inl (cs 1, 6, .inr (.inl (al aw))))]) hF.1 (k := 3) rfl) hR1 (by decide) (mw_get (X := [(y, .inr (7, [.int (iI th), .ref m1, .ref m2, .ref m3, .int (iI pn), .ref m5, .ref m6, .ref m7, .ref m8, .ref m9, .ref m10, .ref m11, .ref m12, .ref m13, .int (iI 1), .ref m15, .long (lI fu), .long (lI fb)])), (m1, .inl (cs 0, 11520, .inl (ai lm4))), (m2, .inl (cs 0, 180, .inl (ai mn4))), (m3, .inl (cs 0, 180, .inl (ai sn4))), (m8, .inl (cs 1, 6, .inr (.inl (al d8)))), (ta, .inl (cs 1, 6, .inr (.inl (al aw))))]) hF.1 (k := 4) rfl) hdr) (cwV 2 hts (gw_V w_788 w_790 s_34 w_8 w_791) rfl rfl rfl (by decide +kernel) ⟨by rw [hRf]; exact Nat.le_of_ble_eq_true rfl, by rw [hRl]; exact Nat.le_of_ble_eq_true rfl⟩) ⟨K0.blind, B.recv (hF.2 _ (mw_key (k := 0) (X := [(y, .inr (7, [.int (iI th), .ref m1, .ref m2, .ref m3, .int (iI pn), .ref m5, .ref m6, .ref m7, .ref m8, .ref m9, .ref m10, .ref m11, .ref m12, .ref m13, .int (iI 1), .ref m15, .long (lI fu), .long (lI fb)])), (m1, .inl (cs 0, 11520, .inl (ai lm4))), (m2, .inl (cs 0, 180, .inl (ai mn4))), (m3, .inl (cs 0, 180, .inl (ai sn4))), (m8, .inl (cs 1, 6, .inr (.inl (al d8)))), (ta, .inl (cs 1, 6, .inr (.inl (al aw))))]) rfl)) (mw_get (X := [(y, .inr (7, [.int (iI th), .ref m1, .ref m2, .ref m3, .int (iI pn), .ref m5, .ref m6, .ref m7, .ref m8, .ref m9, .ref m10, .ref m11, .ref m12, .ref m13, .int (iI 1), .ref m15, .long (lI fu), .long (lI fb)])), (m1, .inl (cs 0, 11520, .inl (ai lm4))), (m2, .inl (cs 0, 180, .inl (ai mn4))), (m3, .inl (cs 0, 180, .inl (ai sn4))), (m8, .inl (cs 1, 6, .inr (.inl (al d8)))), (ta, .inl (cs 1, 6, .inr (.inl (al aw))))]) hF.1 (k := 0) rfl) rfl, B.pre _⟩ rfl rfl hl.1 rfl (lv_room (Nat.le_of_ble_eq_true rfl)) d_Mo_laySigns_61 ⟨by rw [hRc]; omega, by rw [hRs]; omega⟩) (fun g61 H locs hw B => ?_)
          obtain ⟨lm61, mn61, sn61, Z2, hR2, h2a, h2o, rfl⟩ := hw
          have B := B.of_eq (mw_put3 (X := [(y, .inr (7, [.int (iI th), .ref m1, .ref m2, .ref m3, .int (iI pn), .ref m5, .ref m6, .ref m7, .ref m8, .ref m9, .ref m10, .ref m11, .ref m12, .ref m13, .int (iI 1), .ref m15, .long (lI fu), .long (lI fb)])), (m1, .inl (cs 0, 11520, .inl (ai lm4))), (m2, .inl (cs 0, 180, .inl (ai mn4))), (m3, .inl (cs 0, 180, .inl (ai sn4))), (m8, .inl (cs 1, 6, .inr (.inl (al d8)))), (ta, .inl (cs 1, 6, .inr (.inl (al aw))))]) hF.1 (k1 := 1) (k2 := 2) (k3 := 3) rfl rfl rfl)
          have B : Wb D vwCl (TY cs) L (mw f [(y, .inr (7, [.int (iI th), .ref m1, .ref m2, .ref m3, .int (iI pn), .ref m5, .ref m6, .ref m7, .ref m8, .ref m9, .ref m10, .ref m11, .ref m12, .ref m13, .int (iI 1), .ref m15, .long (lI fu), .long (lI fb)])), (m1, .inl (cs 0, 11520, .inl (ai lm61))), (m2, .inl (cs 0, 180, .inl (ai mn61))), (m3, .inl (cs 0, 180, .inl (ai sn61))), (m8, .inl (cs 1, 6, .inr (.inl (al d8)))), (ta, .inl (cs 1, 6, .inr (.inl (al aw))))]) (AL L s.heap.size) s H _ := B
          have hz1 : Nz (dva aw) := ⟨kd - 1, by omega, by rw [← hd9 _ (by omega)]; exact hkdl (by omega)⟩
          have h20 : ∀ j, j < 6 → Z2 (60 + 6 * 0 + j) = aw j := fun j hj => by rw [h2o _ (by omega)]; exact h1a j hj
          have h21 : ∀ j, j < 6 → Z2 (60 + 6 * 1 + j) = dva aw j := fun j hj => by rw [show 60 + 6 * 1 + j = 66 + j by omega, h2a j hj]; exact hd9 j hj
          refine lv_aload_n hx hb d_Mo_laySigns_64 rfl (lv_at hl 1 rfl) ?_
          refine x_iconst hx hb d_Mo_laySigns_65 ?_
          refine x_put (C := RX7) (T := TX7) (N := 18) hx hb hts inX7 tyX7 tyX7_ok nmX7 hown B hF 0 rfl rfl 14 (by decide) (hts _ w_691) (fun _ h9 => h9) rfl (tyX7_ok 14 (by decide)) rfl rfl (Nat.le_of_ble_eq_true rfl) d_Mo_laySigns_66 (fun H locs B => ?_)
          have B : Wb D vwCl (TY cs) L (mw f [(y, .inr (7, [.int (iI th), .ref m1, .ref m2, .ref m3, .int (iI pn), .ref m5, .ref m6, .ref m7, .ref m8, .ref m9, .ref m10, .ref m11, .ref m12, .ref m13, .int (iI 2), .ref m15, .long (lI fu), .long (lI fb)])), (m1, .inl (cs 0, 11520, .inl (ai lm61))), (m2, .inl (cs 0, 180, .inl (ai mn61))), (m3, .inl (cs 0, 180, .inl (ai sn61))), (m8, .inl (cs 1, 6, .inr (.inl (al d8)))), (ta, .inl (cs 1, 6, .inr (.inl (al aw))))]) (AL L s.heap.size) s H _ := B
          refine x_iconst hx hb d_Mo_laySigns_69 ?_
          refine lv_istore_n (lv' := [(2, .int (iI 1)), (0, .ref y), (1, .ref ta)]) hx hb d_Mo_laySigns_70 rfl hl (by decide) rfl (fun ls hl => ?_)
          have LP : ∀ (fuel : Nat) (n : Nat) (mo : Nat) (e0 : Nat) (dm : Nat) (a1 : Nat) (b1 : Nat) (n1 : Nat) (lm3 : Nat → Int) (mn3 : Nat → Int) (sn3 : Nat → Int) (Z3 : Nat → Int), 2 * (7 - n) + mo < fuel → (2 ≤ n ∧ n ≤ 6) → (mo ≤ 1) → (RS lm3 mn3 sn3 Z3) → (Spre aw (fun k j => Z3 (60 + 6 * k + j)) n) → (Bts (fun k j => Z3 (60 + 6 * k + j)) n) → (e0 ≤ 5) → (dm + n ≤ 7) → (∀ j, e0 < j → j < 6 → Z3 (60 + 6 * (n - 2) + j) = 0) → (∀ j, dm ≤ j → j < 6 → Z3 (60 + 6 * (n - 1) + j) = 0) → (∀ j, j < 6 → ((Z3 (60 + 6 * (n - 2) + j)).natAbs : Int) < 2 ^ a1) → (∀ j, j < 6 → ((Z3 (60 + 6 * (n - 1) + j)).natAbs : Int) < 2 ^ b1) → (∀ d, d < dm → wOs n1 e0 d a1 b1 = true) → (mo = 0 → Dv (il ((fun k j => Z3 (60 + 6 * k + j)) (n - 1)) 6) (il ((fun k j => Z3 (60 + 6 * k + j)) (n - 2)) 6)) → (∀ v, (v < 60 ∨ 101 < v) → v < 169 → Z3 v = Z v) → ∀ (H : Heap) (locs : List Loc) (ls : Array Slot), Wb D vwCl (TY cs) L (mw f [(y, .inr (7, [.int (iI th), .ref m1, .ref m2, .ref m3, .int (iI pn), .ref m5, .ref m6, .ref m7, .ref m8, .ref m9, .ref m10, .ref m11, .ref m12, .ref m13, .int (iI ((n : Int))), .ref m15, .long (lI fu), .long (lI fb)])), (m1, .inl (cs 0, 11520, .inl (ai lm3))), (m2, .inl (cs 0, 180, .inl (ai mn3))), (m3, .inl (cs 0, 180, .inl (ai sn3))), (m8, .inl (cs 1, 6, .inr (.inl (al d8)))), (ta, .inl (cs 1, 6, .inr (.inl (al aw))))]) (AL L s.heap.size) s H locs → lv_has ls 5 [(2, .int (iI ((mo : Int)))), (0, .ref y), (1, .ref ta)] → W p l e R s m av below meth c H locs (0) (0) Q (F0 m 71 ls []) := by
            intro fuel
            induction fuel with
            | zero => intro n mo e0 dm a1 b1 n1 lm3 mn3 sn3 Z3 hfu; exact absurd hfu (Nat.not_lt_zero _)
            | succ fuel ih_LP =>
              intro n mo e0 dm a1 b1 n1 lm3 mn3 sn3 Z3 hfu_LP hn hmo hR3 hS hBt he hdn hpe hqd hpa hqb hwk hfin ho H locs ls B hl
              refine lv_iload_n hx hb d_Mo_laySigns_71 rfl (lv_at hl 0 rfl) ?_
              refine x_if_eq (tgt := 261) hx hb d_Mo_laySigns_72 (by decide) (by omega) (fun h72 => ?_) (fun h72 => ?_)
              · subst hQ hav
                exact x_vret hx hb hr hlocks B d_Mo_laySigns_261 (by first | (exfalso; omega) | exact ⟨_, _, _, Z3, _, n, hR3, ⟨by omega, by omega, hA0, Or.inr ⟨hS, hfin (by omega)⟩⟩, hBt, ho, mw_tail (X := [(y, .inr (7, [.int (iI th), .ref m1, .ref m2, .ref m3, .int (iI pn), .ref m5, .ref m6, .ref m7, .ref m8, .ref m9, .ref m10, .ref m11, .ref m12, .ref m13, .int (iI ((n : Int))), .ref m15, .long (lI fu), .long (lI fb)])), (m1, .inl (cs 0, 11520, .inl (ai lm3))), (m2, .inl (cs 0, 180, .inl (ai mn3))), (m3, .inl (cs 0, 180, .inl (ai sn3))), (m8, .inl (cs 1, 6, .inr (.inl (al d8))))]) (Y := [(ta, .inl (cs 1, 6, .inr (.inl (al aw))))]) (fun p hp => hfx p (List.mem_cons_of_mem _ (List.mem_cons_of_mem _ (List.mem_cons_of_mem _ (List.mem_cons_of_mem _ (List.mem_cons_of_mem _ (hp)))))))⟩)
              · refine lv_aload_n hx hb d_Mo_laySigns_75 rfl (lv_at hl 1 rfl) ?_
                refine x_get (C := RX7) (T := TX7) (N := 18) hx hb hts inX7 hown B hF 0 rfl rfl 14 (by decide) (hts _ w_691) (fun _ h9 => h9) rfl d_Mo_laySigns_76 ?_
                refine x_bipush hx hb d_Mo_laySigns_79 (by decide) ?_
                refine x_icmp_ge (tgt := 261) hx hb d_Mo_laySigns_81 (by decide) (by omega) (by omega) (fun h81 => ?_) (fun h81 => ?_)
                · subst hQ hav
                  exact x_vret hx hb hr hlocks B d_Mo_laySigns_261 (by first | (exfalso; omega) | exact ⟨_, _, _, Z3, _, n, hR3, ⟨by omega, by omega, hA0, Or.inr ⟨hS, hfin (by omega)⟩⟩, hBt, ho, mw_tail (X := [(y, .inr (7, [.int (iI th), .ref m1, .ref m2, .ref m3, .int (iI pn), .ref m5, .ref m6, .ref m7, .ref m8, .ref m9, .ref m10, .ref m11, .ref m12, .ref m13, .int (iI ((n : Int))), .ref m15, .long (lI fu), .long (lI fb)])), (m1, .inl (cs 0, 11520, .inl (ai lm3))), (m2, .inl (cs 0, 180, .inl (ai mn3))), (m3, .inl (cs 0, 180, .inl (ai sn3))), (m8, .inl (cs 1, 6, .inr (.inl (al d8))))]) (Y := [(ta, .inl (cs 1, 6, .inr (.inl (al aw))))]) (fun p hp => hfx p (List.mem_cons_of_mem _ (List.mem_cons_of_mem _ (List.mem_cons_of_mem _ (List.mem_cons_of_mem _ (List.mem_cons_of_mem _ (hp)))))))⟩)
                · refine x_iconst hx hb d_Mo_laySigns_84 ?_
                  refine lv_istore_n (lv' := [(3, .int (iI 0)), (2, .int (iI ((mo : Int)))), (0, .ref y), (1, .ref ta)]) hx hb d_Mo_laySigns_85 rfl hl (by decide) rfl (fun ls hl => ?_)
                  have L2 : ∀ (fuel : Nat) (k : Nat) (lm4 : Nat → Int) (mn4 : Nat → Int) (sn4 : Nat → Int) (Z4 : Nat → Int), 6 - k < fuel → (k ≤ 6) → (RS lm4 mn4 sn4 Z4) → (∀ j, j < k → Z4 (96 + j) = Z3 (60 + 6 * (n - 2) + j)) → (∀ v, (v < 96 ∨ 101 < v) → Z4 v = Z3 v) → ∀ (H : Heap) (locs : List Loc) (ls : Array Slot), Wb D vwCl (TY cs) L (mw f [(y, .inr (7, [.int (iI th), .ref m1, .ref m2, .ref m3, .int (iI pn), .ref m5, .ref m6, .ref m7, .ref m8, .ref m9, .ref m10, .ref m11, .ref m12, .ref m13, .int (iI ((n : Int))), .ref m15, .long (lI fu), .long (lI fb)])), (m1, .inl (cs 0, 11520, .inl (ai lm4))), (m2, .inl (cs 0, 180, .inl (ai mn4))), (m3, .inl (cs 0, 180, .inl (ai sn4))), (m8, .inl (cs 1, 6, .inr (.inl (al d8)))), (ta, .inl (cs 1, 6, .inr (.inl (al aw))))]) (AL L s.heap.size) s H locs → lv_has ls 5 [(3, .int (iI ((k : Int)))), (2, .int (iI ((mo : Int)))), (0, .ref y), (1, .ref ta)] → W p l e R s m av below meth c H locs (0) (0) Q (F0 m 86 ls []) := by
                    intro fuel
                    induction fuel with
                    | zero => intro k lm4 mn4 sn4 Z4 hfu; exact absurd hfu (Nat.not_lt_zero _)
                    | succ fuel ih_L2 =>
                      intro k lm4 mn4 sn4 Z4 hfu_L2 hk4 hR4 hI4 h4o H locs ls B hl
                      refine lv_iload_n hx hb d_Mo_laySigns_86 rfl (lv_at hl 0 rfl) ?_
                      refine x_bipush hx hb d_Mo_laySigns_87 (by decide) ?_
                      refine x_icmp_ge (tgt := 120) hx hb d_Mo_laySigns_89 (by decide) (by omega) (by omega) (fun h89 => ?_) (fun h89 => ?_)
                      · refine x_bipush hx hb d_Mo_laySigns_120 (by decide) ?_
                        refine x_bipush hx hb d_Mo_laySigns_122 (by decide) ?_
                        refine lv_aload_n hx hb d_Mo_laySigns_124 rfl (lv_at hl 2 rfl) ?_
                        refine x_get (C := RX7) (T := TX7) (N := 18) hx hb hts inX7 hown B hF 0 rfl rfl 14 (by decide) (hts _ w_691) (fun _ h9 => h9) rfl d_Mo_laySigns_125 ?_
                        refine x_iconst hx hb d_Mo_laySigns_128 ?_
                        refine x_isub hx hb d_Mo_laySigns_129 ?_
                        refine x_imul hx hb d_Mo_laySigns_130 ?_
                        refine x_iadd hx hb d_Mo_laySigns_131 ?_
                        rw [show 60 + (6 * (((n : Int)) - 1)) = ((60 + 6 * (n - 1) : Nat) : Int) by omega]
                        refine lv_istore_n (lv' := [(3, .int (iI (((60 + 6 * (n - 1) : Nat) : Int)))), (2, .int (iI ((mo : Int)))), (0, .ref y), (1, .ref ta)]) hx hb d_Mo_laySigns_132 rfl hl (by decide) rfl (fun ls hl => ?_)
                        refine lv_aload_n hx hb d_Mo_laySigns_133 rfl (lv_at hl 2 rfl) ?_
                        refine x_bipush hx hb d_Mo_laySigns_134 (by decide) ?_
                        refine lv_iload_n hx hb d_Mo_laySigns_136 rfl (lv_at hl 0 rfl) ?_
                        refine lv_aload_n hx hb d_Mo_laySigns_137 rfl (lv_at hl 2 rfl) ?_
                        refine lv_iload_n hx hb d_Mo_laySigns_138 rfl (lv_at hl 0 rfl) ?_
                        refine x_calli B hA (va_runV (As := [.int (iI (((60 + 6 * (n - 1) : Nat) : Int)))]) (rest := [.int (iI (((60 + 6 * (n - 1) : Nat) : Int))), .int (iI 96), .ref y]) ⟨hx, hb, hml, hown, hts⟩ (c_Mo_degreeAt l D cs _ _ _ y m1 m2 m3 m5 m6 m7 m8 m9 m10 m11 m12 m13 m15 th pn ((n : Int)) fu fb lm4 mn4 sn4 Z4 (60 + 6 * (n - 1)) (hF.pick [0, 1, 2, 3] rfl rfl) (mw_get (X := [(y, .inr (7, [.int (iI th), .ref m1, .ref m2, .ref m3, .int (iI pn), .ref m5, .ref m6, .ref m7, .ref m8, .ref m9, .ref m10, .ref m11, .ref m12, .ref m13, .int (iI ((n : Int))), .ref m15, .long (lI fu), .long (lI fb)])), (m1, .inl (cs 0, 11520, .inl (ai lm4))), (m2, .inl (cs 0, 180, .inl (ai mn4))), (m3, .inl (cs 0, 180, .inl (ai sn4))), (m8, .inl (cs 1, 6, .inr (.inl (al d8)))), (ta, .inl (cs 1, 6, .inr (.inl (al aw))))]) hF.1 (k := 0) rfl) (mw_get (X := [(y, .inr (7, [.int (iI th), .ref m1, .ref m2, .ref m3, .int (iI pn), .ref m5, .ref m6, .ref m7, .ref m8, .ref m9, .ref m10, .ref m11, .ref m12, .ref m13, .int (iI ((n : Int))), .ref m15, .long (lI fu), .long (lI fb)])), (m1, .inl (cs 0, 11520, .inl (ai lm4))), (m2, .inl (cs 0, 180, .inl (ai mn4))), (m3, .inl (cs 0, 180, .inl (ai sn4))), (m8, .inl (cs 1, 6, .inr (.inl (al d8)))), (ta, .inl (cs 1, 6, .inr (.inl (al aw))))]) hF.1 (k := 1) rfl) (mw_get (X := [(y, .inr (7, [.int (iI th), .ref m1, .ref m2, .ref m3, .int (iI pn), .ref m5, .ref m6, .ref m7, .ref m8, .ref m9, .ref m10, .ref m11, .ref m12, .ref m13, .int (iI ((n : Int))), .ref m15, .long (lI fu), .long (lI fb)])), (m1, .inl (cs 0, 11520, .inl (ai lm4))), (m2, .inl (cs 0, 180, .inl (ai mn4))), (m3, .inl (cs 0, 180, .inl (ai sn4))), (m8, .inl (cs 1, 6, .inr (.inl (al d8)))), (ta, .inl (cs 1, 6, .inr (.inl (al aw))))]) hF.1 (k := 2) rfl) (mw_get (X := [(y, .inr (7, [.int (iI th), .ref m1, .ref m2, .ref m3, .int (iI pn), .ref m5, .ref m6, .ref m7, .ref m8, .ref m9, .ref m10, .ref m11, .ref m12, .ref m13, .int (iI ((n : Int))), .ref m15, .long (lI fu), .long (lI fb)])), (m1, .inl (cs 0, 11520, .inl (ai lm4))), (m2, .inl (cs 0, 180, .inl (ai mn4))), (m3, .inl (cs 0, 180, .inl (ai sn4))), (m8, .inl (cs 1, 6, .inr (.inl (al d8)))), (ta, .inl (cs 1, 6, .inr (.inl (al aw))))]) hF.1 (k := 3) rfl) hR4 (by omega)) (cwV 1 hts (gw_V w_796 w_798 s_36 w_8 w_799) rfl rfl rfl (by decide +kernel) ⟨by rw [hRf]; exact Nat.le_of_ble_eq_true rfl, by rw [hRl]; exact Nat.le_of_ble_eq_true rfl⟩) ⟨K0.blind, B.recv (hF.2 _ (mw_key (k := 0) (X := [(y, .inr (7, [.int (iI th), .ref m1, .ref m2, .ref m3, .int (iI pn), .ref m5, .ref m6, .ref m7, .ref m8, .ref m9, .ref m10, .ref m11, .ref m12, .ref m13, .int (iI ((n : Int))), .ref m15, .long (lI fu), .long (lI fb)])), (m1, .inl (cs 0, 11520, .inl (ai lm4))), (m2, .inl (cs 0, 180, .inl (ai mn4))), (m3, .inl (cs 0, 180, .inl (ai sn4))), (m8, .inl (cs 1, 6, .inr (.inl (al d8)))), (ta, .inl (cs 1, 6, .inr (.inl (al aw))))]) rfl)) (mw_get (X := [(y, .inr (7, [.int (iI th), .ref m1, .ref m2, .ref m3, .int (iI pn), .ref m5, .ref m6, .ref m7, .ref m8, .ref m9, .ref m10, .ref m11, .ref m12, .ref m13, .int (iI ((n : Int))), .ref m15, .long (lI fu), .long (lI fb)])), (m1, .inl (cs 0, 11520, .inl (ai lm4))), (m2, .inl (cs 0, 180, .inl (ai mn4))), (m3, .inl (cs 0, 180, .inl (ai sn4))), (m8, .inl (cs 1, 6, .inr (.inl (al d8)))), (ta, .inl (cs 1, 6, .inr (.inl (al aw))))]) hF.1 (k := 0) rfl) rfl, B.pre _⟩ rfl rfl hl.1 rfl (lv_room (Nat.le_of_ble_eq_true rfl)) d_Mo_laySigns_139 ⟨by rw [hRc]; omega, by rw [hRs]; omega⟩) (fun r139 g139 H locs hw B => ?_)
                        obtain ⟨kq, rfl, hk6, hkz, hkl, rfl⟩ := hw
                        have B : Wb D vwCl (TY cs) L (mw f [(y, .inr (7, [.int (iI th), .ref m1, .ref m2, .ref m3, .int (iI pn), .ref m5, .ref m6, .ref m7, .ref m8, .ref m9, .ref m10, .ref m11, .ref m12, .ref m13, .int (iI ((n : Int))), .ref m15, .long (lI fu), .long (lI fb)])), (m1, .inl (cs 0, 11520, .inl (ai lm4))), (m2, .inl (cs 0, 180, .inl (ai mn4))), (m3, .inl (cs 0, 180, .inl (ai sn4))), (m8, .inl (cs 1, 6, .inr (.inl (al d8)))), (ta, .inl (cs 1, 6, .inr (.inl (al aw))))]) (AL L s.heap.size) s H _ := B
                        have h4q : ∀ j, j < 6 → Z4 (60 + 6 * (n - 1) + j) = Z3 (60 + 6 * (n - 1) + j) := fun j hj => h4o _ (by omega)
                        have h4p : ∀ j, j < 6 → Z4 (96 + j) = Z3 (60 + 6 * (n - 2) + j) := fun j hj => hI4 j (by omega)
                        have hkq0 : 0 < kq := by
                          rcases Nat.eq_zero_or_pos kq with h | h
                          · obtain ⟨j, hj, hjn⟩ := hS.2.2.2.1 (n - 1) (by omega)
                            exact absurd ((h4q j hj).symm.trans (hkz j (by omega) hj)) hjn
                          · exact h
                        obtain ⟨nq, hnq⟩ : ∃ nq, kq = nq + 1 := ⟨kq - 1, by omega⟩
                        have hql := hkl (by omega)
                        rw [show kq - 1 = nq by omega, h4q nq (by omega)] at hql
                        have hnd : nq < dm := by rcases Nat.lt_or_ge nq dm with h | h; exact h; exact absurd (hqd nq h (by omega)) hql
                        obtain ⟨n2, hn2, hwr, hwu⟩ := wOs.use (hwk nq hnd)
                        have hkz : ∀ j, kq ≤ j → j < 6 → Z3 (60 + 6 * (n - 1) + j) = 0 := fun j h1 h2 => by rw [← h4q j h2]; exact hkz j h1 h2
                        rw [show (kq : Int) - 1 = (nq : Int) by omega]
                        refine x_callv B hA (va_runV (As := [.int (iI 96), .int (iI (((60 + 6 * (n - 1) : Nat) : Int))), .int (iI ((nq : Int)))]) (rest := []) ⟨hx, hb, hml, hown, hts⟩ (c_Mo_remainder l D cs _ _ _ y m1 m2 m3 m5 m6 m7 m8 m9 m10 m11 m12 m13 m15 th pn ((n : Int)) fu fb lm4 mn4 sn4 Z4 96 (60 + 6 * (n - 1)) nq e0 a1 b1 (hF.pick [0, 1, 2, 3] rfl rfl) (mw_get (X := [(y, .inr (7, [.int (iI th), .ref m1, .ref m2, .ref m3, .int (iI pn), .ref m5, .ref m6, .ref m7, .ref m8, .ref m9, .ref m10, .ref m11, .ref m12, .ref m13, .int (iI ((n : Int))), .ref m15, .long (lI fu), .long (lI fb)])), (m1, .inl (cs 0, 11520, .inl (ai lm4))), (m2, .inl (cs 0, 180, .inl (ai mn4))), (m3, .inl (cs 0, 180, .inl (ai sn4))), (m8, .inl (cs 1, 6, .inr (.inl (al d8)))), (ta, .inl (cs 1, 6, .inr (.inl (al aw))))]) hF.1 (k := 0) rfl) (mw_get (X := [(y, .inr (7, [.int (iI th), .ref m1, .ref m2, .ref m3, .int (iI pn), .ref m5, .ref m6, .ref m7, .ref m8, .ref m9, .ref m10, .ref m11, .ref m12, .ref m13, .int (iI ((n : Int))), .ref m15, .long (lI fu), .long (lI fb)])), (m1, .inl (cs 0, 11520, .inl (ai lm4))), (m2, .inl (cs 0, 180, .inl (ai mn4))), (m3, .inl (cs 0, 180, .inl (ai sn4))), (m8, .inl (cs 1, 6, .inr (.inl (al d8)))), (ta, .inl (cs 1, 6, .inr (.inl (al aw))))]) hF.1 (k := 1) rfl) (mw_get (X := [(y, .inr (7, [.int (iI th), .ref m1, .ref m2, .ref m3, .int (iI pn), .ref m5, .ref m6, .ref m7, .ref m8, .ref m9, .ref m10, .ref m11, .ref m12, .ref m13, .int (iI ((n : Int))), .ref m15, .long (lI fu), .long (lI fb)])), (m1, .inl (cs 0, 11520, .inl (ai lm4))), (m2, .inl (cs 0, 180, .inl (ai mn4))), (m3, .inl (cs 0, 180, .inl (ai sn4))), (m8, .inl (cs 1, 6, .inr (.inl (al d8)))), (ta, .inl (cs 1, 6, .inr (.inl (al aw))))]) hF.1 (k := 2) rfl) (mw_get (X := [(y, .inr (7, [.int (iI th), .ref m1, .ref m2, .ref m3, .int (iI pn), .ref m5, .ref m6, .ref m7, .ref m8, .ref m9, .ref m10, .ref m11, .ref m12, .ref m13, .int (iI ((n : Int))), .ref m15, .long (lI fu), .long (lI fb)])), (m1, .inl (cs 0, 11520, .inl (ai lm4))), (m2, .inl (cs 0, 180, .inl (ai mn4))), (m3, .inl (cs 0, 180, .inl (ai sn4))), (m8, .inl (cs 1, 6, .inr (.inl (al d8)))), (ta, .inl (cs 1, 6, .inr (.inl (al aw))))]) hF.1 (k := 3) rfl) hR4 (by omega) (by omega) (by omega) (by omega) he (fun j h1 h2 => by rw [h4p j h2]; exact hpe j h1 h2) (fun j h1 h2 => by rw [h4q j h2]; exact hkz j (by omega) h2) (by rw [h4q nq (by omega)]; exact hql) (fun j hj => by rw [h4p j hj]; exact hpa j hj) (fun j hj => by rw [h4q j hj]; exact hqb j hj) (by omega)) (cwV 3 hts (gw_V w_800 w_802 s_37 w_8 w_803) rfl rfl rfl (by decide +kernel) ⟨by rw [hRf]; exact Nat.le_of_ble_eq_true rfl, by rw [hRl]; exact Nat.le_of_ble_eq_true rfl⟩) ⟨K0.blind, B.recv (hF.2 _ (mw_key (k := 0) (X := [(y, .inr (7, [.int (iI th), .ref m1, .ref m2, .ref m3, .int (iI pn), .ref m5, .ref m6, .ref m7, .ref m8, .ref m9, .ref m10, .ref m11, .ref m12, .ref m13, .int (iI ((n : Int))), .ref m15, .long (lI fu), .long (lI fb)])), (m1, .inl (cs 0, 11520, .inl (ai lm4))), (m2, .inl (cs 0, 180, .inl (ai mn4))), (m3, .inl (cs 0, 180, .inl (ai sn4))), (m8, .inl (cs 1, 6, .inr (.inl (al d8)))), (ta, .inl (cs 1, 6, .inr (.inl (al aw))))]) rfl)) (mw_get (X := [(y, .inr (7, [.int (iI th), .ref m1, .ref m2, .ref m3, .int (iI pn), .ref m5, .ref m6, .ref m7, .ref m8, .ref m9, .ref m10, .ref m11, .ref m12, .ref m13, .int (iI ((n : Int))), .ref m15, .long (lI fu), .long (lI fb)])), (m1, .inl (cs 0, 11520, .inl (ai lm4))), (m2, .inl (cs 0, 180, .inl (ai mn4))), (m3, .inl (cs 0, 180, .inl (ai sn4))), (m8, .inl (cs 1, 6, .inr (.inl (al d8)))), (ta, .inl (cs 1, 6, .inr (.inl (al aw))))]) hF.1 (k := 0) rfl) rfl, B.pre _⟩ rfl rfl hl.1 rfl (lv_room (Nat.le_of_ble_eq_true rfl)) d_Mo_laySigns_142 ⟨by rw [hRc]; omega, by rw [hRs]; omega⟩) (fun g142 H locs hw B => ?_)
                        obtain ⟨lm142, mn142, sn142, Z5, hR5, h5rem, h5z, h5b, h5o, rfl⟩ := hw
                        have B := B.of_eq (mw_put3 (X := [(y, .inr (7, [.int (iI th), .ref m1, .ref m2, .ref m3, .int (iI pn), .ref m5, .ref m6, .ref m7, .ref m8, .ref m9, .ref m10, .ref m11, .ref m12, .ref m13, .int (iI ((n : Int))), .ref m15, .long (lI fu), .long (lI fb)])), (m1, .inl (cs 0, 11520, .inl (ai lm4))), (m2, .inl (cs 0, 180, .inl (ai mn4))), (m3, .inl (cs 0, 180, .inl (ai sn4))), (m8, .inl (cs 1, 6, .inr (.inl (al d8)))), (ta, .inl (cs 1, 6, .inr (.inl (al aw))))]) hF.1 (k1 := 1) (k2 := 2) (k3 := 3) rfl rfl rfl)
                        have B : Wb D vwCl (TY cs) L (mw f [(y, .inr (7, [.int (iI th), .ref m1, .ref m2, .ref m3, .int (iI pn), .ref m5, .ref m6, .ref m7, .ref m8, .ref m9, .ref m10, .ref m11, .ref m12, .ref m13, .int (iI ((n : Int))), .ref m15, .long (lI fu), .long (lI fb)])), (m1, .inl (cs 0, 11520, .inl (ai lm142))), (m2, .inl (cs 0, 180, .inl (ai mn142))), (m3, .inl (cs 0, 180, .inl (ai sn142))), (m8, .inl (cs 1, 6, .inr (.inl (al d8)))), (ta, .inl (cs 1, 6, .inr (.inl (al aw))))]) (AL L s.heap.size) s H _ := B
                        have h5rem : Rem (fun j => Z3 (60 + 6 * (n - 2) + j)) (fun j => Z3 (60 + 6 * (n - 1) + j)) (fun j => Z5 (96 + j)) := h5rem.congr (fun j hj => (h4p j hj).symm) (fun j hj => (h4q j hj).symm)
                        have h5r : ∀ k, k < n → ∀ j, j < 6 → Z5 (60 + 6 * k + j) = Z3 (60 + 6 * k + j) := fun k hk j hj => by rw [h5o _ (by omega) (by omega)]; exact h4o _ (by omega)
                        have h5out : ∀ v, (v < 60 ∨ 101 < v) → v < 169 → Z5 v = Z v := fun v h1 h2 => by rw [h5o v (by omega) h2, h4o v (by omega)]; exact ho v h1 h2
                        refine lv_aload_n hx hb d_Mo_laySigns_145 rfl (lv_at hl 2 rfl) ?_
                        refine x_bipush hx hb d_Mo_laySigns_146 (by decide) ?_
                        refine x_calli B hA (va_runV (As := [.int (iI 96)]) (rest := []) ⟨hx, hb, hml, hown, hts⟩ (c_Mo_degreeAt l D cs _ _ _ y m1 m2 m3 m5 m6 m7 m8 m9 m10 m11 m12 m13 m15 th pn ((n : Int)) fu fb lm142 mn142 sn142 Z5 96 (hF.pick [0, 1, 2, 3] rfl rfl) (mw_get (X := [(y, .inr (7, [.int (iI th), .ref m1, .ref m2, .ref m3, .int (iI pn), .ref m5, .ref m6, .ref m7, .ref m8, .ref m9, .ref m10, .ref m11, .ref m12, .ref m13, .int (iI ((n : Int))), .ref m15, .long (lI fu), .long (lI fb)])), (m1, .inl (cs 0, 11520, .inl (ai lm142))), (m2, .inl (cs 0, 180, .inl (ai mn142))), (m3, .inl (cs 0, 180, .inl (ai sn142))), (m8, .inl (cs 1, 6, .inr (.inl (al d8)))), (ta, .inl (cs 1, 6, .inr (.inl (al aw))))]) hF.1 (k := 0) rfl) (mw_get (X := [(y, .inr (7, [.int (iI th), .ref m1, .ref m2, .ref m3, .int (iI pn), .ref m5, .ref m6, .ref m7, .ref m8, .ref m9, .ref m10, .ref m11, .ref m12, .ref m13, .int (iI ((n : Int))), .ref m15, .long (lI fu), .long (lI fb)])), (m1, .inl (cs 0, 11520, .inl (ai lm142))), (m2, .inl (cs 0, 180, .inl (ai mn142))), (m3, .inl (cs 0, 180, .inl (ai sn142))), (m8, .inl (cs 1, 6, .inr (.inl (al d8)))), (ta, .inl (cs 1, 6, .inr (.inl (al aw))))]) hF.1 (k := 1) rfl) (mw_get (X := [(y, .inr (7, [.int (iI th), .ref m1, .ref m2, .ref m3, .int (iI pn), .ref m5, .ref m6, .ref m7, .ref m8, .ref m9, .ref m10, .ref m11, .ref m12, .ref m13, .int (iI ((n : Int))), .ref m15, .long (lI fu), .long (lI fb)])), (m1, .inl (cs 0, 11520, .inl (ai lm142))), (m2, .inl (cs 0, 180, .inl (ai mn142))), (m3, .inl (cs 0, 180, .inl (ai sn142))), (m8, .inl (cs 1, 6, .inr (.inl (al d8)))), (ta, .inl (cs 1, 6, .inr (.inl (al aw))))]) hF.1 (k := 2) rfl) (mw_get (X := [(y, .inr (7, [.int (iI th), .ref m1, .ref m2, .ref m3, .int (iI pn), .ref m5, .ref m6, .ref m7, .ref m8, .ref m9, .ref m10, .ref m11, .ref m12, .ref m13, .int (iI ((n : Int))), .ref m15, .long (lI fu), .long (lI fb)])), (m1, .inl (cs 0, 11520, .inl (ai lm142))), (m2, .inl (cs 0, 180, .inl (ai mn142))), (m3, .inl (cs 0, 180, .inl (ai sn142))), (m8, .inl (cs 1, 6, .inr (.inl (al d8)))), (ta, .inl (cs 1, 6, .inr (.inl (al aw))))]) hF.1 (k := 3) rfl) hR5 (by omega)) (cwV 1 hts (gw_V w_796 w_798 s_36 w_8 w_799) rfl rfl rfl (by decide +kernel) ⟨by rw [hRf]; exact Nat.le_of_ble_eq_true rfl, by rw [hRl]; exact Nat.le_of_ble_eq_true rfl⟩) ⟨K0.blind, B.recv (hF.2 _ (mw_key (k := 0) (X := [(y, .inr (7, [.int (iI th), .ref m1, .ref m2, .ref m3, .int (iI pn), .ref m5, .ref m6, .ref m7, .ref m8, .ref m9, .ref m10, .ref m11, .ref m12, .ref m13, .int (iI ((n : Int))), .ref m15, .long (lI fu), .long (lI fb)])), (m1, .inl (cs 0, 11520, .inl (ai lm142))), (m2, .inl (cs 0, 180, .inl (ai mn142))), (m3, .inl (cs 0, 180, .inl (ai sn142))), (m8, .inl (cs 1, 6, .inr (.inl (al d8)))), (ta, .inl (cs 1, 6, .inr (.inl (al aw))))]) rfl)) (mw_get (X := [(y, .inr (7, [.int (iI th), .ref m1, .ref m2, .ref m3, .int (iI pn), .ref m5, .ref m6, .ref m7, .ref m8, .ref m9, .ref m10, .ref m11, .ref m12, .ref m13, .int (iI ((n : Int))), .ref m15, .long (lI fu), .long (lI fb)])), (m1, .inl (cs 0, 11520, .inl (ai lm142))), (m2, .inl (cs 0, 180, .inl (ai mn142))), (m3, .inl (cs 0, 180, .inl (ai sn142))), (m8, .inl (cs 1, 6, .inr (.inl (al d8)))), (ta, .inl (cs 1, 6, .inr (.inl (al aw))))]) hF.1 (k := 0) rfl) rfl, B.pre _⟩ rfl rfl hl.1 rfl (lv_room (Nat.le_of_ble_eq_true rfl)) d_Mo_laySigns_148 ⟨by rw [hRc]; omega, by rw [hRs]; omega⟩) (fun r148 g148 H locs hw B => ?_)
                        obtain ⟨k2, rfl, hk26, hk2z, hk2l, rfl⟩ := hw
                        have B : Wb D vwCl (TY cs) L (mw f [(y, .inr (7, [.int (iI th), .ref m1, .ref m2, .ref m3, .int (iI pn), .ref m5, .ref m6, .ref m7, .ref m8, .ref m9, .ref m10, .ref m11, .ref m12, .ref m13, .int (iI ((n : Int))), .ref m15, .long (lI fu), .long (lI fb)])), (m1, .inl (cs 0, 11520, .inl (ai lm142))), (m2, .inl (cs 0, 180, .inl (ai mn142))), (m3, .inl (cs 0, 180, .inl (ai sn142))), (m8, .inl (cs 1, 6, .inr (.inl (al d8)))), (ta, .inl (cs 1, 6, .inr (.inl (al aw))))]) (AL L s.heap.size) s H _ := B
                        refine x_if_lt (tgt := 158) hx hb d_Mo_laySigns_151 (by decide) (by omega) (fun h151 => ?_) (fun h151 => ?_)
                        · refine x_iconst hx hb d_Mo_laySigns_158 ?_
                          have hdv5 : Dv (il (fun j => Z5 (60 + 6 * (n - 1) + j)) 6) (il (fun j => Z5 (60 + 6 * (n - 2) + j)) 6) := by
                            have h9 := Rem.dv h5rem (fun j hj => hk2z j (by omega) hj)
                            have e1 : (fun j => Z5 (60 + 6 * (n - 1) + j)) = fun j => Z5 (60 + 6 * (n - 1) + j) := rfl
                            rw [il_congr6 (fun j hj => h5r (n - 1) (by omega) j hj), il_congr6 (fun j hj => h5r (n - 2) (by omega) j hj)]
                            exact h9
                          refine lv_istore_n (lv' := [(2, .int (iI 0)), (3, .int (iI (((60 + 6 * (n - 1) : Nat) : Int)))), (0, .ref y), (1, .ref ta)]) hx hb d_Mo_laySigns_159 rfl hl (by decide) rfl (fun ls hl => ?_)
                          refine x_iconst hx hb d_Mo_laySigns_160 ?_
                          refine lv_istore (lv' := [(4, .int (iI 0)), (2, .int (iI 0)), (3, .int (iI (((60 + 6 * (n - 1) : Nat) : Int)))), (0, .ref y), (1, .ref ta)]) hx hb d_Mo_laySigns_161 hl (by decide) rfl (fun ls hl => ?_)
                          refine lv_iload hx hb d_Mo_laySigns_163 (lv_at hl 0 rfl) ?_
                          refine x_bipush hx hb d_Mo_laySigns_165 (by decide) ?_
                          refine x_icmp_ge (tgt := 240) hx hb d_Mo_laySigns_167 (by decide) (by omega) (by omega) (fun h167 => ?_) (fun h167 => ?_)
                          · exfalso; omega
                          · refine lv_iload_n hx hb d_Mo_laySigns_170 rfl (lv_at hl 1 rfl) ?_
                            refine x_if_eq (tgt := 240) hx hb d_Mo_laySigns_171 (by decide) (by omega) (fun h171 => ?_) (fun h171 => ?_)
                            · refine lv_aload_n hx hb d_Mo_laySigns_240 rfl (lv_at hl 3 rfl) ?_
                              refine lv_dup hx hb d_Mo_laySigns_241 rfl ?_
                              refine x_get (C := RX7) (T := TX7) (N := 18) hx hb hts inX7 hown B hF 0 rfl rfl 14 (by decide) (hts _ w_691) (fun _ h9 => h9) rfl d_Mo_laySigns_242 ?_
                              refine lv_iload_n hx hb d_Mo_laySigns_245 rfl (lv_at hl 1 rfl) ?_
                              refine x_if_eq (tgt := 253) hx hb d_Mo_laySigns_246 (by decide) (by omega) (fun h246 => ?_) (fun h246 => ?_)
                              · refine x_iconst hx hb d_Mo_laySigns_253 ?_
                                refine x_iadd hx hb d_Mo_laySigns_254 ?_
                                refine x_put (C := RX7) (T := TX7) (N := 18) hx hb hts inX7 tyX7 tyX7_ok nmX7 hown B hF 0 rfl rfl 14 (by decide) (hts _ w_691) (fun _ h9 => h9) rfl (tyX7_ok 14 (by decide)) rfl rfl (Nat.le_of_ble_eq_true rfl) d_Mo_laySigns_255 (fun H locs B => ?_)
                                have B : Wb D vwCl (TY cs) L (mw f [(y, .inr (7, [.int (iI th), .ref m1, .ref m2, .ref m3, .int (iI pn), .ref m5, .ref m6, .ref m7, .ref m8, .ref m9, .ref m10, .ref m11, .ref m12, .ref m13, .int (iI (((n : Int)) + 0)), .ref m15, .long (lI fu), .long (lI fb)])), (m1, .inl (cs 0, 11520, .inl (ai lm142))), (m2, .inl (cs 0, 180, .inl (ai mn142))), (m3, .inl (cs 0, 180, .inl (ai sn142))), (m8, .inl (cs 1, 6, .inr (.inl (al d8)))), (ta, .inl (cs 1, 6, .inr (.inl (al aw))))]) (AL L s.heap.size) s H _ := B
                                refine lv_goto (tgt := 71) hx hb d_Mo_laySigns_258 (by decide) ?_
                                rw [show (n : Int) + 0 = ((n : Nat) : Int) by omega] at B
                                have B : Wb D vwCl (TY cs) L (mw f [(y, .inr (7, [.int (iI th), .ref m1, .ref m2, .ref m3, .int (iI pn), .ref m5, .ref m6, .ref m7, .ref m8, .ref m9, .ref m10, .ref m11, .ref m12, .ref m13, .int (iI (((n : Nat) : Int))), .ref m15, .long (lI fu), .long (lI fb)])), (m1, .inl (cs 0, 11520, .inl (ai lm142))), (m2, .inl (cs 0, 180, .inl (ai mn142))), (m3, .inl (cs 0, 180, .inl (ai sn142))), (m8, .inl (cs 1, 6, .inr (.inl (al d8)))), (ta, .inl (cs 1, 6, .inr (.inl (al aw))))]) (AL L s.heap.size) s H _ := B
                                exact ih_LP n 0 e0 dm a1 b1 n1 lm142 mn142 sn142 Z5 (by omega) hn (by omega) hR5 (hS.congr (fun k hk j hj => h5r k hk j hj)) (hBt.congr (fun k hk j hj => h5r k hk j hj)) he hdn (fun j h1 h2 => by rw [h5r (n - 2) (by omega) j h2]; exact hpe j h1 h2) (fun j h1 h2 => by rw [h5r (n - 1) (by omega) j h2]; exact hqd j h1 h2) (fun j hj => by rw [h5r (n - 2) (by omega) j hj]; exact hpa j hj) (fun j hj => by rw [h5r (n - 1) (by omega) j hj]; exact hqb j hj) hwk (fun _ => hdv5) h5out _ _ _ B (lv_sub hl [1, 3, 4] rfl)
                              · exfalso; omega
                            · exfalso; omega
                        · refine x_iconst hx hb d_Mo_laySigns_154 ?_
                          refine lv_goto (tgt := 159) hx hb d_Mo_laySigns_155 (by decide) ?_
                          have hk2q : k2 ≤ nq := by rcases Nat.lt_or_ge nq k2 with h | h; exact absurd (h5z (k2 - 1) (by omega) (by omega)) (hk2l (by omega)); exact h
                          have hn5 : n < 6 := by omega
                          refine lv_istore_n (lv' := [(2, .int (iI 1)), (3, .int (iI (((60 + 6 * (n - 1) : Nat) : Int)))), (0, .ref y), (1, .ref ta)]) hx hb d_Mo_laySigns_159 rfl hl (by decide) rfl (fun ls hl => ?_)
                          refine x_iconst hx hb d_Mo_laySigns_160 ?_
                          refine lv_istore (lv' := [(4, .int (iI 0)), (2, .int (iI 1)), (3, .int (iI (((60 + 6 * (n - 1) : Nat) : Int)))), (0, .ref y), (1, .ref ta)]) hx hb d_Mo_laySigns_161 hl (by decide) rfl (fun ls hl => ?_)
                          have L3 : ∀ (fuel : Nat) (k : Nat) (lm6 : Nat → Int) (mn6 : Nat → Int) (sn6 : Nat → Int) (Z6 : Nat → Int), 6 - k < fuel → (k ≤ 6) → (RS lm6 mn6 sn6 Z6) → (∀ j, j < k → Z6 (60 + 6 * n + j) = -Z5 (96 + j)) → (∀ v, (v < 60 + 6 * n ∨ 65 + 6 * n < v) → Z6 v = Z5 v) → ∀ (H : Heap) (locs : List Loc) (ls : Array Slot), Wb D vwCl (TY cs) L (mw f [(y, .inr (7, [.int (iI th), .ref m1, .ref m2, .ref m3, .int (iI pn), .ref m5, .ref m6, .ref m7, .ref m8, .ref m9, .ref m10, .ref m11, .ref m12, .ref m13, .int (iI ((n : Int))), .ref m15, .long (lI fu), .long (lI fb)])), (m1, .inl (cs 0, 11520, .inl (ai lm6))), (m2, .inl (cs 0, 180, .inl (ai mn6))), (m3, .inl (cs 0, 180, .inl (ai sn6))), (m8, .inl (cs 1, 6, .inr (.inl (al d8)))), (ta, .inl (cs 1, 6, .inr (.inl (al aw))))]) (AL L s.heap.size) s H locs → lv_has ls 5 [(4, .int (iI ((k : Int)))), (2, .int (iI 1)), (0, .ref y), (1, .ref ta)] → W p l e R s m av below meth c H locs (0) (0) Q (F0 m 163 ls []) := by
                            intro fuel
                            induction fuel with
                            | zero => intro k lm6 mn6 sn6 Z6 hfu; exact absurd hfu (Nat.not_lt_zero _)
                            | succ fuel ih_L3 =>
                              intro k lm6 mn6 sn6 Z6 hfu_L3 hk6b hR6 h6n h6o H locs ls B hl
                              refine lv_iload hx hb d_Mo_laySigns_163 (lv_at hl 0 rfl) ?_
                              refine x_bipush hx hb d_Mo_laySigns_165 (by decide) ?_
                              refine x_icmp_ge (tgt := 240) hx hb d_Mo_laySigns_167 (by decide) (by omega) (by omega) (fun h167 => ?_) (fun h167 => ?_)
                              · have hk66 : k = 6 := by omega
                                have h6r : ∀ k, k < n → ∀ j, j < 6 → Z6 (60 + 6 * k + j) = Z3 (60 + 6 * k + j) := fun k hk j hj => by rw [h6o _ (by omega)]; exact h5r k hk j hj
                                refine lv_aload_n hx hb d_Mo_laySigns_240 rfl (lv_at hl 2 rfl) ?_
                                refine lv_dup hx hb d_Mo_laySigns_241 rfl ?_
                                refine x_get (C := RX7) (T := TX7) (N := 18) hx hb hts inX7 hown B hF 0 rfl rfl 14 (by decide) (hts _ w_691) (fun _ h9 => h9) rfl d_Mo_laySigns_242 ?_
                                refine lv_iload_n hx hb d_Mo_laySigns_245 rfl (lv_at hl 1 rfl) ?_
                                refine x_if_eq (tgt := 253) hx hb d_Mo_laySigns_246 (by decide) (by omega) (fun h246 => ?_) (fun h246 => ?_)
                                · exfalso; omega
                                · refine x_iconst hx hb d_Mo_laySigns_249 ?_
                                  refine lv_goto (tgt := 254) hx hb d_Mo_laySigns_250 (by decide) ?_
                                  refine x_iadd hx hb d_Mo_laySigns_254 ?_
                                  refine x_put (C := RX7) (T := TX7) (N := 18) hx hb hts inX7 tyX7 tyX7_ok nmX7 hown B hF 0 rfl rfl 14 (by decide) (hts _ w_691) (fun _ h9 => h9) rfl (tyX7_ok 14 (by decide)) rfl rfl (Nat.le_of_ble_eq_true rfl) d_Mo_laySigns_255 (fun H locs B => ?_)
                                  have B : Wb D vwCl (TY cs) L (mw f [(y, .inr (7, [.int (iI th), .ref m1, .ref m2, .ref m3, .int (iI pn), .ref m5, .ref m6, .ref m7, .ref m8, .ref m9, .ref m10, .ref m11, .ref m12, .ref m13, .int (iI (((n : Int)) + 1)), .ref m15, .long (lI fu), .long (lI fb)])), (m1, .inl (cs 0, 11520, .inl (ai lm6))), (m2, .inl (cs 0, 180, .inl (ai mn6))), (m3, .inl (cs 0, 180, .inl (ai sn6))), (m8, .inl (cs 1, 6, .inr (.inl (al d8)))), (ta, .inl (cs 1, 6, .inr (.inl (al aw))))]) (AL L s.heap.size) s H _ := B
                                  refine lv_goto (tgt := 71) hx hb d_Mo_laySigns_258 (by decide) ?_
                                  rw [show (n : Int) + 1 = ((n + 1 : Nat) : Int) by omega] at B
                                  have B : Wb D vwCl (TY cs) L (mw f [(y, .inr (7, [.int (iI th), .ref m1, .ref m2, .ref m3, .int (iI pn), .ref m5, .ref m6, .ref m7, .ref m8, .ref m9, .ref m10, .ref m11, .ref m12, .ref m13, .int (iI (((n + 1 : Nat) : Int))), .ref m15, .long (lI fu), .long (lI fb)])), (m1, .inl (cs 0, 11520, .inl (ai lm6))), (m2, .inl (cs 0, 180, .inl (ai mn6))), (m3, .inl (cs 0, 180, .inl (ai sn6))), (m8, .inl (cs 1, 6, .inr (.inl (al d8)))), (ta, .inl (cs 1, 6, .inr (.inl (al aw))))]) (AL L s.heap.size) s H _ := B
                                  exact ih_LP (n + 1) 1 nq nq b1 (rE a1 b1 e0 nq) n2 lm6 mn6 sn6 Z6 (by omega) (by omega) (by omega) hR6 (hS.snoc (r' := (fun k j => Z6 (60 + 6 * k + j))) (fun k hk j hj => h6r k hk j hj) (h5rem.nr (d := nq) (by omega) hql (fun j h1 h2 => h5z j h1 h2) (fun j hj => h6n j (by omega))) ⟨k2 - 1, by omega, by have h9 := hk2l (by omega); show Z6 (60 + 6 * n + (k2 - 1)) ≠ 0; rw [h6n _ (by omega)]; omega⟩) (hBt.snoc (r' := (fun k j => Z6 (60 + 6 * k + j))) (d := nq - 1) (a0 := rE a1 b1 e0 nq) (fun k hk j hj => h6r k hk j hj) (by omega) (fun j h1 h2 => by rw [h6n j (by omega), h5z j (by omega) h2]; rfl) (fun j hj => by rw [h6n j (by omega), Int.natAbs_neg]; exact h5b j hj) hwr.2) (by omega) (by omega) (fun j h1 h2 => by rw [show 60 + 6 * (n + 1 - 2) + j = 60 + 6 * (n - 1) + j by omega, h6r (n - 1) (by omega) j h2]; exact hkz j (by omega) h2) (fun j h1 h2 => by rw [show 60 + 6 * (n + 1 - 1) + j = 60 + 6 * n + j by omega, h6n j (by omega), h5z j h1 h2]; rfl) (fun j hj => by rw [show 60 + 6 * (n + 1 - 2) + j = 60 + 6 * (n - 1) + j by omega, h6r (n - 1) (by omega) j hj]; exact hqb j hj) (fun j hj => by rw [show 60 + 6 * (n + 1 - 1) + j = 60 + 6 * n + j by omega, h6n j (by omega), Int.natAbs_neg]; exact h5b j hj) hwu (fun h9 => by omega) (fun v h1 h2 => by rw [h6o v (by omega)]; exact h5out v h1 h2) _ _ _ B (lv_sub hl [1, 2, 3] rfl)
                              · refine lv_iload_n hx hb d_Mo_laySigns_170 rfl (lv_at hl 1 rfl) ?_
                                refine x_if_eq (tgt := 240) hx hb d_Mo_laySigns_171 (by decide) (by omega) (fun h171 => ?_) (fun h171 => ?_)
                                · exfalso; omega
                                · refine lv_aload_n hx hb d_Mo_laySigns_174 rfl (lv_at hl 2 rfl) ?_
                                  refine x_get (C := RX7) (T := TX7) (N := 18) hx hb hts inX7 hown B hF 0 rfl rfl 14 (by decide) (hts _ w_691) (fun _ h9 => h9) rfl d_Mo_laySigns_175 ?_
                                  refine x_bipush hx hb d_Mo_laySigns_178 (by decide) ?_
                                  refine x_icmp_ge (tgt := 240) hx hb d_Mo_laySigns_180 (by decide) (by omega) (by omega) (fun h180 => ?_) (fun h180 => ?_)
                                  · exfalso; omega
                                  · refine lv_aload_n hx hb d_Mo_laySigns_183 rfl (lv_at hl 2 rfl) ?_
                                    refine x_bipush hx hb d_Mo_laySigns_184 (by decide) ?_
                                    refine x_bipush hx hb d_Mo_laySigns_186 (by decide) ?_
                                    refine lv_aload_n hx hb d_Mo_laySigns_188 rfl (lv_at hl 2 rfl) ?_
                                    refine x_get (C := RX7) (T := TX7) (N := 18) hx hb hts inX7 hown B hF 0 rfl rfl 14 (by decide) (hts _ w_691) (fun _ h9 => h9) rfl d_Mo_laySigns_189 ?_
                                    refine x_imul hx hb d_Mo_laySigns_192 ?_
                                    refine x_iadd hx hb d_Mo_laySigns_193 ?_
                                    refine lv_iload hx hb d_Mo_laySigns_194 (lv_at hl 0 rfl) ?_
                                    refine x_iadd hx hb d_Mo_laySigns_196 ?_
                                    refine x_bipush hx hb d_Mo_laySigns_197 (by decide) ?_
                                    refine lv_iload hx hb d_Mo_laySigns_199 (lv_at hl 0 rfl) ?_
                                    refine x_iadd hx hb d_Mo_laySigns_201 ?_
                                    rw [show 96 + ((k : Int)) = ((96 + k : Nat) : Int) by omega]
                                    rw [show (60 + (6 * ((n : Int)))) + ((k : Int)) = ((60 + 6 * n + k : Nat) : Int) by omega]
                                    refine x_callv B hA (va_runV (As := [.int (iI (((60 + 6 * n + k : Nat) : Int))), .int (iI (((96 + k : Nat) : Int)))]) (rest := []) ⟨hx, hb, hml, hown, hts⟩ (c_Mo_copy l D cs _ _ _ y m1 m2 m3 m5 m6 m7 m8 m9 m10 m11 m12 m13 m15 th pn ((n : Int)) fu fb lm6 mn6 sn6 Z6 (60 + 6 * n + k) (96 + k) (hF.pick [0, 1, 2, 3] rfl rfl) (mw_get (X := [(y, .inr (7, [.int (iI th), .ref m1, .ref m2, .ref m3, .int (iI pn), .ref m5, .ref m6, .ref m7, .ref m8, .ref m9, .ref m10, .ref m11, .ref m12, .ref m13, .int (iI ((n : Int))), .ref m15, .long (lI fu), .long (lI fb)])), (m1, .inl (cs 0, 11520, .inl (ai lm6))), (m2, .inl (cs 0, 180, .inl (ai mn6))), (m3, .inl (cs 0, 180, .inl (ai sn6))), (m8, .inl (cs 1, 6, .inr (.inl (al d8)))), (ta, .inl (cs 1, 6, .inr (.inl (al aw))))]) hF.1 (k := 0) rfl) (mw_get (X := [(y, .inr (7, [.int (iI th), .ref m1, .ref m2, .ref m3, .int (iI pn), .ref m5, .ref m6, .ref m7, .ref m8, .ref m9, .ref m10, .ref m11, .ref m12, .ref m13, .int (iI ((n : Int))), .ref m15, .long (lI fu), .long (lI fb)])), (m1, .inl (cs 0, 11520, .inl (ai lm6))), (m2, .inl (cs 0, 180, .inl (ai mn6))), (m3, .inl (cs 0, 180, .inl (ai sn6))), (m8, .inl (cs 1, 6, .inr (.inl (al d8)))), (ta, .inl (cs 1, 6, .inr (.inl (al aw))))]) hF.1 (k := 1) rfl) (mw_get (X := [(y, .inr (7, [.int (iI th), .ref m1, .ref m2, .ref m3, .int (iI pn), .ref m5, .ref m6, .ref m7, .ref m8, .ref m9, .ref m10, .ref m11, .ref m12, .ref m13, .int (iI ((n : Int))), .ref m15, .long (lI fu), .long (lI fb)])), (m1, .inl (cs 0, 11520, .inl (ai lm6))), (m2, .inl (cs 0, 180, .inl (ai mn6))), (m3, .inl (cs 0, 180, .inl (ai sn6))), (m8, .inl (cs 1, 6, .inr (.inl (al d8)))), (ta, .inl (cs 1, 6, .inr (.inl (al aw))))]) hF.1 (k := 2) rfl) (mw_get (X := [(y, .inr (7, [.int (iI th), .ref m1, .ref m2, .ref m3, .int (iI pn), .ref m5, .ref m6, .ref m7, .ref m8, .ref m9, .ref m10, .ref m11, .ref m12, .ref m13, .int (iI ((n : Int))), .ref m15, .long (lI fu), .long (lI fb)])), (m1, .inl (cs 0, 11520, .inl (ai lm6))), (m2, .inl (cs 0, 180, .inl (ai mn6))), (m3, .inl (cs 0, 180, .inl (ai sn6))), (m8, .inl (cs 1, 6, .inr (.inl (al d8)))), (ta, .inl (cs 1, 6, .inr (.inl (al aw))))]) hF.1 (k := 3) rfl) hR6 (by omega) (by omega)) (cwV 2 hts (gw_V w_804 w_806 s_38 w_8 w_807) rfl rfl rfl (by decide +kernel) ⟨by rw [hRf]; exact Nat.le_of_ble_eq_true rfl, by rw [hRl]; exact Nat.le_of_ble_eq_true rfl⟩) ⟨K0.blind, B.recv (hF.2 _ (mw_key (k := 0) (X := [(y, .inr (7, [.int (iI th), .ref m1, .ref m2, .ref m3, .int (iI pn), .ref m5, .ref m6, .ref m7, .ref m8, .ref m9, .ref m10, .ref m11, .ref m12, .ref m13, .int (iI ((n : Int))), .ref m15, .long (lI fu), .long (lI fb)])), (m1, .inl (cs 0, 11520, .inl (ai lm6))), (m2, .inl (cs 0, 180, .inl (ai mn6))), (m3, .inl (cs 0, 180, .inl (ai sn6))), (m8, .inl (cs 1, 6, .inr (.inl (al d8)))), (ta, .inl (cs 1, 6, .inr (.inl (al aw))))]) rfl)) (mw_get (X := [(y, .inr (7, [.int (iI th), .ref m1, .ref m2, .ref m3, .int (iI pn), .ref m5, .ref m6, .ref m7, .ref m8, .ref m9, .ref m10, .ref m11, .ref m12, .ref m13, .int (iI ((n : Int))), .ref m15, .long (lI fu), .long (lI fb)])), (m1, .inl (cs 0, 11520, .inl (ai lm6))), (m2, .inl (cs 0, 180, .inl (ai mn6))), (m3, .inl (cs 0, 180, .inl (ai sn6))), (m8, .inl (cs 1, 6, .inr (.inl (al d8)))), (ta, .inl (cs 1, 6, .inr (.inl (al aw))))]) hF.1 (k := 0) rfl) rfl, B.pre _⟩ rfl rfl hl.1 rfl (lv_room (Nat.le_of_ble_eq_true rfl)) d_Mo_laySigns_202 ⟨by rw [hRc]; omega, by rw [hRs]; omega⟩) (fun g202 H locs hw B => ?_)
                                    obtain ⟨lm202, mn202, sn202, hR6b, rfl⟩ := hw
                                    have B := B.of_eq (mw_put3 (X := [(y, .inr (7, [.int (iI th), .ref m1, .ref m2, .ref m3, .int (iI pn), .ref m5, .ref m6, .ref m7, .ref m8, .ref m9, .ref m10, .ref m11, .ref m12, .ref m13, .int (iI ((n : Int))), .ref m15, .long (lI fu), .long (lI fb)])), (m1, .inl (cs 0, 11520, .inl (ai lm6))), (m2, .inl (cs 0, 180, .inl (ai mn6))), (m3, .inl (cs 0, 180, .inl (ai sn6))), (m8, .inl (cs 1, 6, .inr (.inl (al d8)))), (ta, .inl (cs 1, 6, .inr (.inl (al aw))))]) hF.1 (k1 := 1) (k2 := 2) (k3 := 3) rfl rfl rfl)
                                    have B : Wb D vwCl (TY cs) L (mw f [(y, .inr (7, [.int (iI th), .ref m1, .ref m2, .ref m3, .int (iI pn), .ref m5, .ref m6, .ref m7, .ref m8, .ref m9, .ref m10, .ref m11, .ref m12, .ref m13, .int (iI ((n : Int))), .ref m15, .long (lI fu), .long (lI fb)])), (m1, .inl (cs 0, 11520, .inl (ai lm202))), (m2, .inl (cs 0, 180, .inl (ai mn202))), (m3, .inl (cs 0, 180, .inl (ai sn202))), (m8, .inl (cs 1, 6, .inr (.inl (al d8)))), (ta, .inl (cs 1, 6, .inr (.inl (al aw))))]) (AL L s.heap.size) s H _ := B
                                    rw [h6o (96 + k) (by omega)] at hR6b
                                    have hR6c : RS lm202 mn202 (up sn202 (60 + 6 * n + k) (-sn202 (96 + k))) (up Z6 (60 + 6 * n + k) (-Z5 (96 + k))) := by
                                      have h8 := RS.set (z := -Z5 (96 + k)) (hR6b.off (60 + 6 * n + k)) ((Off.refl (60 + 6 * n + k) lm202 mn202 sn202).sign (-sn202 (96 + k))) (by
                                        have h9 := hR6b (60 + 6 * n + k) (by omega)
                                        have h7 := (hR6b (96 + k) (by omega)).2.2.2.2.1
                                        rw [up_ne _ _ (by omega), h6o (96 + k) (by omega)] at h7
                                        rw [up_self] at h9 ⊢
                                        exact h9.negs h7)
                                      rw [up_up] at h8
                                      exact h8
                                    refine lv_aload_n hx hb d_Mo_laySigns_205 rfl (lv_at hl 2 rfl) ?_
                                    refine x_get (C := RX7) (T := TX7) (N := 18) hx hb hts inX7 hown B hF 0 rfl rfl 3 (by decide) (hts _ w_680) (fun _ h9 => h9) rfl d_Mo_laySigns_206 ?_
                                    refine x_bipush hx hb d_Mo_laySigns_209 (by decide) ?_
                                    refine x_bipush hx hb d_Mo_laySigns_211 (by decide) ?_
                                    refine lv_aload_n hx hb d_Mo_laySigns_213 rfl (lv_at hl 2 rfl) ?_
                                    refine x_get (C := RX7) (T := TX7) (N := 18) hx hb hts inX7 hown B hF 0 rfl rfl 14 (by decide) (hts _ w_691) (fun _ h9 => h9) rfl d_Mo_laySigns_214 ?_
                                    refine x_imul hx hb d_Mo_laySigns_217 ?_
                                    refine x_iadd hx hb d_Mo_laySigns_218 ?_
                                    refine lv_iload hx hb d_Mo_laySigns_219 (lv_at hl 0 rfl) ?_
                                    refine x_iadd hx hb d_Mo_laySigns_221 ?_
                                    refine lv_aload_n hx hb d_Mo_laySigns_222 rfl (lv_at hl 2 rfl) ?_
                                    refine x_get (C := RX7) (T := TX7) (N := 18) hx hb hts inX7 hown B hF 0 rfl rfl 3 (by decide) (hts _ w_680) (fun _ h9 => h9) rfl d_Mo_laySigns_223 ?_
                                    refine x_bipush hx hb d_Mo_laySigns_226 (by decide) ?_
                                    refine lv_iload hx hb d_Mo_laySigns_228 (lv_at hl 0 rfl) ?_
                                    refine x_iadd hx hb d_Mo_laySigns_230 ?_
                                    refine x_iald hx hb B hF 3 0 rfl rfl (96 + k) (by omega) (by omega) (by decide) d_Mo_laySigns_231 ?_
                                    refine x_ineg hx hb d_Mo_laySigns_232 ?_
                                    refine x_iast hx hb B hF 3 0 rfl rfl (60 + 6 * n + k) (by omega) (by omega) (by decide) d_Mo_laySigns_233 (fun H locs B => ?_)
                                    have B : Wb D vwCl (TY cs) L (mw f [(y, .inr (7, [.int (iI th), .ref m1, .ref m2, .ref m3, .int (iI pn), .ref m5, .ref m6, .ref m7, .ref m8, .ref m9, .ref m10, .ref m11, .ref m12, .ref m13, .int (iI ((n : Int))), .ref m15, .long (lI fu), .long (lI fb)])), (m1, .inl (cs 0, 11520, .inl (ai lm202))), (m2, .inl (cs 0, 180, .inl (ai mn202))), (m3, .inl (cs 0, 180, .inl (ai (up sn202 (60 + 6 * n + k) (-(sn202 (96 + k))))))), (m8, .inl (cs 1, 6, .inr (.inl (al d8)))), (ta, .inl (cs 1, 6, .inr (.inl (al aw))))]) (AL L s.heap.size) s H _ := B
                                    refine x_iinc (lv' := [(4, .int (iI (((k : Int)) + 1))), (2, .int (iI 1)), (0, .ref y), (1, .ref ta)]) hx hb d_Mo_laySigns_234 hl (q := 0) rfl rfl (by decide) rfl (fun ls hl => ?_)
                                    refine lv_goto (tgt := 163) hx hb d_Mo_laySigns_237 (by decide) ?_
                                    exact ih_L3 (k + 1) lm202 mn202 (up sn202 (60 + 6 * n + k) (-(sn202 (96 + k)))) (up Z6 (60 + 6 * n + k) (-Z5 (96 + k))) (by omega) (by omega) hR6c (fun j hj => by
          by_cases hjk : j = k
          · rw [hjk, up_self]
          · rw [up_ne _ _ (by omega)]; exact h6n j (by omega)) (fun v hv => by rw [up_ne _ _ (by omega)]; exact h6o v hv) _ _ _ B (lv_sub hl [0, 1, 2, 3] rfl)
                          exact L3 _ 0 lm142 mn142 sn142 Z5 (Nat.lt_succ_self _) (by omega) hR5 (fun j hj => by omega) (fun v _ => rfl) _ _ _ B (lv_sub hl [0, 1, 3, 4] rfl)
                      · refine lv_aload_n hx hb d_Mo_laySigns_92 rfl (lv_at hl 2 rfl) ?_
                        refine x_bipush hx hb d_Mo_laySigns_93 (by decide) ?_
                        refine lv_iload_n hx hb d_Mo_laySigns_95 rfl (lv_at hl 0 rfl) ?_
                        refine x_iadd hx hb d_Mo_laySigns_96 ?_
                        refine x_bipush hx hb d_Mo_laySigns_97 (by decide) ?_
                        refine x_bipush hx hb d_Mo_laySigns_99 (by decide) ?_
                        refine lv_aload_n hx hb d_Mo_laySigns_101 rfl (lv_at hl 2 rfl) ?_
                        refine x_get (C := RX7) (T := TX7) (N := 18) hx hb hts inX7 hown B hF 0 rfl rfl 14 (by decide) (hts _ w_691) (fun _ h9 => h9) rfl d_Mo_laySigns_102 ?_
                        refine x_iconst hx hb d_Mo_laySigns_105 ?_
                        refine x_isub hx hb d_Mo_laySigns_106 ?_
                        refine x_imul hx hb d_Mo_laySigns_107 ?_
                        refine x_iadd hx hb d_Mo_laySigns_108 ?_
                        refine lv_iload_n hx hb d_Mo_laySigns_109 rfl (lv_at hl 0 rfl) ?_
                        refine x_iadd hx hb d_Mo_laySigns_110 ?_
                        rw [show (60 + (6 * (((n : Int)) - 2))) + ((k : Int)) = ((60 + 6 * (n - 2) + k : Nat) : Int) by omega]
                        rw [show 96 + ((k : Int)) = ((96 + k : Nat) : Int) by omega]
                        refine x_callv B hA (va_runV (As := [.int (iI (((96 + k : Nat) : Int))), .int (iI (((60 + 6 * (n - 2) + k : Nat) : Int)))]) (rest := []) ⟨hx, hb, hml, hown, hts⟩ (c_Mo_copy l D cs _ _ _ y m1 m2 m3 m5 m6 m7 m8 m9 m10 m11 m12 m13 m15 th pn ((n : Int)) fu fb lm4 mn4 sn4 Z4 (96 + k) (60 + 6 * (n - 2) + k) (hF.pick [0, 1, 2, 3] rfl rfl) (mw_get (X := [(y, .inr (7, [.int (iI th), .ref m1, .ref m2, .ref m3, .int (iI pn), .ref m5, .ref m6, .ref m7, .ref m8, .ref m9, .ref m10, .ref m11, .ref m12, .ref m13, .int (iI ((n : Int))), .ref m15, .long (lI fu), .long (lI fb)])), (m1, .inl (cs 0, 11520, .inl (ai lm4))), (m2, .inl (cs 0, 180, .inl (ai mn4))), (m3, .inl (cs 0, 180, .inl (ai sn4))), (m8, .inl (cs 1, 6, .inr (.inl (al d8)))), (ta, .inl (cs 1, 6, .inr (.inl (al aw))))]) hF.1 (k := 0) rfl) (mw_get (X := [(y, .inr (7, [.int (iI th), .ref m1, .ref m2, .ref m3, .int (iI pn), .ref m5, .ref m6, .ref m7, .ref m8, .ref m9, .ref m10, .ref m11, .ref m12, .ref m13, .int (iI ((n : Int))), .ref m15, .long (lI fu), .long (lI fb)])), (m1, .inl (cs 0, 11520, .inl (ai lm4))), (m2, .inl (cs 0, 180, .inl (ai mn4))), (m3, .inl (cs 0, 180, .inl (ai sn4))), (m8, .inl (cs 1, 6, .inr (.inl (al d8)))), (ta, .inl (cs 1, 6, .inr (.inl (al aw))))]) hF.1 (k := 1) rfl) (mw_get (X := [(y, .inr (7, [.int (iI th), .ref m1, .ref m2, .ref m3, .int (iI pn), .ref m5, .ref m6, .ref m7, .ref m8, .ref m9, .ref m10, .ref m11, .ref m12, .ref m13, .int (iI ((n : Int))), .ref m15, .long (lI fu), .long (lI fb)])), (m1, .inl (cs 0, 11520, .inl (ai lm4))), (m2, .inl (cs 0, 180, .inl (ai mn4))), (m3, .inl (cs 0, 180, .inl (ai sn4))), (m8, .inl (cs 1, 6, .inr (.inl (al d8)))), (ta, .inl (cs 1, 6, .inr (.inl (al aw))))]) hF.1 (k := 2) rfl) (mw_get (X := [(y, .inr (7, [.int (iI th), .ref m1, .ref m2, .ref m3, .int (iI pn), .ref m5, .ref m6, .ref m7, .ref m8, .ref m9, .ref m10, .ref m11, .ref m12, .ref m13, .int (iI ((n : Int))), .ref m15, .long (lI fu), .long (lI fb)])), (m1, .inl (cs 0, 11520, .inl (ai lm4))), (m2, .inl (cs 0, 180, .inl (ai mn4))), (m3, .inl (cs 0, 180, .inl (ai sn4))), (m8, .inl (cs 1, 6, .inr (.inl (al d8)))), (ta, .inl (cs 1, 6, .inr (.inl (al aw))))]) hF.1 (k := 3) rfl) hR4 (by omega) (by omega)) (cwV 2 hts (gw_V w_804 w_806 s_38 w_8 w_807) rfl rfl rfl (by decide +kernel) ⟨by rw [hRf]; exact Nat.le_of_ble_eq_true rfl, by rw [hRl]; exact Nat.le_of_ble_eq_true rfl⟩) ⟨K0.blind, B.recv (hF.2 _ (mw_key (k := 0) (X := [(y, .inr (7, [.int (iI th), .ref m1, .ref m2, .ref m3, .int (iI pn), .ref m5, .ref m6, .ref m7, .ref m8, .ref m9, .ref m10, .ref m11, .ref m12, .ref m13, .int (iI ((n : Int))), .ref m15, .long (lI fu), .long (lI fb)])), (m1, .inl (cs 0, 11520, .inl (ai lm4))), (m2, .inl (cs 0, 180, .inl (ai mn4))), (m3, .inl (cs 0, 180, .inl (ai sn4))), (m8, .inl (cs 1, 6, .inr (.inl (al d8)))), (ta, .inl (cs 1, 6, .inr (.inl (al aw))))]) rfl)) (mw_get (X := [(y, .inr (7, [.int (iI th), .ref m1, .ref m2, .ref m3, .int (iI pn), .ref m5, .ref m6, .ref m7, .ref m8, .ref m9, .ref m10, .ref m11, .ref m12, .ref m13, .int (iI ((n : Int))), .ref m15, .long (lI fu), .long (lI fb)])), (m1, .inl (cs 0, 11520, .inl (ai lm4))), (m2, .inl (cs 0, 180, .inl (ai mn4))), (m3, .inl (cs 0, 180, .inl (ai sn4))), (m8, .inl (cs 1, 6, .inr (.inl (al d8)))), (ta, .inl (cs 1, 6, .inr (.inl (al aw))))]) hF.1 (k := 0) rfl) rfl, B.pre _⟩ rfl rfl hl.1 rfl (lv_room (Nat.le_of_ble_eq_true rfl)) d_Mo_laySigns_111 ⟨by rw [hRc]; omega, by rw [hRs]; omega⟩) (fun g111 H locs hw B => ?_)
                        obtain ⟨lm111, mn111, sn111, hR4b, rfl⟩ := hw
                        have B := B.of_eq (mw_put3 (X := [(y, .inr (7, [.int (iI th), .ref m1, .ref m2, .ref m3, .int (iI pn), .ref m5, .ref m6, .ref m7, .ref m8, .ref m9, .ref m10, .ref m11, .ref m12, .ref m13, .int (iI ((n : Int))), .ref m15, .long (lI fu), .long (lI fb)])), (m1, .inl (cs 0, 11520, .inl (ai lm4))), (m2, .inl (cs 0, 180, .inl (ai mn4))), (m3, .inl (cs 0, 180, .inl (ai sn4))), (m8, .inl (cs 1, 6, .inr (.inl (al d8)))), (ta, .inl (cs 1, 6, .inr (.inl (al aw))))]) hF.1 (k1 := 1) (k2 := 2) (k3 := 3) rfl rfl rfl)
                        have B : Wb D vwCl (TY cs) L (mw f [(y, .inr (7, [.int (iI th), .ref m1, .ref m2, .ref m3, .int (iI pn), .ref m5, .ref m6, .ref m7, .ref m8, .ref m9, .ref m10, .ref m11, .ref m12, .ref m13, .int (iI ((n : Int))), .ref m15, .long (lI fu), .long (lI fb)])), (m1, .inl (cs 0, 11520, .inl (ai lm111))), (m2, .inl (cs 0, 180, .inl (ai mn111))), (m3, .inl (cs 0, 180, .inl (ai sn111))), (m8, .inl (cs 1, 6, .inr (.inl (al d8)))), (ta, .inl (cs 1, 6, .inr (.inl (al aw))))]) (AL L s.heap.size) s H _ := B
                        rw [h4o (60 + 6 * (n - 2) + k) (by omega)] at hR4b
                        refine x_iinc (lv' := [(3, .int (iI (((k : Int)) + 1))), (2, .int (iI ((mo : Int)))), (0, .ref y), (1, .ref ta)]) hx hb d_Mo_laySigns_114 hl (q := 0) rfl rfl (by decide) rfl (fun ls hl => ?_)
                        refine lv_goto (tgt := 86) hx hb d_Mo_laySigns_117 (by decide) ?_
                        exact ih_L2 (k + 1) lm111 mn111 sn111 (up Z4 (96 + k) (Z3 (60 + 6 * (n - 2) + k))) (by omega) (by omega) hR4b (fun j hj => by
          by_cases hjk : j = k
          · rw [hjk, up_self]
          · rw [up_ne _ _ (by omega)]; exact hI4 j (by omega)) (fun v hv => by rw [up_ne _ _ (by omega)]; exact h4o v hv) _ _ _ B (lv_sub hl [0, 1, 2, 3] rfl)
                  exact L2 _ 0 lm3 mn3 sn3 Z3 (Nat.lt_succ_self _) (by omega) hR3 (fun j hj => by omega) (fun v _ => rfl) _ _ _ B (lv_sub hl [0, 1, 2, 3] rfl)
          exact LP _ 2 1 5 5 nal nbe 6 lm61 mn61 sn61 Z2 (Nat.lt_succ_self _) (by omega) (by omega) hR2 (⟨by omega, h20, h21, fun k hk => by rcases (show k = 0 ∨ k = 1 by omega) with rfl | rfl; exact hA0.congr h20; exact hz1.congr h21, fun k hk => by omega⟩) (fun k hk => by
          rcases (show k = 0 ∨ k = 1 by omega) with rfl | rfl
          · exact ⟨5, nal, by omega, fun j h1 h2 => by omega, fun j hj => by show ((Z2 (60 + 6 * 0 + j)).natAbs : Int) < _; rw [h20 j hj]; exact hAb j hj, hrm0⟩
          · exact ⟨5, nbe, by omega, fun j h1 h2 => by omega, fun j hj => by show ((Z2 (60 + 6 * 1 + j)).natAbs : Int) < _; rw [h21 j hj]; exact hDb j hj, hrm1⟩) (by omega) (by omega) (fun j h1 h2 => by omega) (fun j h1 h2 => by rw [h21 j h2]; exact dva_zero (n := 6) (fun j h1 h2 => by omega) j (by omega) h2) (fun j hj => by rw [h20 j hj]; exact hAb j hj) (fun j hj => by rw [h21 j hj]; exact hDb j hj) hwk0 (fun h9 => by omega) (fun v h1 h2 => by rw [h2o v (by omega)]; exact h1o v (by omega)) _ _ _ B (lv_sub hl [0, 1, 2] rfl)
        · subst hQ hav
          exact x_vret hx hb hr hlocks B d_Mo_laySigns_53 (⟨_, _, _, Z1, _, 1, hR1, ⟨by omega, by omega, hA0, Or.inl ⟨rfl, h1a, fun j hj => by rw [← hd9 j hj]; exact hkdz j (by omega) hj⟩⟩, fun k hk => ⟨5, nal, by omega, fun j h1 h2 => by omega, fun j hj => by show ((Z1 (60 + 6 * k + j)).natAbs : Int) < _; rw [show 60 + 6 * k + j = 60 + j by omega, h1a j hj]; exact hAb j hj, hrm0⟩, fun v h1 h2 => h1o v (by omega), mw_tail (X := [(y, .inr (7, [.int (iI th), .ref m1, .ref m2, .ref m3, .int (iI pn), .ref m5, .ref m6, .ref m7, .ref m8, .ref m9, .ref m10, .ref m11, .ref m12, .ref m13, .int (iI 1), .ref m15, .long (lI fu), .long (lI fb)])), (m1, .inl (cs 0, 11520, .inl (ai lm4))), (m2, .inl (cs 0, 180, .inl (ai mn4))), (m3, .inl (cs 0, 180, .inl (ai sn4))), (m8, .inl (cs 1, 6, .inr (.inl (al d8))))]) (Y := [(ta, .inl (cs 1, 6, .inr (.inl (al aw))))]) (fun p hp => hfx p (List.mem_cons_of_mem _ (List.mem_cons_of_mem _ (List.mem_cons_of_mem _ (List.mem_cons_of_mem _ (List.mem_cons_of_mem _ (hp)))))))⟩)
      · refine lv_aload_n hx hb d_Mo_laySigns_20 rfl (lv_at hl 1 rfl) ?_
        refine x_get (C := RX7) (T := TX7) (N := 18) hx hb hts inX7 hown B hF 0 rfl rfl 8 (by decide) (hts _ w_685) (fun _ h9 => h9) rfl d_Mo_laySigns_21 ?_
        refine lv_iload_n hx hb d_Mo_laySigns_24 rfl (lv_at hl 0 rfl) ?_
        refine lv_aload_n hx hb d_Mo_laySigns_25 rfl (lv_at hl 2 rfl) ?_
        refine lv_iload_n hx hb d_Mo_laySigns_26 rfl (lv_at hl 0 rfl) ?_
        refine x_lald hx hb B hF 5 1 rfl rfl k (by omega) (by omega) (by decide) d_Mo_laySigns_27 ?_
        refine x_last hx hb B hF 4 1 rfl rfl k (by omega) (by omega) (by decide) d_Mo_laySigns_28 (fun H locs B => ?_)
        have B : Wb D vwCl (TY cs) L (mw f [(y, .inr (7, [.int (iI th), .ref m1, .ref m2, .ref m3, .int (iI pn), .ref m5, .ref m6, .ref m7, .ref m8, .ref m9, .ref m10, .ref m11, .ref m12, .ref m13, .int (iI 1), .ref m15, .long (lI fu), .long (lI fb)])), (m1, .inl (cs 0, 11520, .inl (ai lm4))), (m2, .inl (cs 0, 180, .inl (ai mn4))), (m3, .inl (cs 0, 180, .inl (ai sn4))), (m8, .inl (cs 1, 6, .inr (.inl (al (up z8 k (aw k)))))), (ta, .inl (cs 1, 6, .inr (.inl (al aw))))]) (AL L s.heap.size) s H _ := B
        refine x_iinc (lv' := [(2, .int (iI (((k : Int)) + 1))), (0, .ref y), (1, .ref ta)]) hx hb d_Mo_laySigns_29 hl (q := 0) rfl rfl (by decide) rfl (fun ls hl => ?_)
        refine lv_goto (tgt := 14) hx hb d_Mo_laySigns_32 (by decide) ?_
        exact ih_L1 (k + 1) (up z8 k (aw k)) (by omega) (by omega) (fun j hj => by
          by_cases hjk : j = k
          · rw [hjk, up_self]
          · rw [up_ne _ _ hjk]; exact hI8 j (by omega)) _ _ _ B (lv_sub hl [0, 1, 2] rfl)
  exact L1 _ 0 w8 (Nat.lt_succ_self _) (by omega) (fun j hj => by omega) _ _ _ B (lv_sub hl [0, 1, 2] rfl)
