/-! whole parts of the roots -/
theorem reach_out {V : Nat → Int} {nn : Nat} {mm rc : Int} (hn : nn < 6) (hl : V nn ≠ 0) (hz : ∀ j, nn < j → j < 6 → V j = 0) (hm : 0 ≤ mm) (hb : ∀ j, j < nn → -mm ≤ V j ∧ V j ≤ mm) (hr : rc = mm / ((V nn).natAbs : Int) + 2) : ∀ x : Rat, (rc : Rat) ≤ x ∨ x ≤ -(rc : Rat) → 1 ≤ es V 6 x ∨ es V 6 x ≤ -1 := by
  have hL : (1 : Int) ≤ ((V nn).natAbs : Int) := by omega
  have hL1 : (1 : Rat) ≤ (((V nn).natAbs : Int) : Rat) := Rat.intCast_le_intCast.mpr hL
  have h0 : 0 ≤ mm / ((V nn).natAbs : Int) := Int.ediv_nonneg hm (by omega)
  have key : ∀ x : Rat, (rc : Rat) ≤ x → 1 ≤ x ∧ (mm : Rat) ≤ (((V nn).natAbs : Int) : Rat) * (x - 1) := fun x hx => by
    have h1 : mm ≤ ((V nn).natAbs : Int) * (rc - 1) := by
      have h2 := Int.mul_ediv_add_emod mm ((V nn).natAbs : Int)
      have h3 := Int.emod_lt_of_pos mm (show (0 : Int) < ((V nn).natAbs : Int) by omega)
      rw [hr, show mm / ((V nn).natAbs : Int) + 2 - 1 = mm / ((V nn).natAbs : Int) + 1 by omega, Int.mul_add]
      omega
    have h2 : (mm : Rat) ≤ ((((V nn).natAbs : Int) * (rc - 1) : Int) : Rat) := Rat.intCast_le_intCast.mpr h1
    rw [Rat.intCast_mul, Rat.intCast_sub] at h2
    have h4 : (2 : Rat) ≤ (rc : Rat) := by have : ((2 : Int) : Rat) ≤ (rc : Rat) := Rat.intCast_le_intCast.mpr (by omega); exact this
    have h5 : ((1 : Int) : Rat) = 1 := rfl
    rw [h5] at h2
    have h6 : (((V nn).natAbs : Int) : Rat) * ((rc : Rat) - 1) ≤ (((V nn).natAbs : Int) : Rat) * (x - 1) := Rat.mul_le_mul_of_nonneg_left (by grind) (by grind)
    exact ⟨by grind, by grind⟩
  intro x hx
  rcases hx with hx | hx
  · obtain ⟨k1, k2⟩ := key x hx
    have := cauchy_abs hn hl hz hb k1 k2
    rcases sign_nz hl with hs | hs <;> rw [hs] at this
    · left; have e : ((1 : Int) : Rat) = 1 := rfl; rw [e] at this; grind
    · right; have e : ((-1 : Int) : Rat) = -1 := rfl; rw [e] at this; grind
  · obtain ⟨k1, k2⟩ := key (-x) (by grind)
    have := cauchy_left hn hl hz hb k1 k2
    rw [show -(-x) = x by grind] at this
    have hf : flp V nn ≠ 0 := fun h => hl (by have := flp_abs V nn; omega)
    rcases sign_nz hf with hs | hs <;> rw [hs] at this
    · left; have e : ((1 : Int) : Rat) = 1 := rfl; rw [e] at this; grind
    · right; have e : ((-1 : Int) : Rat) = -1 := rfl; rw [e] at this; grind
theorem NB.out2 {V F : Nat → Int} {N : Rat → Int} {B : Rat} (hV : Nz V) (hM : ∀ j, j < 6 → -1000 ≤ V j ∧ V j ≤ 1000) (hf : FreeOf V F) (hN : NB F N) (hB0 : 0 ≤ B) (hB : ∀ x : Rat, B ≤ x ∨ x ≤ -B → 1 ≤ es V 6 x ∨ es V 6 x ≤ -1) : (∀ x, x ≤ -B → N x = 0) ∧ ∀ x y, B ≤ x → B ≤ y → N x = N y := by
  obtain ⟨f1, f2, _, H, k, hk, f3⟩ := FreeOf.facts hV hM hf
  obtain ⟨r, n, hs, e⟩ := hN
  by_cases hn : n = 1
  · subst hn
    have := (one_const hs).2
    exact ⟨fun x _ => by rw [e, this], fun x y _ _ => by rw [e, e, this, this]⟩
  · have hn1 := hs.1
    obtain ⟨q1, q2⟩ := hs.ends (show 2 ≤ n by omega) f2 hk f3 hB0 hB
    exact ⟨fun x hx => by rw [e, q1 x hx], fun x y hx hy => by rw [e, e, q2 x hx, q2 y hy]⟩
def FwI (N : Rat → Int) (rc : Int) (Lo Hi : Nat → Int) (a nm : Nat) : Prop := ∀ j, a ≤ j → j < nm → -rc ≤ Lo j ∧ Lo j < Hi j ∧ Hi j ≤ rc ∧ N (Lo j : Rat) ≤ (j : Int) ∧ (j : Int) < N (Hi j : Rat)
theorem FwI.hi {F : Nat → Int} {N : Rat → Int} {rc md : Int} {Lo Hi Hi' : Nat → Int} {a nm j : Nat} (hN : NB F N) (hF : Sqf F) (h : FwI N rc Lo Hi a nm) (hj : a ≤ j ∧ j < nm) (hb : (j : Int) < N (md : Rat)) (h1 : Hi' j = min (Hi j) md) (h2 : ∀ t, t ≠ j → Hi' t = Hi t) : FwI N rc Lo Hi' a nm := fun t h3 h4 => by
  by_cases c : t = j
  · subst c
    obtain ⟨q1, q2, q3, q4, q5⟩ := h t h3 h4
    have hlt : Lo t < md := Classical.byContradiction (fun hn => by
      have := hN.mono hF (x := (md : Rat)) (y := (Lo t : Rat)) (Rat.intCast_le_intCast.mpr (by omega))
      omega)
    rw [h1]
    refine ⟨q1, by omega, by omega, q4, ?_⟩
    rcases (show min (Hi t) md = Hi t ∨ min (Hi t) md = md by omega) with e | e <;> rw [e]
    · exact q5
    · exact hb
  · rw [h2 t c]; exact h t h3 h4
theorem FwI.lo {F : Nat → Int} {N : Rat → Int} {rc md : Int} {Lo Hi Lo' : Nat → Int} {a nm j : Nat} (hN : NB F N) (hF : Sqf F) (h : FwI N rc Lo Hi a nm) (hj : a ≤ j ∧ j < nm) (hb : N (md : Rat) ≤ (j : Int)) (h1 : Lo' j = max (Lo j) md) (h2 : ∀ t, t ≠ j → Lo' t = Lo t) : FwI N rc Lo' Hi a nm := fun t h3 h4 => by
  by_cases c : t = j
  · subst c
    obtain ⟨q1, q2, q3, q4, q5⟩ := h t h3 h4
    have hlt : md < Hi t := Classical.byContradiction (fun hn => by
      have := hN.mono hF (x := (Hi t : Rat)) (y := (md : Rat)) (Rat.intCast_le_intCast.mpr (by omega))
      omega)
    rw [h1]
    refine ⟨by omega, by omega, q3, ?_, q5⟩
    rcases (show max (Lo t) md = Lo t ∨ max (Lo t) md = md by omega) with e | e <;> rw [e]
    · exact q4
    · exact hb
  · rw [h2 t c]; exact h t h3 h4
theorem FwI.cell {N : Rat → Int} {rc : Int} {Lo Hi : Nat → Int} {a nm : Nat} (h : FwI N rc Lo Hi a nm) (hr : rc ≤ 1002) {j : Nat} (hj : a ≤ j ∧ j < nm) (hw : Hi j - Lo j ≤ 1) : Cell N (j : Int) (Lo j) 0 := by
  obtain ⟨q1, q2, q3, q4, q5⟩ := h j hj.1 hj.2
  refine ⟨by rw [Int.pow_zero]; omega, by rw [Pt_zero]; exact q4, ?_⟩
  rw [Pt_zero, show Lo j + 1 = Hi j by omega]
  exact q5
theorem half_w {lo hi md w : Int} {k : Nat} (hw : hi - lo ≤ 2 ^ (k + 1)) (hm : md = (lo + hi) / 2) : md - lo ≤ 2 ^ k ∧ hi - md ≤ 2 ^ k := by
  rw [Int.pow_succ] at hw
  have := pw2 k
  omega
theorem d_RR_findWholes_0 : decode prog_1_method_42_code 0 = .ok (.aload_n 1, 1) := by decide +kernel
theorem d_RR_findWholes_1 : decode prog_1_method_42_code 1 = .ok (.getfield 82, 3) := by decide +kernel
theorem d_RR_findWholes_4 : decode prog_1_method_42_code 4 = .ok (.invokestatic 295, 3) := by decide +kernel
theorem d_RR_findWholes_7 : decode prog_1_method_42_code 7 = .ok (.istore_n 2, 1) := by decide +kernel
theorem d_RR_findWholes_8 : decode prog_1_method_42_code 8 = .ok (.iconst 0, 1) := by decide +kernel
theorem d_RR_findWholes_9 : decode prog_1_method_42_code 9 = .ok (.istore_n 3, 1) := by decide +kernel
theorem d_RR_findWholes_10 : decode prog_1_method_42_code 10 = .ok (.iload_n 3, 1) := by decide +kernel
theorem d_RR_findWholes_11 : decode prog_1_method_42_code 11 = .ok (.aload_n 1, 1) := by decide +kernel
theorem d_RR_findWholes_12 : decode prog_1_method_42_code 12 = .ok (.getfield 282, 3) := by decide +kernel
theorem d_RR_findWholes_15 : decode prog_1_method_42_code 15 = .ok (.if_icmp .ge 24, 3) := by decide +kernel
theorem d_RR_findWholes_18 : decode prog_1_method_42_code 18 = .ok (.aload_n 0, 1) := by decide +kernel
theorem d_RR_findWholes_19 : decode prog_1_method_42_code 19 = .ok (.getfield 51, 3) := by decide +kernel
theorem d_RR_findWholes_22 : decode prog_1_method_42_code 22 = .ok (.iload_n 3, 1) := by decide +kernel
theorem d_RR_findWholes_23 : decode prog_1_method_42_code 23 = .ok (.iload_n 2, 1) := by decide +kernel
theorem d_RR_findWholes_24 : decode prog_1_method_42_code 24 = .ok (.ineg, 1) := by decide +kernel
theorem d_RR_findWholes_25 : decode prog_1_method_42_code 25 = .ok (.iastore, 1) := by decide +kernel
theorem d_RR_findWholes_26 : decode prog_1_method_42_code 26 = .ok (.aload_n 0, 1) := by decide +kernel
theorem d_RR_findWholes_27 : decode prog_1_method_42_code 27 = .ok (.getfield 54, 3) := by decide +kernel
theorem d_RR_findWholes_30 : decode prog_1_method_42_code 30 = .ok (.iload_n 3, 1) := by decide +kernel
theorem d_RR_findWholes_31 : decode prog_1_method_42_code 31 = .ok (.iload_n 2, 1) := by decide +kernel
theorem d_RR_findWholes_32 : decode prog_1_method_42_code 32 = .ok (.iastore, 1) := by decide +kernel
theorem d_RR_findWholes_33 : decode prog_1_method_42_code 33 = .ok (.iinc 3 1, 3) := by decide +kernel
theorem d_RR_findWholes_36 : decode prog_1_method_42_code 36 = .ok (.goto (-26), 3) := by decide +kernel
theorem d_RR_findWholes_39 : decode prog_1_method_42_code 39 = .ok (.iconst 0, 1) := by decide +kernel
theorem d_RR_findWholes_40 : decode prog_1_method_42_code 40 = .ok (.istore_n 3, 1) := by decide +kernel
theorem d_RR_findWholes_41 : decode prog_1_method_42_code 41 = .ok (.iload_n 3, 1) := by decide +kernel
theorem d_RR_findWholes_42 : decode prog_1_method_42_code 42 = .ok (.aload_n 1, 1) := by decide +kernel
theorem d_RR_findWholes_43 : decode prog_1_method_42_code 43 = .ok (.getfield 282, 3) := by decide +kernel
theorem d_RR_findWholes_46 : decode prog_1_method_42_code 46 = .ok (.if_icmp .ge 173, 3) := by decide +kernel
theorem d_RR_findWholes_49 : decode prog_1_method_42_code 49 = .ok (.iconst 0, 1) := by decide +kernel
theorem d_RR_findWholes_50 : decode prog_1_method_42_code 50 = .ok (.istore 4, 2) := by decide +kernel
theorem d_RR_findWholes_52 : decode prog_1_method_42_code 52 = .ok (.iload 4, 2) := by decide +kernel
theorem d_RR_findWholes_54 : decode prog_1_method_42_code 54 = .ok (.bipush 32, 2) := by decide +kernel
theorem d_RR_findWholes_56 : decode prog_1_method_42_code 56 = .ok (.if_icmp .ge 142, 3) := by decide +kernel
theorem d_RR_findWholes_59 : decode prog_1_method_42_code 59 = .ok (.aload_n 0, 1) := by decide +kernel
theorem d_RR_findWholes_60 : decode prog_1_method_42_code 60 = .ok (.getfield 54, 3) := by decide +kernel
theorem d_RR_findWholes_63 : decode prog_1_method_42_code 63 = .ok (.iload_n 3, 1) := by decide +kernel
theorem d_RR_findWholes_64 : decode prog_1_method_42_code 64 = .ok (.iaload, 1) := by decide +kernel
theorem d_RR_findWholes_65 : decode prog_1_method_42_code 65 = .ok (.aload_n 0, 1) := by decide +kernel
theorem d_RR_findWholes_66 : decode prog_1_method_42_code 66 = .ok (.getfield 51, 3) := by decide +kernel
theorem d_RR_findWholes_69 : decode prog_1_method_42_code 69 = .ok (.iload_n 3, 1) := by decide +kernel
theorem d_RR_findWholes_70 : decode prog_1_method_42_code 70 = .ok (.iaload, 1) := by decide +kernel
theorem d_RR_findWholes_71 : decode prog_1_method_42_code 71 = .ok (.isub, 1) := by decide +kernel
theorem d_RR_findWholes_72 : decode prog_1_method_42_code 72 = .ok (.iconst 1, 1) := by decide +kernel
theorem d_RR_findWholes_73 : decode prog_1_method_42_code 73 = .ok (.if_icmp .le 125, 3) := by decide +kernel
theorem d_RR_findWholes_76 : decode prog_1_method_42_code 76 = .ok (.aload_n 0, 1) := by decide +kernel
theorem d_RR_findWholes_77 : decode prog_1_method_42_code 77 = .ok (.getfield 51, 3) := by decide +kernel
theorem d_RR_findWholes_80 : decode prog_1_method_42_code 80 = .ok (.iload_n 3, 1) := by decide +kernel
theorem d_RR_findWholes_81 : decode prog_1_method_42_code 81 = .ok (.iaload, 1) := by decide +kernel
theorem d_RR_findWholes_82 : decode prog_1_method_42_code 82 = .ok (.aload_n 0, 1) := by decide +kernel
theorem d_RR_findWholes_83 : decode prog_1_method_42_code 83 = .ok (.getfield 54, 3) := by decide +kernel
theorem d_RR_findWholes_86 : decode prog_1_method_42_code 86 = .ok (.iload_n 3, 1) := by decide +kernel
theorem d_RR_findWholes_87 : decode prog_1_method_42_code 87 = .ok (.iaload, 1) := by decide +kernel
theorem d_RR_findWholes_88 : decode prog_1_method_42_code 88 = .ok (.iadd, 1) := by decide +kernel
theorem d_RR_findWholes_89 : decode prog_1_method_42_code 89 = .ok (.iconst 2, 1) := by decide +kernel
theorem d_RR_findWholes_90 : decode prog_1_method_42_code 90 = .ok (.invokestatic 298, 3) := by decide +kernel
theorem d_RR_findWholes_93 : decode prog_1_method_42_code 93 = .ok (.istore 5, 2) := by decide +kernel
theorem d_RR_findWholes_95 : decode prog_1_method_42_code 95 = .ok (.aload_n 0, 1) := by decide +kernel
theorem d_RR_findWholes_96 : decode prog_1_method_42_code 96 = .ok (.getfield 29, 3) := by decide +kernel
theorem d_RR_findWholes_99 : decode prog_1_method_42_code 99 = .ok (.iload 5, 2) := by decide +kernel
theorem d_RR_findWholes_101 : decode prog_1_method_42_code 101 = .ok (.i2l, 1) := by decide +kernel
theorem d_RR_findWholes_102 : decode prog_1_method_42_code 102 = .ok (.lconst 1, 1) := by decide +kernel
theorem d_RR_findWholes_103 : decode prog_1_method_42_code 103 = .ok (.invokevirtual 183, 3) := by decide +kernel
theorem d_RR_findWholes_106 : decode prog_1_method_42_code 106 = .ok (.aload_n 0, 1) := by decide +kernel
theorem d_RR_findWholes_107 : decode prog_1_method_42_code 107 = .ok (.getfield 22, 3) := by decide +kernel
theorem d_RR_findWholes_110 : decode prog_1_method_42_code 110 = .ok (.aload_n 0, 1) := by decide +kernel
theorem d_RR_findWholes_111 : decode prog_1_method_42_code 111 = .ok (.getfield 29, 3) := by decide +kernel
theorem d_RR_findWholes_114 : decode prog_1_method_42_code 114 = .ok (.invokevirtual 187, 3) := by decide +kernel
theorem d_RR_findWholes_117 : decode prog_1_method_42_code 117 = .ok (.aload_n 0, 1) := by decide +kernel
theorem d_RR_findWholes_118 : decode prog_1_method_42_code 118 = .ok (.getfield 22, 3) := by decide +kernel
theorem d_RR_findWholes_121 : decode prog_1_method_42_code 121 = .ok (.invokevirtual 301, 3) := by decide +kernel
theorem d_RR_findWholes_124 : decode prog_1_method_42_code 124 = .ok (.istore 6, 2) := by decide +kernel
theorem d_RR_findWholes_126 : decode prog_1_method_42_code 126 = .ok (.iload_n 3, 1) := by decide +kernel
theorem d_RR_findWholes_127 : decode prog_1_method_42_code 127 = .ok (.istore 7, 2) := by decide +kernel
theorem d_RR_findWholes_129 : decode prog_1_method_42_code 129 = .ok (.iload 7, 2) := by decide +kernel
theorem d_RR_findWholes_131 : decode prog_1_method_42_code 131 = .ok (.aload_n 1, 1) := by decide +kernel
theorem d_RR_findWholes_132 : decode prog_1_method_42_code 132 = .ok (.getfield 282, 3) := by decide +kernel
theorem d_RR_findWholes_135 : decode prog_1_method_42_code 135 = .ok (.if_icmp .ge 57, 3) := by decide +kernel
theorem d_RR_findWholes_138 : decode prog_1_method_42_code 138 = .ok (.iload 7, 2) := by decide +kernel
theorem d_RR_findWholes_140 : decode prog_1_method_42_code 140 = .ok (.iload 6, 2) := by decide +kernel
theorem d_RR_findWholes_142 : decode prog_1_method_42_code 142 = .ok (.if_icmp .ge 25, 3) := by decide +kernel
theorem d_RR_findWholes_145 : decode prog_1_method_42_code 145 = .ok (.aload_n 0, 1) := by decide +kernel
theorem d_RR_findWholes_146 : decode prog_1_method_42_code 146 = .ok (.getfield 54, 3) := by decide +kernel
theorem d_RR_findWholes_149 : decode prog_1_method_42_code 149 = .ok (.iload 7, 2) := by decide +kernel
theorem d_RR_findWholes_151 : decode prog_1_method_42_code 151 = .ok (.aload_n 0, 1) := by decide +kernel
theorem d_RR_findWholes_152 : decode prog_1_method_42_code 152 = .ok (.getfield 54, 3) := by decide +kernel
theorem d_RR_findWholes_155 : decode prog_1_method_42_code 155 = .ok (.iload 7, 2) := by decide +kernel
theorem d_RR_findWholes_157 : decode prog_1_method_42_code 157 = .ok (.iaload, 1) := by decide +kernel
theorem d_RR_findWholes_158 : decode prog_1_method_42_code 158 = .ok (.iload 5, 2) := by decide +kernel
theorem d_RR_findWholes_160 : decode prog_1_method_42_code 160 = .ok (.invokestatic 279, 3) := by decide +kernel
theorem d_RR_findWholes_163 : decode prog_1_method_42_code 163 = .ok (.iastore, 1) := by decide +kernel
theorem d_RR_findWholes_164 : decode prog_1_method_42_code 164 = .ok (.goto 22, 3) := by decide +kernel
theorem d_RR_findWholes_167 : decode prog_1_method_42_code 167 = .ok (.aload_n 0, 1) := by decide +kernel
theorem d_RR_findWholes_168 : decode prog_1_method_42_code 168 = .ok (.getfield 51, 3) := by decide +kernel
theorem d_RR_findWholes_171 : decode prog_1_method_42_code 171 = .ok (.iload 7, 2) := by decide +kernel
theorem d_RR_findWholes_173 : decode prog_1_method_42_code 173 = .ok (.aload_n 0, 1) := by decide +kernel
theorem d_RR_findWholes_174 : decode prog_1_method_42_code 174 = .ok (.getfield 51, 3) := by decide +kernel
theorem d_RR_findWholes_177 : decode prog_1_method_42_code 177 = .ok (.iload 7, 2) := by decide +kernel
theorem d_RR_findWholes_179 : decode prog_1_method_42_code 179 = .ok (.iaload, 1) := by decide +kernel
theorem d_RR_findWholes_180 : decode prog_1_method_42_code 180 = .ok (.iload 5, 2) := by decide +kernel
theorem d_RR_findWholes_182 : decode prog_1_method_42_code 182 = .ok (.invokestatic 237, 3) := by decide +kernel
theorem d_RR_findWholes_185 : decode prog_1_method_42_code 185 = .ok (.iastore, 1) := by decide +kernel
theorem d_RR_findWholes_186 : decode prog_1_method_42_code 186 = .ok (.iinc 7 1, 3) := by decide +kernel
theorem d_RR_findWholes_189 : decode prog_1_method_42_code 189 = .ok (.goto (-60), 3) := by decide +kernel
theorem d_RR_findWholes_192 : decode prog_1_method_42_code 192 = .ok (.iinc 4 1, 3) := by decide +kernel
theorem d_RR_findWholes_195 : decode prog_1_method_42_code 195 = .ok (.goto (-143), 3) := by decide +kernel
theorem d_RR_findWholes_198 : decode prog_1_method_42_code 198 = .ok (.aload_n 1, 1) := by decide +kernel
theorem d_RR_findWholes_199 : decode prog_1_method_42_code 199 = .ok (.getfield 129, 3) := by decide +kernel
theorem d_RR_findWholes_202 : decode prog_1_method_42_code 202 = .ok (.iload_n 3, 1) := by decide +kernel
theorem d_RR_findWholes_203 : decode prog_1_method_42_code 203 = .ok (.aaload, 1) := by decide +kernel
theorem d_RR_findWholes_204 : decode prog_1_method_42_code 204 = .ok (.aload_n 0, 1) := by decide +kernel
theorem d_RR_findWholes_205 : decode prog_1_method_42_code 205 = .ok (.getfield 51, 3) := by decide +kernel
theorem d_RR_findWholes_208 : decode prog_1_method_42_code 208 = .ok (.iload_n 3, 1) := by decide +kernel
theorem d_RR_findWholes_209 : decode prog_1_method_42_code 209 = .ok (.iaload, 1) := by decide +kernel
theorem d_RR_findWholes_210 : decode prog_1_method_42_code 210 = .ok (.invokevirtual 304, 3) := by decide +kernel
theorem d_RR_findWholes_213 : decode prog_1_method_42_code 213 = .ok (.iinc 3 1, 3) := by decide +kernel
theorem d_RR_findWholes_216 : decode prog_1_method_42_code 216 = .ok (.goto (-175), 3) := by decide +kernel
theorem d_RR_findWholes_219 : decode prog_1_method_42_code 219 = .ok (.return_, 1) := by decide +kernel
set_option maxHeartbeats 8000000 in
set_option maxRecDepth 100000 in
theorem c_RR_findWholes (l : Launch) (D : va_G) (cs : Nat → ClassId) (L : List Nat) (f : Nat → va_E) (sz : Nat) (ad Qm : Nat → Nat) (If : Nat → Int) (Af : Nat → Nat → Int) (Rf : Nat → Nat) (Zf : Nat → Int) (p0 nm : Nat) (N : Rat → Int) (hAd : AdOk L ad Qm) (hC : CSt cs ad Qm f If Af Rf Zf) (hp0 : p0 < 12) (hnm : If (40 + p0) = (nm : Int)) (hnm5 : nm ≤ 5) (hVM : ∀ j, j < 6 → -1000 ≤ Af (20 + p0) j ∧ Af (20 + p0) j ≤ 1000) (hVN : Nz (Af (20 + p0))) (hfree : FreeOf (Af (20 + p0)) (Af (40 + p0))) (hSq : Sqf (Af (40 + p0))) (hNB : NB (Af (40 + p0)) N) (hNt : N 2048 = (nm : Int)) (hch : ChF (Af (40 + p0)) If Af Rf Zf) : Met l (⟨"RealRoots", "findWholes", "(LRealRoots$Curve;)V"⟩ : MethodName) (.code (⟨"RealRoots", "findWholes", "(LRealRoots$Curve;)V"⟩ : MethodName) prog_1_method_42_code 8 (Option.none : Option Jvm.ClassFile.FieldType) :: gw) ({ frames := 5, cells := 0, slots := 0, locals := 240 }) (va_Pc [.ref ((ad 0)), .ref ((ad (15 + p0)))] (K0 D vwCl (TY cs) L f sz)) (va_Qv (fun (g : Nat → va_E) => ∃ (I' : Nat → Int) (A' : Nat → Nat → Int) (R' : Nat → Nat) (Z' : Nat → Int), CSt cs ad Qm g I' A' R' Z' ∧ (∀ k, Awy ad k → g k = f k) ∧ (∃ v' : Nat → Int, Pls I' A' p0 nm N (fun _ => 0) v') ∧ ChF (Af (40 + p0)) I' A' R' Z' ∧ (∀ i, i ≠ 4 → i ≠ 5 → (∀ j, j < 5 → i ≠ 100 + (5 * p0 + j) ∧ i ≠ 200 + (5 * p0 + j)) → I' i = If i) ∧ ∀ q, q ≠ 3 → q ≠ 4 → (∀ j, j < 5 → q ≠ 100 + (5 * p0 + j)) → A' q = Af q) (K1 D vwCl (TY cs) (AL L sz) L) (AL L sz)) 0 0 (AL L sz) := by
  refine Met.ofW (cc := prog_1_method_42_code) (maxL := 8) (ret := (Option.none : Option Jvm.ClassFile.FieldType)) (by decide) rfl ?_
  intro p e s m args below meth c s₁ Bd hml hv
  obtain ⟨rfl, hk0⟩ := hv
  obtain ⟨hsz, B⟩ := hk0.start
  subst hsz
  have hx := Bd.exec
  have hb := Bd.bytes
  have hr := Bd.returns
  have hlocks := Bd.notSynchronized
  have hts0 := atoms_spec Bd.pre
  have hown : s.vm.findClass RX6 = some m.cls := findClass_of_methodNamed Bd.named
  have hA : ∀ q, s.heap.size ≤ q → AL L s.heap.size q := fun _ h => Or.inr h
  have hl := lv_entry ([.ref ((ad 0)), .ref ((ad (15 + p0)))]) (n := 8) (Nat.le_of_ble_eq_true rfl)
  rw [lg_entry_eq]
  generalize (lg_sl ([.ref ((ad 0)), .ref ((ad (15 + p0)))]) ++ List.replicate (8 - (lg_sl ([.ref ((ad 0)), .ref ((ad (15 + p0)))])).length) Slot.unset).toArray = ls at hl ⊢
  refine absQ (fun Q R av hQ hR hav => ?_)
  have hts : ∀ w ∈ gw, w.before av s = true := by rw [hav]; exact fun w h => hts0 w (List.mem_cons_of_mem _ h)
  have hRf : R.frames = 5 := by rw [hR]; rfl
  have hRl : R.locals = 240 := by rw [hR]; rfl
  have hRc : R.cells = 0 := by rw [hR]; rfl
  have hRs : R.slots = 0 := by rw [hR]; rfl
  clear hR hts0 Bd
  have hl : lv_has ls 8 [(0, .ref ((ad 0))), (1, .ref ((ad (15 + p0))))] := hl
  have hfr : ∀ k, Awy ad k → f k = f k := fun _ _ => rfl
  refine lv_aload_n hx hb d_RR_findWholes_0 rfl (lv_at hl 1 rfl) ?_
  refine x_get (C := RX2) (T := TX2) (N := 5) hx hb hts inX2 hown (B.foc1 (hC.cu (p := p0) (by omega))) (hAd.f1 (by omega)) 0 rfl rfl 0 (by decide) (hts _ w_177) (fun _ h9 => h9) rfl d_RR_findWholes_1 ?_
  refine x_calli B hA (va_runS (As := [.ref ((ad (27 + p0)))]) (rest := []) ⟨hx, hb, hml, hown, hts⟩ (c_RR_reach l D cs _ _ _ (ad (27 + p0)) (Af (20 + p0)) (hAd.f1 (by omega)) (hC.ar (Ar.va hp0)) hVM hVN) (va_cwS 1 hts (gw_S w_392 w_393 w_1 w_394) rfl rfl rfl (by decide +kernel) ⟨by rw [hRf]; exact Nat.le_of_ble_eq_true rfl, by rw [hRl]; exact Nat.le_of_ble_eq_true rfl⟩) ⟨K0.blind, B.pre _⟩ rfl rfl hl.1 rfl (lv_room (Nat.le_of_ble_eq_true rfl)) d_RR_findWholes_4 ⟨by rw [hRc]; omega, by rw [hRs]; omega⟩) (fun r4 g4 H locs hw B => ?_)
  obtain ⟨rn, rm, hrn1, hrn2, hrn3, hrm1, hrm2, rfl, hgf⟩ := hw
  rw [hgf] at B
  obtain ⟨rc, hrc⟩ : ∃ rc : Int, rc = rm / ((Af (20 + p0) rn).natAbs : Int) + 2 := ⟨_, rfl⟩
  rw [← hrc]
  have hrcb : 2 ≤ rc ∧ rc ≤ 1002 := by have h1 := Int.ediv_nonneg hrm1.1 (show (0 : Int) ≤ ((Af (20 + p0) rn).natAbs : Int) by omega); have h2 := Int.ediv_le_self ((Af (20 + p0) rn).natAbs : Int) hrm1.1; omega
  have hout := NB.out2 hVN hVM hfree hNB (B := (rc : Rat)) (by have : ((0 : Int) : Rat) ≤ (rc : Rat) := Rat.intCast_le_intCast.mpr (by omega); exact this) (reach_out hrn1 hrn2 hrn3 hrm1.1 hrm2 hrc)
  have hNlo : N ((-rc : Int) : Rat) = 0 := hout.1 _ (by rw [Rat.intCast_neg]; exact Rat.le_refl)
  have hNhi : N (rc : Rat) = (nm : Int) := by rw [← hNt]; exact hout.2 _ _ Rat.le_refl (by have : (rc : Rat) ≤ ((2048 : Int) : Rat) := Rat.intCast_le_intCast.mpr (by omega); exact this)
  refine lv_istore_n (lv' := [(2, .int (iI rc)), (0, .ref ((ad 0))), (1, .ref ((ad (15 + p0))))]) hx hb d_RR_findWholes_7 rfl hl (by decide) rfl (fun ls hl => ?_)
  refine x_iconst hx hb d_RR_findWholes_8 ?_
  refine lv_istore_n (lv' := [(3, .int (iI 0)), (2, .int (iI rc)), (0, .ref ((ad 0))), (1, .ref ((ad (15 + p0))))]) hx hb d_RR_findWholes_9 rfl hl (by decide) rfl (fun ls hl => ?_)
  have LA : ∀ (fuel : Nat) (fa : Nat → va_E) (Ia : Nat → Int) (Aa : Nat → Nat → Int) (Ra : Nat → Nat) (Za : Nat → Int) (ii : Nat), nm - ii < fuel → (CSt cs ad Qm fa Ia Aa Ra Za) → (∀ k, Awy ad k → fa k = f k) → (ii ≤ nm) → (∀ i, i ≠ 4 → i ≠ 5 → (∀ j, j < 5 → i ≠ 100 + (5 * p0 + j) ∧ i ≠ 200 + (5 * p0 + j)) → Ia i = If i) → (∀ q, q ≠ 3 → q ≠ 4 → (∀ j, j < 5 → q ≠ 100 + (5 * p0 + j)) → Aa q = Af q) → (ChF (Af (40 + p0)) Ia Aa Ra Za) → (∀ j, j < ii → Aa 3 j = -rc ∧ Aa 4 j = rc) → ∀ (H : Heap) (locs : List Loc) (ls : Array Slot), Wb D vwCl (TY cs) L fa (AL L s.heap.size) s H locs → lv_has ls 8 [(3, .int (iI ((ii : Int)))), (0, .ref ((ad 0))), (1, .ref ((ad (15 + p0)))), (2, .int (iI rc))] → W p l e R s m av below meth c H locs (0) (0) Q (F0 m 10 ls []) := by
    intro fuel
    induction fuel with
    | zero => intro fa Ia Aa Ra Za ii hfu; exact absurd hfu (Nat.not_lt_zero _)
    | succ fuel ih_LA =>
      intro fa Ia Aa Ra Za ii hfu_LA hCa hfra hi hIao hAao hcha hLa H locs ls B hl
      have hnma : Ia (40 + p0) = (nm : Int) := by rw [hIao _ (by omega) (by omega) (fun j hj => by omega)]; exact hnm
      have hAFa : Aa (40 + p0) = Af (40 + p0) := hAao _ (by omega) (by omega) (fun j hj => by omega)
      refine lv_iload_n hx hb d_RR_findWholes_10 rfl (lv_at hl 0 rfl) ?_
      refine lv_aload_n hx hb d_RR_findWholes_11 rfl (lv_at hl 2 rfl) ?_
      refine x_get (C := RX2) (T := TX2) (N := 5) hx hb hts inX2 hown (B.foc1 (hCa.cu (p := p0) (by omega))) (hAd.f1 (by omega)) 0 rfl rfl 4 (by decide) (hts _ w_185) (fun _ h9 => h9) rfl d_RR_findWholes_12 ?_
      rw [hnma]
      refine x_icmp_ge (tgt := 39) hx hb d_RR_findWholes_15 (by decide) (by omega) (by omega) (fun h15 => ?_) (fun h15 => ?_)
      · refine x_iconst hx hb d_RR_findWholes_39 ?_
        refine lv_istore_n (lv' := [(3, .int (iI 0)), (0, .ref ((ad 0))), (1, .ref ((ad (15 + p0)))), (2, .int (iI rc))]) hx hb d_RR_findWholes_40 rfl hl (by decide) rfl (fun ls hl => ?_)
        have LB : ∀ (fuel : Nat) (fb : Nat → va_E) (Ib : Nat → Int) (Ab : Nat → Nat → Int) (Rb : Nat → Nat) (Zb : Nat → Int) (i2 : Nat) (vb : Nat → Int), nm - i2 < fuel → (CSt cs ad Qm fb Ib Ab Rb Zb) → (∀ k, Awy ad k → fb k = f k) → (i2 ≤ nm) → (∀ i, i ≠ 4 → i ≠ 5 → (∀ j, j < 5 → i ≠ 100 + (5 * p0 + j) ∧ i ≠ 200 + (5 * p0 + j)) → Ib i = If i) → (∀ q, q ≠ 3 → q ≠ 4 → (∀ j, j < 5 → q ≠ 100 + (5 * p0 + j)) → Ab q = Af q) → (ChF (Af (40 + p0)) Ib Ab Rb Zb) → (FwI N rc (Ab 3) (Ab 4) i2 nm) → (∀ j, j < i2 → Ib (200 + (5 * p0 + j)) = ((0 : Nat) : Int) ∧ Pl (Ib (100 + (5 * p0 + j))) 0 (Ab (100 + (5 * p0 + j))) (vb j) ∧ Cell N (j : Int) (vb j) 0) → ∀ (H : Heap) (locs : List Loc) (ls : Array Slot), Wb D vwCl (TY cs) L fb (AL L s.heap.size) s H locs → lv_has ls 8 [(3, .int (iI ((i2 : Int)))), (0, .ref ((ad 0))), (1, .ref ((ad (15 + p0)))), (2, .int (iI rc))] → W p l e R s m av below meth c H locs (0) (0) Q (F0 m 41 ls []) := by
          intro fuel
          induction fuel with
          | zero => intro fb Ib Ab Rb Zb i2 vb hfu; exact absurd hfu (Nat.not_lt_zero _)
          | succ fuel ih_LB =>
            intro fb Ib Ab Rb Zb i2 vb hfu_LB hCb hfrb hi2 hIbo hAbo hchb hFb hPb H locs ls B hl
            have hnmb : Ib (40 + p0) = (nm : Int) := by rw [hIbo _ (by omega) (by omega) (fun j hj => by omega)]; exact hnm
            have hAFb : Ab (40 + p0) = Af (40 + p0) := hAbo _ (by omega) (by omega) (fun j hj => by omega)
            refine lv_iload_n hx hb d_RR_findWholes_41 rfl (lv_at hl 0 rfl) ?_
            refine lv_aload_n hx hb d_RR_findWholes_42 rfl (lv_at hl 2 rfl) ?_
            refine x_get (C := RX2) (T := TX2) (N := 5) hx hb hts inX2 hown (B.foc1 (hCb.cu (p := p0) (by omega))) (hAd.f1 (by omega)) 0 rfl rfl 4 (by decide) (hts _ w_185) (fun _ h9 => h9) rfl d_RR_findWholes_43 ?_
            rw [hnmb]
            refine x_icmp_ge (tgt := 219) hx hb d_RR_findWholes_46 (by decide) (by omega) (by omega) (fun h46 => ?_) (fun h46 => ?_)
            · subst hQ hav
              exact x_vret hx hb hr hlocks B d_RR_findWholes_219 (⟨Ib, Ab, Rb, Zb, hCb, hfrb, ⟨vb, fun i hi => hPb i (by omega)⟩, hchb, hIbo, hAbo⟩)
            · refine x_iconst hx hb d_RR_findWholes_49 ?_
              refine lv_istore (lv' := [(4, .int (iI 0)), (3, .int (iI ((i2 : Int)))), (0, .ref ((ad 0))), (1, .ref ((ad (15 + p0)))), (2, .int (iI rc))]) hx hb d_RR_findWholes_50 hl (by decide) rfl (fun ls hl => ?_)
              have LC : ∀ (fuel : Nat) (fc : Nat → va_E) (Ic : Nat → Int) (Ac : Nat → Nat → Int) (Rc : Nat → Nat) (Zc : Nat → Int) (ss : Nat), 11 - ss < fuel → (CSt cs ad Qm fc Ic Ac Rc Zc) → (∀ k, Awy ad k → fc k = f k) → (ss ≤ 11) → (∀ i, i ≠ 4 → i ≠ 5 → (∀ j, j < 5 → i ≠ 100 + (5 * p0 + j) ∧ i ≠ 200 + (5 * p0 + j)) → Ic i = If i) → (∀ q, q ≠ 3 → q ≠ 4 → (∀ j, j < 5 → q ≠ 100 + (5 * p0 + j)) → Ac q = Af q) → (ChF (Af (40 + p0)) Ic Ac Rc Zc) → (FwI N rc (Ac 3) (Ac 4) i2 nm) → (∀ j, j < i2 → Ic (200 + (5 * p0 + j)) = ((0 : Nat) : Int) ∧ Pl (Ic (100 + (5 * p0 + j))) 0 (Ac (100 + (5 * p0 + j))) (vb j) ∧ Cell N (j : Int) (vb j) 0) → (Ac 4 i2 - Ac 3 i2 ≤ 2 ^ (11 - ss)) → ∀ (H : Heap) (locs : List Loc) (ls : Array Slot), Wb D vwCl (TY cs) L fc (AL L s.heap.size) s H locs → lv_has ls 8 [(4, .int (iI ((ss : Int)))), (3, .int (iI ((i2 : Int)))), (0, .ref ((ad 0))), (1, .ref ((ad (15 + p0)))), (2, .int (iI rc))] → W p l e R s m av below meth c H locs (0) (0) Q (F0 m 52 ls []) := by
                intro fuel
                induction fuel with
                | zero => intro fc Ic Ac Rc Zc ss hfu; exact absurd hfu (Nat.not_lt_zero _)
                | succ fuel ih_LC =>
                  intro fc Ic Ac Rc Zc ss hfu_LC hCc hfrc hss hIco hAco hchc hFc hPc hwc H locs ls B hl
                  have hnmc : Ic (40 + p0) = (nm : Int) := by rw [hIco _ (by omega) (by omega) (fun j hj => by omega)]; exact hnm
                  have hAFc : Ac (40 + p0) = Af (40 + p0) := hAco _ (by omega) (by omega) (fun j hj => by omega)
                  have hFc0 := hFc i2 (Nat.le_refl _) (by omega)
                  obtain ⟨hf1, hf2, hf3, hf4, hf5⟩ := hFc0
                  refine lv_iload hx hb d_RR_findWholes_52 (lv_at hl 0 rfl) ?_
                  refine x_bipush hx hb d_RR_findWholes_54 (by decide) ?_
                  refine x_icmp_ge (tgt := 198) hx hb d_RR_findWholes_56 (by decide) (by omega) (by omega) (fun h56 => ?_) (fun h56 => ?_)
                  · have hcel : Cell N (i2 : Int) (Ac 3 i2) 0 := hFc.cell hrcb.2 ⟨Nat.le_refl _, by omega⟩ (by first | omega | (rw [show ss = 11 by omega] at hwc; exact hwc))
                    refine lv_aload_n hx hb d_RR_findWholes_198 rfl (lv_at hl 3 rfl) ?_
                    refine x_get (C := RX2) (T := TX2) (N := 5) hx hb hts inX2 hown (B.foc1 (hCc.cu (p := p0) (by omega))) (hAd.f1 (by omega)) 0 rfl rfl 2 (by decide) (hts _ w_181) (fun _ h9 => h9) rfl d_RR_findWholes_199 ?_
                    refine lv_iload_n hx hb d_RR_findWholes_202 rfl (lv_at hl 1 rfl) ?_
                    refine x_aald hx hb (B.foc1 (hCc.pa (p := p0) (by omega))) (hAd.f1 (by omega)) 0 5 rfl rfl i2 (by omega) (by omega) (by decide) (rfs_at (by omega)) d_RR_findWholes_203 ?_
                    refine lv_aload_n hx hb d_RR_findWholes_204 rfl (lv_at hl 2 rfl) ?_
                    refine x_get (C := RX6) (T := TX6) (N := 14) hx hb hts inX6 hown (B.foc1 (hCc.x)) (hAd.f1 (by omega)) 0 rfl rfl 8 (by decide) (hts _ w_205) (fun _ h9 => h9) rfl d_RR_findWholes_205 ?_
                    refine lv_iload_n hx hb d_RR_findWholes_208 rfl (lv_at hl 1 rfl) ?_
                    refine x_iald hx hb (B.foc1 (hCc.low)) (hAd.f1 (by omega)) 0 0 rfl rfl i2 (by omega) (by omega) (by decide) d_RR_findWholes_209 ?_
                    refine x_callv B hA (va_runV (As := [.int (iI (Ac 3 i2))]) (rest := []) ⟨hx, hb, hml, hown, hts⟩ (c_Place_begin l D cs _ _ _ (ad (63 + (5 * p0 + i2))) (ad (123 + (5 * p0 + i2))) (Ic (100 + (5 * p0 + i2))) (Ic (200 + (5 * p0 + i2))) (Ac (100 + (5 * p0 + i2))) (Ac 3 i2) (hAd.fc [63 + (5 * p0 + i2), 123 + (5 * p0 + i2)] (by simp only [List.nodup_cons, List.mem_cons, List.not_mem_nil, or_false, not_or, List.nodup_nil, and_true, not_false_eq_true]; omega) (by intro q hq; simp only [List.mem_cons, List.not_mem_nil, or_false] at hq; omega)) (hCc.pl (m := (5 * p0 + i2)) (by omega)) (hCc.wq (m := (5 * p0 + i2)) (by omega))) (cwV 1 hts (gw_V w_421 w_422 w_423 w_7 w_424) rfl rfl rfl (by decide +kernel) ⟨by rw [hRf]; exact Nat.le_of_ble_eq_true rfl, by rw [hRl]; exact Nat.le_of_ble_eq_true rfl⟩) ⟨K0.blind, B.recv (hAd.1 _ (by omega)) (hCc.pl (m := (5 * p0 + i2)) (by omega)) rfl, B.pre _⟩ rfl rfl hl.1 rfl (lv_room (Nat.le_of_ble_eq_true rfl)) d_RR_findWholes_210 ⟨by rw [hRc]; omega, by rw [hRs]; omega⟩) (fun g210 H locs hw B => ?_)
                    obtain ⟨zb, hzb, rfl⟩ := hw
                    have B : Wb D vwCl (TY cs) L (mw fc [((ad (63 + (5 * p0 + i2))), .inr (3, [.int (iI (Ac 3 i2)), .int (iI 0), .ref (ad (123 + (5 * p0 + i2)))])), ((ad (123 + (5 * p0 + i2))), .inl (cs 0, 8, .inl (ai zb)))]) (AL L s.heap.size) s H _ := B
                    obtain ⟨f_210, hf_210⟩ : ∃ f_210, f_210 = mw fc [((ad (63 + (5 * p0 + i2))), .inr (3, [.int (iI (Ac 3 i2)), .int (iI 0), .ref (ad (123 + (5 * p0 + i2)))])), ((ad (123 + (5 * p0 + i2))), .inl (cs 0, 8, .inl (ai zb)))] := ⟨_, rfl⟩
                    rw [← hf_210] at B
                    obtain ⟨I_210, hI_210⟩ : ∃ I_210, I_210 = up (up Ic (100 + (5 * p0 + i2)) (Ac 3 i2)) (200 + (5 * p0 + i2)) 0 := ⟨_, rfl⟩
                    obtain ⟨A_210, hA_210⟩ : ∃ A_210, A_210 = upA Ac (100 + (5 * p0 + i2)) zb := ⟨_, rfl⟩
                    have hC_210 : CSt cs ad Qm f_210 I_210 A_210 Rc Zc := by rw [hf_210, hI_210, hA_210]; exact CSt.w_pl hAd hCc (m := (5 * p0 + i2)) (by omega) _ _ _
                    have hfr_210 : ∀ k, Awy ad k → f_210 k = f k := fun k hk => Eq.trans (by rw [hf_210]; exact hk.mws [63 + (5 * p0 + i2), 123 + (5 * p0 + i2)] (by intro j hj; simp only [List.mem_cons, List.not_mem_nil, or_false] at hj; omega) rfl) (hfrc k hk)
                    have hIo_210 : ∀ i, i ≠ 100 + (5 * p0 + i2) → i ≠ 200 + (5 * p0 + i2) → I_210 i = Ic i := fun i h1 h2 => by rw [hI_210, up_ne _ _ h2, up_ne _ _ h1]
                    have hAo_210 : ∀ q, q ≠ 100 + (5 * p0 + i2) → A_210 q = Ac q := fun q hq => by rw [hA_210, upA_ne _ _ hq]
                    have hIa_210 : I_210 (200 + (5 * p0 + i2)) = ((0 : Nat) : Int) := by rw [hI_210, up_self]; rfl
                    have hIb_210 : I_210 (100 + (5 * p0 + i2)) = Ac 3 i2 := by rw [hI_210, up_ne _ _ (by omega), up_self]
                    have hPl_210 : Pl (I_210 (100 + (5 * p0 + i2))) 0 (A_210 (100 + (5 * p0 + i2))) (Ac 3 i2) := by rw [hIb_210, hA_210, upA_self]; exact Pl.begin hzb
                    refine x_iinc (lv' := [(3, .int (iI (((i2 : Int)) + 1))), (4, .int (iI ((ss : Int)))), (0, .ref ((ad 0))), (1, .ref ((ad (15 + p0)))), (2, .int (iI rc))]) hx hb d_RR_findWholes_213 hl (q := 1) rfl rfl (by decide) rfl (fun ls hl => ?_)
                    refine lv_goto (tgt := 41) hx hb d_RR_findWholes_216 (by decide) ?_
                    exact ih_LB f_210 I_210 A_210 Rc Zc (i2 + 1) (up vb i2 (Ac 3 i2)) (by omega) hC_210 hfr_210 (by omega) (fun i h1 h2 h3 => by rw [hIo_210 i (h3 i2 (by omega)).1 (h3 i2 (by omega)).2]; exact hIco i h1 h2 h3) (fun q h1 h2 h3 => by rw [hAo_210 q (h3 i2 (by omega))]; exact hAco q h1 h2 h3) (hchc.keep (hIo_210 3 (by omega) (by omega)) (hAo_210 7 (by omega)) (fun _ _ => rfl)) (fun j h1 h2 => by rw [hAo_210 3 (by omega), hAo_210 4 (by omega)]; exact hFc j (by omega) h2) (fun j hj => by
          by_cases c : j = i2
          · rw [c, up_self]; exact ⟨hIa_210, hPl_210, hcel⟩
          · obtain ⟨q1, q2, q3⟩ := hPc j (by omega)
            rw [up_ne _ _ c, hIo_210 _ (by omega) (by omega), hIo_210 _ (by omega) (by omega), hAo_210 _ (by omega)]; exact ⟨q1, q2, q3⟩) _ _ _ B (lv_sub hl [0, 2, 3, 4] rfl)
                  · refine lv_aload_n hx hb d_RR_findWholes_59 rfl (lv_at hl 2 rfl) ?_
                    refine x_get (C := RX6) (T := TX6) (N := 14) hx hb hts inX6 hown (B.foc1 (hCc.x)) (hAd.f1 (by omega)) 0 rfl rfl 9 (by decide) (hts _ w_206) (fun _ h9 => h9) rfl d_RR_findWholes_60 ?_
                    refine lv_iload_n hx hb d_RR_findWholes_63 rfl (lv_at hl 1 rfl) ?_
                    refine x_iald hx hb (B.foc1 (hCc.high)) (hAd.f1 (by omega)) 0 0 rfl rfl i2 (by omega) (by omega) (by decide) d_RR_findWholes_64 ?_
                    refine lv_aload_n hx hb d_RR_findWholes_65 rfl (lv_at hl 2 rfl) ?_
                    refine x_get (C := RX6) (T := TX6) (N := 14) hx hb hts inX6 hown (B.foc1 (hCc.x)) (hAd.f1 (by omega)) 0 rfl rfl 8 (by decide) (hts _ w_205) (fun _ h9 => h9) rfl d_RR_findWholes_66 ?_
                    refine lv_iload_n hx hb d_RR_findWholes_69 rfl (lv_at hl 1 rfl) ?_
                    refine x_iald hx hb (B.foc1 (hCc.low)) (hAd.f1 (by omega)) 0 0 rfl rfl i2 (by omega) (by omega) (by decide) d_RR_findWholes_70 ?_
                    refine x_isub hx hb d_RR_findWholes_71 ?_
                    refine x_iconst hx hb d_RR_findWholes_72 ?_
                    refine x_icmp_le (tgt := 198) hx hb d_RR_findWholes_73 (by decide) (by omega) (by omega) (fun h73 => ?_) (fun h73 => ?_)
                    · have hcel : Cell N (i2 : Int) (Ac 3 i2) 0 := hFc.cell hrcb.2 ⟨Nat.le_refl _, by omega⟩ (by first | omega | (rw [show ss = 11 by omega] at hwc; exact hwc))
                      refine lv_aload_n hx hb d_RR_findWholes_198 rfl (lv_at hl 3 rfl) ?_
                      refine x_get (C := RX2) (T := TX2) (N := 5) hx hb hts inX2 hown (B.foc1 (hCc.cu (p := p0) (by omega))) (hAd.f1 (by omega)) 0 rfl rfl 2 (by decide) (hts _ w_181) (fun _ h9 => h9) rfl d_RR_findWholes_199 ?_
                      refine lv_iload_n hx hb d_RR_findWholes_202 rfl (lv_at hl 1 rfl) ?_
                      refine x_aald hx hb (B.foc1 (hCc.pa (p := p0) (by omega))) (hAd.f1 (by omega)) 0 5 rfl rfl i2 (by omega) (by omega) (by decide) (rfs_at (by omega)) d_RR_findWholes_203 ?_
                      refine lv_aload_n hx hb d_RR_findWholes_204 rfl (lv_at hl 2 rfl) ?_
                      refine x_get (C := RX6) (T := TX6) (N := 14) hx hb hts inX6 hown (B.foc1 (hCc.x)) (hAd.f1 (by omega)) 0 rfl rfl 8 (by decide) (hts _ w_205) (fun _ h9 => h9) rfl d_RR_findWholes_205 ?_
                      refine lv_iload_n hx hb d_RR_findWholes_208 rfl (lv_at hl 1 rfl) ?_
                      refine x_iald hx hb (B.foc1 (hCc.low)) (hAd.f1 (by omega)) 0 0 rfl rfl i2 (by omega) (by omega) (by decide) d_RR_findWholes_209 ?_
                      refine x_callv B hA (va_runV (As := [.int (iI (Ac 3 i2))]) (rest := []) ⟨hx, hb, hml, hown, hts⟩ (c_Place_begin l D cs _ _ _ (ad (63 + (5 * p0 + i2))) (ad (123 + (5 * p0 + i2))) (Ic (100 + (5 * p0 + i2))) (Ic (200 + (5 * p0 + i2))) (Ac (100 + (5 * p0 + i2))) (Ac 3 i2) (hAd.fc [63 + (5 * p0 + i2), 123 + (5 * p0 + i2)] (by simp only [List.nodup_cons, List.mem_cons, List.not_mem_nil, or_false, not_or, List.nodup_nil, and_true, not_false_eq_true]; omega) (by intro q hq; simp only [List.mem_cons, List.not_mem_nil, or_false] at hq; omega)) (hCc.pl (m := (5 * p0 + i2)) (by omega)) (hCc.wq (m := (5 * p0 + i2)) (by omega))) (cwV 1 hts (gw_V w_421 w_422 w_423 w_7 w_424) rfl rfl rfl (by decide +kernel) ⟨by rw [hRf]; exact Nat.le_of_ble_eq_true rfl, by rw [hRl]; exact Nat.le_of_ble_eq_true rfl⟩) ⟨K0.blind, B.recv (hAd.1 _ (by omega)) (hCc.pl (m := (5 * p0 + i2)) (by omega)) rfl, B.pre _⟩ rfl rfl hl.1 rfl (lv_room (Nat.le_of_ble_eq_true rfl)) d_RR_findWholes_210 ⟨by rw [hRc]; omega, by rw [hRs]; omega⟩) (fun g210 H locs hw B => ?_)
                      obtain ⟨zb, hzb, rfl⟩ := hw
                      have B : Wb D vwCl (TY cs) L (mw fc [((ad (63 + (5 * p0 + i2))), .inr (3, [.int (iI (Ac 3 i2)), .int (iI 0), .ref (ad (123 + (5 * p0 + i2)))])), ((ad (123 + (5 * p0 + i2))), .inl (cs 0, 8, .inl (ai zb)))]) (AL L s.heap.size) s H _ := B
                      obtain ⟨f_210, hf_210⟩ : ∃ f_210, f_210 = mw fc [((ad (63 + (5 * p0 + i2))), .inr (3, [.int (iI (Ac 3 i2)), .int (iI 0), .ref (ad (123 + (5 * p0 + i2)))])), ((ad (123 + (5 * p0 + i2))), .inl (cs 0, 8, .inl (ai zb)))] := ⟨_, rfl⟩
                      rw [← hf_210] at B
                      obtain ⟨I_210, hI_210⟩ : ∃ I_210, I_210 = up (up Ic (100 + (5 * p0 + i2)) (Ac 3 i2)) (200 + (5 * p0 + i2)) 0 := ⟨_, rfl⟩
                      obtain ⟨A_210, hA_210⟩ : ∃ A_210, A_210 = upA Ac (100 + (5 * p0 + i2)) zb := ⟨_, rfl⟩
                      have hC_210 : CSt cs ad Qm f_210 I_210 A_210 Rc Zc := by rw [hf_210, hI_210, hA_210]; exact CSt.w_pl hAd hCc (m := (5 * p0 + i2)) (by omega) _ _ _
                      have hfr_210 : ∀ k, Awy ad k → f_210 k = f k := fun k hk => Eq.trans (by rw [hf_210]; exact hk.mws [63 + (5 * p0 + i2), 123 + (5 * p0 + i2)] (by intro j hj; simp only [List.mem_cons, List.not_mem_nil, or_false] at hj; omega) rfl) (hfrc k hk)
                      have hIo_210 : ∀ i, i ≠ 100 + (5 * p0 + i2) → i ≠ 200 + (5 * p0 + i2) → I_210 i = Ic i := fun i h1 h2 => by rw [hI_210, up_ne _ _ h2, up_ne _ _ h1]
                      have hAo_210 : ∀ q, q ≠ 100 + (5 * p0 + i2) → A_210 q = Ac q := fun q hq => by rw [hA_210, upA_ne _ _ hq]
                      have hIa_210 : I_210 (200 + (5 * p0 + i2)) = ((0 : Nat) : Int) := by rw [hI_210, up_self]; rfl
                      have hIb_210 : I_210 (100 + (5 * p0 + i2)) = Ac 3 i2 := by rw [hI_210, up_ne _ _ (by omega), up_self]
                      have hPl_210 : Pl (I_210 (100 + (5 * p0 + i2))) 0 (A_210 (100 + (5 * p0 + i2))) (Ac 3 i2) := by rw [hIb_210, hA_210, upA_self]; exact Pl.begin hzb
                      refine x_iinc (lv' := [(3, .int (iI (((i2 : Int)) + 1))), (4, .int (iI ((ss : Int)))), (0, .ref ((ad 0))), (1, .ref ((ad (15 + p0)))), (2, .int (iI rc))]) hx hb d_RR_findWholes_213 hl (q := 1) rfl rfl (by decide) rfl (fun ls hl => ?_)
                      refine lv_goto (tgt := 41) hx hb d_RR_findWholes_216 (by decide) ?_
                      exact ih_LB f_210 I_210 A_210 Rc Zc (i2 + 1) (up vb i2 (Ac 3 i2)) (by omega) hC_210 hfr_210 (by omega) (fun i h1 h2 h3 => by rw [hIo_210 i (h3 i2 (by omega)).1 (h3 i2 (by omega)).2]; exact hIco i h1 h2 h3) (fun q h1 h2 h3 => by rw [hAo_210 q (h3 i2 (by omega))]; exact hAco q h1 h2 h3) (hchc.keep (hIo_210 3 (by omega) (by omega)) (hAo_210 7 (by omega)) (fun _ _ => rfl)) (fun j h1 h2 => by rw [hAo_210 3 (by omega), hAo_210 4 (by omega)]; exact hFc j (by omega) h2) (fun j hj => by
          by_cases c : j = i2
          · rw [c, up_self]; exact ⟨hIa_210, hPl_210, hcel⟩
          · obtain ⟨q1, q2, q3⟩ := hPc j (by omega)
            rw [up_ne _ _ c, hIo_210 _ (by omega) (by omega), hIo_210 _ (by omega) (by omega), hAo_210 _ (by omega)]; exact ⟨q1, q2, q3⟩) _ _ _ B (lv_sub hl [0, 2, 3, 4] rfl)
                    · refine lv_aload_n hx hb d_RR_findWholes_76 rfl (lv_at hl 2 rfl) ?_
                      refine x_get (C := RX6) (T := TX6) (N := 14) hx hb hts inX6 hown (B.foc1 (hCc.x)) (hAd.f1 (by omega)) 0 rfl rfl 8 (by decide) (hts _ w_205) (fun _ h9 => h9) rfl d_RR_findWholes_77 ?_
                      refine lv_iload_n hx hb d_RR_findWholes_80 rfl (lv_at hl 1 rfl) ?_
                      refine x_iald hx hb (B.foc1 (hCc.low)) (hAd.f1 (by omega)) 0 0 rfl rfl i2 (by omega) (by omega) (by decide) d_RR_findWholes_81 ?_
                      refine lv_aload_n hx hb d_RR_findWholes_82 rfl (lv_at hl 2 rfl) ?_
                      refine x_get (C := RX6) (T := TX6) (N := 14) hx hb hts inX6 hown (B.foc1 (hCc.x)) (hAd.f1 (by omega)) 0 rfl rfl 9 (by decide) (hts _ w_206) (fun _ h9 => h9) rfl d_RR_findWholes_83 ?_
                      refine lv_iload_n hx hb d_RR_findWholes_86 rfl (lv_at hl 1 rfl) ?_
                      refine x_iald hx hb (B.foc1 (hCc.high)) (hAd.f1 (by omega)) 0 0 rfl rfl i2 (by omega) (by omega) (by decide) d_RR_findWholes_87 ?_
                      refine x_iadd hx hb d_RR_findWholes_88 ?_
                      refine x_iconst hx hb d_RR_findWholes_89 ?_
                      refine x_calli B hA (va_runS (As := [.int (iI ((Ac 3 i2) + (Ac 4 i2))), .int (iI 2)]) (rest := []) ⟨hx, hb, hml, hown, hts⟩ (c_Math_floorDiv l D cs _ _ _ ((Ac 3 i2) + (Ac 4 i2)) 2 (by omega) (by omega)) (va_cwS 2 hts (gw_S w_398 w_399 w_9 w_400) rfl rfl rfl (by decide +kernel) ⟨by rw [hRf]; exact Nat.le_of_ble_eq_true rfl, by rw [hRl]; exact Nat.le_of_ble_eq_true rfl⟩) ⟨K0.blind, B.pre _⟩ rfl rfl hl.1 rfl (lv_room (Nat.le_of_ble_eq_true rfl)) d_RR_findWholes_90 ⟨by rw [hRc]; omega, by rw [hRs]; omega⟩) (fun r90 g90 H locs hw B => ?_)
                      obtain ⟨rfl, hgf⟩ := hw
                      rw [hgf] at B
                      obtain ⟨md, hmd⟩ : ∃ md : Int, md = (Ac 3 i2 + Ac 4 i2) / 2 := ⟨_, rfl⟩
                      rw [← hmd]
                      have hmdb : Ac 3 i2 < md ∧ md < Ac 4 i2 := by omega
                      have hss2 : ss < 11 := by rcases Nat.lt_or_ge ss 11 with h | h; exact h; rw [show 11 - ss = 0 by omega, Int.pow_zero] at hwc; omega
                      have hhw := half_w (lo := Ac 3 i2) (hi := Ac 4 i2) (md := md) (w := 0) (k := 11 - ss - 1) (by rw [show 11 - ss - 1 + 1 = 11 - ss by omega]; exact hwc) hmd
                      refine lv_istore (lv' := [(5, .int (iI md)), (4, .int (iI ((ss : Int)))), (3, .int (iI ((i2 : Int)))), (0, .ref ((ad 0))), (1, .ref ((ad (15 + p0)))), (2, .int (iI rc))]) hx hb d_RR_findWholes_93 hl (by decide) rfl (fun ls hl => ?_)
                      refine lv_aload_n hx hb d_RR_findWholes_95 rfl (lv_at hl 3 rfl) ?_
                      refine x_get (C := RX6) (T := TX6) (N := 14) hx hb hts inX6 hown (B.foc1 (hCc.x)) (hAd.f1 (by omega)) 0 rfl rfl 3 (by decide) (hts _ w_200) (fun _ h9 => h9) rfl d_RR_findWholes_96 ?_
                      refine lv_iload hx hb d_RR_findWholes_99 (lv_at hl 0 rfl) ?_
                      refine x_i2l hx hb d_RR_findWholes_101 (by omega) ?_
                      refine x_lconst (z := 1) hx hb d_RR_findWholes_102 (by decide) ?_
                      obtain ⟨sdn1030, nnn1030, lmn1030, c1n1030, c2n1030, c3n1030⟩ := hCc.2.2.1 (ad 227) (Bg.pl (by decide))
                      obtain ⟨sdn1031, nnn1031, lmn1031, c1n1031, c2n1031, c3n1031⟩ := hCc.2.2.1 (ad 228) (Bg.pl (by decide))
                      have hqan103 : Qm (ad 227) = ad 288 := hAd.2.2 44 (by decide)
                      have hqbn103 : Qm (ad 228) = ad 289 := hAd.2.2 45 (by decide)
                      refine x_callv B hA (va_runV (As := [.long (lI md), .long (lI 1)]) (rest := []) ⟨hx, hb, hml, hown, hts⟩ (c_Spot_number l D cs _ _ _ (ad 5) (ad 227) (ad 228) (ad 6) (Rc 52) (Rc 53) (Rc 54) (Rc 55) (Qm (ad 227)) (Qm (ad 228)) (Ic 6) sdn1030 sdn1031 nnn1030 nnn1031 lmn1030 lmn1031 md 1 (by rw [hqan103, hqbn103]; exact hAd.fc [5, 227, 288, 228, 289] (by decide) (by decide)) hCc.sp c1n1030 c2n1030 c1n1031 c2n1031 (by omega) (by decide)) (cwV 2 hts (gw_V w_401 w_402 w_403 w_4 w_404) rfl rfl rfl (by decide +kernel) ⟨by rw [hRf]; exact Nat.le_of_ble_eq_true rfl, by rw [hRl]; exact Nat.le_of_ble_eq_true rfl⟩) ⟨K0.blind, B.recv (hAd.1 _ (by omega)) (hCc.sp) rfl, B.pre _⟩ rfl rfl hl.1 rfl (lv_room (Nat.le_of_ble_eq_true rfl)) d_RR_findWholes_103 ⟨by rw [hRc]; omega, by rw [hRs]; omega⟩) (fun g103 H locs hw B => ?_)
                      obtain ⟨s1_103, n1_103, l1_103, s2_103, n2_103, l2_103, hz1_103, hz2_103, hg_103⟩ := hw
                      obtain ⟨hC_103, hq_103⟩ := CSt.number hAd hCc hz1_103 hz2_103 hg_103
                      obtain ⟨Z_103, hZ_103⟩ : ∃ Z_103, Z_103 = up (up Zc (ad 228) 1) (ad 227) md := ⟨_, rfl⟩
                      rw [← hZ_103] at hC_103
                      have hfr_103 : ∀ k, Awy ad k → g103 k = f k := fun k hk => (hq_103 k hk).trans (hfrc k hk)
                      have hZu_103 : Z_103 (ad 227) = md := by rw [hZ_103, up_self]
                      have hZl_103 : Z_103 (ad 228) = 1 := by rw [hZ_103, up_ne _ _ (hAd.ne (by decide) (by decide) (by decide)), up_self]
                      have B : Wb D vwCl (TY cs) L g103 (AL L s.heap.size) s H _ := B
                      have hch_103 := hchc.keep (I' := Ic) (A' := Ac) (R' := Rc) (Z' := Z_103) (rfl) (rfl) (fun t ht => by rw [hZ_103, up_ne _ _ (ckk_ne hAd (hCc.rck ht) (by decide)), up_ne _ _ (ckk_ne hAd (hCc.rck ht) (by decide))])
                      refine lv_aload_n hx hb d_RR_findWholes_106 rfl (lv_at hl 3 rfl) ?_
                      refine x_get (C := RX6) (T := TX6) (N := 14) hx hb hts inX6 hown (B.foc1 (hC_103.x)) (hAd.f1 (by omega)) 0 rfl rfl 2 (by decide) (hts _ w_199) (fun _ h9 => h9) rfl d_RR_findWholes_107 ?_
                      refine lv_aload_n hx hb d_RR_findWholes_110 rfl (lv_at hl 3 rfl) ?_
                      refine x_get (C := RX6) (T := TX6) (N := 14) hx hb hts inX6 hown (B.foc1 (hC_103.x)) (hAd.f1 (by omega)) 0 rfl rfl 3 (by decide) (hts _ w_200) (fun _ h9 => h9) rfl d_RR_findWholes_111 ?_
                      have hxx : ((Z_103 (ad 227) : Rat) / (Z_103 (ad 228) : Rat)) = (md : Rat) := by rw [hZu_103, hZl_103, show ((1 : Int) : Rat) = 1 from rfl]; grind
                      obtain ⟨Gk114, hG1k114, hG2k114⟩ := hC_103.2.1
                      have hcxk114 := hch_103
                      obtain ⟨nk114, hI3k114, hSsk114, hTpk114, hBtk114⟩ := hcxk114
                      have hn6k114 := hSsk114.2.1
                      refine x_callv B hA (va_runV (As := [.ref ((ad 5))]) (rest := []) ⟨hx, hb, hml, hown, hts⟩ (c_Chain_look l D cs _ _ _ (ad 2) (ad 3) (ad 4) (Rc 42) (ad 226) nk114 (Ic 4) (Ic 5) (Ac 7) (fun k => (Ac 7 k).toNat) Gk114 Rc (ad 5) (ad 227) (ad 228) (ad 6) (Rc 52) (Rc 53) (Rc 54) (Rc 55) (Ic 6) (Wkk ad) (Bg ad) Qm Z_103 (hAd.fc [2, 3, 4, 5] (by simp only [List.nodup_cons, List.mem_cons, List.not_mem_nil, or_false, not_or, List.nodup_nil, and_true, not_false_eq_true]; omega) (by intro q hq; simp only [List.mem_cons, List.not_mem_nil, or_false] at hq; omega)) (by rw [← hI3k114]; exact hC_103.ch) hG2k114 hC_103.tq ⟨hSsk114.1, hSsk114.2.1⟩ (fun k hk => (tops_dg hTpk114 k hk).1) hG1k114 (fun t ht => (hC_103.rck ht).bg) (fun k hk => (tops_dg hTpk114 k hk).2) hC_103.sp hAd.sp hC_103.2.2.1 (hAd.outs [2, 3, 4, 5] (by intro q hq; simp only [List.mem_cons, List.not_mem_nil, or_false] at hq; omega)) (fun b hb => Wkk.bg hb) hC_103.2.2.2.2.1 hC_103.2.2.2.2.2 (Bg.pl (by decide)) (Bg.pl (by decide)) (Wkk.not hAd (by decide) (by decide)) (Wkk.not hAd (by decide) (by decide)) (fun t ht => Ckk.wk hAd (hC_103.rck ht)) (by rw [hZl_103]; decide) (fun Z2 hZ2 => by have hh : ∀ k, k < nk114 → ∀ j, j < 6 → ChRow Rc Z2 k j = ChRow Rc Z_103 k j := fun k hk j hj => hZ2 _ (Ckk.wk hAd (hC_103.rck (by omega))); exact bt_room (r := ChRow Rc Z2) (hTpk114.congr hh (fun _ _ => rfl)) (hBtk114.congr hh) (by rw [hZ2 _ (Wkk.not hAd (by decide) (by decide))]; exact (by rw [hZu_103]; exact Int.lt_of_le_of_lt (show (md.natAbs : Int) ≤ 2048 by omega) (by decide))) (by rw [hZ2 _ (Wkk.not hAd (by decide) (by decide))]; exact (by rw [hZl_103]; decide)))) (cwV 1 hts (gw_V w_406 w_407 w_408 w_2 w_409) rfl rfl rfl (by decide +kernel) ⟨by rw [hRf]; exact Nat.le_of_ble_eq_true rfl, by rw [hRl]; exact Nat.le_of_ble_eq_true rfl⟩) ⟨K0.blind, B.recv (hAd.1 _ (by omega)) (hC_103.ch) rfl, B.pre _⟩ rfl rfl hl.1 rfl (lv_room (Nat.le_of_ble_eq_true rfl)) d_RR_findWholes_114 ⟨by rw [hRc]; omega, by rw [hRs]; omega⟩) (fun g114 H locs hw B => ?_)
                      obtain ⟨gtk114, gpk114, gak114, gbk114, Zk114, hWdk114, hNek114, hZZk114, hBBk114, hqk114, hcck114, httk114, htqk114, hspk114⟩ := hw
                      obtain ⟨Ik114, hIk114⟩ : ∃ Ik114, Ik114 = up (up Ic 4 (tn (fun k => sg (es (fun j => Z_103 (Rc (6 * k + j))) 6 ((Z_103 (ad 227) : Rat) / (Z_103 (ad 228) : Rat)))) nk114)) 5 ((fun k => sg (es (fun j => Z_103 (Rc (6 * k + j))) 6 ((Z_103 (ad 227) : Rat) / (Z_103 (ad 228) : Rat)))) 0) := ⟨_, rfl⟩
                      obtain ⟨Rk114, hRk114⟩ : ∃ Rk114, Rk114 = upW Rc gtk114 gpk114 gak114 gbk114 := ⟨_, rfl⟩
                      have hCk114 : CSt cs ad Qm g114 Ik114 Ac Rk114 Zk114 := by rw [hIk114, hRk114]; exact CSt.look hAd hC_103 hG1k114 hWdk114 hNek114 hBBk114 hqk114 (by rw [hI3k114]; exact hcck114) httk114 htqk114 hspk114
                      have hfrk114 : ∀ k, Awy ad k → g114 k = f k := fun k hk => (hqk114 k (hk.out hAd) (hk.nin [2, 3, 4, 5] (by intro q hq; simp only [List.mem_cons, List.not_mem_nil, or_false] at hq; omega))).trans (hfr_103 k hk)
                      have hIok114 : ∀ i, i ≠ 4 → i ≠ 5 → Ik114 i = Ic i := fun i h1 h2 => by rw [hIk114, up_ne _ _ h2, up_ne _ _ h1]
                      have hrwk114 : ∀ t, t < 42 → Zk114 (Rk114 t) = Z_103 (Rc t) := fun t ht => by rw [hRk114, upW_lt ht]; exact hZZk114 _ (Ckk.wk hAd (hC_103.rck ht))
                      have hI4k114 : Ik114 4 = tn (fun k => sg (es (fun j => Z_103 (Rc (6 * k + j))) 6 ((Z_103 (ad 227) : Rat) / (Z_103 (ad 228) : Rat)))) nk114 := by rw [hIk114, up_ne _ _ (by decide), up_self]
                      have hI5k114 : Ik114 5 = (fun k => sg (es (fun j => Z_103 (Rc (6 * k + j))) 6 ((Z_103 (ad 227) : Rat) / (Z_103 (ad 228) : Rat)))) 0 := by rw [hIk114, up_self]
                      have B : Wb D vwCl (TY cs) L g114 (AL L s.heap.size) s H _ := B
                      have hchk114 := hch_103.keep (I' := Ik114) (A' := Ac) (R' := Rk114) (Z' := Zk114) (hIok114 3 (by decide) (by decide)) (rfl) (hrwk114)
                      refine lv_aload_n hx hb d_RR_findWholes_117 rfl (lv_at hl 3 rfl) ?_
                      refine x_get (C := RX6) (T := TX6) (N := 14) hx hb hts inX6 hown (B.foc1 (hCk114.x)) (hAd.f1 (by omega)) 0 rfl rfl 2 (by decide) (hts _ w_199) (fun _ h9 => h9) rfl d_RR_findWholes_118 ?_
                      obtain ⟨Gb121, hG1b121, hG2b121⟩ := hCk114.2.1
                      have hcxb121 := hchk114
                      obtain ⟨nb121, hI3b121, hSsb121, hTpb121, hBtb121⟩ := hcxb121
                      refine x_calli B hA (va_runV (As := []) (rest := []) ⟨hx, hb, hml, hown, hts⟩ (c_Chain_rootsBelow l D cs _ _ _ (ad 2) (ad 3) (ad 4) (Rk114 42) (ad 226) nb121 (Ik114 4) (Ik114 5) (Ac 7) (fun k => (Ac 7 k).toNat) Gb121 Rk114 (Bg ad) Qm Zk114 (hAd.fc [2, 3, 4] (by simp only [List.nodup_cons, List.mem_cons, List.not_mem_nil, or_false, not_or, List.nodup_nil, and_true, not_false_eq_true]; omega) (by intro q hq; simp only [List.mem_cons, List.not_mem_nil, or_false] at hq; omega)) (by rw [← hI3b121]; exact hCk114.ch) hG2b121 hCk114.tq ⟨hSsb121.1, hSsb121.2.1⟩ (fun k hk => (tops_dg hTpb121 k hk).1) hG1b121 (fun t ht => (hCk114.rck ht).bg) (fun k hk => (tops_dg hTpb121 k hk).2) hAd.sp hCk114.2.2.1 (hAd.outs [2, 3, 4] (by intro q hq; simp only [List.mem_cons, List.not_mem_nil, or_false] at hq; omega)) (by rw [hI5k114]; exact sg_rng _)) (cwV 0 hts (gw_V w_416 w_417 w_418 w_2 w_419) rfl rfl rfl (by decide +kernel) ⟨by rw [hRf]; exact Nat.le_of_ble_eq_true rfl, by rw [hRl]; exact Nat.le_of_ble_eq_true rfl⟩) ⟨K0.blind, B.recv (hAd.1 _ (by omega)) (hCk114.ch) rfl, B.pre _⟩ rfl rfl hl.1 rfl (lv_room (Nat.le_of_ble_eq_true rfl)) d_RR_findWholes_121 ⟨by rw [hRc]; omega, by rw [hRs]; omega⟩) (fun r121 g121 H locs hw B => ?_)
                      obtain ⟨rfl, hgf⟩ := hw
                      rw [hgf] at B
                      obtain ⟨bl, hbl⟩ : ∃ bl : Int, bl = tn (fun k => sgL (fun j => Zk114 (Rk114 (6 * k + j)))) nb121 - Ik114 4 - (if Ik114 5 = 0 then 1 else 0) := ⟨_, rfl⟩
                      rw [← hbl]
                      have hblN : bl = N ((md : Rat)) := by rw [hbl, hI4k114, hI5k114, ← hxx]; exact below_eq hNB hSsk114 hSsb121 hrwk114
                      have hfew := hNB.few (md : Rat)
                      rw [← hblN] at hfew
                      refine lv_istore (lv' := [(6, .int (iI bl)), (5, .int (iI md)), (4, .int (iI ((ss : Int)))), (3, .int (iI ((i2 : Int)))), (0, .ref ((ad 0))), (1, .ref ((ad (15 + p0)))), (2, .int (iI rc))]) hx hb d_RR_findWholes_124 hl (by decide) rfl (fun ls hl => ?_)
                      refine lv_iload_n hx hb d_RR_findWholes_126 rfl (lv_at hl 3 rfl) ?_
                      refine lv_istore (lv' := [(7, .int (iI ((i2 : Int)))), (6, .int (iI bl)), (5, .int (iI md)), (4, .int (iI ((ss : Int)))), (3, .int (iI ((i2 : Int)))), (0, .ref ((ad 0))), (1, .ref ((ad (15 + p0)))), (2, .int (iI rc))]) hx hb d_RR_findWholes_127 hl (by decide) rfl (fun ls hl => ?_)
                      have LD : ∀ (fuel : Nat) (fd : Nat → va_E) (Id : Nat → Int) (Ad : Nat → Nat → Int) (Rd : Nat → Nat) (Zd : Nat → Int) (jj : Nat), nm - jj < fuel → (CSt cs ad Qm fd Id Ad Rd Zd) → (∀ k, Awy ad k → fd k = f k) → (i2 ≤ jj ∧ jj ≤ nm) → (∀ i, i ≠ 4 → i ≠ 5 → (∀ j, j < 5 → i ≠ 100 + (5 * p0 + j) ∧ i ≠ 200 + (5 * p0 + j)) → Id i = If i) → (∀ q, q ≠ 3 → q ≠ 4 → (∀ j, j < 5 → q ≠ 100 + (5 * p0 + j)) → Ad q = Af q) → (ChF (Af (40 + p0)) Id Ad Rd Zd) → (FwI N rc (Ad 3) (Ad 4) i2 nm) → (∀ j, j < i2 → Id (200 + (5 * p0 + j)) = ((0 : Nat) : Int) ∧ Pl (Id (100 + (5 * p0 + j))) 0 (Ad (100 + (5 * p0 + j))) (vb j) ∧ Cell N (j : Int) (vb j) 0) → (i2 < jj → Ad 4 i2 - Ad 3 i2 ≤ 2 ^ (11 - ss - 1)) → (∀ t, jj ≤ t → Ad 3 t = Ac 3 t ∧ Ad 4 t = Ac 4 t) → ∀ (H : Heap) (locs : List Loc) (ls : Array Slot), Wb D vwCl (TY cs) L fd (AL L s.heap.size) s H locs → lv_has ls 8 [(7, .int (iI ((jj : Int)))), (6, .int (iI bl)), (5, .int (iI md)), (4, .int (iI ((ss : Int)))), (3, .int (iI ((i2 : Int)))), (0, .ref ((ad 0))), (1, .ref ((ad (15 + p0)))), (2, .int (iI rc))] → W p l e R s m av below meth c H locs (0) (0) Q (F0 m 129 ls []) := by
                        intro fuel
                        induction fuel with
                        | zero => intro fd Id Ad Rd Zd jj hfu; exact absurd hfu (Nat.not_lt_zero _)
                        | succ fuel ih_LD =>
                          intro fd Id Ad Rd Zd jj hfu_LD hCd hfrd hj hIdo hAdo hchd hFd hPd hwd hsd H locs ls B hl
                          have hnmd : Id (40 + p0) = (nm : Int) := by rw [hIdo _ (by omega) (by omega) (fun j hj => by omega)]; exact hnm
                          have hAFd : Ad (40 + p0) = Af (40 + p0) := hAdo _ (by omega) (by omega) (fun j hj => by omega)
                          refine lv_iload hx hb d_RR_findWholes_129 (lv_at hl 0 rfl) ?_
                          refine lv_aload_n hx hb d_RR_findWholes_131 rfl (lv_at hl 6 rfl) ?_
                          refine x_get (C := RX2) (T := TX2) (N := 5) hx hb hts inX2 hown (B.foc1 (hCd.cu (p := p0) (by omega))) (hAd.f1 (by omega)) 0 rfl rfl 4 (by decide) (hts _ w_185) (fun _ h9 => h9) rfl d_RR_findWholes_132 ?_
                          rw [hnmd]
                          refine x_icmp_ge (tgt := 192) hx hb d_RR_findWholes_135 (by decide) (by omega) (by omega) (fun h135 => ?_) (fun h135 => ?_)
                          · refine x_iinc (lv' := [(4, .int (iI (((ss : Int)) + 1))), (7, .int (iI ((jj : Int)))), (6, .int (iI bl)), (5, .int (iI md)), (3, .int (iI ((i2 : Int)))), (0, .ref ((ad 0))), (1, .ref ((ad (15 + p0)))), (2, .int (iI rc))]) hx hb d_RR_findWholes_192 hl (q := 3) rfl rfl (by decide) rfl (fun ls hl => ?_)
                            refine lv_goto (tgt := 52) hx hb d_RR_findWholes_195 (by decide) ?_
                            exact ih_LC fd Id Ad Rd Zd (ss + 1) (by omega) hCd hfrd (by omega) hIdo hAdo hchd hFd hPd (by rw [show 11 - (ss + 1) = 11 - ss - 1 by omega]; exact hwd (by omega)) _ _ _ B (lv_sub hl [0, 4, 5, 6, 7] rfl)
                          · have hFj := hFd jj hj.1 (by omega)
                            refine lv_iload hx hb d_RR_findWholes_138 (lv_at hl 0 rfl) ?_
                            refine lv_iload hx hb d_RR_findWholes_140 (lv_at hl 1 rfl) ?_
                            refine x_icmp_ge (tgt := 167) hx hb d_RR_findWholes_142 (by decide) (by omega) (by omega) (fun h142 => ?_) (fun h142 => ?_)
                            · refine lv_aload_n hx hb d_RR_findWholes_167 rfl (lv_at hl 5 rfl) ?_
                              refine x_get (C := RX6) (T := TX6) (N := 14) hx hb hts inX6 hown (B.foc1 (hCd.x)) (hAd.f1 (by omega)) 0 rfl rfl 8 (by decide) (hts _ w_205) (fun _ h9 => h9) rfl d_RR_findWholes_168 ?_
                              refine lv_iload hx hb d_RR_findWholes_171 (lv_at hl 0 rfl) ?_
                              refine lv_aload_n hx hb d_RR_findWholes_173 rfl (lv_at hl 5 rfl) ?_
                              refine x_get (C := RX6) (T := TX6) (N := 14) hx hb hts inX6 hown (B.foc1 (hCd.x)) (hAd.f1 (by omega)) 0 rfl rfl 8 (by decide) (hts _ w_205) (fun _ h9 => h9) rfl d_RR_findWholes_174 ?_
                              refine lv_iload hx hb d_RR_findWholes_177 (lv_at hl 0 rfl) ?_
                              refine x_iald hx hb (B.foc1 (hCd.low)) (hAd.f1 (by omega)) 0 0 rfl rfl jj (by omega) (by omega) (by decide) d_RR_findWholes_179 ?_
                              refine lv_iload hx hb d_RR_findWholes_180 (lv_at hl 2 rfl) ?_
                              refine x_calli B hA (va_runS (As := [.int (iI (Ad 3 jj)), .int (iI md)]) (rest := [.int (iI ((jj : Int))), .ref ((ad 11))]) ⟨hx, hb, hml, hown, hts⟩ (c_Math_max l D cs _ _ _ (Ad 3 jj) md (by omega) (by omega)) (va_cwS 2 hts (gw_S w_382 w_383 w_9 w_384) rfl rfl rfl (by decide +kernel) ⟨by rw [hRf]; exact Nat.le_of_ble_eq_true rfl, by rw [hRl]; exact Nat.le_of_ble_eq_true rfl⟩) ⟨K0.blind, B.pre _⟩ rfl rfl hl.1 rfl (lv_room (Nat.le_of_ble_eq_true rfl)) d_RR_findWholes_182 ⟨by rw [hRc]; omega, by rw [hRs]; omega⟩) (fun r182 g182 H locs hw B => ?_)
                              obtain ⟨rfl, hgf⟩ := hw
                              rw [hgf] at B
                              refine x_iast hx hb (B.foc1 (hCd.low)) (hAd.f1 (by omega)) 0 0 rfl rfl jj (by omega) (by omega) (by decide) d_RR_findWholes_185 (fun H locs B => ?_)
                              have B : Wb D vwCl (TY cs) L (mw fd [((ad 11), .inl (cs 0, 5, .inl (ai (up (Ad 3) jj (max (Ad 3 jj) md)))))]) (AL L s.heap.size) s H _ := B
                              obtain ⟨f_185, hf_185⟩ : ∃ f_185, f_185 = mw fd [((ad 11), .inl (cs 0, 5, .inl (ai (up (Ad 3) jj (max (Ad 3 jj) md)))))] := ⟨_, rfl⟩
                              rw [← hf_185] at B
                              obtain ⟨A_185, hA_185⟩ : ∃ A_185, A_185 = upA Ad 3 (up (Ad 3) jj (max (Ad 3 jj) md)) := ⟨_, rfl⟩
                              have hC_185 : CSt cs ad Qm f_185 Id A_185 Rd Zd := by rw [hf_185, hA_185]; exact CSt.w_low hAd hCd _
                              have hfr_185 : ∀ k, Awy ad k → f_185 k = f k := fun k hk => Eq.trans (by rw [hf_185]; exact hk.mw1 (by omega)) (hfrd k hk)
                              refine x_iinc (lv' := [(7, .int (iI (((jj : Int)) + 1))), (6, .int (iI bl)), (5, .int (iI md)), (4, .int (iI ((ss : Int)))), (3, .int (iI ((i2 : Int)))), (0, .ref ((ad 0))), (1, .ref ((ad (15 + p0)))), (2, .int (iI rc))]) hx hb d_RR_findWholes_186 hl (q := 0) rfl rfl (by decide) rfl (fun ls hl => ?_)
                              refine lv_goto (tgt := 129) hx hb d_RR_findWholes_189 (by decide) ?_
                              exact ih_LD f_185 Id A_185 Rd Zd (jj + 1) (by omega) hC_185 hfr_185 (by omega) hIdo (fun q h1 h2 h3 => by rw [hA_185, upA_ne _ _ h1]; exact hAdo q h1 h2 h3) (hchd.keep rfl (by rw [hA_185, upA_ne _ _ (by decide)]) (fun _ _ => rfl)) (by rw [hA_185, upA_self, upA_ne _ _ (by decide)]; exact hFd.lo hNB hSq ⟨hj.1, by omega⟩ (by rw [← hblN]; omega) (up_self _ _ _) (fun t ht => up_ne _ _ ht)) (fun j hj => by obtain ⟨q1, q2, q3⟩ := hPd j hj; rw [hA_185, upA_ne _ _ (by omega)]; exact ⟨q1, q2, q3⟩) (fun _ => by
          rw [hA_185, upA_self, upA_ne _ _ (by decide)]
          by_cases c : jj = i2
          · rw [← c, up_self]; obtain ⟨s1, s2⟩ := hsd jj (Nat.le_refl _); rw [s1, s2]; rw [c]; omega
          · rw [up_ne _ _ (by omega)]; exact hwd (by omega)) (fun t ht => by rw [hA_185, upA_self, upA_ne _ _ (by decide), up_ne _ _ (by omega)]; exact hsd t (by omega)) _ _ _ B (lv_sub hl [0, 1, 2, 3, 4, 5, 6, 7] rfl)
                            · refine lv_aload_n hx hb d_RR_findWholes_145 rfl (lv_at hl 5 rfl) ?_
                              refine x_get (C := RX6) (T := TX6) (N := 14) hx hb hts inX6 hown (B.foc1 (hCd.x)) (hAd.f1 (by omega)) 0 rfl rfl 9 (by decide) (hts _ w_206) (fun _ h9 => h9) rfl d_RR_findWholes_146 ?_
                              refine lv_iload hx hb d_RR_findWholes_149 (lv_at hl 0 rfl) ?_
                              refine lv_aload_n hx hb d_RR_findWholes_151 rfl (lv_at hl 5 rfl) ?_
                              refine x_get (C := RX6) (T := TX6) (N := 14) hx hb hts inX6 hown (B.foc1 (hCd.x)) (hAd.f1 (by omega)) 0 rfl rfl 9 (by decide) (hts _ w_206) (fun _ h9 => h9) rfl d_RR_findWholes_152 ?_
                              refine lv_iload hx hb d_RR_findWholes_155 (lv_at hl 0 rfl) ?_
                              refine x_iald hx hb (B.foc1 (hCd.high)) (hAd.f1 (by omega)) 0 0 rfl rfl jj (by omega) (by omega) (by decide) d_RR_findWholes_157 ?_
                              refine lv_iload hx hb d_RR_findWholes_158 (lv_at hl 2 rfl) ?_
                              refine x_calli B hA (va_runS (As := [.int (iI (Ad 4 jj)), .int (iI md)]) (rest := [.int (iI ((jj : Int))), .ref ((ad 12))]) ⟨hx, hb, hml, hown, hts⟩ (c_Math_min l D cs _ _ _ (Ad 4 jj) md (by omega) (by omega)) (va_cwS 2 hts (gw_S w_385 w_386 w_9 w_387) rfl rfl rfl (by decide +kernel) ⟨by rw [hRf]; exact Nat.le_of_ble_eq_true rfl, by rw [hRl]; exact Nat.le_of_ble_eq_true rfl⟩) ⟨K0.blind, B.pre _⟩ rfl rfl hl.1 rfl (lv_room (Nat.le_of_ble_eq_true rfl)) d_RR_findWholes_160 ⟨by rw [hRc]; omega, by rw [hRs]; omega⟩) (fun r160 g160 H locs hw B => ?_)
                              obtain ⟨rfl, hgf⟩ := hw
                              rw [hgf] at B
                              refine x_iast hx hb (B.foc1 (hCd.high)) (hAd.f1 (by omega)) 0 0 rfl rfl jj (by omega) (by omega) (by decide) d_RR_findWholes_163 (fun H locs B => ?_)
                              have B : Wb D vwCl (TY cs) L (mw fd [((ad 12), .inl (cs 0, 5, .inl (ai (up (Ad 4) jj (min (Ad 4 jj) md)))))]) (AL L s.heap.size) s H _ := B
                              obtain ⟨f_163, hf_163⟩ : ∃ f_163, f_163 = mw fd [((ad 12), .inl (cs 0, 5, .inl (ai (up (Ad 4) jj (min (Ad 4 jj) md)))))] := ⟨_, rfl⟩
                              rw [← hf_163] at B
                              obtain ⟨A_163, hA_163⟩ : ∃ A_163, A_163 = upA Ad 4 (up (Ad 4) jj (min (Ad 4 jj) md)) := ⟨_, rfl⟩
                              have hC_163 : CSt cs ad Qm f_163 Id A_163 Rd Zd := by rw [hf_163, hA_163]; exact CSt.w_high hAd hCd _
                              have hfr_163 : ∀ k, Awy ad k → f_163 k = f k := fun k hk => Eq.trans (by rw [hf_163]; exact hk.mw1 (by omega)) (hfrd k hk)
                              refine lv_goto (tgt := 186) hx hb d_RR_findWholes_164 (by decide) ?_
                              refine x_iinc (lv' := [(7, .int (iI (((jj : Int)) + 1))), (6, .int (iI bl)), (5, .int (iI md)), (4, .int (iI ((ss : Int)))), (3, .int (iI ((i2 : Int)))), (0, .ref ((ad 0))), (1, .ref ((ad (15 + p0)))), (2, .int (iI rc))]) hx hb d_RR_findWholes_186 hl (q := 0) rfl rfl (by decide) rfl (fun ls hl => ?_)
                              refine lv_goto (tgt := 129) hx hb d_RR_findWholes_189 (by decide) ?_
                              exact ih_LD f_163 Id A_163 Rd Zd (jj + 1) (by omega) hC_163 hfr_163 (by omega) hIdo (fun q h1 h2 h3 => by rw [hA_163, upA_ne _ _ h2]; exact hAdo q h1 h2 h3) (hchd.keep rfl (by rw [hA_163, upA_ne _ _ (by decide)]) (fun _ _ => rfl)) (by rw [hA_163, upA_self, upA_ne _ _ (by decide)]; exact hFd.hi hNB hSq ⟨hj.1, by omega⟩ (by rw [← hblN]; omega) (up_self _ _ _) (fun t ht => up_ne _ _ ht)) (fun j hj => by obtain ⟨q1, q2, q3⟩ := hPd j hj; rw [hA_163, upA_ne _ _ (by omega)]; exact ⟨q1, q2, q3⟩) (fun _ => by
          rw [hA_163, upA_self, upA_ne _ _ (by decide)]
          by_cases c : jj = i2
          · rw [← c, up_self]; obtain ⟨s1, s2⟩ := hsd jj (Nat.le_refl _); rw [s1, s2]; rw [c]; omega
          · rw [up_ne _ _ (by omega)]; exact hwd (by omega)) (fun t ht => by rw [hA_163, upA_self, upA_ne _ _ (by decide), up_ne _ _ (by omega)]; exact hsd t (by omega)) _ _ _ B (lv_sub hl [0, 1, 2, 3, 4, 5, 6, 7] rfl)
                      exact LD _ g114 Ik114 Ac Rk114 Zk114 i2 (Nat.lt_succ_self _) hCk114 hfrk114 (by omega) (fun i h1 h2 h3 => by rw [hIok114 i h1 h2]; exact hIco i h1 h2 h3) hAco hchk114 hFc (fun j hj => by obtain ⟨q1, q2, q3⟩ := hPc j hj; rw [hIok114 _ (by omega) (by omega), hIok114 _ (by omega) (by omega)]; exact ⟨q1, q2, q3⟩) (fun h => by omega) (fun t _ => ⟨rfl, rfl⟩) _ _ _ B (lv_sub hl [0, 1, 2, 3, 4, 5, 6, 7] rfl)
              exact LC _ fb Ib Ab Rb Zb 0 (Nat.lt_succ_self _) hCb hfrb (by omega) hIbo hAbo hchb hFb hPb (by obtain ⟨q1, q2, q3, _⟩ := hFb i2 (Nat.le_refl _) (by omega); rw [show (2 : Int) ^ (11 - 0) = 2048 from rfl]; omega) _ _ _ B (lv_sub hl [0, 1, 2, 3, 4] rfl)
        exact LB _ fa Ia Aa Ra Za 0 (fun _ => 0) (Nat.lt_succ_self _) hCa hfra (by omega) hIao hAao hcha (fun j h1 h2 => by obtain ⟨q1, q2⟩ := hLa j (by omega); rw [q1, q2]; exact ⟨by omega, by omega, by omega, by rw [hNlo]; omega, by rw [hNhi]; omega⟩) (fun j hj => by omega) _ _ _ B (lv_sub hl [0, 1, 2, 3] rfl)
      · refine lv_aload_n hx hb d_RR_findWholes_18 rfl (lv_at hl 1 rfl) ?_
        refine x_get (C := RX6) (T := TX6) (N := 14) hx hb hts inX6 hown (B.foc1 (hCa.x)) (hAd.f1 (by omega)) 0 rfl rfl 8 (by decide) (hts _ w_205) (fun _ h9 => h9) rfl d_RR_findWholes_19 ?_
        refine lv_iload_n hx hb d_RR_findWholes_22 rfl (lv_at hl 0 rfl) ?_
        refine lv_iload_n hx hb d_RR_findWholes_23 rfl (lv_at hl 3 rfl) ?_
        refine x_ineg hx hb d_RR_findWholes_24 ?_
        refine x_iast hx hb (B.foc1 (hCa.low)) (hAd.f1 (by omega)) 0 0 rfl rfl ii (by omega) (by omega) (by decide) d_RR_findWholes_25 (fun H locs B => ?_)
        have B : Wb D vwCl (TY cs) L (mw fa [((ad 11), .inl (cs 0, 5, .inl (ai (up (Aa 3) ii (-rc)))))]) (AL L s.heap.size) s H _ := B
        obtain ⟨f_25, hf_25⟩ : ∃ f_25, f_25 = mw fa [((ad 11), .inl (cs 0, 5, .inl (ai (up (Aa 3) ii (-rc)))))] := ⟨_, rfl⟩
        rw [← hf_25] at B
        obtain ⟨A_25, hA_25⟩ : ∃ A_25, A_25 = upA Aa 3 (up (Aa 3) ii (-rc)) := ⟨_, rfl⟩
        have hC_25 : CSt cs ad Qm f_25 Ia A_25 Ra Za := by rw [hf_25, hA_25]; exact CSt.w_low hAd hCa _
        have hfr_25 : ∀ k, Awy ad k → f_25 k = f k := fun k hk => Eq.trans (by rw [hf_25]; exact hk.mw1 (by omega)) (hfra k hk)
        refine lv_aload_n hx hb d_RR_findWholes_26 rfl (lv_at hl 1 rfl) ?_
        refine x_get (C := RX6) (T := TX6) (N := 14) hx hb hts inX6 hown (B.foc1 (hC_25.x)) (hAd.f1 (by omega)) 0 rfl rfl 9 (by decide) (hts _ w_206) (fun _ h9 => h9) rfl d_RR_findWholes_27 ?_
        refine lv_iload_n hx hb d_RR_findWholes_30 rfl (lv_at hl 0 rfl) ?_
        refine lv_iload_n hx hb d_RR_findWholes_31 rfl (lv_at hl 3 rfl) ?_
        refine x_iast hx hb (B.foc1 (hC_25.high)) (hAd.f1 (by omega)) 0 0 rfl rfl ii (by omega) (by omega) (by decide) d_RR_findWholes_32 (fun H locs B => ?_)
        have B : Wb D vwCl (TY cs) L (mw f_25 [((ad 12), .inl (cs 0, 5, .inl (ai (up (A_25 4) ii (rc)))))]) (AL L s.heap.size) s H _ := B
        obtain ⟨f_32, hf_32⟩ : ∃ f_32, f_32 = mw f_25 [((ad 12), .inl (cs 0, 5, .inl (ai (up (A_25 4) ii (rc)))))] := ⟨_, rfl⟩
        rw [← hf_32] at B
        obtain ⟨A_32, hA_32⟩ : ∃ A_32, A_32 = upA A_25 4 (up (A_25 4) ii (rc)) := ⟨_, rfl⟩
        have hC_32 : CSt cs ad Qm f_32 Ia A_32 Ra Za := by rw [hf_32, hA_32]; exact CSt.w_high hAd hC_25 _
        have hfr_32 : ∀ k, Awy ad k → f_32 k = f k := fun k hk => Eq.trans (by rw [hf_32]; exact hk.mw1 (by omega)) (hfr_25 k hk)
        refine x_iinc (lv' := [(3, .int (iI (((ii : Int)) + 1))), (0, .ref ((ad 0))), (1, .ref ((ad (15 + p0)))), (2, .int (iI rc))]) hx hb d_RR_findWholes_33 hl (q := 0) rfl rfl (by decide) rfl (fun ls hl => ?_)
        refine lv_goto (tgt := 10) hx hb d_RR_findWholes_36 (by decide) ?_
        exact ih_LA f_32 Ia A_32 Ra Za (ii + 1) (by omega) hC_32 hfr_32 (by omega) hIao (fun q h1 h2 h3 => by rw [hA_32, upA_ne _ _ h2, hA_25, upA_ne _ _ h1]; exact hAao q h1 h2 h3) (hcha.keep rfl (by rw [hA_32, upA_ne _ _ (by decide), hA_25, upA_ne _ _ (by decide)]) (fun _ _ => rfl)) (fun j hj => by
          rw [hA_32, upA_self, upA_ne _ _ (by decide), hA_25, upA_self, upA_ne _ _ (by decide)]
          by_cases c : j = ii
          · rw [c, up_self, up_self]; exact ⟨rfl, rfl⟩
          · rw [up_ne _ _ c, up_ne _ _ c]; exact hLa j (by omega)) _ _ _ B (lv_sub hl [0, 1, 2, 3] rfl)
  exact LA _ f If Af Rf Zf 0 (Nat.lt_succ_self _) hC hfr (by omega) (fun i _ _ _ => rfl) (fun q _ _ _ => rfl) hch (fun j hj => by omega) _ _ _ B (lv_sub hl [0, 2, 3, 1] rfl)
