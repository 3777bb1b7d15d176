/-- the greatest common divisor of the first k numbers from p on -/
def cg (Z : Nat → Int) (p : Nat) : Nat → Nat
  | 0 => 0
  | k + 1 => Nat.gcd (cg Z p k) (Z (p + k)).natAbs
theorem cg_dvd (Z : Nat → Int) (p : Nat) : ∀ (k j : Nat), j < k → cg Z p k ∣ (Z (p + j)).natAbs := by
  intro k
  induction k with
  | zero => intro j hj; omega
  | succ k ih =>
    intro j hj
    by_cases h : j = k
    · rw [h]; exact Nat.gcd_dvd_right _ _
    · exact Nat.dvd_trans (Nat.gcd_dvd_left _ _) (ih j (by omega))
theorem cg_zero {Z : Nat → Int} {p k : Nat} (h : cg Z p k = 0) : ∀ j, j < k → Z (p + j) = 0 := by
  intro j hj
  have := cg_dvd Z p k j hj
  rw [h] at this
  have := Nat.eq_zero_of_zero_dvd this
  omega
theorem cg_lt {Z : Nat → Int} {p : Nat} {M : Int} (hM : 0 < M) : ∀ k, (∀ j, j < k → ((Z (p + j)).natAbs : Int) < M) → ((cg Z p k : Nat) : Int) < M := by
  intro k
  induction k with
  | zero => intro _; simpa [cg] using hM
  | succ k ih =>
    intro h
    have h1 := ih (fun j hj => h j (by omega))
    have h2 := h k (by omega)
    rw [cg]
    rcases Nat.eq_zero_or_pos (cg Z p k) with h3 | h3
    · rw [h3, Nat.gcd_zero_left]; exact h2
    · have := Nat.gcd_le_left (Z (p + k)).natAbs h3
      omega
theorem RV.sgn {sd n : Int} {g : Nat → Int} {z : Int} (h : RV sd n g z) (hz : 0 < z) {s : Int} (hs : s = 1 ∨ s = -1) : RV s n g (s * z) := by
  obtain ⟨h1, h2, h3, h4, h5, h6⟩ := h
  refine ⟨h1, h2, h3, h4, ?_, by rw [h6, Int.natAbs_mul]; rcases hs with rfl | rfl <;> simp⟩
  rcases hs with rfl | rfl
  · rw [Int.one_mul, Int.sign_eq_one_of_pos hz]
  · rw [Int.sign_eq_neg_one_of_neg (by omega)]
theorem exact_quot {z s : Int} {c : Nat} (hc : c ∣ z.natAbs) (hc0 : c ≠ 0) (hs : (s = 1 ∧ 0 < z) ∨ (s = -1 ∧ z < 0)) : z = (c : Int) * (s * ((z.natAbs : Int) / (c : Int))) ∧ 0 < (z.natAbs : Int) / (c : Int) := by
  obtain ⟨q, hq⟩ := hc
  have h1 : (z.natAbs : Int) = (c : Int) * (q : Int) := by rw [hq, Int.natCast_mul]
  have h2 : (z.natAbs : Int) / (c : Int) = (q : Int) := by rw [h1, Int.mul_ediv_cancel_left _ (by omega)]
  have h3 : q ≠ 0 := fun h => by rw [h] at hq; simp at hq; omega
  rw [h2]
  refine ⟨?_, by omega⟩
  rcases hs with ⟨rfl, hz⟩ | ⟨rfl, hz⟩
  · rw [Int.one_mul, ← h1]; omega
  · rw [show -1 * (q : Int) = -(q : Int) by omega, Int.mul_neg, ← h1]; omega
theorem d_Mo_lessen_0 : decode prog_9_method_18_code 0 = .ok (.aload_n 0, 1) := by decide +kernel
theorem d_Mo_lessen_1 : decode prog_9_method_18_code 1 = .ok (.sipush 172, 3) := by decide +kernel
theorem d_Mo_lessen_4 : decode prog_9_method_18_code 4 = .ok (.lconst 0, 1) := by decide +kernel
theorem d_Mo_lessen_5 : decode prog_9_method_18_code 5 = .ok (.invokevirtual 77, 3) := by decide +kernel
theorem d_Mo_lessen_8 : decode prog_9_method_18_code 8 = .ok (.iconst 0, 1) := by decide +kernel
theorem d_Mo_lessen_9 : decode prog_9_method_18_code 9 = .ok (.istore_n 2, 1) := by decide +kernel
theorem d_Mo_lessen_10 : decode prog_9_method_18_code 10 = .ok (.iload_n 2, 1) := by decide +kernel
theorem d_Mo_lessen_11 : decode prog_9_method_18_code 11 = .ok (.bipush 6, 2) := by decide +kernel
theorem d_Mo_lessen_13 : decode prog_9_method_18_code 13 = .ok (.if_icmp .ge 73, 3) := by decide +kernel
theorem d_Mo_lessen_16 : decode prog_9_method_18_code 16 = .ok (.aload_n 0, 1) := by decide +kernel
theorem d_Mo_lessen_17 : decode prog_9_method_18_code 17 = .ok (.sipush 173, 3) := by decide +kernel
theorem d_Mo_lessen_20 : decode prog_9_method_18_code 20 = .ok (.iload_n 1, 1) := by decide +kernel
theorem d_Mo_lessen_21 : decode prog_9_method_18_code 21 = .ok (.iload_n 2, 1) := by decide +kernel
theorem d_Mo_lessen_22 : decode prog_9_method_18_code 22 = .ok (.iadd, 1) := by decide +kernel
theorem d_Mo_lessen_23 : decode prog_9_method_18_code 23 = .ok (.invokevirtual 65, 3) := by decide +kernel
theorem d_Mo_lessen_26 : decode prog_9_method_18_code 26 = .ok (.aload_n 0, 1) := by decide +kernel
theorem d_Mo_lessen_27 : decode prog_9_method_18_code 27 = .ok (.getfield 16, 3) := by decide +kernel
theorem d_Mo_lessen_30 : decode prog_9_method_18_code 30 = .ok (.sipush 173, 3) := by decide +kernel
theorem d_Mo_lessen_33 : decode prog_9_method_18_code 33 = .ok (.iaload, 1) := by decide +kernel
theorem d_Mo_lessen_34 : decode prog_9_method_18_code 34 = .ok (.ifCond .eq 46, 3) := by decide +kernel
theorem d_Mo_lessen_37 : decode prog_9_method_18_code 37 = .ok (.aload_n 0, 1) := by decide +kernel
theorem d_Mo_lessen_38 : decode prog_9_method_18_code 38 = .ok (.getfield 16, 3) := by decide +kernel
theorem d_Mo_lessen_41 : decode prog_9_method_18_code 41 = .ok (.sipush 172, 3) := by decide +kernel
theorem d_Mo_lessen_44 : decode prog_9_method_18_code 44 = .ok (.iaload, 1) := by decide +kernel
theorem d_Mo_lessen_45 : decode prog_9_method_18_code 45 = .ok (.ifCond .ne 25, 3) := by decide +kernel
theorem d_Mo_lessen_48 : decode prog_9_method_18_code 48 = .ok (.aload_n 0, 1) := by decide +kernel
theorem d_Mo_lessen_49 : decode prog_9_method_18_code 49 = .ok (.sipush 172, 3) := by decide +kernel
theorem d_Mo_lessen_52 : decode prog_9_method_18_code 52 = .ok (.sipush 173, 3) := by decide +kernel
theorem d_Mo_lessen_55 : decode prog_9_method_18_code 55 = .ok (.invokevirtual 65, 3) := by decide +kernel
theorem d_Mo_lessen_58 : decode prog_9_method_18_code 58 = .ok (.aload_n 0, 1) := by decide +kernel
theorem d_Mo_lessen_59 : decode prog_9_method_18_code 59 = .ok (.getfield 16, 3) := by decide +kernel
theorem d_Mo_lessen_62 : decode prog_9_method_18_code 62 = .ok (.sipush 172, 3) := by decide +kernel
theorem d_Mo_lessen_65 : decode prog_9_method_18_code 65 = .ok (.iconst 1, 1) := by decide +kernel
theorem d_Mo_lessen_66 : decode prog_9_method_18_code 66 = .ok (.iastore, 1) := by decide +kernel
theorem d_Mo_lessen_67 : decode prog_9_method_18_code 67 = .ok (.goto 13, 3) := by decide +kernel
theorem d_Mo_lessen_70 : decode prog_9_method_18_code 70 = .ok (.aload_n 0, 1) := by decide +kernel
theorem d_Mo_lessen_71 : decode prog_9_method_18_code 71 = .ok (.sipush 172, 3) := by decide +kernel
theorem d_Mo_lessen_74 : decode prog_9_method_18_code 74 = .ok (.sipush 173, 3) := by decide +kernel
theorem d_Mo_lessen_77 : decode prog_9_method_18_code 77 = .ok (.invokevirtual 96, 3) := by decide +kernel
theorem d_Mo_lessen_80 : decode prog_9_method_18_code 80 = .ok (.iinc 2 1, 3) := by decide +kernel
theorem d_Mo_lessen_83 : decode prog_9_method_18_code 83 = .ok (.goto (-73), 3) := by decide +kernel
theorem d_Mo_lessen_86 : decode prog_9_method_18_code 86 = .ok (.iconst 0, 1) := by decide +kernel
theorem d_Mo_lessen_87 : decode prog_9_method_18_code 87 = .ok (.istore_n 2, 1) := by decide +kernel
theorem d_Mo_lessen_88 : decode prog_9_method_18_code 88 = .ok (.iload_n 2, 1) := by decide +kernel
theorem d_Mo_lessen_89 : decode prog_9_method_18_code 89 = .ok (.bipush 6, 2) := by decide +kernel
theorem d_Mo_lessen_91 : decode prog_9_method_18_code 91 = .ok (.if_icmp .ge 65, 3) := by decide +kernel
theorem d_Mo_lessen_94 : decode prog_9_method_18_code 94 = .ok (.aload_n 0, 1) := by decide +kernel
theorem d_Mo_lessen_95 : decode prog_9_method_18_code 95 = .ok (.getfield 16, 3) := by decide +kernel
theorem d_Mo_lessen_98 : decode prog_9_method_18_code 98 = .ok (.sipush 172, 3) := by decide +kernel
theorem d_Mo_lessen_101 : decode prog_9_method_18_code 101 = .ok (.iaload, 1) := by decide +kernel
theorem d_Mo_lessen_102 : decode prog_9_method_18_code 102 = .ok (.ifCond .eq 54, 3) := by decide +kernel
theorem d_Mo_lessen_105 : decode prog_9_method_18_code 105 = .ok (.aload_n 0, 1) := by decide +kernel
theorem d_Mo_lessen_106 : decode prog_9_method_18_code 106 = .ok (.getfield 16, 3) := by decide +kernel
theorem d_Mo_lessen_109 : decode prog_9_method_18_code 109 = .ok (.iload_n 1, 1) := by decide +kernel
theorem d_Mo_lessen_110 : decode prog_9_method_18_code 110 = .ok (.iload_n 2, 1) := by decide +kernel
theorem d_Mo_lessen_111 : decode prog_9_method_18_code 111 = .ok (.iadd, 1) := by decide +kernel
theorem d_Mo_lessen_112 : decode prog_9_method_18_code 112 = .ok (.iaload, 1) := by decide +kernel
theorem d_Mo_lessen_113 : decode prog_9_method_18_code 113 = .ok (.istore_n 3, 1) := by decide +kernel
theorem d_Mo_lessen_114 : decode prog_9_method_18_code 114 = .ok (.aload_n 0, 1) := by decide +kernel
theorem d_Mo_lessen_115 : decode prog_9_method_18_code 115 = .ok (.sipush 173, 3) := by decide +kernel
theorem d_Mo_lessen_118 : decode prog_9_method_18_code 118 = .ok (.iload_n 1, 1) := by decide +kernel
theorem d_Mo_lessen_119 : decode prog_9_method_18_code 119 = .ok (.iload_n 2, 1) := by decide +kernel
theorem d_Mo_lessen_120 : decode prog_9_method_18_code 120 = .ok (.iadd, 1) := by decide +kernel
theorem d_Mo_lessen_121 : decode prog_9_method_18_code 121 = .ok (.invokevirtual 65, 3) := by decide +kernel
theorem d_Mo_lessen_124 : decode prog_9_method_18_code 124 = .ok (.iload_n 3, 1) := by decide +kernel
theorem d_Mo_lessen_125 : decode prog_9_method_18_code 125 = .ok (.ifCond .eq 25, 3) := by decide +kernel
theorem d_Mo_lessen_128 : decode prog_9_method_18_code 128 = .ok (.aload_n 0, 1) := by decide +kernel
theorem d_Mo_lessen_129 : decode prog_9_method_18_code 129 = .ok (.iload_n 1, 1) := by decide +kernel
theorem d_Mo_lessen_130 : decode prog_9_method_18_code 130 = .ok (.iload_n 2, 1) := by decide +kernel
theorem d_Mo_lessen_131 : decode prog_9_method_18_code 131 = .ok (.iadd, 1) := by decide +kernel
theorem d_Mo_lessen_132 : decode prog_9_method_18_code 132 = .ok (.sipush 173, 3) := by decide +kernel
theorem d_Mo_lessen_135 : decode prog_9_method_18_code 135 = .ok (.sipush 172, 3) := by decide +kernel
theorem d_Mo_lessen_138 : decode prog_9_method_18_code 138 = .ok (.invokevirtual 92, 3) := by decide +kernel
theorem d_Mo_lessen_141 : decode prog_9_method_18_code 141 = .ok (.aload_n 0, 1) := by decide +kernel
theorem d_Mo_lessen_142 : decode prog_9_method_18_code 142 = .ok (.getfield 16, 3) := by decide +kernel
theorem d_Mo_lessen_145 : decode prog_9_method_18_code 145 = .ok (.iload_n 1, 1) := by decide +kernel
theorem d_Mo_lessen_146 : decode prog_9_method_18_code 146 = .ok (.iload_n 2, 1) := by decide +kernel
theorem d_Mo_lessen_147 : decode prog_9_method_18_code 147 = .ok (.iadd, 1) := by decide +kernel
theorem d_Mo_lessen_148 : decode prog_9_method_18_code 148 = .ok (.iload_n 3, 1) := by decide +kernel
theorem d_Mo_lessen_149 : decode prog_9_method_18_code 149 = .ok (.iastore, 1) := by decide +kernel
theorem d_Mo_lessen_150 : decode prog_9_method_18_code 150 = .ok (.iinc 2 1, 3) := by decide +kernel
theorem d_Mo_lessen_153 : decode prog_9_method_18_code 153 = .ok (.goto (-65), 3) := by decide +kernel
theorem d_Mo_lessen_156 : decode prog_9_method_18_code 156 = .ok (.return_, 1) := by decide +kernel
set_option maxHeartbeats 8000000 in
set_option maxRecDepth 100000 in
theorem c_Mo_lessen (l : Launch) (D : va_G) (cs : Nat → ClassId) (L : List Nat) (f : Nat → va_E) (sz : Nat) (y m1 m2 m3 m5 m6 m7 m8 m9 m10 m11 m12 m13 m15 : Nat) (th pn rw_ fu fb : Int) (lm mn sn Z : Nat → Int) (p0 : Nat) (hF : Fc L [y, m1, m2, m3]) (ha : f y = .inr (7, [.int (iI th), .ref m1, .ref m2, .ref m3, .int (iI pn), .ref m5, .ref m6, .ref m7, .ref m8, .ref m9, .ref m10, .ref m11, .ref m12, .ref m13, .int (iI rw_), .ref m15, .long (lI fu), .long (lI fb)])) (hm1 : f m1 = .inl (cs 0, 11520, .inl (ai lm))) (hm2 : f m2 = .inl (cs 0, 180, .inl (ai mn))) (hm3 : f m3 = .inl (cs 0, 180, .inl (ai sn))) (hRS : RS lm mn sn Z) (hp8 : p0 + 5 < 172) (hzr : ∀ j, j < 6 → ((Z (p0 + j)).natAbs : Int) < Mp 62) : Met l (⟨"RealRootsModel", "lessen", "(I)V"⟩ : MethodName) (.code (⟨"RealRootsModel", "lessen", "(I)V"⟩ : MethodName) prog_9_method_18_code 4 (Option.none : Option Jvm.ClassFile.FieldType) :: gw) ({ frames := 5, cells := 0, slots := 0, locals := 160 }) (va_Pc [.ref y, .int (iI ((p0 : Int)))] (K0 D vwCl (TY cs) L f sz)) (va_Qv (fun (g : Nat → va_E) => ∃ lm' mn' sn' Z' : Nat → Int, RS lm' mn' sn' Z' ∧ (∀ j, j < 6 → Z (p0 + j) = ((cg Z p0 6 : Nat) : Int) * Z' (p0 + j)) ∧ (cg Z p0 6 = 0 → ∀ j, j < 6 → Z' (p0 + j) = 0) ∧ (∀ v, (v < p0 ∨ p0 + 5 < v) → v ≠ 172 → v ≠ 173 → v ≠ 174 → v ≠ 175 → v ≠ 176 → v ≠ 177 → Z' v = Z v) ∧ g = mw f [(m1, .inl (cs 0, 11520, .inl (ai (lm')))), (m2, .inl (cs 0, 180, .inl (ai (mn')))), (m3, .inl (cs 0, 180, .inl (ai (sn'))))]) (K1 D vwCl (TY cs) (AL L sz) L) (AL L sz)) 0 0 (AL L sz) := by
  refine Met.ofW (cc := prog_9_method_18_code) (maxL := 4) (ret := (Option.none : Option Jvm.ClassFile.FieldType)) (by decide) rfl ?_
  intro p e s m args below meth c s₁ Bd hml hv
  obtain ⟨rfl, hk0⟩ := hv
  obtain ⟨hsz, B⟩ := hk0.start
  subst hsz
  have hx := Bd.exec
  have hb := Bd.bytes
  have hr := Bd.returns
  have hlocks := Bd.notSynchronized
  have hts0 := atoms_spec Bd.pre
  have hown : s.vm.findClass RX7 = some m.cls := findClass_of_methodNamed Bd.named
  have hA : ∀ q, s.heap.size ≤ q → AL L s.heap.size q := fun _ h => Or.inr h
  have hl := lv_entry ([.ref y, .int (iI ((p0 : Int)))]) (n := 4) (Nat.le_of_ble_eq_true rfl)
  rw [lg_entry_eq]
  generalize (lg_sl ([.ref y, .int (iI ((p0 : Int)))]) ++ List.replicate (4 - (lg_sl ([.ref y, .int (iI ((p0 : Int)))])).length) Slot.unset).toArray = ls at hl ⊢
  refine absQ (fun Q R av hQ hR hav => ?_)
  have hts : ∀ w ∈ gw, w.before av s = true := by rw [hav]; exact fun w h => hts0 w (List.mem_cons_of_mem _ h)
  have hRf : R.frames = 5 := by rw [hR]; rfl
  have hRl : R.locals = 160 := by rw [hR]; rfl
  have hRc : R.cells = 0 := by rw [hR]; rfl
  have hRs : R.slots = 0 := by rw [hR]; rfl
  clear hR hts0 Bd
  have hl : lv_has ls 4 [(0, .ref y), (1, .int (iI ((p0 : Int))))] := hl
  have hfx : ∀ q ∈ ([(y, .inr (7, [.int (iI th), .ref m1, .ref m2, .ref m3, .int (iI pn), .ref m5, .ref m6, .ref m7, .ref m8, .ref m9, .ref m10, .ref m11, .ref m12, .ref m13, .int (iI rw_), .ref m15, .long (lI fu), .long (lI fb)])), (m1, .inl (cs 0, 11520, .inl (ai lm))), (m2, .inl (cs 0, 180, .inl (ai mn))), (m3, .inl (cs 0, 180, .inl (ai sn)))] : List (Nat × va_E)), f q.1 = q.2 := fun q hq => by
    simp only [List.mem_cons, List.not_mem_nil, or_false] at hq
    rcases hq with rfl | rfl | rfl | rfl
    · exact ha
    · exact hm1
    · exact hm2
    · exact hm3
  have hmw : mw f [(y, .inr (7, [.int (iI th), .ref m1, .ref m2, .ref m3, .int (iI pn), .ref m5, .ref m6, .ref m7, .ref m8, .ref m9, .ref m10, .ref m11, .ref m12, .ref m13, .int (iI rw_), .ref m15, .long (lI fu), .long (lI fb)])), (m1, .inl (cs 0, 11520, .inl (ai lm))), (m2, .inl (cs 0, 180, .inl (ai mn))), (m3, .inl (cs 0, 180, .inl (ai sn)))] = f := mw_self (fun k a e hk => hfx (a, e) (List.mem_of_getElem? hk))
  have B := B.focus [(y, .inr (7, [.int (iI th), .ref m1, .ref m2, .ref m3, .int (iI pn), .ref m5, .ref m6, .ref m7, .ref m8, .ref m9, .ref m10, .ref m11, .ref m12, .ref m13, .int (iI rw_), .ref m15, .long (lI fu), .long (lI fb)])), (m1, .inl (cs 0, 11520, .inl (ai lm))), (m2, .inl (cs 0, 180, .inl (ai mn))), (m3, .inl (cs 0, 180, .inl (ai sn)))] hfx
  refine lv_aload_n hx hb d_Mo_lessen_0 rfl (lv_at hl 0 rfl) ?_
  refine x_sipush hx hb d_Mo_lessen_1 (by decide) ?_
  refine x_lconst (z := 0) hx hb d_Mo_lessen_4 (by decide) ?_
  refine x_callv B hA (va_runV (As := [.int (iI 172), .long (lI 0)]) (rest := []) ⟨hx, hb, hml, hown, hts⟩ (c_Mo_lay0 l D cs _ _ _ y m1 m2 m3 m5 m6 m7 m8 m9 m10 m11 m12 m13 m15 th pn rw_ fu fb lm mn sn Z 172 0 hF (mw_get (X := [(y, .inr (7, [.int (iI th), .ref m1, .ref m2, .ref m3, .int (iI pn), .ref m5, .ref m6, .ref m7, .ref m8, .ref m9, .ref m10, .ref m11, .ref m12, .ref m13, .int (iI rw_), .ref m15, .long (lI fu), .long (lI fb)])), (m1, .inl (cs 0, 11520, .inl (ai lm))), (m2, .inl (cs 0, 180, .inl (ai mn))), (m3, .inl (cs 0, 180, .inl (ai sn)))]) hF.1 (k := 0) rfl) (mw_get (X := [(y, .inr (7, [.int (iI th), .ref m1, .ref m2, .ref m3, .int (iI pn), .ref m5, .ref m6, .ref m7, .ref m8, .ref m9, .ref m10, .ref m11, .ref m12, .ref m13, .int (iI rw_), .ref m15, .long (lI fu), .long (lI fb)])), (m1, .inl (cs 0, 11520, .inl (ai lm))), (m2, .inl (cs 0, 180, .inl (ai mn))), (m3, .inl (cs 0, 180, .inl (ai sn)))]) hF.1 (k := 1) rfl) (mw_get (X := [(y, .inr (7, [.int (iI th), .ref m1, .ref m2, .ref m3, .int (iI pn), .ref m5, .ref m6, .ref m7, .ref m8, .ref m9, .ref m10, .ref m11, .ref m12, .ref m13, .int (iI rw_), .ref m15, .long (lI fu), .long (lI fb)])), (m1, .inl (cs 0, 11520, .inl (ai lm))), (m2, .inl (cs 0, 180, .inl (ai mn))), (m3, .inl (cs 0, 180, .inl (ai sn)))]) hF.1 (k := 2) rfl) (mw_get (X := [(y, .inr (7, [.int (iI th), .ref m1, .ref m2, .ref m3, .int (iI pn), .ref m5, .ref m6, .ref m7, .ref m8, .ref m9, .ref m10, .ref m11, .ref m12, .ref m13, .int (iI rw_), .ref m15, .long (lI fu), .long (lI fb)])), (m1, .inl (cs 0, 11520, .inl (ai lm))), (m2, .inl (cs 0, 180, .inl (ai mn))), (m3, .inl (cs 0, 180, .inl (ai sn)))]) hF.1 (k := 3) rfl) hRS (by decide) (by omega)) (cwV 2 hts (gw_V w_792 w_794 s_35 w_8 w_795) rfl rfl rfl (by decide +kernel) ⟨by rw [hRf]; exact Nat.le_of_ble_eq_true rfl, by rw [hRl]; exact Nat.le_of_ble_eq_true rfl⟩) ⟨K0.blind, B.recv (hF.2 _ (mw_key (k := 0) (X := [(y, .inr (7, [.int (iI th), .ref m1, .ref m2, .ref m3, .int (iI pn), .ref m5, .ref m6, .ref m7, .ref m8, .ref m9, .ref m10, .ref m11, .ref m12, .ref m13, .int (iI rw_), .ref m15, .long (lI fu), .long (lI fb)])), (m1, .inl (cs 0, 11520, .inl (ai lm))), (m2, .inl (cs 0, 180, .inl (ai mn))), (m3, .inl (cs 0, 180, .inl (ai sn)))]) rfl)) (mw_get (X := [(y, .inr (7, [.int (iI th), .ref m1, .ref m2, .ref m3, .int (iI pn), .ref m5, .ref m6, .ref m7, .ref m8, .ref m9, .ref m10, .ref m11, .ref m12, .ref m13, .int (iI rw_), .ref m15, .long (lI fu), .long (lI fb)])), (m1, .inl (cs 0, 11520, .inl (ai lm))), (m2, .inl (cs 0, 180, .inl (ai mn))), (m3, .inl (cs 0, 180, .inl (ai sn)))]) hF.1 (k := 0) rfl) rfl, B.pre _⟩ rfl rfl hl.1 rfl (lv_room (Nat.le_of_ble_eq_true rfl)) d_Mo_lessen_5 ⟨by rw [hRc]; omega, by rw [hRs]; omega⟩) (fun g5 H locs hw B => ?_)
  obtain ⟨lm5, mn5, sn5, hR0, rfl⟩ := hw
  have B := B.of_eq (mw_put3 (X := [(y, .inr (7, [.int (iI th), .ref m1, .ref m2, .ref m3, .int (iI pn), .ref m5, .ref m6, .ref m7, .ref m8, .ref m9, .ref m10, .ref m11, .ref m12, .ref m13, .int (iI rw_), .ref m15, .long (lI fu), .long (lI fb)])), (m1, .inl (cs 0, 11520, .inl (ai lm))), (m2, .inl (cs 0, 180, .inl (ai mn))), (m3, .inl (cs 0, 180, .inl (ai sn)))]) hF.1 (k1 := 1) (k2 := 2) (k3 := 3) rfl rfl rfl)
  have B : Wb D vwCl (TY cs) L (mw f [(y, .inr (7, [.int (iI th), .ref m1, .ref m2, .ref m3, .int (iI pn), .ref m5, .ref m6, .ref m7, .ref m8, .ref m9, .ref m10, .ref m11, .ref m12, .ref m13, .int (iI rw_), .ref m15, .long (lI fu), .long (lI fb)])), (m1, .inl (cs 0, 11520, .inl (ai lm5))), (m2, .inl (cs 0, 180, .inl (ai mn5))), (m3, .inl (cs 0, 180, .inl (ai sn5)))]) (AL L s.heap.size) s H _ := B
  refine x_iconst hx hb d_Mo_lessen_8 ?_
  refine lv_istore_n (lv' := [(2, .int (iI 0)), (0, .ref y), (1, .int (iI ((p0 : Int))))]) hx hb d_Mo_lessen_9 rfl hl (by decide) rfl (fun ls hl => ?_)
  have L1 : ∀ (fuel : Nat) (k : Nat) (lm2 : Nat → Int) (mn2 : Nat → Int) (sn2 : Nat → Int) (Z2 : Nat → Int), 6 - k < fuel → (k ≤ 6) → (RS lm2 mn2 sn2 Z2) → (Z2 172 = ((cg Z p0 k : Nat) : Int)) → (∀ v, v ≠ 172 → v ≠ 173 → v ≠ 174 → v ≠ 175 → v ≠ 176 → v ≠ 177 → Z2 v = Z v) → ∀ (H : Heap) (locs : List Loc) (ls : Array Slot), Wb D vwCl (TY cs) L (mw f [(y, .inr (7, [.int (iI th), .ref m1, .ref m2, .ref m3, .int (iI pn), .ref m5, .ref m6, .ref m7, .ref m8, .ref m9, .ref m10, .ref m11, .ref m12, .ref m13, .int (iI rw_), .ref m15, .long (lI fu), .long (lI fb)])), (m1, .inl (cs 0, 11520, .inl (ai lm2))), (m2, .inl (cs 0, 180, .inl (ai mn2))), (m3, .inl (cs 0, 180, .inl (ai sn2)))]) (AL L s.heap.size) s H locs → lv_has ls 4 [(2, .int (iI ((k : Int)))), (0, .ref y), (1, .int (iI ((p0 : Int))))] → W p l e R s m av below meth c H locs (0) (0) Q (F0 m 10 ls []) := by
    intro fuel
    induction fuel with
    | zero => intro k lm2 mn2 sn2 Z2 hfu; exact absurd hfu (Nat.not_lt_zero _)
    | succ fuel ih_L1 =>
      intro k lm2 mn2 sn2 Z2 hfu_L1 hk hR hc ho H locs ls B hl
      refine lv_iload_n hx hb d_Mo_lessen_10 rfl (lv_at hl 0 rfl) ?_
      refine x_bipush hx hb d_Mo_lessen_11 (by decide) ?_
      refine x_icmp_ge (tgt := 86) hx hb d_Mo_lessen_13 (by decide) (by omega) (by omega) (fun h13 => ?_) (fun h13 => ?_)
      · refine x_iconst hx hb d_Mo_lessen_86 ?_
        refine lv_istore_n (lv' := [(2, .int (iI 0)), (0, .ref y), (1, .int (iI ((p0 : Int))))]) hx hb d_Mo_lessen_87 rfl hl (by decide) rfl (fun ls hl => ?_)
        have L2 : ∀ (fuel : Nat) (k : Nat) (lm5 : Nat → Int) (mn5 : Nat → Int) (sn5 : Nat → Int) (Z5 : Nat → Int), 6 - k < fuel → (k ≤ 6) → (RS lm5 mn5 sn5 Z5) → (Z5 172 = ((cg Z p0 6 : Nat) : Int)) → ((∀ j, j < k → Z (p0 + j) = ((cg Z p0 6 : Nat) : Int) * Z5 (p0 + j)) ∧ ∀ j, k ≤ j → j < 6 → Z5 (p0 + j) = Z (p0 + j)) → (cg Z p0 6 = 0 → k = 0) → (∀ v, (v < p0 ∨ p0 + 5 < v) → v ≠ 172 → v ≠ 173 → v ≠ 174 → v ≠ 175 → v ≠ 176 → v ≠ 177 → Z5 v = Z v) → ∀ (H : Heap) (locs : List Loc) (ls : Array Slot), Wb D vwCl (TY cs) L (mw f [(y, .inr (7, [.int (iI th), .ref m1, .ref m2, .ref m3, .int (iI pn), .ref m5, .ref m6, .ref m7, .ref m8, .ref m9, .ref m10, .ref m11, .ref m12, .ref m13, .int (iI rw_), .ref m15, .long (lI fu), .long (lI fb)])), (m1, .inl (cs 0, 11520, .inl (ai lm5))), (m2, .inl (cs 0, 180, .inl (ai mn5))), (m3, .inl (cs 0, 180, .inl (ai sn5)))]) (AL L s.heap.size) s H locs → lv_has ls 4 [(2, .int (iI ((k : Int)))), (0, .ref y), (1, .int (iI ((p0 : Int))))] → W p l e R s m av below meth c H locs (0) (0) Q (F0 m 88 ls []) := by
          intro fuel
          induction fuel with
          | zero => intro k lm5 mn5 sn5 Z5 hfu; exact absurd hfu (Nat.not_lt_zero _)
          | succ fuel ih_L2 =>
            intro k lm5 mn5 sn5 Z5 hfu_L2 hk5 hR5 hc5 hp5 hck ho5 H locs ls B hl
            have hs52 := (hR5 172 (by decide)).side
            rw [hc5] at hs52
            refine lv_iload_n hx hb d_Mo_lessen_88 rfl (lv_at hl 0 rfl) ?_
            refine x_bipush hx hb d_Mo_lessen_89 (by decide) ?_
            refine x_icmp_ge (tgt := 156) hx hb d_Mo_lessen_91 (by decide) (by omega) (by omega) (fun h91 => ?_) (fun h91 => ?_)
            · subst hQ hav
              exact x_vret hx hb hr hlocks B d_Mo_lessen_156 (by
      have q1 : ∀ j, j < 6 → Z (p0 + j) = ((cg Z p0 6 : Nat) : Int) * Z5 (p0 + j) := fun j hj => by
        by_cases h0 : cg Z p0 6 = 0
        · rw [cg_zero h0 j hj, h0]; simp
        · exact hp5.1 j (by omega)
      have q2 : cg Z p0 6 = 0 → ∀ j, j < 6 → Z5 (p0 + j) = 0 := fun h0 j hj => by
        have h9 := hck h0
        rw [hp5.2 j (by omega) hj]; exact cg_zero h0 j hj
      exact ⟨_, _, _, Z5, hR5, q1, q2, ho5, mw_drop (f := f) (X := [(m1, .inl (cs 0, 11520, .inl (ai lm5))), (m2, .inl (cs 0, 180, .inl (ai mn5))), (m3, .inl (cs 0, 180, .inl (ai sn5)))]) ha (List.nodup_cons.mp hF.1).1⟩)
            · refine lv_aload_n hx hb d_Mo_lessen_94 rfl (lv_at hl 1 rfl) ?_
              refine x_get (C := RX7) (T := TX7) (N := 18) hx hb hts inX7 hown B hF 0 rfl rfl 3 (by decide) (hts _ w_680) (fun _ h9 => h9) rfl d_Mo_lessen_95 ?_
              refine x_sipush hx hb d_Mo_lessen_98 (by decide) ?_
              refine x_iald hx hb B hF 3 0 rfl rfl 172 (by omega) (by omega) (by decide) d_Mo_lessen_101 ?_
              refine x_if_eq (tgt := 156) hx hb d_Mo_lessen_102 (by decide) (by omega) (fun h102 => ?_) (fun h102 => ?_)
              · subst hQ hav
                exact x_vret hx hb hr hlocks B d_Mo_lessen_156 (by
      have q1 : ∀ j, j < 6 → Z (p0 + j) = ((cg Z p0 6 : Nat) : Int) * Z5 (p0 + j) := fun j hj => by
        by_cases h0 : cg Z p0 6 = 0
        · rw [cg_zero h0 j hj, h0]; simp
        · exact hp5.1 j (by omega)
      have q2 : cg Z p0 6 = 0 → ∀ j, j < 6 → Z5 (p0 + j) = 0 := fun h0 j hj => by
        have h9 := hck h0
        rw [hp5.2 j (by omega) hj]; exact cg_zero h0 j hj
      exact ⟨_, _, _, Z5, hR5, q1, q2, ho5, mw_drop (f := f) (X := [(m1, .inl (cs 0, 11520, .inl (ai lm5))), (m2, .inl (cs 0, 180, .inl (ai mn5))), (m3, .inl (cs 0, 180, .inl (ai sn5)))]) ha (List.nodup_cons.mp hF.1).1⟩)
              · have hZ5k : Z5 (p0 + k) = Z (p0 + k) := hp5.2 k (Nat.le_refl _) (by omega)
                have hs5k := (hR5 (p0 + k) (by omega)).side
                rw [hZ5k] at hs5k
                refine lv_aload_n hx hb d_Mo_lessen_105 rfl (lv_at hl 1 rfl) ?_
                refine x_get (C := RX7) (T := TX7) (N := 18) hx hb hts inX7 hown B hF 0 rfl rfl 3 (by decide) (hts _ w_680) (fun _ h9 => h9) rfl d_Mo_lessen_106 ?_
                refine lv_iload_n hx hb d_Mo_lessen_109 rfl (lv_at hl 2 rfl) ?_
                refine lv_iload_n hx hb d_Mo_lessen_110 rfl (lv_at hl 0 rfl) ?_
                refine x_iadd hx hb d_Mo_lessen_111 ?_
                refine x_iald hx hb B hF 3 0 rfl rfl (p0 + k) (by omega) (by omega) (by decide) d_Mo_lessen_112 ?_
                refine lv_istore_n (lv' := [(3, .int (iI (sn5 (p0 + k)))), (2, .int (iI ((k : Int)))), (0, .ref y), (1, .int (iI ((p0 : Int))))]) hx hb d_Mo_lessen_113 rfl hl (by decide) rfl (fun ls hl => ?_)
                refine lv_aload_n hx hb d_Mo_lessen_114 rfl (lv_at hl 2 rfl) ?_
                refine x_sipush hx hb d_Mo_lessen_115 (by decide) ?_
                refine lv_iload_n hx hb d_Mo_lessen_118 rfl (lv_at hl 3 rfl) ?_
                refine lv_iload_n hx hb d_Mo_lessen_119 rfl (lv_at hl 1 rfl) ?_
                refine x_iadd hx hb d_Mo_lessen_120 ?_
                refine x_callv B hA (va_runV (As := [.int (iI 173), .int (iI (((p0 : Int)) + ((k : Int))))]) (rest := []) ⟨hx, hb, hml, hown, hts⟩ (c_Mo_copy l D cs _ _ _ y m1 m2 m3 m5 m6 m7 m8 m9 m10 m11 m12 m13 m15 th pn rw_ fu fb lm5 mn5 sn5 Z5 173 (p0 + k) hF (mw_get (X := [(y, .inr (7, [.int (iI th), .ref m1, .ref m2, .ref m3, .int (iI pn), .ref m5, .ref m6, .ref m7, .ref m8, .ref m9, .ref m10, .ref m11, .ref m12, .ref m13, .int (iI rw_), .ref m15, .long (lI fu), .long (lI fb)])), (m1, .inl (cs 0, 11520, .inl (ai lm5))), (m2, .inl (cs 0, 180, .inl (ai mn5))), (m3, .inl (cs 0, 180, .inl (ai sn5)))]) hF.1 (k := 0) rfl) (mw_get (X := [(y, .inr (7, [.int (iI th), .ref m1, .ref m2, .ref m3, .int (iI pn), .ref m5, .ref m6, .ref m7, .ref m8, .ref m9, .ref m10, .ref m11, .ref m12, .ref m13, .int (iI rw_), .ref m15, .long (lI fu), .long (lI fb)])), (m1, .inl (cs 0, 11520, .inl (ai lm5))), (m2, .inl (cs 0, 180, .inl (ai mn5))), (m3, .inl (cs 0, 180, .inl (ai sn5)))]) hF.1 (k := 1) rfl) (mw_get (X := [(y, .inr (7, [.int (iI th), .ref m1, .ref m2, .ref m3, .int (iI pn), .ref m5, .ref m6, .ref m7, .ref m8, .ref m9, .ref m10, .ref m11, .ref m12, .ref m13, .int (iI rw_), .ref m15, .long (lI fu), .long (lI fb)])), (m1, .inl (cs 0, 11520, .inl (ai lm5))), (m2, .inl (cs 0, 180, .inl (ai mn5))), (m3, .inl (cs 0, 180, .inl (ai sn5)))]) hF.1 (k := 2) rfl) (mw_get (X := [(y, .inr (7, [.int (iI th), .ref m1, .ref m2, .ref m3, .int (iI pn), .ref m5, .ref m6, .ref m7, .ref m8, .ref m9, .ref m10, .ref m11, .ref m12, .ref m13, .int (iI rw_), .ref m15, .long (lI fu), .long (lI fb)])), (m1, .inl (cs 0, 11520, .inl (ai lm5))), (m2, .inl (cs 0, 180, .inl (ai mn5))), (m3, .inl (cs 0, 180, .inl (ai sn5)))]) hF.1 (k := 3) rfl) hR5 (by decide) (by omega)) (cwV 2 hts (gw_V w_804 w_806 s_38 w_8 w_807) rfl rfl rfl (by decide +kernel) ⟨by rw [hRf]; exact Nat.le_of_ble_eq_true rfl, by rw [hRl]; exact Nat.le_of_ble_eq_true rfl⟩) ⟨K0.blind, B.recv (hF.2 _ (mw_key (k := 0) (X := [(y, .inr (7, [.int (iI th), .ref m1, .ref m2, .ref m3, .int (iI pn), .ref m5, .ref m6, .ref m7, .ref m8, .ref m9, .ref m10, .ref m11, .ref m12, .ref m13, .int (iI rw_), .ref m15, .long (lI fu), .long (lI fb)])), (m1, .inl (cs 0, 11520, .inl (ai lm5))), (m2, .inl (cs 0, 180, .inl (ai mn5))), (m3, .inl (cs 0, 180, .inl (ai sn5)))]) rfl)) (mw_get (X := [(y, .inr (7, [.int (iI th), .ref m1, .ref m2, .ref m3, .int (iI pn), .ref m5, .ref m6, .ref m7, .ref m8, .ref m9, .ref m10, .ref m11, .ref m12, .ref m13, .int (iI rw_), .ref m15, .long (lI fu), .long (lI fb)])), (m1, .inl (cs 0, 11520, .inl (ai lm5))), (m2, .inl (cs 0, 180, .inl (ai mn5))), (m3, .inl (cs 0, 180, .inl (ai sn5)))]) hF.1 (k := 0) rfl) rfl, B.pre _⟩ rfl rfl hl.1 rfl (lv_room (Nat.le_of_ble_eq_true rfl)) d_Mo_lessen_121 ⟨by rw [hRc]; omega, by rw [hRs]; omega⟩) (fun g121 H locs hw B => ?_)
                obtain ⟨lm121, mn121, sn121, hRd, rfl⟩ := hw
                have B := B.of_eq (mw_put3 (X := [(y, .inr (7, [.int (iI th), .ref m1, .ref m2, .ref m3, .int (iI pn), .ref m5, .ref m6, .ref m7, .ref m8, .ref m9, .ref m10, .ref m11, .ref m12, .ref m13, .int (iI rw_), .ref m15, .long (lI fu), .long (lI fb)])), (m1, .inl (cs 0, 11520, .inl (ai lm5))), (m2, .inl (cs 0, 180, .inl (ai mn5))), (m3, .inl (cs 0, 180, .inl (ai sn5)))]) hF.1 (k1 := 1) (k2 := 2) (k3 := 3) rfl rfl rfl)
                have B : Wb D vwCl (TY cs) L (mw f [(y, .inr (7, [.int (iI th), .ref m1, .ref m2, .ref m3, .int (iI pn), .ref m5, .ref m6, .ref m7, .ref m8, .ref m9, .ref m10, .ref m11, .ref m12, .ref m13, .int (iI rw_), .ref m15, .long (lI fu), .long (lI fb)])), (m1, .inl (cs 0, 11520, .inl (ai lm121))), (m2, .inl (cs 0, 180, .inl (ai mn121))), (m3, .inl (cs 0, 180, .inl (ai sn121)))]) (AL L s.heap.size) s H _ := B
                refine lv_iload_n hx hb d_Mo_lessen_124 rfl (lv_at hl 0 rfl) ?_
                refine x_if_eq (tgt := 150) hx hb d_Mo_lessen_125 (by decide) (by omega) (fun h125 => ?_) (fun h125 => ?_)
                · refine x_iinc (lv' := [(2, .int (iI (((k : Int)) + 1))), (3, .int (iI (sn5 (p0 + k)))), (0, .ref y), (1, .int (iI ((p0 : Int))))]) hx hb d_Mo_lessen_150 hl (q := 1) rfl rfl (by decide) rfl (fun ls hl => ?_)
                  refine lv_goto (tgt := 88) hx hb d_Mo_lessen_153 (by decide) ?_
                  exact ih_L2 (k + 1) lm121 mn121 sn121 (up Z5 173 (Z5 (p0 + k))) (by omega) (by omega) hRd (by rw [up_ne _ _ (by decide)]; exact hc5) (⟨fun j hj => by
            rw [up_ne _ _ (by omega)]
            by_cases hjk : j = k
            · rw [hjk, hZ5k, show Z (p0 + k) = 0 by omega]; simp
            · exact hp5.1 j (by omega), fun j h1 h2 => by rw [up_ne _ _ (by omega)]; exact hp5.2 j (by omega) h2⟩) (fun h9 => by omega) (fun v h0 h1 h2 h3 h4 h5 h6 => by rw [up_ne _ _ h2]; exact ho5 v h0 h1 h2 h3 h4 h5 h6) _ _ _ B (lv_sub hl [0, 2, 3] rfl)
                · refine lv_aload_n hx hb d_Mo_lessen_128 rfl (lv_at hl 2 rfl) ?_
                  refine lv_iload_n hx hb d_Mo_lessen_129 rfl (lv_at hl 3 rfl) ?_
                  refine lv_iload_n hx hb d_Mo_lessen_130 rfl (lv_at hl 1 rfl) ?_
                  refine x_iadd hx hb d_Mo_lessen_131 ?_
                  refine x_sipush hx hb d_Mo_lessen_132 (by decide) ?_
                  refine x_sipush hx hb d_Mo_lessen_135 (by decide) ?_
                  refine x_callv B hA (va_runV (As := [.int (iI (((p0 : Int)) + ((k : Int)))), .int (iI 173), .int (iI 172)]) (rest := []) ⟨hx, hb, hml, hown, hts⟩ (c_Mo_divide l D cs _ _ _ y m1 m2 m3 m5 m6 m7 m8 m9 m10 m11 m12 m13 m15 th pn rw_ fu fb lm121 mn121 sn121 (up Z5 173 (Z5 (p0 + k))) (p0 + k) 173 172 hF (mw_get (X := [(y, .inr (7, [.int (iI th), .ref m1, .ref m2, .ref m3, .int (iI pn), .ref m5, .ref m6, .ref m7, .ref m8, .ref m9, .ref m10, .ref m11, .ref m12, .ref m13, .int (iI rw_), .ref m15, .long (lI fu), .long (lI fb)])), (m1, .inl (cs 0, 11520, .inl (ai lm121))), (m2, .inl (cs 0, 180, .inl (ai mn121))), (m3, .inl (cs 0, 180, .inl (ai sn121)))]) hF.1 (k := 0) rfl) (mw_get (X := [(y, .inr (7, [.int (iI th), .ref m1, .ref m2, .ref m3, .int (iI pn), .ref m5, .ref m6, .ref m7, .ref m8, .ref m9, .ref m10, .ref m11, .ref m12, .ref m13, .int (iI rw_), .ref m15, .long (lI fu), .long (lI fb)])), (m1, .inl (cs 0, 11520, .inl (ai lm121))), (m2, .inl (cs 0, 180, .inl (ai mn121))), (m3, .inl (cs 0, 180, .inl (ai sn121)))]) hF.1 (k := 1) rfl) (mw_get (X := [(y, .inr (7, [.int (iI th), .ref m1, .ref m2, .ref m3, .int (iI pn), .ref m5, .ref m6, .ref m7, .ref m8, .ref m9, .ref m10, .ref m11, .ref m12, .ref m13, .int (iI rw_), .ref m15, .long (lI fu), .long (lI fb)])), (m1, .inl (cs 0, 11520, .inl (ai lm121))), (m2, .inl (cs 0, 180, .inl (ai mn121))), (m3, .inl (cs 0, 180, .inl (ai sn121)))]) hF.1 (k := 2) rfl) (mw_get (X := [(y, .inr (7, [.int (iI th), .ref m1, .ref m2, .ref m3, .int (iI pn), .ref m5, .ref m6, .ref m7, .ref m8, .ref m9, .ref m10, .ref m11, .ref m12, .ref m13, .int (iI rw_), .ref m15, .long (lI fu), .long (lI fb)])), (m1, .inl (cs 0, 11520, .inl (ai lm121))), (m2, .inl (cs 0, 180, .inl (ai mn121))), (m3, .inl (cs 0, 180, .inl (ai sn121)))]) hF.1 (k := 3) rfl) hRd (by omega) (by decide) (by decide) (by omega) (by omega) (by decide) (by omega) (by decide) (by decide) (by rw [up_ne _ _ (by decide), hc5]; omega) (by rw [up_self, hZ5k]; exact hzr k (by omega))) (cwV 3 hts (gw_V w_840 w_842 s_46 w_8 w_843) rfl rfl rfl (by decide +kernel) ⟨by rw [hRf]; exact Nat.le_of_ble_eq_true rfl, by rw [hRl]; exact Nat.le_of_ble_eq_true rfl⟩) ⟨K0.blind, B.recv (hF.2 _ (mw_key (k := 0) (X := [(y, .inr (7, [.int (iI th), .ref m1, .ref m2, .ref m3, .int (iI pn), .ref m5, .ref m6, .ref m7, .ref m8, .ref m9, .ref m10, .ref m11, .ref m12, .ref m13, .int (iI rw_), .ref m15, .long (lI fu), .long (lI fb)])), (m1, .inl (cs 0, 11520, .inl (ai lm121))), (m2, .inl (cs 0, 180, .inl (ai mn121))), (m3, .inl (cs 0, 180, .inl (ai sn121)))]) rfl)) (mw_get (X := [(y, .inr (7, [.int (iI th), .ref m1, .ref m2, .ref m3, .int (iI pn), .ref m5, .ref m6, .ref m7, .ref m8, .ref m9, .ref m10, .ref m11, .ref m12, .ref m13, .int (iI rw_), .ref m15, .long (lI fu), .long (lI fb)])), (m1, .inl (cs 0, 11520, .inl (ai lm121))), (m2, .inl (cs 0, 180, .inl (ai mn121))), (m3, .inl (cs 0, 180, .inl (ai sn121)))]) hF.1 (k := 0) rfl) rfl, B.pre _⟩ rfl rfl hl.1 rfl (lv_room (Nat.le_of_ble_eq_true rfl)) d_Mo_lessen_138 ⟨by rw [hRc]; omega, by rw [hRs]; omega⟩) (fun g138 H locs hw B => ?_)
                  obtain ⟨lm138, mn138, sn138, Z6, hR6, h6t, h6x, h6o, rfl⟩ := hw
                  have B := B.of_eq (mw_put3 (X := [(y, .inr (7, [.int (iI th), .ref m1, .ref m2, .ref m3, .int (iI pn), .ref m5, .ref m6, .ref m7, .ref m8, .ref m9, .ref m10, .ref m11, .ref m12, .ref m13, .int (iI rw_), .ref m15, .long (lI fu), .long (lI fb)])), (m1, .inl (cs 0, 11520, .inl (ai lm121))), (m2, .inl (cs 0, 180, .inl (ai mn121))), (m3, .inl (cs 0, 180, .inl (ai sn121)))]) hF.1 (k1 := 1) (k2 := 2) (k3 := 3) rfl rfl rfl)
                  have B : Wb D vwCl (TY cs) L (mw f [(y, .inr (7, [.int (iI th), .ref m1, .ref m2, .ref m3, .int (iI pn), .ref m5, .ref m6, .ref m7, .ref m8, .ref m9, .ref m10, .ref m11, .ref m12, .ref m13, .int (iI rw_), .ref m15, .long (lI fu), .long (lI fb)])), (m1, .inl (cs 0, 11520, .inl (ai lm138))), (m2, .inl (cs 0, 180, .inl (ai mn138))), (m3, .inl (cs 0, 180, .inl (ai sn138)))]) (AL L s.heap.size) s H _ := B
                  rw [up_self, up_ne _ _ (by decide), hc5, hZ5k, Int.natAbs_natCast] at h6t
                  have hex := exact_quot (s := sn5 (p0 + k)) (cg_dvd Z p0 6 k (by omega)) (by omega) (by omega)
                  refine lv_aload_n hx hb d_Mo_lessen_141 rfl (lv_at hl 2 rfl) ?_
                  refine x_get (C := RX7) (T := TX7) (N := 18) hx hb hts inX7 hown B hF 0 rfl rfl 3 (by decide) (hts _ w_680) (fun _ h9 => h9) rfl d_Mo_lessen_142 ?_
                  refine lv_iload_n hx hb d_Mo_lessen_145 rfl (lv_at hl 3 rfl) ?_
                  refine lv_iload_n hx hb d_Mo_lessen_146 rfl (lv_at hl 1 rfl) ?_
                  refine x_iadd hx hb d_Mo_lessen_147 ?_
                  refine lv_iload_n hx hb d_Mo_lessen_148 rfl (lv_at hl 0 rfl) ?_
                  refine x_iast hx hb B hF 3 0 rfl rfl (p0 + k) (by omega) (by omega) (by decide) d_Mo_lessen_149 (fun H locs B => ?_)
                  have B : Wb D vwCl (TY cs) L (mw f [(y, .inr (7, [.int (iI th), .ref m1, .ref m2, .ref m3, .int (iI pn), .ref m5, .ref m6, .ref m7, .ref m8, .ref m9, .ref m10, .ref m11, .ref m12, .ref m13, .int (iI rw_), .ref m15, .long (lI fu), .long (lI fb)])), (m1, .inl (cs 0, 11520, .inl (ai lm138))), (m2, .inl (cs 0, 180, .inl (ai mn138))), (m3, .inl (cs 0, 180, .inl (ai (up sn138 (p0 + k) (sn5 (p0 + k))))))]) (AL L s.heap.size) s H _ := B
                  have hRg : RS lm138 mn138 (up sn138 (p0 + k) (sn5 (p0 + k))) (up Z6 (p0 + k) (sn5 (p0 + k) * Z6 (p0 + k))) := RS.set (hR6.off _) ((Off.refl (p0 + k) lm138 mn138 sn138).sign _) (by
                      rw [up_self]
                      exact (hR6 (p0 + k) (by omega)).sgn (by rw [h6t]; exact hex.2) (by omega))
                  refine x_iinc (lv' := [(2, .int (iI (((k : Int)) + 1))), (3, .int (iI (sn5 (p0 + k)))), (0, .ref y), (1, .int (iI ((p0 : Int))))]) hx hb d_Mo_lessen_150 hl (q := 1) rfl rfl (by decide) rfl (fun ls hl => ?_)
                  refine lv_goto (tgt := 88) hx hb d_Mo_lessen_153 (by decide) ?_
                  exact ih_L2 (k + 1) lm138 mn138 (up sn138 (p0 + k) (sn5 (p0 + k))) (up Z6 (p0 + k) (sn5 (p0 + k) * Z6 (p0 + k))) (by omega) (by omega) hRg (by rw [up_ne _ _ (by omega), h6o 172 (by omega) (by decide) (by decide) (by decide), up_ne _ _ (by decide)]; exact hc5) (⟨fun j hj => by
            by_cases hjk : j = k
            · rw [hjk, up_self, h6t]; exact hex.1
            · rw [up_ne _ _ (by omega), h6o _ (by omega) (by omega) (by omega) (by omega), up_ne _ _ (by omega)]; exact hp5.1 j (by omega), fun j h1 h2 => by rw [up_ne _ _ (by omega), h6o _ (by omega) (by omega) (by omega) (by omega), up_ne _ _ (by omega)]; exact hp5.2 j (by omega) h2⟩) (fun h9 => by omega) (fun v h0 h1 h2 h3 h4 h5 h6 => by rw [up_ne _ _ (by omega), h6o v (by omega) h2 h5 h6, up_ne _ _ h2]; exact ho5 v h0 h1 h2 h3 h4 h5 h6) _ _ _ B (lv_sub hl [0, 2, 3] rfl)
        exact L2 _ 0 lm2 mn2 sn2 Z2 (Nat.lt_succ_self _) (by omega) hR (by rw [hc]; congr 2; omega) (⟨fun j hj => by omega, fun j _ hj => ho _ (by omega) (by omega) (by omega) (by omega) (by omega) (by omega)⟩) (fun _ => rfl) (fun v _ h1 h2 h3 h4 h5 h6 => ho v h1 h2 h3 h4 h5 h6) _ _ _ B (lv_sub hl [0, 1, 2] rfl)
      · refine lv_aload_n hx hb d_Mo_lessen_16 rfl (lv_at hl 1 rfl) ?_
        refine x_sipush hx hb d_Mo_lessen_17 (by decide) ?_
        refine lv_iload_n hx hb d_Mo_lessen_20 rfl (lv_at hl 2 rfl) ?_
        refine lv_iload_n hx hb d_Mo_lessen_21 rfl (lv_at hl 0 rfl) ?_
        refine x_iadd hx hb d_Mo_lessen_22 ?_
        refine x_callv B hA (va_runV (As := [.int (iI 173), .int (iI (((p0 : Int)) + ((k : Int))))]) (rest := []) ⟨hx, hb, hml, hown, hts⟩ (c_Mo_copy l D cs _ _ _ y m1 m2 m3 m5 m6 m7 m8 m9 m10 m11 m12 m13 m15 th pn rw_ fu fb lm2 mn2 sn2 Z2 173 (p0 + k) hF (mw_get (X := [(y, .inr (7, [.int (iI th), .ref m1, .ref m2, .ref m3, .int (iI pn), .ref m5, .ref m6, .ref m7, .ref m8, .ref m9, .ref m10, .ref m11, .ref m12, .ref m13, .int (iI rw_), .ref m15, .long (lI fu), .long (lI fb)])), (m1, .inl (cs 0, 11520, .inl (ai lm2))), (m2, .inl (cs 0, 180, .inl (ai mn2))), (m3, .inl (cs 0, 180, .inl (ai sn2)))]) hF.1 (k := 0) rfl) (mw_get (X := [(y, .inr (7, [.int (iI th), .ref m1, .ref m2, .ref m3, .int (iI pn), .ref m5, .ref m6, .ref m7, .ref m8, .ref m9, .ref m10, .ref m11, .ref m12, .ref m13, .int (iI rw_), .ref m15, .long (lI fu), .long (lI fb)])), (m1, .inl (cs 0, 11520, .inl (ai lm2))), (m2, .inl (cs 0, 180, .inl (ai mn2))), (m3, .inl (cs 0, 180, .inl (ai sn2)))]) hF.1 (k := 1) rfl) (mw_get (X := [(y, .inr (7, [.int (iI th), .ref m1, .ref m2, .ref m3, .int (iI pn), .ref m5, .ref m6, .ref m7, .ref m8, .ref m9, .ref m10, .ref m11, .ref m12, .ref m13, .int (iI rw_), .ref m15, .long (lI fu), .long (lI fb)])), (m1, .inl (cs 0, 11520, .inl (ai lm2))), (m2, .inl (cs 0, 180, .inl (ai mn2))), (m3, .inl (cs 0, 180, .inl (ai sn2)))]) hF.1 (k := 2) rfl) (mw_get (X := [(y, .inr (7, [.int (iI th), .ref m1, .ref m2, .ref m3, .int (iI pn), .ref m5, .ref m6, .ref m7, .ref m8, .ref m9, .ref m10, .ref m11, .ref m12, .ref m13, .int (iI rw_), .ref m15, .long (lI fu), .long (lI fb)])), (m1, .inl (cs 0, 11520, .inl (ai lm2))), (m2, .inl (cs 0, 180, .inl (ai mn2))), (m3, .inl (cs 0, 180, .inl (ai sn2)))]) hF.1 (k := 3) rfl) hR (by decide) (by omega)) (cwV 2 hts (gw_V w_804 w_806 s_38 w_8 w_807) rfl rfl rfl (by decide +kernel) ⟨by rw [hRf]; exact Nat.le_of_ble_eq_true rfl, by rw [hRl]; exact Nat.le_of_ble_eq_true rfl⟩) ⟨K0.blind, B.recv (hF.2 _ (mw_key (k := 0) (X := [(y, .inr (7, [.int (iI th), .ref m1, .ref m2, .ref m3, .int (iI pn), .ref m5, .ref m6, .ref m7, .ref m8, .ref m9, .ref m10, .ref m11, .ref m12, .ref m13, .int (iI rw_), .ref m15, .long (lI fu), .long (lI fb)])), (m1, .inl (cs 0, 11520, .inl (ai lm2))), (m2, .inl (cs 0, 180, .inl (ai mn2))), (m3, .inl (cs 0, 180, .inl (ai sn2)))]) rfl)) (mw_get (X := [(y, .inr (7, [.int (iI th), .ref m1, .ref m2, .ref m3, .int (iI pn), .ref m5, .ref m6, .ref m7, .ref m8, .ref m9, .ref m10, .ref m11, .ref m12, .ref m13, .int (iI rw_), .ref m15, .long (lI fu), .long (lI fb)])), (m1, .inl (cs 0, 11520, .inl (ai lm2))), (m2, .inl (cs 0, 180, .inl (ai mn2))), (m3, .inl (cs 0, 180, .inl (ai sn2)))]) hF.1 (k := 0) rfl) rfl, B.pre _⟩ rfl rfl hl.1 rfl (lv_room (Nat.le_of_ble_eq_true rfl)) d_Mo_lessen_23 ⟨by rw [hRc]; omega, by rw [hRs]; omega⟩) (fun g23 H locs hw B => ?_)
        obtain ⟨lm23, mn23, sn23, hRa, rfl⟩ := hw
        have B := B.of_eq (mw_put3 (X := [(y, .inr (7, [.int (iI th), .ref m1, .ref m2, .ref m3, .int (iI pn), .ref m5, .ref m6, .ref m7, .ref m8, .ref m9, .ref m10, .ref m11, .ref m12, .ref m13, .int (iI rw_), .ref m15, .long (lI fu), .long (lI fb)])), (m1, .inl (cs 0, 11520, .inl (ai lm2))), (m2, .inl (cs 0, 180, .inl (ai mn2))), (m3, .inl (cs 0, 180, .inl (ai sn2)))]) hF.1 (k1 := 1) (k2 := 2) (k3 := 3) rfl rfl rfl)
        have B : Wb D vwCl (TY cs) L (mw f [(y, .inr (7, [.int (iI th), .ref m1, .ref m2, .ref m3, .int (iI pn), .ref m5, .ref m6, .ref m7, .ref m8, .ref m9, .ref m10, .ref m11, .ref m12, .ref m13, .int (iI rw_), .ref m15, .long (lI fu), .long (lI fb)])), (m1, .inl (cs 0, 11520, .inl (ai lm23))), (m2, .inl (cs 0, 180, .inl (ai mn23))), (m3, .inl (cs 0, 180, .inl (ai sn23)))]) (AL L s.heap.size) s H _ := B
        have hZk : Z2 (p0 + k) = Z (p0 + k) := ho _ (by omega) (by omega) (by omega) (by omega) (by omega) (by omega)
        have hs3 := (hRa 173 (by decide)).side
        rw [up_self] at hs3
        have hs2 := (hRa 172 (by decide)).side
        rw [up_ne _ _ (by decide), hc] at hs2
        refine lv_aload_n hx hb d_Mo_lessen_26 rfl (lv_at hl 1 rfl) ?_
        refine x_get (C := RX7) (T := TX7) (N := 18) hx hb hts inX7 hown B hF 0 rfl rfl 3 (by decide) (hts _ w_680) (fun _ h9 => h9) rfl d_Mo_lessen_27 ?_
        refine x_sipush hx hb d_Mo_lessen_30 (by decide) ?_
        refine x_iald hx hb B hF 3 0 rfl rfl 173 (by omega) (by omega) (by decide) d_Mo_lessen_33 ?_
        refine x_if_eq (tgt := 80) hx hb d_Mo_lessen_34 (by decide) (by omega) (fun h34 => ?_) (fun h34 => ?_)
        · refine x_iinc (lv' := [(2, .int (iI (((k : Int)) + 1))), (0, .ref y), (1, .int (iI ((p0 : Int))))]) hx hb d_Mo_lessen_80 hl (q := 0) rfl rfl (by decide) rfl (fun ls hl => ?_)
          refine lv_goto (tgt := 10) hx hb d_Mo_lessen_83 (by decide) ?_
          exact ih_L1 (k + 1) lm23 mn23 sn23 (up Z2 173 (Z2 (p0 + k))) (by omega) (by omega) hRa (by rw [up_ne _ _ (by decide), hc, cg, ← hZk, show Z2 (p0 + k) = 0 by omega]; simp) (fun v h1 h2 h3 h4 h5 h6 => by rw [up_ne _ _ h2]; exact ho v h1 h2 h3 h4 h5 h6) _ _ _ B (lv_sub hl [0, 1, 2] rfl)
        · refine lv_aload_n hx hb d_Mo_lessen_37 rfl (lv_at hl 1 rfl) ?_
          refine x_get (C := RX7) (T := TX7) (N := 18) hx hb hts inX7 hown B hF 0 rfl rfl 3 (by decide) (hts _ w_680) (fun _ h9 => h9) rfl d_Mo_lessen_38 ?_
          refine x_sipush hx hb d_Mo_lessen_41 (by decide) ?_
          refine x_iald hx hb B hF 3 0 rfl rfl 172 (by omega) (by omega) (by decide) d_Mo_lessen_44 ?_
          refine x_if_ne (tgt := 70) hx hb d_Mo_lessen_45 (by decide) (by omega) (fun h45 => ?_) (fun h45 => ?_)
          · refine lv_aload_n hx hb d_Mo_lessen_70 rfl (lv_at hl 1 rfl) ?_
            refine x_sipush hx hb d_Mo_lessen_71 (by decide) ?_
            refine x_sipush hx hb d_Mo_lessen_74 (by decide) ?_
            refine x_callv B hA (va_runV (As := [.int (iI 172), .int (iI 173)]) (rest := []) ⟨hx, hb, hml, hown, hts⟩ (c_Mo_divisor l D cs _ _ _ y m1 m2 m3 m5 m6 m7 m8 m9 m10 m11 m12 m13 m15 th pn rw_ fu fb lm23 mn23 sn23 (up Z2 173 (Z2 (p0 + k))) 172 173 hF (mw_get (X := [(y, .inr (7, [.int (iI th), .ref m1, .ref m2, .ref m3, .int (iI pn), .ref m5, .ref m6, .ref m7, .ref m8, .ref m9, .ref m10, .ref m11, .ref m12, .ref m13, .int (iI rw_), .ref m15, .long (lI fu), .long (lI fb)])), (m1, .inl (cs 0, 11520, .inl (ai lm23))), (m2, .inl (cs 0, 180, .inl (ai mn23))), (m3, .inl (cs 0, 180, .inl (ai sn23)))]) hF.1 (k := 0) rfl) (mw_get (X := [(y, .inr (7, [.int (iI th), .ref m1, .ref m2, .ref m3, .int (iI pn), .ref m5, .ref m6, .ref m7, .ref m8, .ref m9, .ref m10, .ref m11, .ref m12, .ref m13, .int (iI rw_), .ref m15, .long (lI fu), .long (lI fb)])), (m1, .inl (cs 0, 11520, .inl (ai lm23))), (m2, .inl (cs 0, 180, .inl (ai mn23))), (m3, .inl (cs 0, 180, .inl (ai sn23)))]) hF.1 (k := 1) rfl) (mw_get (X := [(y, .inr (7, [.int (iI th), .ref m1, .ref m2, .ref m3, .int (iI pn), .ref m5, .ref m6, .ref m7, .ref m8, .ref m9, .ref m10, .ref m11, .ref m12, .ref m13, .int (iI rw_), .ref m15, .long (lI fu), .long (lI fb)])), (m1, .inl (cs 0, 11520, .inl (ai lm23))), (m2, .inl (cs 0, 180, .inl (ai mn23))), (m3, .inl (cs 0, 180, .inl (ai sn23)))]) hF.1 (k := 2) rfl) (mw_get (X := [(y, .inr (7, [.int (iI th), .ref m1, .ref m2, .ref m3, .int (iI pn), .ref m5, .ref m6, .ref m7, .ref m8, .ref m9, .ref m10, .ref m11, .ref m12, .ref m13, .int (iI rw_), .ref m15, .long (lI fu), .long (lI fb)])), (m1, .inl (cs 0, 11520, .inl (ai lm23))), (m2, .inl (cs 0, 180, .inl (ai mn23))), (m3, .inl (cs 0, 180, .inl (ai sn23)))]) hF.1 (k := 3) rfl) hRa (by decide) (by decide) (by decide) (by decide) (by decide) (by rw [up_ne _ _ (by decide), hc, Int.natAbs_natCast]; exact cg_lt (Mp_pos 62) k (fun j hj => hzr j (by omega))) (by rw [up_self, hZk]; exact hzr k (by omega))) (cwV 2 hts (gw_V w_836 w_838 s_45 w_8 w_839) rfl rfl rfl (by decide +kernel) ⟨by rw [hRf]; exact Nat.le_of_ble_eq_true rfl, by rw [hRl]; exact Nat.le_of_ble_eq_true rfl⟩) ⟨K0.blind, B.recv (hF.2 _ (mw_key (k := 0) (X := [(y, .inr (7, [.int (iI th), .ref m1, .ref m2, .ref m3, .int (iI pn), .ref m5, .ref m6, .ref m7, .ref m8, .ref m9, .ref m10, .ref m11, .ref m12, .ref m13, .int (iI rw_), .ref m15, .long (lI fu), .long (lI fb)])), (m1, .inl (cs 0, 11520, .inl (ai lm23))), (m2, .inl (cs 0, 180, .inl (ai mn23))), (m3, .inl (cs 0, 180, .inl (ai sn23)))]) rfl)) (mw_get (X := [(y, .inr (7, [.int (iI th), .ref m1, .ref m2, .ref m3, .int (iI pn), .ref m5, .ref m6, .ref m7, .ref m8, .ref m9, .ref m10, .ref m11, .ref m12, .ref m13, .int (iI rw_), .ref m15, .long (lI fu), .long (lI fb)])), (m1, .inl (cs 0, 11520, .inl (ai lm23))), (m2, .inl (cs 0, 180, .inl (ai mn23))), (m3, .inl (cs 0, 180, .inl (ai sn23)))]) hF.1 (k := 0) rfl) rfl, B.pre _⟩ rfl rfl hl.1 rfl (lv_room (Nat.le_of_ble_eq_true rfl)) d_Mo_lessen_77 ⟨by rw [hRc]; omega, by rw [hRs]; omega⟩) (fun g77 H locs hw B => ?_)
            obtain ⟨lm77, mn77, sn77, Z3, hR3, h3x, h3w, h3o, rfl⟩ := hw
            have B := B.of_eq (mw_put3 (X := [(y, .inr (7, [.int (iI th), .ref m1, .ref m2, .ref m3, .int (iI pn), .ref m5, .ref m6, .ref m7, .ref m8, .ref m9, .ref m10, .ref m11, .ref m12, .ref m13, .int (iI rw_), .ref m15, .long (lI fu), .long (lI fb)])), (m1, .inl (cs 0, 11520, .inl (ai lm23))), (m2, .inl (cs 0, 180, .inl (ai mn23))), (m3, .inl (cs 0, 180, .inl (ai sn23)))]) hF.1 (k1 := 1) (k2 := 2) (k3 := 3) rfl rfl rfl)
            have B : Wb D vwCl (TY cs) L (mw f [(y, .inr (7, [.int (iI th), .ref m1, .ref m2, .ref m3, .int (iI pn), .ref m5, .ref m6, .ref m7, .ref m8, .ref m9, .ref m10, .ref m11, .ref m12, .ref m13, .int (iI rw_), .ref m15, .long (lI fu), .long (lI fb)])), (m1, .inl (cs 0, 11520, .inl (ai lm77))), (m2, .inl (cs 0, 180, .inl (ai mn77))), (m3, .inl (cs 0, 180, .inl (ai sn77)))]) (AL L s.heap.size) s H _ := B
            refine x_iinc (lv' := [(2, .int (iI (((k : Int)) + 1))), (0, .ref y), (1, .int (iI ((p0 : Int))))]) hx hb d_Mo_lessen_80 hl (q := 0) rfl rfl (by decide) rfl (fun ls hl => ?_)
            refine lv_goto (tgt := 10) hx hb d_Mo_lessen_83 (by decide) ?_
            exact ih_L1 (k + 1) lm77 mn77 sn77 Z3 (by omega) (by omega) hR3 (by rw [h3x, up_ne _ _ (by decide), up_self, hc, Int.natAbs_natCast, cg, hZk]) (fun v h1 h2 h3 h4 h5 h6 => by rw [h3o v h1 h2 h3 h4 h5 h6, up_ne _ _ h2]; exact ho v h1 h2 h3 h4 h5 h6) _ _ _ B (lv_sub hl [0, 1, 2] rfl)
          · refine lv_aload_n hx hb d_Mo_lessen_48 rfl (lv_at hl 1 rfl) ?_
            refine x_sipush hx hb d_Mo_lessen_49 (by decide) ?_
            refine x_sipush hx hb d_Mo_lessen_52 (by decide) ?_
            refine x_callv B hA (va_runV (As := [.int (iI 172), .int (iI 173)]) (rest := []) ⟨hx, hb, hml, hown, hts⟩ (c_Mo_copy l D cs _ _ _ y m1 m2 m3 m5 m6 m7 m8 m9 m10 m11 m12 m13 m15 th pn rw_ fu fb lm23 mn23 sn23 (up Z2 173 (Z2 (p0 + k))) 172 173 hF (mw_get (X := [(y, .inr (7, [.int (iI th), .ref m1, .ref m2, .ref m3, .int (iI pn), .ref m5, .ref m6, .ref m7, .ref m8, .ref m9, .ref m10, .ref m11, .ref m12, .ref m13, .int (iI rw_), .ref m15, .long (lI fu), .long (lI fb)])), (m1, .inl (cs 0, 11520, .inl (ai lm23))), (m2, .inl (cs 0, 180, .inl (ai mn23))), (m3, .inl (cs 0, 180, .inl (ai sn23)))]) hF.1 (k := 0) rfl) (mw_get (X := [(y, .inr (7, [.int (iI th), .ref m1, .ref m2, .ref m3, .int (iI pn), .ref m5, .ref m6, .ref m7, .ref m8, .ref m9, .ref m10, .ref m11, .ref m12, .ref m13, .int (iI rw_), .ref m15, .long (lI fu), .long (lI fb)])), (m1, .inl (cs 0, 11520, .inl (ai lm23))), (m2, .inl (cs 0, 180, .inl (ai mn23))), (m3, .inl (cs 0, 180, .inl (ai sn23)))]) hF.1 (k := 1) rfl) (mw_get (X := [(y, .inr (7, [.int (iI th), .ref m1, .ref m2, .ref m3, .int (iI pn), .ref m5, .ref m6, .ref m7, .ref m8, .ref m9, .ref m10, .ref m11, .ref m12, .ref m13, .int (iI rw_), .ref m15, .long (lI fu), .long (lI fb)])), (m1, .inl (cs 0, 11520, .inl (ai lm23))), (m2, .inl (cs 0, 180, .inl (ai mn23))), (m3, .inl (cs 0, 180, .inl (ai sn23)))]) hF.1 (k := 2) rfl) (mw_get (X := [(y, .inr (7, [.int (iI th), .ref m1, .ref m2, .ref m3, .int (iI pn), .ref m5, .ref m6, .ref m7, .ref m8, .ref m9, .ref m10, .ref m11, .ref m12, .ref m13, .int (iI rw_), .ref m15, .long (lI fu), .long (lI fb)])), (m1, .inl (cs 0, 11520, .inl (ai lm23))), (m2, .inl (cs 0, 180, .inl (ai mn23))), (m3, .inl (cs 0, 180, .inl (ai sn23)))]) hF.1 (k := 3) rfl) hRa (by decide) (by decide)) (cwV 2 hts (gw_V w_804 w_806 s_38 w_8 w_807) rfl rfl rfl (by decide +kernel) ⟨by rw [hRf]; exact Nat.le_of_ble_eq_true rfl, by rw [hRl]; exact Nat.le_of_ble_eq_true rfl⟩) ⟨K0.blind, B.recv (hF.2 _ (mw_key (k := 0) (X := [(y, .inr (7, [.int (iI th), .ref m1, .ref m2, .ref m3, .int (iI pn), .ref m5, .ref m6, .ref m7, .ref m8, .ref m9, .ref m10, .ref m11, .ref m12, .ref m13, .int (iI rw_), .ref m15, .long (lI fu), .long (lI fb)])), (m1, .inl (cs 0, 11520, .inl (ai lm23))), (m2, .inl (cs 0, 180, .inl (ai mn23))), (m3, .inl (cs 0, 180, .inl (ai sn23)))]) rfl)) (mw_get (X := [(y, .inr (7, [.int (iI th), .ref m1, .ref m2, .ref m3, .int (iI pn), .ref m5, .ref m6, .ref m7, .ref m8, .ref m9, .ref m10, .ref m11, .ref m12, .ref m13, .int (iI rw_), .ref m15, .long (lI fu), .long (lI fb)])), (m1, .inl (cs 0, 11520, .inl (ai lm23))), (m2, .inl (cs 0, 180, .inl (ai mn23))), (m3, .inl (cs 0, 180, .inl (ai sn23)))]) hF.1 (k := 0) rfl) rfl, B.pre _⟩ rfl rfl hl.1 rfl (lv_room (Nat.le_of_ble_eq_true rfl)) d_Mo_lessen_55 ⟨by rw [hRc]; omega, by rw [hRs]; omega⟩) (fun g55 H locs hw B => ?_)
            obtain ⟨lm55, mn55, sn55, hRb, rfl⟩ := hw
            have B := B.of_eq (mw_put3 (X := [(y, .inr (7, [.int (iI th), .ref m1, .ref m2, .ref m3, .int (iI pn), .ref m5, .ref m6, .ref m7, .ref m8, .ref m9, .ref m10, .ref m11, .ref m12, .ref m13, .int (iI rw_), .ref m15, .long (lI fu), .long (lI fb)])), (m1, .inl (cs 0, 11520, .inl (ai lm23))), (m2, .inl (cs 0, 180, .inl (ai mn23))), (m3, .inl (cs 0, 180, .inl (ai sn23)))]) hF.1 (k1 := 1) (k2 := 2) (k3 := 3) rfl rfl rfl)
            have B : Wb D vwCl (TY cs) L (mw f [(y, .inr (7, [.int (iI th), .ref m1, .ref m2, .ref m3, .int (iI pn), .ref m5, .ref m6, .ref m7, .ref m8, .ref m9, .ref m10, .ref m11, .ref m12, .ref m13, .int (iI rw_), .ref m15, .long (lI fu), .long (lI fb)])), (m1, .inl (cs 0, 11520, .inl (ai lm55))), (m2, .inl (cs 0, 180, .inl (ai mn55))), (m3, .inl (cs 0, 180, .inl (ai sn55)))]) (AL L s.heap.size) s H _ := B
            rw [up_self] at hRb
            refine lv_aload_n hx hb d_Mo_lessen_58 rfl (lv_at hl 1 rfl) ?_
            refine x_get (C := RX7) (T := TX7) (N := 18) hx hb hts inX7 hown B hF 0 rfl rfl 3 (by decide) (hts _ w_680) (fun _ h9 => h9) rfl d_Mo_lessen_59 ?_
            refine x_sipush hx hb d_Mo_lessen_62 (by decide) ?_
            refine x_iconst hx hb d_Mo_lessen_65 ?_
            refine x_iast hx hb B hF 3 0 rfl rfl 172 (by omega) (by omega) (by decide) d_Mo_lessen_66 (fun H locs B => ?_)
            have B : Wb D vwCl (TY cs) L (mw f [(y, .inr (7, [.int (iI th), .ref m1, .ref m2, .ref m3, .int (iI pn), .ref m5, .ref m6, .ref m7, .ref m8, .ref m9, .ref m10, .ref m11, .ref m12, .ref m13, .int (iI rw_), .ref m15, .long (lI fu), .long (lI fb)])), (m1, .inl (cs 0, 11520, .inl (ai lm55))), (m2, .inl (cs 0, 180, .inl (ai mn55))), (m3, .inl (cs 0, 180, .inl (ai (up sn55 172 1))))]) (AL L s.heap.size) s H _ := B
            have hRk : RS lm55 mn55 (up sn55 172 1) (up (up Z2 173 (Z2 (p0 + k))) 172 ((Z2 (p0 + k)).natAbs : Int)) := by
                have h8 := RS.set (z := ((Z2 (p0 + k)).natAbs : Int)) (hRb.off 172) ((Off.refl 172 lm55 mn55 sn55).sign 1) (by
                  have h9 := (hRb 172 (by decide)).abs
                  have h7 := (hRb 172 (by decide)).side
                  rw [up_self] at h9 h7
                  rw [if_neg (by omega)] at h9
                  rw [up_self]
                  exact h9)
                rw [up_up] at h8
                exact h8
            refine lv_goto (tgt := 80) hx hb d_Mo_lessen_67 (by decide) ?_
            refine x_iinc (lv' := [(2, .int (iI (((k : Int)) + 1))), (0, .ref y), (1, .int (iI ((p0 : Int))))]) hx hb d_Mo_lessen_80 hl (q := 0) rfl rfl (by decide) rfl (fun ls hl => ?_)
            refine lv_goto (tgt := 10) hx hb d_Mo_lessen_83 (by decide) ?_
            exact ih_L1 (k + 1) lm55 mn55 (up sn55 172 1) (up (up Z2 173 (Z2 (p0 + k))) 172 ((Z2 (p0 + k)).natAbs : Int)) (by omega) (by omega) hRk (by rw [up_self, cg, ← hZk, show cg Z p0 k = 0 by omega, Nat.gcd_zero_left]) (fun v h1 h2 h3 h4 h5 h6 => by rw [up_ne _ _ h1, up_ne _ _ h2]; exact ho v h1 h2 h3 h4 h5 h6) _ _ _ B (lv_sub hl [0, 1, 2] rfl)
  exact L1 _ 0 lm5 mn5 sn5 (up Z 172 0) (Nat.lt_succ_self _) (by omega) hR0 (by rw [up_self]; rfl) (fun v h1 _ _ _ _ _ => by rw [up_ne _ _ h1]) _ _ _ B (lv_sub hl [0, 1, 2] rfl)
