/-! primitive rows -/
def PrimOf (A B : Nat → Int) : Prop := ((∀ j, j < 6 → A j = 0) ∧ ∀ j, j < 6 → B j = 0) ∨ (∃ c : Int, c ≠ 0 ∧ (∀ j, j < 6 → A j = c * B j) ∧ cg B 0 6 = 1 ∧ ∃ k, k < 6 ∧ 0 < B k ∧ ∀ j, k < j → j < 6 → B j = 0)
theorem cg_mul {A B : Nat → Int} {c : Int} {n : Nat} (h : ∀ j, j < n → A j = c * B j) : ∀ k, k ≤ n → cg A 0 k = c.natAbs * cg B 0 k := by
  intro k
  induction k with
  | zero => intro _; simp [cg]
  | succ k ih =>
    intro hk
    rw [cg, cg, ih (by omega), Nat.zero_add, h k (by omega), Int.natAbs_mul, Nat.gcd_mul_left]
theorem cg_neg {B C : Nat → Int} {n : Nat} (h : ∀ j, j < n → C j = -B j) : ∀ k, k ≤ n → cg C 0 k = cg B 0 k := by
  intro k
  induction k with
  | zero => intro _; rfl
  | succ k ih =>
    intro hk
    rw [cg, cg, ih (by omega), Nat.zero_add, h k (by omega), Int.natAbs_neg]
theorem tdiv_cg {A : Nat → Int} {j : Nat} (hj : j < 6) (_ : cg A 0 6 ≠ 0) : A j = ((cg A 0 6 : Nat) : Int) * (A j).tdiv ((cg A 0 6 : Nat) : Int) := by
  have h1 := cg_dvd A 0 6 j hj
  rw [Nat.zero_add] at h1
  have h2 : ((cg A 0 6 : Nat) : Int) ∣ A j := Int.ofNat_dvd_left.mpr h1
  exact (Int.mul_tdiv_cancel' h2).symm
/-- the row through its divisor, its lead made positive -/
theorem prim_mk {A B C : Nat → Int} {k : Nat} (hk : 0 < k) (hk6 : k ≤ 6) (hz : ∀ j, k ≤ j → j < 6 → A j = 0) (hl : A (k - 1) ≠ 0) (hB : ∀ j, j < 6 → B j = (A j).tdiv ((cg A 0 6 : Nat) : Int)) (hC : (0 ≤ B (k - 1) ∧ ∀ j, j < 6 → C j = B j) ∨ (B (k - 1) < 0 ∧ ∀ j, j < 6 → C j = -B j)) : PrimOf A C := by
  have h0 : cg A 0 6 ≠ 0 := fun h => hl (by have := cg_zero h (k - 1) (by omega); rwa [Nat.zero_add] at this)
  have hAB : ∀ j, j < 6 → A j = ((cg A 0 6 : Nat) : Int) * B j := fun j hj => by rw [hB j hj]; exact tdiv_cg hj h0
  have hB1 : cg B 0 6 = 1 := by
    have h1 := cg_mul hAB 6 (Nat.le_refl _)
    rw [Int.natAbs_natCast] at h1
    exact Nat.eq_of_mul_eq_mul_left (Nat.pos_of_ne_zero h0) (by rw [← h1, Nat.mul_one])
  have hBl : B (k - 1) ≠ 0 := fun h => hl (by rw [hAB (k - 1) (by omega), h]; simp)
  have hBz : ∀ j, k - 1 < j → j < 6 → B j = 0 := fun j h1 h2 => by
    have := hAB j h2
    rw [hz j (by omega) h2] at this
    rcases Int.mul_eq_zero.mp this.symm with h | h
    · omega
    · exact h
  right
  rcases hC with ⟨h1, h2⟩ | ⟨h1, h2⟩
  · refine ⟨((cg A 0 6 : Nat) : Int), by omega, fun j hj => by rw [h2 j hj]; exact hAB j hj, ?_, k - 1, by omega, by rw [h2 (k - 1) (by omega)]; omega, fun j h3 h4 => by rw [h2 j h4]; exact hBz j h3 h4⟩
    rw [cg_mul (c := 1) (n := 6) (fun j hj => by rw [h2 j hj, Int.one_mul]) 6 (Nat.le_refl _), hB1]; rfl
  · refine ⟨-((cg A 0 6 : Nat) : Int), by omega, fun j hj => by rw [h2 j hj, Int.neg_mul_neg]; exact hAB j hj, ?_, k - 1, by omega, by rw [h2 (k - 1) (by omega)]; omega, fun j h3 h4 => by rw [h2 j h4, hBz j h3 h4]; rfl⟩
    rw [cg_neg h2 6 (Nat.le_refl _), hB1]
theorem d_Mo_primitive_0 : decode prog_9_method_30_code 0 = .ok (.lconst 0, 1) := by decide +kernel
theorem d_Mo_primitive_1 : decode prog_9_method_30_code 1 = .ok (.lstore_n 1, 1) := by decide +kernel
theorem d_Mo_primitive_2 : decode prog_9_method_30_code 2 = .ok (.iconst 0, 1) := by decide +kernel
theorem d_Mo_primitive_3 : decode prog_9_method_30_code 3 = .ok (.istore_n 3, 1) := by decide +kernel
theorem d_Mo_primitive_4 : decode prog_9_method_30_code 4 = .ok (.iload_n 3, 1) := by decide +kernel
theorem d_Mo_primitive_5 : decode prog_9_method_30_code 5 = .ok (.bipush 6, 2) := by decide +kernel
theorem d_Mo_primitive_7 : decode prog_9_method_30_code 7 = .ok (.if_icmp .ge 60, 3) := by decide +kernel
theorem d_Mo_primitive_10 : decode prog_9_method_30_code 10 = .ok (.lload_n 1, 1) := by decide +kernel
theorem d_Mo_primitive_11 : decode prog_9_method_30_code 11 = .ok (.lstore 4, 2) := by decide +kernel
theorem d_Mo_primitive_13 : decode prog_9_method_30_code 13 = .ok (.aload_n 0, 1) := by decide +kernel
theorem d_Mo_primitive_14 : decode prog_9_method_30_code 14 = .ok (.iload_n 3, 1) := by decide +kernel
theorem d_Mo_primitive_15 : decode prog_9_method_30_code 15 = .ok (.laload, 1) := by decide +kernel
theorem d_Mo_primitive_16 : decode prog_9_method_30_code 16 = .ok (.lconst 0, 1) := by decide +kernel
theorem d_Mo_primitive_17 : decode prog_9_method_30_code 17 = .ok (.lcmp, 1) := by decide +kernel
theorem d_Mo_primitive_18 : decode prog_9_method_30_code 18 = .ok (.ifCond .ge 10, 3) := by decide +kernel
theorem d_Mo_primitive_21 : decode prog_9_method_30_code 21 = .ok (.aload_n 0, 1) := by decide +kernel
theorem d_Mo_primitive_22 : decode prog_9_method_30_code 22 = .ok (.iload_n 3, 1) := by decide +kernel
theorem d_Mo_primitive_23 : decode prog_9_method_30_code 23 = .ok (.laload, 1) := by decide +kernel
theorem d_Mo_primitive_24 : decode prog_9_method_30_code 24 = .ok (.lneg, 1) := by decide +kernel
theorem d_Mo_primitive_25 : decode prog_9_method_30_code 25 = .ok (.goto 6, 3) := by decide +kernel
theorem d_Mo_primitive_28 : decode prog_9_method_30_code 28 = .ok (.aload_n 0, 1) := by decide +kernel
theorem d_Mo_primitive_29 : decode prog_9_method_30_code 29 = .ok (.iload_n 3, 1) := by decide +kernel
theorem d_Mo_primitive_30 : decode prog_9_method_30_code 30 = .ok (.laload, 1) := by decide +kernel
theorem d_Mo_primitive_31 : decode prog_9_method_30_code 31 = .ok (.lstore 6, 2) := by decide +kernel
theorem d_Mo_primitive_33 : decode prog_9_method_30_code 33 = .ok (.lload 6, 2) := by decide +kernel
theorem d_Mo_primitive_35 : decode prog_9_method_30_code 35 = .ok (.lconst 0, 1) := by decide +kernel
theorem d_Mo_primitive_36 : decode prog_9_method_30_code 36 = .ok (.lcmp, 1) := by decide +kernel
theorem d_Mo_primitive_37 : decode prog_9_method_30_code 37 = .ok (.ifCond .eq 21, 3) := by decide +kernel
theorem d_Mo_primitive_40 : decode prog_9_method_30_code 40 = .ok (.lload 4, 2) := by decide +kernel
theorem d_Mo_primitive_42 : decode prog_9_method_30_code 42 = .ok (.lload 6, 2) := by decide +kernel
theorem d_Mo_primitive_44 : decode prog_9_method_30_code 44 = .ok (.lrem, 1) := by decide +kernel
theorem d_Mo_primitive_45 : decode prog_9_method_30_code 45 = .ok (.lstore 8, 2) := by decide +kernel
theorem d_Mo_primitive_47 : decode prog_9_method_30_code 47 = .ok (.lload 6, 2) := by decide +kernel
theorem d_Mo_primitive_49 : decode prog_9_method_30_code 49 = .ok (.lstore 4, 2) := by decide +kernel
theorem d_Mo_primitive_51 : decode prog_9_method_30_code 51 = .ok (.lload 8, 2) := by decide +kernel
theorem d_Mo_primitive_53 : decode prog_9_method_30_code 53 = .ok (.lstore 6, 2) := by decide +kernel
theorem d_Mo_primitive_55 : decode prog_9_method_30_code 55 = .ok (.goto (-22), 3) := by decide +kernel
theorem d_Mo_primitive_58 : decode prog_9_method_30_code 58 = .ok (.lload 4, 2) := by decide +kernel
theorem d_Mo_primitive_60 : decode prog_9_method_30_code 60 = .ok (.lstore_n 1, 1) := by decide +kernel
theorem d_Mo_primitive_61 : decode prog_9_method_30_code 61 = .ok (.iinc 3 1, 3) := by decide +kernel
theorem d_Mo_primitive_64 : decode prog_9_method_30_code 64 = .ok (.goto (-60), 3) := by decide +kernel
theorem d_Mo_primitive_67 : decode prog_9_method_30_code 67 = .ok (.aload_n 0, 1) := by decide +kernel
theorem d_Mo_primitive_68 : decode prog_9_method_30_code 68 = .ok (.iconst 5, 1) := by decide +kernel
theorem d_Mo_primitive_69 : decode prog_9_method_30_code 69 = .ok (.invokestatic 128, 3) := by decide +kernel
theorem d_Mo_primitive_72 : decode prog_9_method_30_code 72 = .ok (.istore_n 3, 1) := by decide +kernel
theorem d_Mo_primitive_73 : decode prog_9_method_30_code 73 = .ok (.iconst 0, 1) := by decide +kernel
theorem d_Mo_primitive_74 : decode prog_9_method_30_code 74 = .ok (.istore 4, 2) := by decide +kernel
theorem d_Mo_primitive_76 : decode prog_9_method_30_code 76 = .ok (.iload 4, 2) := by decide +kernel
theorem d_Mo_primitive_78 : decode prog_9_method_30_code 78 = .ok (.bipush 6, 2) := by decide +kernel
theorem d_Mo_primitive_80 : decode prog_9_method_30_code 80 = .ok (.if_icmp .ge 23, 3) := by decide +kernel
theorem d_Mo_primitive_83 : decode prog_9_method_30_code 83 = .ok (.iload_n 3, 1) := by decide +kernel
theorem d_Mo_primitive_84 : decode prog_9_method_30_code 84 = .ok (.ifCond .lt 19, 3) := by decide +kernel
theorem d_Mo_primitive_87 : decode prog_9_method_30_code 87 = .ok (.aload_n 0, 1) := by decide +kernel
theorem d_Mo_primitive_88 : decode prog_9_method_30_code 88 = .ok (.iload 4, 2) := by decide +kernel
theorem d_Mo_primitive_90 : decode prog_9_method_30_code 90 = .ok (.aload_n 0, 1) := by decide +kernel
theorem d_Mo_primitive_91 : decode prog_9_method_30_code 91 = .ok (.iload 4, 2) := by decide +kernel
theorem d_Mo_primitive_93 : decode prog_9_method_30_code 93 = .ok (.laload, 1) := by decide +kernel
theorem d_Mo_primitive_94 : decode prog_9_method_30_code 94 = .ok (.lload_n 1, 1) := by decide +kernel
theorem d_Mo_primitive_95 : decode prog_9_method_30_code 95 = .ok (.ldiv, 1) := by decide +kernel
theorem d_Mo_primitive_96 : decode prog_9_method_30_code 96 = .ok (.lastore, 1) := by decide +kernel
theorem d_Mo_primitive_97 : decode prog_9_method_30_code 97 = .ok (.iinc 4 1, 3) := by decide +kernel
theorem d_Mo_primitive_100 : decode prog_9_method_30_code 100 = .ok (.goto (-24), 3) := by decide +kernel
theorem d_Mo_primitive_103 : decode prog_9_method_30_code 103 = .ok (.iload_n 3, 1) := by decide +kernel
theorem d_Mo_primitive_104 : decode prog_9_method_30_code 104 = .ok (.ifCond .lt 15, 3) := by decide +kernel
theorem d_Mo_primitive_107 : decode prog_9_method_30_code 107 = .ok (.aload_n 0, 1) := by decide +kernel
theorem d_Mo_primitive_108 : decode prog_9_method_30_code 108 = .ok (.iload_n 3, 1) := by decide +kernel
theorem d_Mo_primitive_109 : decode prog_9_method_30_code 109 = .ok (.laload, 1) := by decide +kernel
theorem d_Mo_primitive_110 : decode prog_9_method_30_code 110 = .ok (.lconst 0, 1) := by decide +kernel
theorem d_Mo_primitive_111 : decode prog_9_method_30_code 111 = .ok (.lcmp, 1) := by decide +kernel
theorem d_Mo_primitive_112 : decode prog_9_method_30_code 112 = .ok (.ifCond .ge 7, 3) := by decide +kernel
theorem d_Mo_primitive_115 : decode prog_9_method_30_code 115 = .ok (.iconst 1, 1) := by decide +kernel
theorem d_Mo_primitive_116 : decode prog_9_method_30_code 116 = .ok (.goto 4, 3) := by decide +kernel
theorem d_Mo_primitive_119 : decode prog_9_method_30_code 119 = .ok (.iconst 0, 1) := by decide +kernel
theorem d_Mo_primitive_120 : decode prog_9_method_30_code 120 = .ok (.istore 4, 2) := by decide +kernel
theorem d_Mo_primitive_122 : decode prog_9_method_30_code 122 = .ok (.iconst 0, 1) := by decide +kernel
theorem d_Mo_primitive_123 : decode prog_9_method_30_code 123 = .ok (.istore 5, 2) := by decide +kernel
theorem d_Mo_primitive_125 : decode prog_9_method_30_code 125 = .ok (.iload 5, 2) := by decide +kernel
theorem d_Mo_primitive_127 : decode prog_9_method_30_code 127 = .ok (.bipush 6, 2) := by decide +kernel
theorem d_Mo_primitive_129 : decode prog_9_method_30_code 129 = .ok (.if_icmp .ge 23, 3) := by decide +kernel
theorem d_Mo_primitive_132 : decode prog_9_method_30_code 132 = .ok (.iload 4, 2) := by decide +kernel
theorem d_Mo_primitive_134 : decode prog_9_method_30_code 134 = .ok (.ifCond .eq 18, 3) := by decide +kernel
theorem d_Mo_primitive_137 : decode prog_9_method_30_code 137 = .ok (.aload_n 0, 1) := by decide +kernel
theorem d_Mo_primitive_138 : decode prog_9_method_30_code 138 = .ok (.iload 5, 2) := by decide +kernel
theorem d_Mo_primitive_140 : decode prog_9_method_30_code 140 = .ok (.aload_n 0, 1) := by decide +kernel
theorem d_Mo_primitive_141 : decode prog_9_method_30_code 141 = .ok (.iload 5, 2) := by decide +kernel
theorem d_Mo_primitive_143 : decode prog_9_method_30_code 143 = .ok (.laload, 1) := by decide +kernel
theorem d_Mo_primitive_144 : decode prog_9_method_30_code 144 = .ok (.lneg, 1) := by decide +kernel
theorem d_Mo_primitive_145 : decode prog_9_method_30_code 145 = .ok (.lastore, 1) := by decide +kernel
theorem d_Mo_primitive_146 : decode prog_9_method_30_code 146 = .ok (.iinc 5 1, 3) := by decide +kernel
theorem d_Mo_primitive_149 : decode prog_9_method_30_code 149 = .ok (.goto (-24), 3) := by decide +kernel
theorem d_Mo_primitive_152 : decode prog_9_method_30_code 152 = .ok (.return_, 1) := by decide +kernel
set_option maxHeartbeats 8000000 in
set_option maxRecDepth 100000 in
theorem c_Mo_primitive (l : Launch) (D : va_G) (cs : Nat → ClassId) (L : List Nat) (f : Nat → va_E) (sz : Nat) (ta : Nat) (aw : Nat → Int) (hF : Fc L [ta]) (hta : f ta = .inl (cs 1, 6, .inr (.inl (al aw)))) (hvr : ∀ j, j < 6 → -4611686018427387904 < aw j ∧ aw j < 4611686018427387904) : Met l (⟨"RealRootsModel", "primitive", "([J)V"⟩ : MethodName) (.code (⟨"RealRootsModel", "primitive", "([J)V"⟩ : MethodName) prog_9_method_30_code 10 (Option.none : Option Jvm.ClassFile.FieldType) :: gw) ({ frames := 1, cells := 0, slots := 0, locals := 30 }) (va_Pc [.ref ta] (K0 D vwCl (TY cs) L f sz)) (va_Qv (fun (g : Nat → va_E) => ∃ aw' : Nat → Int, PrimOf aw aw' ∧ g = mw f [(ta, .inl (cs 1, 6, .inr (.inl (al (aw')))))]) (K1 D vwCl (TY cs) (AL L sz) L) (AL L sz)) 0 0 (AL L sz) := by
  refine Met.ofW (cc := prog_9_method_30_code) (maxL := 10) (ret := (Option.none : Option Jvm.ClassFile.FieldType)) (by decide) rfl ?_
  intro p e s m args below meth c s₁ Bd hml hv
  obtain ⟨rfl, hk0⟩ := hv
  obtain ⟨hsz, B⟩ := hk0.start
  subst hsz
  have hx := Bd.exec
  have hb := Bd.bytes
  have hr := Bd.returns
  have hlocks := Bd.notSynchronized
  have hts0 := atoms_spec Bd.pre
  have hown : s.vm.findClass RX7 = some m.cls := findClass_of_methodNamed Bd.named
  have hA : ∀ q, s.heap.size ≤ q → AL L s.heap.size q := fun _ h => Or.inr h
  have hl := lv_entry ([.ref ta]) (n := 10) (Nat.le_of_ble_eq_true rfl)
  rw [lg_entry_eq]
  generalize (lg_sl ([.ref ta]) ++ List.replicate (10 - (lg_sl ([.ref ta])).length) Slot.unset).toArray = ls at hl ⊢
  refine absQ (fun Q R av hQ hR hav => ?_)
  have hts : ∀ w ∈ gw, w.before av s = true := by rw [hav]; exact fun w h => hts0 w (List.mem_cons_of_mem _ h)
  have hRf : R.frames = 1 := by rw [hR]; rfl
  have hRl : R.locals = 30 := by rw [hR]; rfl
  have hRc : R.cells = 0 := by rw [hR]; rfl
  have hRs : R.slots = 0 := by rw [hR]; rfl
  clear hR hts0 Bd
  have hl : lv_has ls 10 [(0, .ref ta)] := hl
  have hfx : ∀ q ∈ ([(ta, .inl (cs 1, 6, .inr (.inl (al aw))))] : List (Nat × va_E)), f q.1 = q.2 := fun q hq => by
    simp only [List.mem_cons, List.not_mem_nil, or_false] at hq
    rcases hq with rfl
    · exact hta
  have hmw : mw f [(ta, .inl (cs 1, 6, .inr (.inl (al aw))))] = f := mw_self (fun k a e hk => hfx (a, e) (List.mem_of_getElem? hk))
  have B := B.focus [(ta, .inl (cs 1, 6, .inr (.inl (al aw))))] hfx
  refine x_lconst (z := 0) hx hb d_Mo_primitive_0 (by decide) ?_
  refine lv_lstore_n (lv' := [(1, .long (lI 0)), (0, .ref ta)]) hx hb d_Mo_primitive_1 rfl hl (by decide) rfl (fun ls hl => ?_)
  refine x_iconst hx hb d_Mo_primitive_2 ?_
  refine lv_istore_n (lv' := [(3, .int (iI 0)), (1, .long (lI 0)), (0, .ref ta)]) hx hb d_Mo_primitive_3 rfl hl (by decide) rfl (fun ls hl => ?_)
  have L1 : ∀ (fuel : Nat) (k : Nat) (gg : Nat), 6 - k < fuel → (k ≤ 6) → (gg = cg aw 0 k) → ((gg : Int) < 4611686018427387904) → ∀ (H : Heap) (locs : List Loc) (ls : Array Slot), Wb D vwCl (TY cs) L (mw f [(ta, .inl (cs 1, 6, .inr (.inl (al aw))))]) (AL L s.heap.size) s H locs → lv_has ls 10 [(3, .int (iI ((k : Int)))), (1, .long (lI ((gg : Int)))), (0, .ref ta)] → W p l e R s m av below meth c H locs (0) (0) Q (F0 m 4 ls []) := by
    intro fuel
    induction fuel with
    | zero => intro k gg hfu; exact absurd hfu (Nat.not_lt_zero _)
    | succ fuel ih_L1 =>
      intro k gg hfu_L1 hk hg hgr H locs ls B hl
      refine lv_iload_n hx hb d_Mo_primitive_4 rfl (lv_at hl 0 rfl) ?_
      refine x_bipush hx hb d_Mo_primitive_5 (by decide) ?_
      refine x_icmp_ge (tgt := 67) hx hb d_Mo_primitive_7 (by decide) (by omega) (by omega) (fun h7 => ?_) (fun h7 => ?_)
      · refine lv_aload_n hx hb d_Mo_primitive_67 rfl (lv_at hl 2 rfl) ?_
        refine x_iconst hx hb d_Mo_primitive_68 ?_
        refine x_calli B hA (va_runS (As := [.ref ta, .int (iI 5)]) (rest := []) ⟨hx, hb, hml, hown, hts⟩ (c_Mo_degreeIn l D cs _ _ _ ta aw hF (mw_get (X := [(ta, .inl (cs 1, 6, .inr (.inl (al aw))))]) hF.1 (k := 0) rfl) (fun j hj => by have := hvr j hj; omega)) (va_cwS 2 hts (gw_S w_859 w_860 w_8 w_861) rfl rfl rfl (by decide +kernel) ⟨by rw [hRf]; exact Nat.le_of_ble_eq_true rfl, by rw [hRl]; exact Nat.le_of_ble_eq_true rfl⟩) ⟨K0.blind, B.pre _⟩ rfl rfl hl.1 rfl (lv_room (Nat.le_of_ble_eq_true rfl)) d_Mo_primitive_69 ⟨by rw [hRc]; omega, by rw [hRs]; omega⟩) (fun r69 g69 H locs hw B => ?_)
        have h6 : k = 6 := by omega
        have hg6 : gg = cg aw 0 6 := by rw [← h6]; exact hg
        obtain ⟨k0, rfl, hk06, hk0z, hk0l, rfl⟩ := hw
        have B : Wb D vwCl (TY cs) L (mw f [(ta, .inl (cs 1, 6, .inr (.inl (al aw))))]) (AL L s.heap.size) s H _ := B
        have hg0 : 0 < k0 → gg ≠ 0 := fun h1 h2 => hk0l h1 (by have h3 := cg_zero (hg6 ▸ h2) (k0 - 1) (by omega); rwa [Nat.zero_add] at h3)
        refine lv_istore_n (lv' := [(3, .int (iI ((k0 : Int) - 1))), (1, .long (lI ((gg : Int)))), (0, .ref ta)]) hx hb d_Mo_primitive_72 rfl hl (by decide) rfl (fun ls hl => ?_)
        refine x_iconst hx hb d_Mo_primitive_73 ?_
        refine lv_istore (lv' := [(4, .int (iI 0)), (3, .int (iI ((k0 : Int) - 1))), (1, .long (lI ((gg : Int)))), (0, .ref ta)]) hx hb d_Mo_primitive_74 hl (by decide) rfl (fun ls hl => ?_)
        have L3 : ∀ (fuel : Nat) (i : Nat) (x : Nat → Int), 6 - i < fuel → (i ≤ 6) → (k0 = 0 → i = 0) → (∀ j, j < i → x j = (aw j).tdiv (gg : Int)) → (∀ j, i ≤ j → x j = aw j) → ∀ (H : Heap) (locs : List Loc) (ls : Array Slot), Wb D vwCl (TY cs) L (mw f [(ta, .inl (cs 1, 6, .inr (.inl (al x))))]) (AL L s.heap.size) s H locs → lv_has ls 10 [(4, .int (iI ((i : Int)))), (3, .int (iI ((k0 : Int) - 1))), (1, .long (lI ((gg : Int)))), (0, .ref ta)] → W p l e R s m av below meth c H locs (0) (0) Q (F0 m 76 ls []) := by
          intro fuel
          induction fuel with
          | zero => intro i x hfu; exact absurd hfu (Nat.not_lt_zero _)
          | succ fuel ih_L3 =>
            intro i x hfu_L3 hi hi0 hI hJ H locs ls B hl
            refine lv_iload hx hb d_Mo_primitive_76 (lv_at hl 0 rfl) ?_
            refine x_bipush hx hb d_Mo_primitive_78 (by decide) ?_
            refine x_icmp_ge (tgt := 103) hx hb d_Mo_primitive_80 (by decide) (by omega) (by omega) (fun h80 => ?_) (fun h80 => ?_)
            · have hB : 0 < k0 → ∀ j, j < 6 → x j = (aw j).tdiv ((cg aw 0 6 : Nat) : Int) := fun h j hj => by
                  rw [← hg6]
                  exact hI j (by omega)
              have hxr9 : ∀ j, j < 6 → -4611686018427387904 < x j ∧ x j < 4611686018427387904 := fun j hj => by
                  by_cases h0 : k0 = 0
                  · rw [hJ j (by omega)]; exact hvr j hj
                  · rw [hI j (by omega)]
                    have h1 := hvr j hj
                    have h2 : ((aw j).tdiv (gg : Int)).natAbs ≤ (aw j).natAbs := by rw [Int.natAbs_tdiv]; exact Nat.div_le_self _ _
                    omega
              have J120 : ∀ (tv : Nat), ((tv = 1 ∧ 0 < k0 ∧ x (k0 - 1) < 0) ∨ (tv = 0 ∧ (k0 = 0 ∨ 0 ≤ x (k0 - 1)))) → ∀ (H : Heap) (locs : List Loc) (ls : Array Slot), Wb D vwCl (TY cs) L (mw f [(ta, .inl (cs 1, 6, .inr (.inl (al x))))]) (AL L s.heap.size) s H locs → lv_has ls 10 [(3, .int (iI ((k0 : Int) - 1))), (1, .long (lI ((gg : Int)))), (0, .ref ta)] → W p l e R s m av below meth c H locs (0) (0) Q (F0 m 120 ls [.int (iI ((tv : Int)))]) := by
                intro tv htv H locs ls B hl
                refine lv_istore (lv' := [(4, .int (iI ((tv : Int)))), (3, .int (iI ((k0 : Int) - 1))), (1, .long (lI ((gg : Int)))), (0, .ref ta)]) hx hb d_Mo_primitive_120 hl (by decide) rfl (fun ls hl => ?_)
                refine x_iconst hx hb d_Mo_primitive_122 ?_
                refine lv_istore (lv' := [(5, .int (iI 0)), (4, .int (iI ((tv : Int)))), (3, .int (iI ((k0 : Int) - 1))), (1, .long (lI ((gg : Int)))), (0, .ref ta)]) hx hb d_Mo_primitive_123 hl (by decide) rfl (fun ls hl => ?_)
                have L4 : ∀ (fuel : Nat) (n : Nat) (z : Nat → Int), 6 - n < fuel → (n ≤ 6) → (tv = 0 → n = 0) → (∀ j, j < n → z j = -(x j)) → (∀ j, n ≤ j → z j = x j) → ∀ (H : Heap) (locs : List Loc) (ls : Array Slot), Wb D vwCl (TY cs) L (mw f [(ta, .inl (cs 1, 6, .inr (.inl (al z))))]) (AL L s.heap.size) s H locs → lv_has ls 10 [(5, .int (iI ((n : Int)))), (4, .int (iI ((tv : Int)))), (0, .ref ta)] → W p l e R s m av below meth c H locs (0) (0) Q (F0 m 125 ls []) := by
                  intro fuel
                  induction fuel with
                  | zero => intro n z hfu; exact absurd hfu (Nat.not_lt_zero _)
                  | succ fuel ih_L4 =>
                    intro n z hfu_L4 hn hn0 hI4 hJ4 H locs ls B hl
                    refine lv_iload hx hb d_Mo_primitive_125 (lv_at hl 0 rfl) ?_
                    refine x_bipush hx hb d_Mo_primitive_127 (by decide) ?_
                    refine x_icmp_ge (tgt := 152) hx hb d_Mo_primitive_129 (by decide) (by omega) (by omega) (fun h129 => ?_) (fun h129 => ?_)
                    · subst hQ hav
                      exact x_vret hx hb hr hlocks B d_Mo_primitive_152 (by
      refine ⟨z, ?_, rfl⟩
      by_cases h0 : k0 = 0
      · left
        exact ⟨fun j hj => hk0z j (by omega) hj, fun j hj => by rw [hJ4 j (by omega), hJ j (by omega)]; exact hk0z j (by omega) hj⟩
      · refine prim_mk (B := x) (show 0 < k0 by omega) hk06 hk0z (hk0l (by omega)) (hB (by omega)) ?_
        rcases htv with ⟨h1, h2, h3⟩ | ⟨h1, h2⟩
        · exact Or.inr ⟨h3, fun j hj => hI4 j (by omega)⟩
        · exact Or.inl ⟨by omega, fun j hj => hJ4 j (by omega)⟩)
                    · refine lv_iload hx hb d_Mo_primitive_132 (lv_at hl 1 rfl) ?_
                      refine x_if_eq (tgt := 152) hx hb d_Mo_primitive_134 (by decide) (by omega) (fun h134 => ?_) (fun h134 => ?_)
                      · subst hQ hav
                        exact x_vret hx hb hr hlocks B d_Mo_primitive_152 (by
      refine ⟨z, ?_, rfl⟩
      by_cases h0 : k0 = 0
      · left
        exact ⟨fun j hj => hk0z j (by omega) hj, fun j hj => by rw [hJ4 j (by omega), hJ j (by omega)]; exact hk0z j (by omega) hj⟩
      · refine prim_mk (B := x) (show 0 < k0 by omega) hk06 hk0z (hk0l (by omega)) (hB (by omega)) ?_
        rcases htv with ⟨h1, h2, h3⟩ | ⟨h1, h2⟩
        · exact Or.inr ⟨h3, fun j hj => hI4 j (by omega)⟩
        · exact Or.inl ⟨by omega, fun j hj => hJ4 j (by omega)⟩)
                      · refine lv_aload_n hx hb d_Mo_primitive_137 rfl (lv_at hl 2 rfl) ?_
                        refine lv_iload hx hb d_Mo_primitive_138 (lv_at hl 0 rfl) ?_
                        refine lv_aload_n hx hb d_Mo_primitive_140 rfl (lv_at hl 2 rfl) ?_
                        refine lv_iload hx hb d_Mo_primitive_141 (lv_at hl 0 rfl) ?_
                        refine x_lald hx hb B hF 0 1 rfl rfl n (by omega) (by omega) (by decide) d_Mo_primitive_143 ?_
                        refine x_lneg hx hb d_Mo_primitive_144 ?_
                        refine x_last hx hb B hF 0 1 rfl rfl n (by omega) (by omega) (by decide) d_Mo_primitive_145 (fun H locs B => ?_)
                        have B : Wb D vwCl (TY cs) L (mw f [(ta, .inl (cs 1, 6, .inr (.inl (al (up z n (-(z n)))))))]) (AL L s.heap.size) s H _ := B
                        refine x_iinc (lv' := [(5, .int (iI (((n : Int)) + 1))), (4, .int (iI ((tv : Int)))), (0, .ref ta)]) hx hb d_Mo_primitive_146 hl (q := 0) rfl rfl (by decide) rfl (fun ls hl => ?_)
                        refine lv_goto (tgt := 125) hx hb d_Mo_primitive_149 (by decide) ?_
                        exact ih_L4 (n + 1) (up z n (-(z n))) (by omega) (by omega) (fun h => by omega) (fun j hj => by
          by_cases hji : j = n
          · rw [hji, up_self, hJ4 n (Nat.le_refl _)]
          · rw [up_ne _ _ hji]; exact hI4 j (by omega)) (fun j hj => by rw [up_ne _ _ (by omega)]; exact hJ4 j (by omega)) _ _ _ B (lv_sub hl [0, 1, 2] rfl)
                exact L4 _ 0 x (Nat.lt_succ_self _) (by omega) (fun _ => rfl) (fun j hj => by omega) (fun j _ => rfl) _ _ _ B (lv_sub hl [0, 1, 4] rfl)
              refine lv_iload_n hx hb d_Mo_primitive_103 rfl (lv_at hl 1 rfl) ?_
              refine x_if_lt (tgt := 119) hx hb d_Mo_primitive_104 (by decide) (by omega) (fun h104 => ?_) (fun h104 => ?_)
              · refine x_iconst hx hb d_Mo_primitive_119 ?_
                exact J120 0 (by omega) _ _ _ B (lv_sub hl [1, 2, 3] rfl)
              · have hx8 := hxr9 (k0 - 1) (by omega)
                refine lv_aload_n hx hb d_Mo_primitive_107 rfl (lv_at hl 3 rfl) ?_
                refine lv_iload_n hx hb d_Mo_primitive_108 rfl (lv_at hl 1 rfl) ?_
                refine x_lald hx hb B hF 0 1 rfl rfl (k0 - 1) (by omega) (by omega) (by decide) d_Mo_primitive_109 ?_
                refine x_lconst (z := 0) hx hb d_Mo_primitive_110 (by decide) ?_
                refine x_lc_ge (tgt := 119) hx hb d_Mo_primitive_111 rfl d_Mo_primitive_112 (by decide) (by omega) (by omega) (fun h112 => ?_) (fun h112 => ?_)
                · refine x_iconst hx hb d_Mo_primitive_119 ?_
                  exact J120 0 (by omega) _ _ _ B (lv_sub hl [1, 2, 3] rfl)
                · refine x_iconst hx hb d_Mo_primitive_115 ?_
                  refine lv_goto (tgt := 120) hx hb d_Mo_primitive_116 (by decide) ?_
                  exact J120 1 (by omega) _ _ _ B (lv_sub hl [1, 2, 3] rfl)
            · refine lv_iload_n hx hb d_Mo_primitive_83 rfl (lv_at hl 1 rfl) ?_
              refine x_if_lt (tgt := 103) hx hb d_Mo_primitive_84 (by decide) (by omega) (fun h84 => ?_) (fun h84 => ?_)
              · have hB : 0 < k0 → ∀ j, j < 6 → x j = (aw j).tdiv ((cg aw 0 6 : Nat) : Int) := fun h j hj => by
                    rw [← hg6]
                    exact hI j (by omega)
                have hxr9 : ∀ j, j < 6 → -4611686018427387904 < x j ∧ x j < 4611686018427387904 := fun j hj => by
                    by_cases h0 : k0 = 0
                    · rw [hJ j (by omega)]; exact hvr j hj
                    · rw [hI j (by omega)]
                      have h1 := hvr j hj
                      have h2 : ((aw j).tdiv (gg : Int)).natAbs ≤ (aw j).natAbs := by rw [Int.natAbs_tdiv]; exact Nat.div_le_self _ _
                      omega
                have J120 : ∀ (tv : Nat), ((tv = 1 ∧ 0 < k0 ∧ x (k0 - 1) < 0) ∨ (tv = 0 ∧ (k0 = 0 ∨ 0 ≤ x (k0 - 1)))) → ∀ (H : Heap) (locs : List Loc) (ls : Array Slot), Wb D vwCl (TY cs) L (mw f [(ta, .inl (cs 1, 6, .inr (.inl (al x))))]) (AL L s.heap.size) s H locs → lv_has ls 10 [(3, .int (iI ((k0 : Int) - 1))), (1, .long (lI ((gg : Int)))), (0, .ref ta)] → W p l e R s m av below meth c H locs (0) (0) Q (F0 m 120 ls [.int (iI ((tv : Int)))]) := by
                  intro tv htv H locs ls B hl
                  refine lv_istore (lv' := [(4, .int (iI ((tv : Int)))), (3, .int (iI ((k0 : Int) - 1))), (1, .long (lI ((gg : Int)))), (0, .ref ta)]) hx hb d_Mo_primitive_120 hl (by decide) rfl (fun ls hl => ?_)
                  refine x_iconst hx hb d_Mo_primitive_122 ?_
                  refine lv_istore (lv' := [(5, .int (iI 0)), (4, .int (iI ((tv : Int)))), (3, .int (iI ((k0 : Int) - 1))), (1, .long (lI ((gg : Int)))), (0, .ref ta)]) hx hb d_Mo_primitive_123 hl (by decide) rfl (fun ls hl => ?_)
                  have L4 : ∀ (fuel : Nat) (n : Nat) (z : Nat → Int), 6 - n < fuel → (n ≤ 6) → (tv = 0 → n = 0) → (∀ j, j < n → z j = -(x j)) → (∀ j, n ≤ j → z j = x j) → ∀ (H : Heap) (locs : List Loc) (ls : Array Slot), Wb D vwCl (TY cs) L (mw f [(ta, .inl (cs 1, 6, .inr (.inl (al z))))]) (AL L s.heap.size) s H locs → lv_has ls 10 [(5, .int (iI ((n : Int)))), (4, .int (iI ((tv : Int)))), (0, .ref ta)] → W p l e R s m av below meth c H locs (0) (0) Q (F0 m 125 ls []) := by
                    intro fuel
                    induction fuel with
                    | zero => intro n z hfu; exact absurd hfu (Nat.not_lt_zero _)
                    | succ fuel ih_L4 =>
                      intro n z hfu_L4 hn hn0 hI4 hJ4 H locs ls B hl
                      refine lv_iload hx hb d_Mo_primitive_125 (lv_at hl 0 rfl) ?_
                      refine x_bipush hx hb d_Mo_primitive_127 (by decide) ?_
                      refine x_icmp_ge (tgt := 152) hx hb d_Mo_primitive_129 (by decide) (by omega) (by omega) (fun h129 => ?_) (fun h129 => ?_)
                      · subst hQ hav
                        exact x_vret hx hb hr hlocks B d_Mo_primitive_152 (by
      refine ⟨z, ?_, rfl⟩
      by_cases h0 : k0 = 0
      · left
        exact ⟨fun j hj => hk0z j (by omega) hj, fun j hj => by rw [hJ4 j (by omega), hJ j (by omega)]; exact hk0z j (by omega) hj⟩
      · refine prim_mk (B := x) (show 0 < k0 by omega) hk06 hk0z (hk0l (by omega)) (hB (by omega)) ?_
        rcases htv with ⟨h1, h2, h3⟩ | ⟨h1, h2⟩
        · exact Or.inr ⟨h3, fun j hj => hI4 j (by omega)⟩
        · exact Or.inl ⟨by omega, fun j hj => hJ4 j (by omega)⟩)
                      · refine lv_iload hx hb d_Mo_primitive_132 (lv_at hl 1 rfl) ?_
                        refine x_if_eq (tgt := 152) hx hb d_Mo_primitive_134 (by decide) (by omega) (fun h134 => ?_) (fun h134 => ?_)
                        · subst hQ hav
                          exact x_vret hx hb hr hlocks B d_Mo_primitive_152 (by
      refine ⟨z, ?_, rfl⟩
      by_cases h0 : k0 = 0
      · left
        exact ⟨fun j hj => hk0z j (by omega) hj, fun j hj => by rw [hJ4 j (by omega), hJ j (by omega)]; exact hk0z j (by omega) hj⟩
      · refine prim_mk (B := x) (show 0 < k0 by omega) hk06 hk0z (hk0l (by omega)) (hB (by omega)) ?_
        rcases htv with ⟨h1, h2, h3⟩ | ⟨h1, h2⟩
        · exact Or.inr ⟨h3, fun j hj => hI4 j (by omega)⟩
        · exact Or.inl ⟨by omega, fun j hj => hJ4 j (by omega)⟩)
                        · refine lv_aload_n hx hb d_Mo_primitive_137 rfl (lv_at hl 2 rfl) ?_
                          refine lv_iload hx hb d_Mo_primitive_138 (lv_at hl 0 rfl) ?_
                          refine lv_aload_n hx hb d_Mo_primitive_140 rfl (lv_at hl 2 rfl) ?_
                          refine lv_iload hx hb d_Mo_primitive_141 (lv_at hl 0 rfl) ?_
                          refine x_lald hx hb B hF 0 1 rfl rfl n (by omega) (by omega) (by decide) d_Mo_primitive_143 ?_
                          refine x_lneg hx hb d_Mo_primitive_144 ?_
                          refine x_last hx hb B hF 0 1 rfl rfl n (by omega) (by omega) (by decide) d_Mo_primitive_145 (fun H locs B => ?_)
                          have B : Wb D vwCl (TY cs) L (mw f [(ta, .inl (cs 1, 6, .inr (.inl (al (up z n (-(z n)))))))]) (AL L s.heap.size) s H _ := B
                          refine x_iinc (lv' := [(5, .int (iI (((n : Int)) + 1))), (4, .int (iI ((tv : Int)))), (0, .ref ta)]) hx hb d_Mo_primitive_146 hl (q := 0) rfl rfl (by decide) rfl (fun ls hl => ?_)
                          refine lv_goto (tgt := 125) hx hb d_Mo_primitive_149 (by decide) ?_
                          exact ih_L4 (n + 1) (up z n (-(z n))) (by omega) (by omega) (fun h => by omega) (fun j hj => by
          by_cases hji : j = n
          · rw [hji, up_self, hJ4 n (Nat.le_refl _)]
          · rw [up_ne _ _ hji]; exact hI4 j (by omega)) (fun j hj => by rw [up_ne _ _ (by omega)]; exact hJ4 j (by omega)) _ _ _ B (lv_sub hl [0, 1, 2] rfl)
                  exact L4 _ 0 x (Nat.lt_succ_self _) (by omega) (fun _ => rfl) (fun j hj => by omega) (fun j _ => rfl) _ _ _ B (lv_sub hl [0, 1, 4] rfl)
                refine lv_iload_n hx hb d_Mo_primitive_103 rfl (lv_at hl 1 rfl) ?_
                refine x_if_lt (tgt := 119) hx hb d_Mo_primitive_104 (by decide) (by omega) (fun h104 => ?_) (fun h104 => ?_)
                · refine x_iconst hx hb d_Mo_primitive_119 ?_
                  exact J120 0 (by omega) _ _ _ B (lv_sub hl [1, 2, 3] rfl)
                · have hx8 := hxr9 (k0 - 1) (by omega)
                  refine lv_aload_n hx hb d_Mo_primitive_107 rfl (lv_at hl 3 rfl) ?_
                  refine lv_iload_n hx hb d_Mo_primitive_108 rfl (lv_at hl 1 rfl) ?_
                  refine x_lald hx hb B hF 0 1 rfl rfl (k0 - 1) (by omega) (by omega) (by decide) d_Mo_primitive_109 ?_
                  refine x_lconst (z := 0) hx hb d_Mo_primitive_110 (by decide) ?_
                  refine x_lc_ge (tgt := 119) hx hb d_Mo_primitive_111 rfl d_Mo_primitive_112 (by decide) (by omega) (by omega) (fun h112 => ?_) (fun h112 => ?_)
                  · refine x_iconst hx hb d_Mo_primitive_119 ?_
                    exact J120 0 (by omega) _ _ _ B (lv_sub hl [1, 2, 3] rfl)
                  · refine x_iconst hx hb d_Mo_primitive_115 ?_
                    refine lv_goto (tgt := 120) hx hb d_Mo_primitive_116 (by decide) ?_
                    exact J120 1 (by omega) _ _ _ B (lv_sub hl [1, 2, 3] rfl)
              · have hv9 := hvr i (by omega)
                have hx9 := hJ i (Nat.le_refl _)
                have hgn := hg0 (by omega)
                refine lv_aload_n hx hb d_Mo_primitive_87 rfl (lv_at hl 3 rfl) ?_
                refine lv_iload hx hb d_Mo_primitive_88 (lv_at hl 0 rfl) ?_
                refine lv_aload_n hx hb d_Mo_primitive_90 rfl (lv_at hl 3 rfl) ?_
                refine lv_iload hx hb d_Mo_primitive_91 (lv_at hl 0 rfl) ?_
                refine x_lald hx hb B hF 0 1 rfl rfl i (by omega) (by omega) (by decide) d_Mo_primitive_93 ?_
                refine lv_lload_n hx hb d_Mo_primitive_94 rfl (lv_at hl 2 rfl) ?_
                refine x_ldiv hx hb d_Mo_primitive_95 (by omega) (by omega) (by omega) ?_
                refine x_last hx hb B hF 0 1 rfl rfl i (by omega) (by omega) (by decide) d_Mo_primitive_96 (fun H locs B => ?_)
                have B : Wb D vwCl (TY cs) L (mw f [(ta, .inl (cs 1, 6, .inr (.inl (al (up x i ((x i).tdiv ((gg : Int))))))))]) (AL L s.heap.size) s H _ := B
                refine x_iinc (lv' := [(4, .int (iI (((i : Int)) + 1))), (3, .int (iI ((k0 : Int) - 1))), (1, .long (lI ((gg : Int)))), (0, .ref ta)]) hx hb d_Mo_primitive_97 hl (q := 0) rfl rfl (by decide) rfl (fun ls hl => ?_)
                refine lv_goto (tgt := 76) hx hb d_Mo_primitive_100 (by decide) ?_
                exact ih_L3 (i + 1) (up x i ((x i).tdiv ((gg : Int)))) (by omega) (by omega) (fun h => by omega) (fun j hj => by
          by_cases hji : j = i
          · rw [hji, up_self, hJ i (Nat.le_refl _)]
          · rw [up_ne _ _ hji]; exact hI j (by omega)) (fun j hj => by rw [up_ne _ _ (by omega)]; exact hJ j (by omega)) _ _ _ B (lv_sub hl [0, 1, 2, 3] rfl)
        exact L3 _ 0 aw (Nat.lt_succ_self _) (by omega) (fun _ => rfl) (fun j hj => by omega) (fun j _ => rfl) _ _ _ B (lv_sub hl [0, 1, 2, 3] rfl)
      · refine lv_lload_n hx hb d_Mo_primitive_10 rfl (lv_at hl 1 rfl) ?_
        refine lv_lstore (lv' := [(4, .long (lI ((gg : Int)))), (3, .int (iI ((k : Int)))), (1, .long (lI ((gg : Int)))), (0, .ref ta)]) hx hb d_Mo_primitive_11 hl (by decide) rfl (fun ls hl => ?_)
        have hvk := hvr k (by omega)
        have J31 : ∀ (ay : Nat), (ay = (aw k).natAbs) → ∀ (H : Heap) (locs : List Loc) (ls : Array Slot), Wb D vwCl (TY cs) L (mw f [(ta, .inl (cs 1, 6, .inr (.inl (al aw))))]) (AL L s.heap.size) s H locs → lv_has ls 10 [(4, .long (lI ((gg : Int)))), (3, .int (iI ((k : Int)))), (1, .long (lI ((gg : Int)))), (0, .ref ta)] → W p l e R s m av below meth c H locs (0) (0) Q (F0 m 31 ls [.long (lI ((ay : Int)))]) := by
          intro ay hay H locs ls B hl
          refine lv_lstore (lv' := [(6, .long (lI ((ay : Int)))), (4, .long (lI ((gg : Int)))), (3, .int (iI ((k : Int)))), (1, .long (lI ((gg : Int)))), (0, .ref ta)]) hx hb d_Mo_primitive_31 hl (by decide) rfl (fun ls hl => ?_)
          have L2 : ∀ (fuel : Nat) (xx : Nat) (yy : Nat), yy < fuel → (Nat.gcd xx yy = Nat.gcd gg (aw k).natAbs) → ((xx : Int) < 4611686018427387904) → ((yy : Int) < 4611686018427387904) → ∀ (H : Heap) (locs : List Loc) (ls : Array Slot), Wb D vwCl (TY cs) L (mw f [(ta, .inl (cs 1, 6, .inr (.inl (al aw))))]) (AL L s.heap.size) s H locs → lv_has ls 10 [(6, .long (lI ((yy : Int)))), (4, .long (lI ((xx : Int)))), (3, .int (iI ((k : Int)))), (1, .long (lI ((gg : Int)))), (0, .ref ta)] → W p l e R s m av below meth c H locs (0) (0) Q (F0 m 33 ls []) := by
            intro fuel
            induction fuel with
            | zero => intro xx yy hfu; exact absurd hfu (Nat.not_lt_zero _)
            | succ fuel ih_L2 =>
              intro xx yy hfu_L2 hxy hxr hyr H locs ls B hl
              refine lv_lload hx hb d_Mo_primitive_33 (lv_at hl 0 rfl) ?_
              refine x_lconst (z := 0) hx hb d_Mo_primitive_35 (by decide) ?_
              refine x_lc_eq (tgt := 58) hx hb d_Mo_primitive_36 rfl d_Mo_primitive_37 (by decide) (by omega) (by omega) (fun h37 => ?_) (fun h37 => ?_)
              · refine lv_lload hx hb d_Mo_primitive_58 (lv_at hl 1 rfl) ?_
                refine lv_lstore_n (lv' := [(1, .long (lI ((xx : Int)))), (6, .long (lI ((yy : Int)))), (4, .long (lI ((xx : Int)))), (3, .int (iI ((k : Int)))), (0, .ref ta)]) hx hb d_Mo_primitive_60 rfl hl (by decide) rfl (fun ls hl => ?_)
                refine x_iinc (lv' := [(3, .int (iI (((k : Int)) + 1))), (1, .long (lI ((xx : Int)))), (6, .long (lI ((yy : Int)))), (4, .long (lI ((xx : Int)))), (0, .ref ta)]) hx hb d_Mo_primitive_61 hl (q := 3) rfl rfl (by decide) rfl (fun ls hl => ?_)
                refine lv_goto (tgt := 4) hx hb d_Mo_primitive_64 (by decide) ?_
                exact ih_L1 (k + 1) xx (by omega) (by omega) (by rw [cg, ← hg, Nat.zero_add, ← hxy, show yy = 0 by omega, Nat.gcd_zero_right]) (by omega) _ _ _ B (lv_sub hl [0, 1, 4] rfl)
              · refine lv_lload hx hb d_Mo_primitive_40 (lv_at hl 1 rfl) ?_
                refine lv_lload hx hb d_Mo_primitive_42 (lv_at hl 0 rfl) ?_
                refine x_lrem hx hb d_Mo_primitive_44 (by omega) (by omega) (by omega) ?_
                refine lv_lstore (lv' := [(8, .long (lI (((xx : Int)).tmod ((yy : Int))))), (6, .long (lI ((yy : Int)))), (4, .long (lI ((xx : Int)))), (3, .int (iI ((k : Int)))), (1, .long (lI ((gg : Int)))), (0, .ref ta)]) hx hb d_Mo_primitive_45 hl (by decide) rfl (fun ls hl => ?_)
                refine lv_lload hx hb d_Mo_primitive_47 (lv_at hl 1 rfl) ?_
                refine lv_lstore (lv' := [(4, .long (lI ((yy : Int)))), (8, .long (lI (((xx : Int)).tmod ((yy : Int))))), (6, .long (lI ((yy : Int)))), (3, .int (iI ((k : Int)))), (1, .long (lI ((gg : Int)))), (0, .ref ta)]) hx hb d_Mo_primitive_49 hl (by decide) rfl (fun ls hl => ?_)
                refine lv_lload hx hb d_Mo_primitive_51 (lv_at hl 1 rfl) ?_
                refine lv_lstore (lv' := [(6, .long (lI (((xx : Int)).tmod ((yy : Int))))), (4, .long (lI ((yy : Int)))), (8, .long (lI (((xx : Int)).tmod ((yy : Int))))), (3, .int (iI ((k : Int)))), (1, .long (lI ((gg : Int)))), (0, .ref ta)]) hx hb d_Mo_primitive_53 hl (by decide) rfl (fun ls hl => ?_)
                refine lv_goto (tgt := 33) hx hb d_Mo_primitive_55 (by decide) ?_
                exact ih_L2 yy (xx % yy) (by have := Nat.mod_lt xx (show 0 < yy by omega); omega) (by rw [← hxy, Nat.gcd_comm xx yy, Nat.gcd_rec yy xx, Nat.gcd_comm]) hyr (by have := Nat.mod_lt xx (show 0 < yy by omega); omega) _ _ _ B (lv_sub hl [0, 1, 3, 4, 5] rfl)
          exact L2 _ gg ay (Nat.lt_succ_self _) (by rw [hay]) hgr (by omega) _ _ _ B (lv_sub hl [0, 1, 2, 3, 4] rfl)
        refine lv_aload_n hx hb d_Mo_primitive_13 rfl (lv_at hl 3 rfl) ?_
        refine lv_iload_n hx hb d_Mo_primitive_14 rfl (lv_at hl 1 rfl) ?_
        refine x_lald hx hb B hF 0 1 rfl rfl k (by omega) (by omega) (by decide) d_Mo_primitive_15 ?_
        refine x_lconst (z := 0) hx hb d_Mo_primitive_16 (by decide) ?_
        refine x_lc_ge (tgt := 28) hx hb d_Mo_primitive_17 rfl d_Mo_primitive_18 (by decide) (by omega) (by omega) (fun h18 => ?_) (fun h18 => ?_)
        · refine lv_aload_n hx hb d_Mo_primitive_28 rfl (lv_at hl 3 rfl) ?_
          refine lv_iload_n hx hb d_Mo_primitive_29 rfl (lv_at hl 1 rfl) ?_
          refine x_lald hx hb B hF 0 1 rfl rfl k (by omega) (by omega) (by decide) d_Mo_primitive_30 ?_
          rw [show aw k = (((aw k).natAbs : Nat) : Int) by omega]
          exact J31 ((aw k).natAbs) rfl _ _ _ B (lv_sub hl [0, 1, 2, 3] rfl)
        · refine lv_aload_n hx hb d_Mo_primitive_21 rfl (lv_at hl 3 rfl) ?_
          refine lv_iload_n hx hb d_Mo_primitive_22 rfl (lv_at hl 1 rfl) ?_
          refine x_lald hx hb B hF 0 1 rfl rfl k (by omega) (by omega) (by decide) d_Mo_primitive_23 ?_
          refine x_lneg hx hb d_Mo_primitive_24 ?_
          refine lv_goto (tgt := 31) hx hb d_Mo_primitive_25 (by decide) ?_
          rw [show -(aw k) = (((aw k).natAbs : Nat) : Int) by omega]
          exact J31 ((aw k).natAbs) rfl _ _ _ B (lv_sub hl [0, 1, 2, 3] rfl)
  exact L1 _ 0 0 (Nat.lt_succ_self _) (by omega) rfl (by omega) _ _ _ B (lv_sub hl [0, 1, 2] rfl)
