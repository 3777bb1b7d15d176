/-! polynomials made of others -/
/-- Horner's rule for A(x + b): behind m steps, from the highest place on -/
def hrn (A : Nat → Int) (b : Int) : Nat → Nat → Int
  | 0, _ => 0
  | m + 1, j => hrn A b m j * b + (if j = 0 then A (5 - m) else hrn A b m (j - 1))
theorem hrn_zero {A : Nat → Int} {b : Int} {n : Nat} (hz : ∀ j, n < j → j < 6 → A j = 0) : ∀ m, m + n ≤ 5 → ∀ j, hrn A b m j = 0
  | 0, _, j => rfl
  | m + 1, h, j => by
    have ih := hrn_zero (b := b) hz m (by omega)
    rw [hrn, ih j, Int.zero_mul, Int.zero_add]
    split
    · exact hz _ (by omega) (by omega)
    · exact ih _
theorem hrn_high {A : Nat → Int} {b : Int} {n : Nat} (hz : ∀ j, n < j → j < 6 → A j = 0) : ∀ m, m ≤ 6 → ∀ j, m + n < j + 6 → 0 < j → hrn A b m j = 0
  | 0, _, j, _, _ => rfl
  | m + 1, h, j, h2, h3 => by
    have ih := hrn_high (b := b) hz m (by omega)
    rw [hrn, if_neg (by omega), ih j (by omega) h3, Int.zero_mul, Int.zero_add]
    by_cases hj : j = 1
    · subst hj
      exact hrn_zero hz m (by omega) _
    · exact ih (j - 1) (by omega) (by omega)
def MkP (kd : Int) (A B : Nat → Int) (b : Int) (md : Nat → Int) : Prop :=
  (kd = 0 → ∀ j, j < 6 → md j = A j + B j) ∧ (kd = 1 → ∀ j, j < 6 → md j = A j + -B j) ∧ (kd = 2 → ∀ t, t < 12 → md t = cv A B 5 6 t) ∧ (kd = 3 → ∀ j, j < 6 → md j = dva A j) ∧ (kd = 4 → Gcd A B md) ∧ (kd = 5 → FreeOf A md) ∧ (kd = 6 → ∀ j, j < 6 → md j = hrn A b 6 j) ∧ (kd = 7 → ∀ j, j < 6 → md j = flp A j) ∧ (kd = 8 → ∀ j, j < 6 → md j = if j < dgn A 6 then A (dgn A 6 - 1 - j) else 0) ∧ (kd = 9 → ∀ j, j < 6 → md j = A j * b ^ j) ∧ (kd ≠ 2 → ∀ j, 6 ≤ j → j < 12 → md j = 0)
theorem Gcd.symm {A B C : Nat → Int} (h : Gcd A B C) : Gcd B A C := by
  rcases h with ⟨h1, h2, h3⟩ | ⟨h1, h2, ⟨u, w, h4⟩, h5, h6⟩
  · exact Or.inl ⟨h2, h1, h3⟩
  · exact Or.inr ⟨h1, h2, ⟨w, u, fun x => by rw [h4 x]; grind⟩, h6, h5⟩
/-- A(x + b) has its second coefficient n b A_n + A_(n-1) -/
theorem hrn_one {A : Nat → Int} {b : Int} : ∀ m, hrn A b (m + 1) m = (if m = 0 then A (5 - m) else hrn A b m (m - 1)) + hrn A b m m * b := by
  intro m
  rw [hrn]
  omega
theorem hrn_diag {A : Nat → Int} {b : Int} {n : Nat} (hn : n < 6) (hz : ∀ j, n < j → j < 6 → A j = 0) : ∀ i, i ≤ n → hrn A b (6 - n + i) i = A n ∧ (0 < i → hrn A b (6 - n + i) (i - 1) = (i : Int) * b * A n + A (n - 1))
  | 0, _ => by
    have h0 := hrn_zero (b := b) hz (5 - n) (by omega)
    refine ⟨?_, fun h => by omega⟩
    rw [show 6 - n + 0 = (5 - n) + 1 by omega, hrn, h0 0, if_pos rfl, Int.zero_mul, Int.zero_add, show 5 - (5 - n) = n by omega]
  | i + 1, h => by
    obtain ⟨h1, h2⟩ := hrn_diag hn hz i (by omega)
    have h3 := hrn_high (b := b) hz (6 - n + i) (by omega) (i + 1) (by omega) (by omega)
    have e : 6 - n + (i + 1) = (6 - n + i) + 1 := by omega
    refine ⟨?_, fun _ => ?_⟩
    · rw [e, hrn, if_neg (by omega), h3, Int.zero_mul, Int.zero_add, Nat.add_sub_cancel]
      exact h1
    · rw [e, Nat.add_sub_cancel, hrn, h1]
      by_cases hi : i = 0
      · subst hi
        rw [if_pos rfl, show 5 - (6 - n + 0) = n - 1 by omega, Int.mul_comm (A n) b]
        simp
      · rw [if_neg hi, h2 (by omega)]
        have : ((i + 1 : Nat) : Int) * b * A n = (i : Int) * b * A n + A n * b := by
          rw [show ((i + 1 : Nat) : Int) = (i : Int) + 1 by omega]
          grind
        rw [this]
        omega
/-- the coefficient that the reference looks at first -/
theorem hrn_second {A : Nat → Int} {b : Int} {n : Nat} (hn : n < 6) (h0 : 0 < n) (hz : ∀ j, n < j → j < 6 → A j = 0) : hrn A b 6 (n - 1) = (n : Int) * b * A n + A (n - 1) := by
  have := (hrn_diag (b := b) hn hz n (Nat.le_refl _)).2 h0
  rw [show 6 - n + n = 6 by omega] at this
  exact this
theorem hrn_none {A : Nat → Int} {b : Int} (hz : ∀ j, j < 6 → A j = 0) : ∀ m, ∀ j, hrn A b m j = 0
  | 0, j => rfl
  | m + 1, j => by
    have ih := hrn_none (b := b) hz m
    rw [hrn, ih j, Int.zero_mul, Int.zero_add]
    split
    · exact hz _ (by omega)
    · exact ih _
def hbd : Nat → Int
  | 0 => 0
  | m + 1 => 1001 * hbd m + 1000
theorem hrn_bd {A : Nat → Int} {b : Int} (hA : ∀ j, j < 6 → -1000 ≤ A j ∧ A j ≤ 1000) (hb : -1000 ≤ b ∧ b ≤ 1000) : ∀ m j, -(hbd m) ≤ hrn A b m j ∧ hrn A b m j ≤ hbd m
  | 0, j => ⟨Int.le_refl _, Int.le_refl _⟩
  | m + 1, j => by
    have ih := hrn_bd hA hb m
    have h1 := ih j
    have h2 := ih (j - 1)
    have h3 := hA (5 - m) (by omega)
    have e : ((hrn A b m j * b).natAbs : Int) ≤ hbd m * 1000 := by
      rw [Int.natAbs_mul, Int.natCast_mul]
      exact Int.mul_le_mul (by omega) (by omega) (by omega) (by omega)
    rw [hrn, hbd]
    generalize hrn A b m j * b = T at *
    split <;> omega
theorem pow_bd9 {b : Int} (hb : -1000 ≤ b ∧ b ≤ 1000) : ∀ k : Nat, ((b ^ k).natAbs : Int) ≤ 1000 ^ k
  | 0 => by simp
  | k + 1 => by
    rw [Int.pow_succ, Int.natAbs_mul, Int.natCast_mul, Int.pow_succ]
    exact Int.mul_le_mul (pow_bd9 hb k) (by omega) (by omega) (Int.le_of_lt (Int.pow_pos (by decide)))
theorem d_Mo_moving_0 : decode prog_9_method_38_code 0 = .ok (.iload_n 3, 1) := by decide +kernel
theorem d_Mo_moving_1 : decode prog_9_method_38_code 1 = .ok (.ifCond .le 44, 3) := by decide +kernel
theorem d_Mo_moving_4 : decode prog_9_method_38_code 4 = .ok (.iload_n 3, 1) := by decide +kernel
theorem d_Mo_moving_5 : decode prog_9_method_38_code 5 = .ok (.i2l, 1) := by decide +kernel
theorem d_Mo_moving_6 : decode prog_9_method_38_code 6 = .ok (.iload_n 2, 1) := by decide +kernel
theorem d_Mo_moving_7 : decode prog_9_method_38_code 7 = .ok (.i2l, 1) := by decide +kernel
theorem d_Mo_moving_8 : decode prog_9_method_38_code 8 = .ok (.lmul, 1) := by decide +kernel
theorem d_Mo_moving_9 : decode prog_9_method_38_code 9 = .ok (.aload_n 0, 1) := by decide +kernel
theorem d_Mo_moving_10 : decode prog_9_method_38_code 10 = .ok (.getfield 19, 3) := by decide +kernel
theorem d_Mo_moving_13 : decode prog_9_method_38_code 13 = .ok (.iload_n 1, 1) := by decide +kernel
theorem d_Mo_moving_14 : decode prog_9_method_38_code 14 = .ok (.iload_n 3, 1) := by decide +kernel
theorem d_Mo_moving_15 : decode prog_9_method_38_code 15 = .ok (.iadd, 1) := by decide +kernel
theorem d_Mo_moving_16 : decode prog_9_method_38_code 16 = .ok (.iaload, 1) := by decide +kernel
theorem d_Mo_moving_17 : decode prog_9_method_38_code 17 = .ok (.i2l, 1) := by decide +kernel
theorem d_Mo_moving_18 : decode prog_9_method_38_code 18 = .ok (.lmul, 1) := by decide +kernel
theorem d_Mo_moving_19 : decode prog_9_method_38_code 19 = .ok (.aload_n 0, 1) := by decide +kernel
theorem d_Mo_moving_20 : decode prog_9_method_38_code 20 = .ok (.getfield 19, 3) := by decide +kernel
theorem d_Mo_moving_23 : decode prog_9_method_38_code 23 = .ok (.iload_n 1, 1) := by decide +kernel
theorem d_Mo_moving_24 : decode prog_9_method_38_code 24 = .ok (.iload_n 3, 1) := by decide +kernel
theorem d_Mo_moving_25 : decode prog_9_method_38_code 25 = .ok (.iadd, 1) := by decide +kernel
theorem d_Mo_moving_26 : decode prog_9_method_38_code 26 = .ok (.iconst 1, 1) := by decide +kernel
theorem d_Mo_moving_27 : decode prog_9_method_38_code 27 = .ok (.isub, 1) := by decide +kernel
theorem d_Mo_moving_28 : decode prog_9_method_38_code 28 = .ok (.iaload, 1) := by decide +kernel
theorem d_Mo_moving_29 : decode prog_9_method_38_code 29 = .ok (.i2l, 1) := by decide +kernel
theorem d_Mo_moving_30 : decode prog_9_method_38_code 30 = .ok (.ladd, 1) := by decide +kernel
theorem d_Mo_moving_31 : decode prog_9_method_38_code 31 = .ok (.ldc2_w 121, 3) := by decide +kernel
theorem d_Mo_moving_34 : decode prog_9_method_38_code 34 = .ok (.ldc2_w 123, 3) := by decide +kernel
theorem d_Mo_moving_37 : decode prog_9_method_38_code 37 = .ok (.invokestatic 111, 3) := by decide +kernel
theorem d_Mo_moving_40 : decode prog_9_method_38_code 40 = .ok (.ifCond .ne 5, 3) := by decide +kernel
theorem d_Mo_moving_43 : decode prog_9_method_38_code 43 = .ok (.iconst 0, 1) := by decide +kernel
theorem d_Mo_moving_44 : decode prog_9_method_38_code 44 = .ok (.ireturn, 1) := by decide +kernel
theorem d_Mo_moving_45 : decode prog_9_method_38_code 45 = .ok (.iload_n 3, 1) := by decide +kernel
theorem d_Mo_moving_46 : decode prog_9_method_38_code 46 = .ok (.istore 4, 2) := by decide +kernel
theorem d_Mo_moving_48 : decode prog_9_method_38_code 48 = .ok (.iload 4, 2) := by decide +kernel
theorem d_Mo_moving_50 : decode prog_9_method_38_code 50 = .ok (.ifCond .lt 76, 3) := by decide +kernel
theorem d_Mo_moving_53 : decode prog_9_method_38_code 53 = .ok (.iload_n 3, 1) := by decide +kernel
theorem d_Mo_moving_54 : decode prog_9_method_38_code 54 = .ok (.istore 5, 2) := by decide +kernel
theorem d_Mo_moving_56 : decode prog_9_method_38_code 56 = .ok (.iload 5, 2) := by decide +kernel
theorem d_Mo_moving_58 : decode prog_9_method_38_code 58 = .ok (.ifCond .le 36, 3) := by decide +kernel
theorem d_Mo_moving_61 : decode prog_9_method_38_code 61 = .ok (.aload_n 0, 1) := by decide +kernel
theorem d_Mo_moving_62 : decode prog_9_method_38_code 62 = .ok (.getfield 26, 3) := by decide +kernel
theorem d_Mo_moving_65 : decode prog_9_method_38_code 65 = .ok (.iload 5, 2) := by decide +kernel
theorem d_Mo_moving_67 : decode prog_9_method_38_code 67 = .ok (.aload_n 0, 1) := by decide +kernel
theorem d_Mo_moving_68 : decode prog_9_method_38_code 68 = .ok (.getfield 26, 3) := by decide +kernel
theorem d_Mo_moving_71 : decode prog_9_method_38_code 71 = .ok (.iload 5, 2) := by decide +kernel
theorem d_Mo_moving_73 : decode prog_9_method_38_code 73 = .ok (.laload, 1) := by decide +kernel
theorem d_Mo_moving_74 : decode prog_9_method_38_code 74 = .ok (.iload_n 2, 1) := by decide +kernel
theorem d_Mo_moving_75 : decode prog_9_method_38_code 75 = .ok (.i2l, 1) := by decide +kernel
theorem d_Mo_moving_76 : decode prog_9_method_38_code 76 = .ok (.lmul, 1) := by decide +kernel
theorem d_Mo_moving_77 : decode prog_9_method_38_code 77 = .ok (.aload_n 0, 1) := by decide +kernel
theorem d_Mo_moving_78 : decode prog_9_method_38_code 78 = .ok (.getfield 26, 3) := by decide +kernel
theorem d_Mo_moving_81 : decode prog_9_method_38_code 81 = .ok (.iload 5, 2) := by decide +kernel
theorem d_Mo_moving_83 : decode prog_9_method_38_code 83 = .ok (.iconst 1, 1) := by decide +kernel
theorem d_Mo_moving_84 : decode prog_9_method_38_code 84 = .ok (.isub, 1) := by decide +kernel
theorem d_Mo_moving_85 : decode prog_9_method_38_code 85 = .ok (.laload, 1) := by decide +kernel
theorem d_Mo_moving_86 : decode prog_9_method_38_code 86 = .ok (.ladd, 1) := by decide +kernel
theorem d_Mo_moving_87 : decode prog_9_method_38_code 87 = .ok (.lastore, 1) := by decide +kernel
theorem d_Mo_moving_88 : decode prog_9_method_38_code 88 = .ok (.iinc 5 (-1), 3) := by decide +kernel
theorem d_Mo_moving_91 : decode prog_9_method_38_code 91 = .ok (.goto (-35), 3) := by decide +kernel
theorem d_Mo_moving_94 : decode prog_9_method_38_code 94 = .ok (.aload_n 0, 1) := by decide +kernel
theorem d_Mo_moving_95 : decode prog_9_method_38_code 95 = .ok (.getfield 26, 3) := by decide +kernel
theorem d_Mo_moving_98 : decode prog_9_method_38_code 98 = .ok (.iconst 0, 1) := by decide +kernel
theorem d_Mo_moving_99 : decode prog_9_method_38_code 99 = .ok (.aload_n 0, 1) := by decide +kernel
theorem d_Mo_moving_100 : decode prog_9_method_38_code 100 = .ok (.getfield 26, 3) := by decide +kernel
theorem d_Mo_moving_103 : decode prog_9_method_38_code 103 = .ok (.iconst 0, 1) := by decide +kernel
theorem d_Mo_moving_104 : decode prog_9_method_38_code 104 = .ok (.laload, 1) := by decide +kernel
theorem d_Mo_moving_105 : decode prog_9_method_38_code 105 = .ok (.iload_n 2, 1) := by decide +kernel
theorem d_Mo_moving_106 : decode prog_9_method_38_code 106 = .ok (.i2l, 1) := by decide +kernel
theorem d_Mo_moving_107 : decode prog_9_method_38_code 107 = .ok (.lmul, 1) := by decide +kernel
theorem d_Mo_moving_108 : decode prog_9_method_38_code 108 = .ok (.aload_n 0, 1) := by decide +kernel
theorem d_Mo_moving_109 : decode prog_9_method_38_code 109 = .ok (.getfield 19, 3) := by decide +kernel
theorem d_Mo_moving_112 : decode prog_9_method_38_code 112 = .ok (.iload_n 1, 1) := by decide +kernel
theorem d_Mo_moving_113 : decode prog_9_method_38_code 113 = .ok (.iload 4, 2) := by decide +kernel
theorem d_Mo_moving_115 : decode prog_9_method_38_code 115 = .ok (.iadd, 1) := by decide +kernel
theorem d_Mo_moving_116 : decode prog_9_method_38_code 116 = .ok (.iaload, 1) := by decide +kernel
theorem d_Mo_moving_117 : decode prog_9_method_38_code 117 = .ok (.i2l, 1) := by decide +kernel
theorem d_Mo_moving_118 : decode prog_9_method_38_code 118 = .ok (.ladd, 1) := by decide +kernel
theorem d_Mo_moving_119 : decode prog_9_method_38_code 119 = .ok (.lastore, 1) := by decide +kernel
theorem d_Mo_moving_120 : decode prog_9_method_38_code 120 = .ok (.iinc 4 (-1), 3) := by decide +kernel
theorem d_Mo_moving_123 : decode prog_9_method_38_code 123 = .ok (.goto (-75), 3) := by decide +kernel
theorem d_Mo_moving_126 : decode prog_9_method_38_code 126 = .ok (.iconst 1, 1) := by decide +kernel
theorem d_Mo_moving_127 : decode prog_9_method_38_code 127 = .ok (.ireturn, 1) := by decide +kernel
set_option maxHeartbeats 8000000 in
set_option maxRecDepth 100000 in
theorem c_Mo_moving (l : Launch) (D : va_G) (cs : Nat → ClassId) (L : List Nat) (f : Nat → va_E) (sz : Nat) (y m1 m2 m3 m5 m6 m7 m8 m9 m10 m11 m12 m13 m15 : Nat) (th pn rw_ fu fb : Int) (md cv : Nat → Int) (p0 k0 : Nat) (b : Int) (hF : Fc L [y, m7, m5]) (ha : f y = .inr (7, [.int (iI th), .ref m1, .ref m2, .ref m3, .int (iI pn), .ref m5, .ref m6, .ref m7, .ref m8, .ref m9, .ref m10, .ref m11, .ref m12, .ref m13, .int (iI rw_), .ref m15, .long (lI fu), .long (lI fb)])) (hm7 : f m7 = .inl (cs 1, 12, .inr (.inl (al md)))) (hm5 : f m5 = .inl (cs 0, 72, .inl (ai cv))) (hp0 : p0 < 12) (hcv : ∀ j, j < 72 → -1000 ≤ cv j ∧ cv j ≤ 1000) (hmd : ∀ j, j < 12 → md j = 0) (hb0 : -1000 ≤ b ∧ b ≤ 1000) (hk6 : k0 ≤ 6) (hz : ∀ j, k0 ≤ j → j < 6 → cv (6 * p0 + j) = 0) : Met l (⟨"RealRootsModel", "moving", "(III)Z"⟩ : MethodName) (.code (⟨"RealRootsModel", "moving", "(III)Z"⟩ : MethodName) prog_9_method_38_code 6 (Option.some Jvm.ClassFile.FieldType.boolean) :: gw) ({ frames := 1, cells := 0, slots := 0, locals := 30 }) (va_Pc [.ref y, .int (iI (6 * (p0 : Int))), .int (iI b), .int (iI ((k0 : Int) - 1))] (K0 D vwCl (TY cs) L f sz)) (va_Qi (fun (r : Int32) (g : Nat → va_E) => ∃ (md' : Nat → Int) (v : Int), r = iI v ∧ ((v = 1 ∧ ∀ j, j < 6 → md' j = hrn (fun j => cv (6 * p0 + j)) b 6 j) ∨ (v = 0 ∧ 2 ≤ k0 ∧ (hrn (fun j => cv (6 * p0 + j)) b 6 (k0 - 2) < -1000 ∨ 1000 < hrn (fun j => cv (6 * p0 + j)) b 6 (k0 - 2)))) ∧ (∀ j, 6 ≤ j → md' j = md j) ∧ g = mw f [(m7, .inl (cs 1, 12, .inr (.inl (al (md')))))]) (K1 D vwCl (TY cs) (AL L sz) L) (AL L sz)) 0 0 (AL L sz) := by
  refine Met.ofW (cc := prog_9_method_38_code) (maxL := 6) (ret := (Option.some Jvm.ClassFile.FieldType.boolean)) (by decide) rfl ?_
  intro p e s m args below meth c s₁ Bd hml hv
  obtain ⟨rfl, hk0⟩ := hv
  obtain ⟨hsz, B⟩ := hk0.start
  subst hsz
  have hx := Bd.exec
  have hb := Bd.bytes
  have hr := Bd.returns
  have hlocks := Bd.notSynchronized
  have hts0 := atoms_spec Bd.pre
  have hown : s.vm.findClass RX7 = some m.cls := findClass_of_methodNamed Bd.named
  have hA : ∀ q, s.heap.size ≤ q → AL L s.heap.size q := fun _ h => Or.inr h
  have hl := lv_entry ([.ref y, .int (iI (6 * (p0 : Int))), .int (iI b), .int (iI ((k0 : Int) - 1))]) (n := 6) (Nat.le_of_ble_eq_true rfl)
  rw [lg_entry_eq]
  generalize (lg_sl ([.ref y, .int (iI (6 * (p0 : Int))), .int (iI b), .int (iI ((k0 : Int) - 1))]) ++ List.replicate (6 - (lg_sl ([.ref y, .int (iI (6 * (p0 : Int))), .int (iI b), .int (iI ((k0 : Int) - 1))])).length) Slot.unset).toArray = ls at hl ⊢
  refine absQ (fun Q R av hQ hR hav => ?_)
  have hts : ∀ w ∈ gw, w.before av s = true := by rw [hav]; exact fun w h => hts0 w (List.mem_cons_of_mem _ h)
  have hRf : R.frames = 1 := by rw [hR]; rfl
  have hRl : R.locals = 30 := by rw [hR]; rfl
  have hRc : R.cells = 0 := by rw [hR]; rfl
  have hRs : R.slots = 0 := by rw [hR]; rfl
  clear hR hts0 Bd
  have hl : lv_has ls 6 [(0, .ref y), (1, .int (iI (6 * (p0 : Int)))), (2, .int (iI b)), (3, .int (iI ((k0 : Int) - 1)))] := hl
  have hfx : ∀ q ∈ ([(y, .inr (7, [.int (iI th), .ref m1, .ref m2, .ref m3, .int (iI pn), .ref m5, .ref m6, .ref m7, .ref m8, .ref m9, .ref m10, .ref m11, .ref m12, .ref m13, .int (iI rw_), .ref m15, .long (lI fu), .long (lI fb)])), (m7, .inl (cs 1, 12, .inr (.inl (al md)))), (m5, .inl (cs 0, 72, .inl (ai cv)))] : List (Nat × va_E)), f q.1 = q.2 := fun q hq => by
    simp only [List.mem_cons, List.not_mem_nil, or_false] at hq
    rcases hq with rfl | rfl | rfl
    · exact ha
    · exact hm7
    · exact hm5
  have hmw : mw f [(y, .inr (7, [.int (iI th), .ref m1, .ref m2, .ref m3, .int (iI pn), .ref m5, .ref m6, .ref m7, .ref m8, .ref m9, .ref m10, .ref m11, .ref m12, .ref m13, .int (iI rw_), .ref m15, .long (lI fu), .long (lI fb)])), (m7, .inl (cs 1, 12, .inr (.inl (al md)))), (m5, .inl (cs 0, 72, .inl (ai cv)))] = f := mw_self (fun k a e hk => hfx (a, e) (List.mem_of_getElem? hk))
  have B := B.focus [(y, .inr (7, [.int (iI th), .ref m1, .ref m2, .ref m3, .int (iI pn), .ref m5, .ref m6, .ref m7, .ref m8, .ref m9, .ref m10, .ref m11, .ref m12, .ref m13, .int (iI rw_), .ref m15, .long (lI fu), .long (lI fb)])), (m7, .inl (cs 1, 12, .inr (.inl (al md)))), (m5, .inl (cs 0, 72, .inl (ai cv)))] hfx
  have J45 : ∀ (u0 : Nat), ∀ (H : Heap) (locs : List Loc) (ls : Array Slot), Wb D vwCl (TY cs) L (mw f [(y, .inr (7, [.int (iI th), .ref m1, .ref m2, .ref m3, .int (iI pn), .ref m5, .ref m6, .ref m7, .ref m8, .ref m9, .ref m10, .ref m11, .ref m12, .ref m13, .int (iI rw_), .ref m15, .long (lI fu), .long (lI fb)])), (m7, .inl (cs 1, 12, .inr (.inl (al md)))), (m5, .inl (cs 0, 72, .inl (ai cv)))]) (AL L s.heap.size) s H locs → lv_has ls 6 [(0, .ref y), (1, .int (iI (6 * (p0 : Int)))), (2, .int (iI b)), (3, .int (iI ((k0 : Int) - 1)))] → W p l e R s m av below meth c H locs (0) (0) Q (F0 m 45 ls []) := by
    intro u0  H locs ls B hl
    refine lv_iload_n hx hb d_Mo_moving_45 rfl (lv_at hl 3 rfl) ?_
    refine lv_istore (lv' := [(4, .int (iI ((k0 : Int) - 1))), (0, .ref y), (1, .int (iI (6 * (p0 : Int)))), (2, .int (iI b)), (3, .int (iI ((k0 : Int) - 1)))]) hx hb d_Mo_moving_46 hl (by decide) rfl (fun ls hl => ?_)
    have L1 : ∀ (fuel : Nat) (kk : Nat) (md2 : Nat → Int), kk < fuel → (kk ≤ k0) → (∀ j, j < 6 → md2 j = hrn (fun j => cv (6 * p0 + j)) b (6 - kk) j) → (∀ j, 6 ≤ j → md2 j = md j) → ∀ (H : Heap) (locs : List Loc) (ls : Array Slot), Wb D vwCl (TY cs) L (mw f [(y, .inr (7, [.int (iI th), .ref m1, .ref m2, .ref m3, .int (iI pn), .ref m5, .ref m6, .ref m7, .ref m8, .ref m9, .ref m10, .ref m11, .ref m12, .ref m13, .int (iI rw_), .ref m15, .long (lI fu), .long (lI fb)])), (m7, .inl (cs 1, 12, .inr (.inl (al md2)))), (m5, .inl (cs 0, 72, .inl (ai cv)))]) (AL L s.heap.size) s H locs → lv_has ls 6 [(4, .int (iI ((kk : Int) - 1))), (0, .ref y), (1, .int (iI (6 * (p0 : Int)))), (2, .int (iI b)), (3, .int (iI ((k0 : Int) - 1)))] → W p l e R s m av below meth c H locs (0) (0) Q (F0 m 48 ls []) := by
      intro fuel
      induction fuel with
      | zero => intro kk md2 hfu; exact absurd hfu (Nat.not_lt_zero _)
      | succ fuel ih_L1 =>
        intro kk md2 hfu_L1 hkk hI hoo H locs ls B hl
        refine lv_iload hx hb d_Mo_moving_48 (lv_at hl 0 rfl) ?_
        refine x_if_lt (tgt := 126) hx hb d_Mo_moving_50 (by decide) (by omega) (fun h50 => ?_) (fun h50 => ?_)
        · refine x_iconst hx hb d_Mo_moving_126 ?_
          subst hQ hav
          exact x_zret hx hb hr (by decide) hlocks B d_Mo_moving_127 (⟨md2, 1, rfl, Or.inl ⟨rfl, fun j hj => by rw [hI j hj, show 6 - kk = 6 by omega]⟩, hoo, Eq.trans (mw_drop (f := f) (X := [(m7, .inl (cs 1, 12, .inr (.inl (al md2)))), (m5, .inl (cs 0, 72, .inl (ai cv)))]) ha (List.nodup_cons.mp hF.1).1) (mw_tail (X := [(m7, .inl (cs 1, 12, .inr (.inl (al md2))))]) (Y := [(m5, .inl (cs 0, 72, .inl (ai cv)))]) (fun p hp => hfx p (List.mem_cons_of_mem _ (List.mem_cons_of_mem _ hp))))⟩)
        · refine lv_iload_n hx hb d_Mo_moving_53 rfl (lv_at hl 4 rfl) ?_
          refine lv_istore (lv' := [(5, .int (iI ((k0 : Int) - 1))), (4, .int (iI ((kk : Int) - 1))), (0, .ref y), (1, .int (iI (6 * (p0 : Int)))), (2, .int (iI b)), (3, .int (iI ((k0 : Int) - 1)))]) hx hb d_Mo_moving_54 hl (by decide) rfl (fun ls hl => ?_)
          have L2 : ∀ (fuel : Nat) (ii : Nat) (md3 : Nat → Int), ii < fuel → (ii + 1 ≤ k0) → (∀ j, ii < j → j < 6 → md3 j = hrn (fun j => cv (6 * p0 + j)) b (6 - kk + 1) j) → (∀ j, j ≤ ii → md3 j = hrn (fun j => cv (6 * p0 + j)) b (6 - kk) j) → (∀ j, 6 ≤ j → md3 j = md j) → ∀ (H : Heap) (locs : List Loc) (ls : Array Slot), Wb D vwCl (TY cs) L (mw f [(y, .inr (7, [.int (iI th), .ref m1, .ref m2, .ref m3, .int (iI pn), .ref m5, .ref m6, .ref m7, .ref m8, .ref m9, .ref m10, .ref m11, .ref m12, .ref m13, .int (iI rw_), .ref m15, .long (lI fu), .long (lI fb)])), (m7, .inl (cs 1, 12, .inr (.inl (al md3)))), (m5, .inl (cs 0, 72, .inl (ai cv)))]) (AL L s.heap.size) s H locs → lv_has ls 6 [(5, .int (iI ((ii : Int)))), (4, .int (iI ((kk : Int) - 1))), (0, .ref y), (1, .int (iI (6 * (p0 : Int)))), (2, .int (iI b)), (3, .int (iI ((k0 : Int) - 1)))] → W p l e R s m av below meth c H locs (0) (0) Q (F0 m 56 ls []) := by
            intro fuel
            induction fuel with
            | zero => intro ii md3 hfu; exact absurd hfu (Nat.not_lt_zero _)
            | succ fuel ih_L2 =>
              intro ii md3 hfu_L2 hii hJ hJl hoi H locs ls B hl
              refine lv_iload hx hb d_Mo_moving_56 (lv_at hl 0 rfl) ?_
              refine x_if_le (tgt := 94) hx hb d_Mo_moving_58 (by decide) (by omega) (fun h58 => ?_) (fun h58 => ?_)
              · have hck := hcv (6 * p0 + (kk - 1)) (by omega)
                refine lv_aload_n hx hb d_Mo_moving_94 rfl (lv_at hl 2 rfl) ?_
                refine x_get (C := RX7) (T := TX7) (N := 18) hx hb hts inX7 hown B hF 0 rfl rfl 7 (by decide) (hts _ w_684) (fun _ h9 => h9) rfl d_Mo_moving_95 ?_
                refine x_iconst hx hb d_Mo_moving_98 ?_
                refine lv_aload_n hx hb d_Mo_moving_99 rfl (lv_at hl 2 rfl) ?_
                refine x_get (C := RX7) (T := TX7) (N := 18) hx hb hts inX7 hown B hF 0 rfl rfl 7 (by decide) (hts _ w_684) (fun _ h9 => h9) rfl d_Mo_moving_100 ?_
                refine x_iconst hx hb d_Mo_moving_103 ?_
                refine x_lald hx hb B hF 1 1 rfl rfl 0 (by omega) (by omega) (by decide) d_Mo_moving_104 ?_
                refine lv_iload_n hx hb d_Mo_moving_105 rfl (lv_at hl 4 rfl) ?_
                refine x_i2l hx hb d_Mo_moving_106 (by omega) ?_
                refine x_lmul hx hb d_Mo_moving_107 ?_
                refine lv_aload_n hx hb d_Mo_moving_108 rfl (lv_at hl 2 rfl) ?_
                refine x_get (C := RX7) (T := TX7) (N := 18) hx hb hts inX7 hown B hF 0 rfl rfl 5 (by decide) (hts _ w_682) (fun _ h9 => h9) rfl d_Mo_moving_109 ?_
                refine lv_iload_n hx hb d_Mo_moving_112 rfl (lv_at hl 3 rfl) ?_
                refine lv_iload hx hb d_Mo_moving_113 (lv_at hl 1 rfl) ?_
                refine x_iadd hx hb d_Mo_moving_115 ?_
                refine x_iald hx hb B hF 2 0 rfl rfl (6 * p0 + (kk - 1)) (by omega) (by omega) (by decide) d_Mo_moving_116 ?_
                refine x_i2l hx hb d_Mo_moving_117 (by omega) ?_
                refine x_ladd hx hb d_Mo_moving_118 ?_
                refine x_last hx hb B hF 1 1 rfl rfl 0 (by omega) (by omega) (by decide) d_Mo_moving_119 (fun H locs B => ?_)
                have B : Wb D vwCl (TY cs) L (mw f [(y, .inr (7, [.int (iI th), .ref m1, .ref m2, .ref m3, .int (iI pn), .ref m5, .ref m6, .ref m7, .ref m8, .ref m9, .ref m10, .ref m11, .ref m12, .ref m13, .int (iI rw_), .ref m15, .long (lI fu), .long (lI fb)])), (m7, .inl (cs 1, 12, .inr (.inl (al (up md3 0 (((md3 0) * b) + (cv (6 * p0 + (kk - 1))))))))), (m5, .inl (cs 0, 72, .inl (ai cv)))]) (AL L s.heap.size) s H _ := B
                refine x_iinc (lv' := [(4, .int (iI (((kk : Int) - 1) + (-1)))), (5, .int (iI ((ii : Int)))), (0, .ref y), (1, .int (iI (6 * (p0 : Int)))), (2, .int (iI b)), (3, .int (iI ((k0 : Int) - 1)))]) hx hb d_Mo_moving_120 hl (q := 1) rfl rfl (by decide) rfl (fun ls hl => ?_)
                refine lv_goto (tgt := 48) hx hb d_Mo_moving_123 (by decide) ?_
                rw [show (kk : Int) - 1 + (-1) = ((kk - 1 : Nat) : Int) - 1 by omega] at hl
                exact ih_L1 (kk - 1) (up md3 0 (((md3 0) * b) + (cv (6 * p0 + (kk - 1))))) (by omega) (by omega) (fun j hj => by
          by_cases hj0 : j = 0
          · rw [hj0, up_self, hJl 0 (by omega), show 6 - (kk - 1) = (6 - kk) + 1 by omega, hrn, if_pos rfl, show 5 - (6 - kk) = kk - 1 by omega]
          · rw [up_ne _ _ hj0, hJ j (by omega) hj, show 6 - (kk - 1) = (6 - kk) + 1 by omega]) (fun j hj => by rw [up_ne _ _ (by omega)]; exact hoi j hj) _ _ _ B (lv_sub hl [0, 2, 3, 4, 5] rfl)
              · refine lv_aload_n hx hb d_Mo_moving_61 rfl (lv_at hl 2 rfl) ?_
                refine x_get (C := RX7) (T := TX7) (N := 18) hx hb hts inX7 hown B hF 0 rfl rfl 7 (by decide) (hts _ w_684) (fun _ h9 => h9) rfl d_Mo_moving_62 ?_
                refine lv_iload hx hb d_Mo_moving_65 (lv_at hl 0 rfl) ?_
                refine lv_aload_n hx hb d_Mo_moving_67 rfl (lv_at hl 2 rfl) ?_
                refine x_get (C := RX7) (T := TX7) (N := 18) hx hb hts inX7 hown B hF 0 rfl rfl 7 (by decide) (hts _ w_684) (fun _ h9 => h9) rfl d_Mo_moving_68 ?_
                refine lv_iload hx hb d_Mo_moving_71 (lv_at hl 0 rfl) ?_
                refine x_lald hx hb B hF 1 1 rfl rfl ii (by omega) (by omega) (by decide) d_Mo_moving_73 ?_
                refine lv_iload_n hx hb d_Mo_moving_74 rfl (lv_at hl 4 rfl) ?_
                refine x_i2l hx hb d_Mo_moving_75 (by omega) ?_
                refine x_lmul hx hb d_Mo_moving_76 ?_
                refine lv_aload_n hx hb d_Mo_moving_77 rfl (lv_at hl 2 rfl) ?_
                refine x_get (C := RX7) (T := TX7) (N := 18) hx hb hts inX7 hown B hF 0 rfl rfl 7 (by decide) (hts _ w_684) (fun _ h9 => h9) rfl d_Mo_moving_78 ?_
                refine lv_iload hx hb d_Mo_moving_81 (lv_at hl 0 rfl) ?_
                refine x_iconst hx hb d_Mo_moving_83 ?_
                refine x_isub hx hb d_Mo_moving_84 ?_
                refine x_lald hx hb B hF 1 1 rfl rfl (ii - 1) (by omega) (by omega) (by decide) d_Mo_moving_85 ?_
                refine x_ladd hx hb d_Mo_moving_86 ?_
                refine x_last hx hb B hF 1 1 rfl rfl ii (by omega) (by omega) (by decide) d_Mo_moving_87 (fun H locs B => ?_)
                have B : Wb D vwCl (TY cs) L (mw f [(y, .inr (7, [.int (iI th), .ref m1, .ref m2, .ref m3, .int (iI pn), .ref m5, .ref m6, .ref m7, .ref m8, .ref m9, .ref m10, .ref m11, .ref m12, .ref m13, .int (iI rw_), .ref m15, .long (lI fu), .long (lI fb)])), (m7, .inl (cs 1, 12, .inr (.inl (al (up md3 ii (((md3 ii) * b) + (md3 (ii - 1)))))))), (m5, .inl (cs 0, 72, .inl (ai cv)))]) (AL L s.heap.size) s H _ := B
                refine x_iinc (lv' := [(5, .int (iI (((ii : Int)) + (-1)))), (4, .int (iI ((kk : Int) - 1))), (0, .ref y), (1, .int (iI (6 * (p0 : Int)))), (2, .int (iI b)), (3, .int (iI ((k0 : Int) - 1)))]) hx hb d_Mo_moving_88 hl (q := 0) rfl rfl (by decide) rfl (fun ls hl => ?_)
                refine lv_goto (tgt := 56) hx hb d_Mo_moving_91 (by decide) ?_
                rw [show (ii : Int) + (-1) = ((ii - 1 : Nat) : Int) by omega] at hl
                exact ih_L2 (ii - 1) (up md3 ii (((md3 ii) * b) + (md3 (ii - 1)))) (by omega) (by omega) (fun j h1 h2 => by
          by_cases hji : j = ii
          · rw [hji, up_self, hJl ii (by omega), hJl (ii - 1) (by omega), hrn, if_neg (by omega)]
          · rw [up_ne _ _ hji]; exact hJ j (by omega) h2) (fun j hj => by rw [up_ne _ _ (by omega)]; exact hJl j (by omega)) (fun j hj => by rw [up_ne _ _ (by omega)]; exact hoi j hj) _ _ _ B (lv_sub hl [0, 1, 2, 3, 4, 5] rfl)
          rw [show (k0 : Int) - 1 = ((k0 - 1 : Nat) : Int) by omega] at hl
          rw [show ((k0 - 1 : Nat) : Int) = (k0 : Int) - 1 by omega] at hl
          have hl5 : lv_has ls 6 [(5, .int (iI (((k0 - 1 : Nat) : Int)))), (4, .int (iI ((kk : Int) - 1))), (0, .ref y), (1, .int (iI (6 * (p0 : Int)))), (2, .int (iI b)), (3, .int (iI ((k0 : Int) - 1)))] := by rw [show ((k0 - 1 : Nat) : Int) = (k0 : Int) - 1 by omega]; exact lv_sub hl [0, 1, 2, 3, 4, 5] rfl
          exact L2 _ (k0 - 1) md2 (Nat.lt_succ_self _) (by omega) (fun j h1 h2 => by rw [hI j h2, hrn_high (n := k0 - 1) (fun j h1 h2 => hz j (by omega) h2) (6 - kk) (by omega) j (by omega) (by omega), hrn_high (n := k0 - 1) (fun j h1 h2 => hz j (by omega) h2) (6 - kk + 1) (by omega) j (by omega) (by omega)]) (fun j hj => hI j (by omega)) hoo _ _ _ B hl5
    exact L1 _ k0 md (Nat.lt_succ_self _) (Nat.le_refl _) (fun j hj => by rw [hmd j (by omega)]; rcases Nat.eq_zero_or_pos k0 with h | h; exact (hrn_none (fun j hj => hz j (by omega) hj) _ j).symm; exact (hrn_zero (n := k0 - 1) (fun j h1 h2 => hz j (by omega) h2) _ (by omega) j).symm) (fun j _ => rfl) _ _ _ B (lv_sub hl [0, 1, 2, 3, 4] rfl)
  refine lv_iload_n hx hb d_Mo_moving_0 rfl (lv_at hl 3 rfl) ?_
  refine x_if_le (tgt := 45) hx hb d_Mo_moving_1 (by decide) (by omega) (fun h1 => ?_) (fun h1 => ?_)
  · exact J45 0  _ _ _ B (lv_sub hl [0, 1, 2, 3] rfl)
  · refine lv_iload_n hx hb d_Mo_moving_4 rfl (lv_at hl 3 rfl) ?_
    refine x_i2l hx hb d_Mo_moving_5 (by omega) ?_
    refine lv_iload_n hx hb d_Mo_moving_6 rfl (lv_at hl 2 rfl) ?_
    refine x_i2l hx hb d_Mo_moving_7 (by omega) ?_
    refine x_lmul hx hb d_Mo_moving_8 ?_
    have hcn := hcv (6 * p0 + (k0 - 1)) (by omega)
    have hcm := hcv (6 * p0 + (k0 - 2)) (by omega)
    refine lv_aload_n hx hb d_Mo_moving_9 rfl (lv_at hl 0 rfl) ?_
    refine x_get (C := RX7) (T := TX7) (N := 18) hx hb hts inX7 hown B hF 0 rfl rfl 5 (by decide) (hts _ w_682) (fun _ h9 => h9) rfl d_Mo_moving_10 ?_
    refine lv_iload_n hx hb d_Mo_moving_13 rfl (lv_at hl 1 rfl) ?_
    refine lv_iload_n hx hb d_Mo_moving_14 rfl (lv_at hl 3 rfl) ?_
    refine x_iadd hx hb d_Mo_moving_15 ?_
    refine x_iald hx hb B hF 2 0 rfl rfl (6 * p0 + (k0 - 1)) (by omega) (by omega) (by decide) d_Mo_moving_16 ?_
    refine x_i2l hx hb d_Mo_moving_17 (by omega) ?_
    refine x_lmul hx hb d_Mo_moving_18 ?_
    refine lv_aload_n hx hb d_Mo_moving_19 rfl (lv_at hl 0 rfl) ?_
    refine x_get (C := RX7) (T := TX7) (N := 18) hx hb hts inX7 hown B hF 0 rfl rfl 5 (by decide) (hts _ w_682) (fun _ h9 => h9) rfl d_Mo_moving_20 ?_
    refine lv_iload_n hx hb d_Mo_moving_23 rfl (lv_at hl 1 rfl) ?_
    refine lv_iload_n hx hb d_Mo_moving_24 rfl (lv_at hl 3 rfl) ?_
    refine x_iadd hx hb d_Mo_moving_25 ?_
    refine x_iconst hx hb d_Mo_moving_26 ?_
    refine x_isub hx hb d_Mo_moving_27 ?_
    refine x_iald hx hb B hF 2 0 rfl rfl (6 * p0 + (k0 - 2)) (by omega) (by omega) (by decide) d_Mo_moving_28 ?_
    refine x_i2l hx hb d_Mo_moving_29 (by omega) ?_
    refine x_ladd hx hb d_Mo_moving_30 ?_
    have hse : ((((k0 : Int) - 1) * b) * (cv (6 * p0 + (k0 - 1)))) + (cv (6 * p0 + (k0 - 2))) = hrn (fun j => cv (6 * p0 + j)) b 6 (k0 - 2) := by
      have h9 := hrn_second (A := (fun j => cv (6 * p0 + j))) (b := b) (n := k0 - 1) (by omega) (by omega) (fun j h1 h2 => hz j (by omega) h2)
      rw [show k0 - 1 - 1 = k0 - 2 by omega] at h9
      rw [h9, show (k0 : Int) - 1 = ((k0 - 1 : Nat) : Int) by omega]
    rw [hse]
    have hbq := hrn_bd (A := (fun j => cv (6 * p0 + j))) (b := b) (fun j hj => hcv _ (by omega)) hb0 6 (k0 - 2)
    have hb6 : hbd 6 = 1006015020015006000 := by decide
    rw [hb6] at hbq
    obtain ⟨se, hsd⟩ : ∃ se : Int, se = hrn (fun j => cv (6 * p0 + j)) b 6 (k0 - 2) := ⟨_, rfl⟩
    rw [← hsd] at hbq ⊢
    refine x_ldc2 (z := -1000) hx hb hown (hts _ w_753) (by decide) d_Mo_moving_31 ?_
    refine x_ldc2 (z := 1000) hx hb hown (hts _ w_754) (by decide) d_Mo_moving_34 ?_
    refine x_calli B hA (va_runS (As := [.long (lI se), .long (lI (-1000)), .long (lI 1000)]) (rest := []) ⟨hx, hb, hml, hown, hts⟩ (c_Mo_in l D cs _ _ _ se (-1000) 1000 (by omega) (by omega) (by omega)) (va_cwS 3 hts (gw_S w_749 w_750 w_8 w_751) rfl rfl rfl (by decide +kernel) ⟨by rw [hRf]; exact Nat.le_of_ble_eq_true rfl, by rw [hRl]; exact Nat.le_of_ble_eq_true rfl⟩) ⟨K0.blind, B.pre _⟩ rfl rfl hl.1 rfl (lv_room (Nat.le_of_ble_eq_true rfl)) d_Mo_moving_37 ⟨by rw [hRc]; omega, by rw [hRs]; omega⟩) (fun r37 g37 H locs hw B => ?_)
    obtain ⟨rfl, rfl⟩ := hw
    have B : Wb D vwCl (TY cs) L (mw f [(y, .inr (7, [.int (iI th), .ref m1, .ref m2, .ref m3, .int (iI pn), .ref m5, .ref m6, .ref m7, .ref m8, .ref m9, .ref m10, .ref m11, .ref m12, .ref m13, .int (iI rw_), .ref m15, .long (lI fu), .long (lI fb)])), (m7, .inl (cs 1, 12, .inr (.inl (al md)))), (m5, .inl (cs 0, 72, .inl (ai cv)))]) (AL L s.heap.size) s H _ := B
    obtain ⟨bb, hbb⟩ : ∃ bb : Int, bb = if (-1000) ≤ se ∧ se ≤ 1000 then 1 else 0 := ⟨_, rfl⟩
    rw [← hbb]
    have hcc : (bb = 1 ∧ -1000 ≤ se ∧ se ≤ 1000) ∨ (bb = 0 ∧ (se < -1000 ∨ 1000 < se)) := by rw [hbb]; split <;> omega
    refine x_if_ne (tgt := 45) hx hb d_Mo_moving_40 (by decide) (by omega) (fun h40 => ?_) (fun h40 => ?_)
    · exact J45 0  _ _ _ B (lv_sub hl [0, 1, 2, 3] rfl)
    · refine x_iconst hx hb d_Mo_moving_43 ?_
      have B := B.of_eq hmw
      subst hQ hav
      exact x_zret hx hb hr (by decide) hlocks B d_Mo_moving_44 (⟨md, 0, rfl, Or.inr ⟨rfl, by omega, by omega⟩, fun j _ => rfl, ((mw_self (X := [(y, .inr (7, [.int (iI th), .ref m1, .ref m2, .ref m3, .int (iI pn), .ref m5, .ref m6, .ref m7, .ref m8, .ref m9, .ref m10, .ref m11, .ref m12, .ref m13, .int (iI rw_), .ref m15, .long (lI fu), .long (lI fb)])), (m7, .inl (cs 1, 12, .inr (.inl (al md)))), (m5, .inl (cs 0, 72, .inl (ai cv)))]) (fun k a e hk => hfx (a, e) (List.mem_of_getElem? hk))).symm.trans (Eq.trans (mw_drop (f := f) (X := [(m7, .inl (cs 1, 12, .inr (.inl (al md)))), (m5, .inl (cs 0, 72, .inl (ai cv)))]) ha (List.nodup_cons.mp hF.1).1) (mw_tail (X := [(m7, .inl (cs 1, 12, .inr (.inl (al md))))]) (Y := [(m5, .inl (cs 0, 72, .inl (ai cv)))]) (fun p hp => hfx p (List.mem_cons_of_mem _ (List.mem_cons_of_mem _ hp))))))⟩)
