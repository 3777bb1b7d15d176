theorem iI_xsgn {a b : Int} (ha : -2147483648 ≤ a ∧ a < 2147483648) (hb : 0 ≤ b ∧ b < 2147483648) : ∃ w : Int, iI a ^^^ iI b = iI w ∧ (-2147483648 ≤ w ∧ w < 2147483648) ∧ (w < 0 ↔ a < 0) := by
  refine ⟨(iI a ^^^ iI b).toInt, (iI_of _).symm, ⟨Int32.le_toInt _, Int32.toInt_lt _⟩, ?_⟩
  have h1 : ∀ x : Int32, decide (x.toInt < 0) = x.toBitVec.msb := fun x => (BitVec.msb_eq_toInt).symm
  have h2 := h1 (iI a ^^^ iI b)
  rw [Int32.toBitVec_xor, BitVec.msb_xor, ← h1, ← h1, iI_toInt ha, iI_toInt (by omega)] at h2
  rw [decide_eq_false (show ¬ b < 0 by omega), Bool.xor_false] at h2
  exact decide_eq_decide.mp h2
theorem lI_xsgn {a b : Int} (ha : -9223372036854775808 ≤ a ∧ a < 9223372036854775808) (hb : 0 ≤ b ∧ b < 9223372036854775808) : ∃ w : Int, lI a ^^^ lI b = lI w ∧ (-9223372036854775808 ≤ w ∧ w < 9223372036854775808) ∧ (w < 0 ↔ a < 0) := by
  refine ⟨(lI a ^^^ lI b).toInt, (lI_of _).symm, ⟨Int64.le_toInt _, Int64.toInt_lt _⟩, ?_⟩
  have h1 : ∀ x : Int64, decide (x.toInt < 0) = x.toBitVec.msb := fun x => (BitVec.msb_eq_toInt).symm
  have h2 := h1 (lI a ^^^ lI b)
  rw [Int64.toBitVec_xor, BitVec.msb_xor, ← h1, ← h1, lI_toInt ha, lI_toInt (by omega)] at h2
  rw [decide_eq_false (show ¬ b < 0 by omega), Bool.xor_false] at h2
  exact decide_eq_decide.mp h2
theorem floor_fix {a b q : Int} (hb : 0 < b) (hq : q = a.tdiv b) : a / b = if a < 0 ∧ q * b ≠ a then q - 1 else q := by
  subst hq
  rcases (show a < 0 ∨ 0 ≤ a by omega) with h | h
  · obtain ⟨c, rfl⟩ : ∃ c : Int, a = -c := ⟨-a, by omega⟩
    have hc : 0 < c := by omega
    rw [Int.neg_tdiv, Int.tdiv_eq_ediv_of_nonneg (by omega)]
    have d := Int.mul_ediv_add_emod c b
    have m1 := Int.emod_nonneg c (show b ≠ 0 by omega)
    have m2 := Int.emod_lt_of_pos c hb
    by_cases h9 : c % b = 0
    · have e : -(c / b) * b = -c := by rw [Int.neg_mul, Int.mul_comm]; omega
      rw [if_neg (fun hh => hh.2 e)]
      refine ((Int.ediv_emod_unique (a := -c) (b := b) (q := -(c / b)) (r := 0) hb).mpr ⟨?_, by omega, by omega⟩).1
      rw [Int.mul_neg]; omega
    · have e : ¬ -(c / b) * b = -c := by rw [Int.neg_mul, Int.mul_comm]; omega
      rw [if_pos ⟨h, e⟩]
      refine ((Int.ediv_emod_unique (a := -c) (b := b) (q := -(c / b) - 1) (r := b - c % b) hb).mpr ⟨?_, by omega, by omega⟩).1
      rw [Int.mul_sub, Int.mul_neg]; omega
  · rw [if_neg (by omega), Int.tdiv_eq_ediv_of_nonneg h]
theorem tq_range {a b : Int} (hb : 0 < b) : (0 ≤ a → 0 ≤ a.tdiv b * b ∧ a.tdiv b * b ≤ a) ∧ (a ≤ 0 → a ≤ a.tdiv b * b ∧ a.tdiv b * b ≤ 0) := by
  have key : ∀ c : Int, 0 ≤ c → 0 ≤ c / b * b ∧ c / b * b ≤ c := fun c hc => by
    have d := Int.mul_ediv_add_emod c b
    have m1 := Int.emod_nonneg c (show b ≠ 0 by omega)
    have q1 := Int.ediv_nonneg hc (Int.le_of_lt hb)
    have q2 := Int.mul_nonneg q1 (Int.le_of_lt hb)
    rw [Int.mul_comm] at d
    omega
  refine ⟨fun h => ?_, fun h => ?_⟩
  · rw [Int.tdiv_eq_ediv_of_nonneg h]; exact key a h
  · obtain ⟨c, rfl⟩ : ∃ c : Int, a = -c := ⟨-a, by omega⟩
    rw [Int.neg_tdiv, Int.tdiv_eq_ediv_of_nonneg (by omega), Int.neg_mul]
    have := key c (by omega)
    omega
def RX20 : String := "java/lang/Math"
def RX21 : String := "java/lang/Integer"
theorem d_Math_max_0 : decode prog_13_method_65_code 0 = .ok (.iload_n 0, 1) := by decide +kernel
theorem d_Math_max_1 : decode prog_13_method_65_code 1 = .ok (.iload_n 1, 1) := by decide +kernel
theorem d_Math_max_2 : decode prog_13_method_65_code 2 = .ok (.if_icmp .lt 7, 3) := by decide +kernel
theorem d_Math_max_5 : decode prog_13_method_65_code 5 = .ok (.iload_n 0, 1) := by decide +kernel
theorem d_Math_max_6 : decode prog_13_method_65_code 6 = .ok (.goto 4, 3) := by decide +kernel
theorem d_Math_max_9 : decode prog_13_method_65_code 9 = .ok (.iload_n 1, 1) := by decide +kernel
theorem d_Math_max_10 : decode prog_13_method_65_code 10 = .ok (.ireturn, 1) := by decide +kernel
set_option maxHeartbeats 8000000 in
set_option maxRecDepth 100000 in
theorem c_Math_max (l : Launch) (D : va_G) (cs : Nat → ClassId) (L : List Nat) (f : Nat → va_E) (sz : Nat) (a b : Int)  (ha : -2147483648 ≤ a ∧ a < 2147483648) (hb : -2147483648 ≤ b ∧ b < 2147483648) : Met l (⟨"java/lang/Math", "max", "(II)I"⟩ : MethodName) (.code (⟨"java/lang/Math", "max", "(II)I"⟩ : MethodName) prog_13_method_65_code 2 (Option.some Jvm.ClassFile.FieldType.int) :: gw) ({ frames := 0, cells := 0, slots := 0, locals := 0 }) (va_Pc [.int (iI a), .int (iI b)] (K0 D vwCl (TY cs) L f sz)) (va_Qi (fun (r : Int32) (g : Nat → va_E) => r = iI (max a b) ∧ g = f) (K1 D vwCl (TY cs) (AL L sz) L) (AL L sz)) 0 0 (AL L sz) := by
  refine va_MetF (cc := prog_13_method_65_code) (maxL := 2) (ret := (Option.some Jvm.ClassFile.FieldType.int)) (by decide +kernel) rfl ?_
  intro p e s m args below meth c s₁ Bd hml hv
  obtain ⟨rfl, hk0⟩ := hv
  obtain ⟨hsz, B⟩ := hk0.start
  subst hsz
  have hx := Bd.exec
  have hb := Bd.bytes
  have hr := Bd.returns
  have hlocks := Bd.notSynchronized
  have hts0 := atoms_spec Bd.pre
  have hown : s.vm.findClass RX20 = some m.cls := findClass_of_methodNamed Bd.named
  have hA : ∀ q, s.heap.size ≤ q → AL L s.heap.size q := fun _ h => Or.inr h
  have hl := lv_entry ([.int (iI a), .int (iI b)]) (n := 2) (Nat.le_of_ble_eq_true rfl)
  rw [lg_entry_eq]
  generalize (lg_sl ([.int (iI a), .int (iI b)]) ++ List.replicate (2 - (lg_sl ([.int (iI a), .int (iI b)])).length) Slot.unset).toArray = ls at hl ⊢
  refine absQ (fun Q R av hQ hR hav => ?_)
  have hts : ∀ w ∈ gw, w.before av s = true := by rw [hav]; exact fun w h => hts0 w (List.mem_cons_of_mem _ h)
  have hRf : R.frames = 0 := by rw [hR]; rfl
  have hRl : R.locals = 0 := by rw [hR]; rfl
  have hRc : R.cells = 0 := by rw [hR]; rfl
  have hRs : R.slots = 0 := by rw [hR]; rfl
  clear hR hts0 Bd
  have hl : lv_has ls 2 [(0, .int (iI a)), (1, .int (iI b))] := hl
  refine lv_iload_n hx hb d_Math_max_0 rfl (lv_at hl 0 rfl) ?_
  refine lv_iload_n hx hb d_Math_max_1 rfl (lv_at hl 1 rfl) ?_
  refine x_icmp_lt (tgt := 9) hx hb d_Math_max_2 (by decide) (by omega) (by omega) (fun h2 => ?_) (fun h2 => ?_)
  · refine lv_iload_n hx hb d_Math_max_9 rfl (lv_at hl 1 rfl) ?_
    subst hQ hav
    exact x_iret hx hb hr hlocks B d_Math_max_10 (⟨by congr 1; omega, rfl⟩)
  · refine lv_iload_n hx hb d_Math_max_5 rfl (lv_at hl 0 rfl) ?_
    refine lv_goto (tgt := 10) hx hb d_Math_max_6 (by decide) ?_
    subst hQ hav
    exact x_iret hx hb hr hlocks B d_Math_max_10 (⟨by congr 1; omega, rfl⟩)
theorem d_Math_min_0 : decode prog_13_method_69_code 0 = .ok (.iload_n 0, 1) := by decide +kernel
theorem d_Math_min_1 : decode prog_13_method_69_code 1 = .ok (.iload_n 1, 1) := by decide +kernel
theorem d_Math_min_2 : decode prog_13_method_69_code 2 = .ok (.if_icmp .gt 7, 3) := by decide +kernel
theorem d_Math_min_5 : decode prog_13_method_69_code 5 = .ok (.iload_n 0, 1) := by decide +kernel
theorem d_Math_min_6 : decode prog_13_method_69_code 6 = .ok (.goto 4, 3) := by decide +kernel
theorem d_Math_min_9 : decode prog_13_method_69_code 9 = .ok (.iload_n 1, 1) := by decide +kernel
theorem d_Math_min_10 : decode prog_13_method_69_code 10 = .ok (.ireturn, 1) := by decide +kernel
set_option maxHeartbeats 8000000 in
set_option maxRecDepth 100000 in
theorem c_Math_min (l : Launch) (D : va_G) (cs : Nat → ClassId) (L : List Nat) (f : Nat → va_E) (sz : Nat) (a b : Int)  (ha : -2147483648 ≤ a ∧ a < 2147483648) (hb : -2147483648 ≤ b ∧ b < 2147483648) : Met l (⟨"java/lang/Math", "min", "(II)I"⟩ : MethodName) (.code (⟨"java/lang/Math", "min", "(II)I"⟩ : MethodName) prog_13_method_69_code 2 (Option.some Jvm.ClassFile.FieldType.int) :: gw) ({ frames := 0, cells := 0, slots := 0, locals := 0 }) (va_Pc [.int (iI a), .int (iI b)] (K0 D vwCl (TY cs) L f sz)) (va_Qi (fun (r : Int32) (g : Nat → va_E) => r = iI (min a b) ∧ g = f) (K1 D vwCl (TY cs) (AL L sz) L) (AL L sz)) 0 0 (AL L sz) := by
  refine va_MetF (cc := prog_13_method_69_code) (maxL := 2) (ret := (Option.some Jvm.ClassFile.FieldType.int)) (by decide +kernel) rfl ?_
  intro p e s m args below meth c s₁ Bd hml hv
  obtain ⟨rfl, hk0⟩ := hv
  obtain ⟨hsz, B⟩ := hk0.start
  subst hsz
  have hx := Bd.exec
  have hb := Bd.bytes
  have hr := Bd.returns
  have hlocks := Bd.notSynchronized
  have hts0 := atoms_spec Bd.pre
  have hown : s.vm.findClass RX20 = some m.cls := findClass_of_methodNamed Bd.named
  have hA : ∀ q, s.heap.size ≤ q → AL L s.heap.size q := fun _ h => Or.inr h
  have hl := lv_entry ([.int (iI a), .int (iI b)]) (n := 2) (Nat.le_of_ble_eq_true rfl)
  rw [lg_entry_eq]
  generalize (lg_sl ([.int (iI a), .int (iI b)]) ++ List.replicate (2 - (lg_sl ([.int (iI a), .int (iI b)])).length) Slot.unset).toArray = ls at hl ⊢
  refine absQ (fun Q R av hQ hR hav => ?_)
  have hts : ∀ w ∈ gw, w.before av s = true := by rw [hav]; exact fun w h => hts0 w (List.mem_cons_of_mem _ h)
  have hRf : R.frames = 0 := by rw [hR]; rfl
  have hRl : R.locals = 0 := by rw [hR]; rfl
  have hRc : R.cells = 0 := by rw [hR]; rfl
  have hRs : R.slots = 0 := by rw [hR]; rfl
  clear hR hts0 Bd
  have hl : lv_has ls 2 [(0, .int (iI a)), (1, .int (iI b))] := hl
  refine lv_iload_n hx hb d_Math_min_0 rfl (lv_at hl 0 rfl) ?_
  refine lv_iload_n hx hb d_Math_min_1 rfl (lv_at hl 1 rfl) ?_
  refine x_icmp_gt (tgt := 9) hx hb d_Math_min_2 (by decide) (by omega) (by omega) (fun h2 => ?_) (fun h2 => ?_)
  · refine lv_iload_n hx hb d_Math_min_9 rfl (lv_at hl 1 rfl) ?_
    subst hQ hav
    exact x_iret hx hb hr hlocks B d_Math_min_10 (⟨by congr 1; omega, rfl⟩)
  · refine lv_iload_n hx hb d_Math_min_5 rfl (lv_at hl 0 rfl) ?_
    refine lv_goto (tgt := 10) hx hb d_Math_min_6 (by decide) ?_
    subst hQ hav
    exact x_iret hx hb hr hlocks B d_Math_min_10 (⟨by congr 1; omega, rfl⟩)
theorem d_Math_abs_0 : decode prog_13_method_59_code 0 = .ok (.iload_n 0, 1) := by decide +kernel
theorem d_Math_abs_1 : decode prog_13_method_59_code 1 = .ok (.ifCond .ge 8, 3) := by decide +kernel
theorem d_Math_abs_4 : decode prog_13_method_59_code 4 = .ok (.iload_n 0, 1) := by decide +kernel
theorem d_Math_abs_5 : decode prog_13_method_59_code 5 = .ok (.ineg, 1) := by decide +kernel
theorem d_Math_abs_6 : decode prog_13_method_59_code 6 = .ok (.goto 4, 3) := by decide +kernel
theorem d_Math_abs_9 : decode prog_13_method_59_code 9 = .ok (.iload_n 0, 1) := by decide +kernel
theorem d_Math_abs_10 : decode prog_13_method_59_code 10 = .ok (.ireturn, 1) := by decide +kernel
set_option maxHeartbeats 8000000 in
set_option maxRecDepth 100000 in
theorem c_Math_abs (l : Launch) (D : va_G) (cs : Nat → ClassId) (L : List Nat) (f : Nat → va_E) (sz : Nat) (a : Int)  (ha : -2147483648 ≤ a ∧ a < 2147483648) : Met l (⟨"java/lang/Math", "abs", "(I)I"⟩ : MethodName) (.code (⟨"java/lang/Math", "abs", "(I)I"⟩ : MethodName) prog_13_method_59_code 1 (Option.some Jvm.ClassFile.FieldType.int) :: gw) ({ frames := 0, cells := 0, slots := 0, locals := 0 }) (va_Pc [.int (iI a)] (K0 D vwCl (TY cs) L f sz)) (va_Qi (fun (r : Int32) (g : Nat → va_E) => r = iI (a.natAbs : Int) ∧ g = f) (K1 D vwCl (TY cs) (AL L sz) L) (AL L sz)) 0 0 (AL L sz) := by
  refine va_MetF (cc := prog_13_method_59_code) (maxL := 1) (ret := (Option.some Jvm.ClassFile.FieldType.int)) (by decide +kernel) rfl ?_
  intro p e s m args below meth c s₁ Bd hml hv
  obtain ⟨rfl, hk0⟩ := hv
  obtain ⟨hsz, B⟩ := hk0.start
  subst hsz
  have hx := Bd.exec
  have hb := Bd.bytes
  have hr := Bd.returns
  have hlocks := Bd.notSynchronized
  have hts0 := atoms_spec Bd.pre
  have hown : s.vm.findClass RX20 = some m.cls := findClass_of_methodNamed Bd.named
  have hA : ∀ q, s.heap.size ≤ q → AL L s.heap.size q := fun _ h => Or.inr h
  have hl := lv_entry ([.int (iI a)]) (n := 1) (Nat.le_of_ble_eq_true rfl)
  rw [lg_entry_eq]
  generalize (lg_sl ([.int (iI a)]) ++ List.replicate (1 - (lg_sl ([.int (iI a)])).length) Slot.unset).toArray = ls at hl ⊢
  refine absQ (fun Q R av hQ hR hav => ?_)
  have hts : ∀ w ∈ gw, w.before av s = true := by rw [hav]; exact fun w h => hts0 w (List.mem_cons_of_mem _ h)
  have hRf : R.frames = 0 := by rw [hR]; rfl
  have hRl : R.locals = 0 := by rw [hR]; rfl
  have hRc : R.cells = 0 := by rw [hR]; rfl
  have hRs : R.slots = 0 := by rw [hR]; rfl
  clear hR hts0 Bd
  have hl : lv_has ls 1 [(0, .int (iI a))] := hl
  refine lv_iload_n hx hb d_Math_abs_0 rfl (lv_at hl 0 rfl) ?_
  refine x_if_ge (tgt := 9) hx hb d_Math_abs_1 (by decide) (by omega) (fun h1 => ?_) (fun h1 => ?_)
  · refine lv_iload_n hx hb d_Math_abs_9 rfl (lv_at hl 0 rfl) ?_
    subst hQ hav
    exact x_iret hx hb hr hlocks B d_Math_abs_10 (⟨by congr 1; omega, rfl⟩)
  · refine lv_iload_n hx hb d_Math_abs_4 rfl (lv_at hl 0 rfl) ?_
    refine x_ineg hx hb d_Math_abs_5 ?_
    refine lv_goto (tgt := 10) hx hb d_Math_abs_6 (by decide) ?_
    subst hQ hav
    exact x_iret hx hb hr hlocks B d_Math_abs_10 (⟨by congr 1; omega, rfl⟩)
theorem d_Int_compare_0 : decode prog_12_method_40_code 0 = .ok (.iload_n 0, 1) := by decide +kernel
theorem d_Int_compare_1 : decode prog_12_method_40_code 1 = .ok (.iload_n 1, 1) := by decide +kernel
theorem d_Int_compare_2 : decode prog_12_method_40_code 2 = .ok (.if_icmp .ge 7, 3) := by decide +kernel
theorem d_Int_compare_5 : decode prog_12_method_40_code 5 = .ok (.iconst (-1), 1) := by decide +kernel
theorem d_Int_compare_6 : decode prog_12_method_40_code 6 = .ok (.goto 13, 3) := by decide +kernel
theorem d_Int_compare_9 : decode prog_12_method_40_code 9 = .ok (.iload_n 0, 1) := by decide +kernel
theorem d_Int_compare_10 : decode prog_12_method_40_code 10 = .ok (.iload_n 1, 1) := by decide +kernel
theorem d_Int_compare_11 : decode prog_12_method_40_code 11 = .ok (.if_icmp .ne 7, 3) := by decide +kernel
theorem d_Int_compare_14 : decode prog_12_method_40_code 14 = .ok (.iconst 0, 1) := by decide +kernel
theorem d_Int_compare_15 : decode prog_12_method_40_code 15 = .ok (.goto 4, 3) := by decide +kernel
theorem d_Int_compare_18 : decode prog_12_method_40_code 18 = .ok (.iconst 1, 1) := by decide +kernel
theorem d_Int_compare_19 : decode prog_12_method_40_code 19 = .ok (.ireturn, 1) := by decide +kernel
set_option maxHeartbeats 8000000 in
set_option maxRecDepth 100000 in
theorem c_Int_compare (l : Launch) (D : va_G) (cs : Nat → ClassId) (L : List Nat) (f : Nat → va_E) (sz : Nat) (a b : Int)  (ha : -2147483648 ≤ a ∧ a < 2147483648) (hb : -2147483648 ≤ b ∧ b < 2147483648) : Met l (⟨"java/lang/Integer", "compare", "(II)I"⟩ : MethodName) (.code (⟨"java/lang/Integer", "compare", "(II)I"⟩ : MethodName) prog_12_method_40_code 2 (Option.some Jvm.ClassFile.FieldType.int) :: gw) ({ frames := 0, cells := 0, slots := 0, locals := 0 }) (va_Pc [.int (iI a), .int (iI b)] (K0 D vwCl (TY cs) L f sz)) (va_Qi (fun (r : Int32) (g : Nat → va_E) => r = iI (cmq a b) ∧ g = f) (K1 D vwCl (TY cs) (AL L sz) L) (AL L sz)) 0 0 (AL L sz) := by
  refine va_MetF (cc := prog_12_method_40_code) (maxL := 2) (ret := (Option.some Jvm.ClassFile.FieldType.int)) (by decide +kernel) rfl ?_
  intro p e s m args below meth c s₁ Bd hml hv
  obtain ⟨rfl, hk0⟩ := hv
  obtain ⟨hsz, B⟩ := hk0.start
  subst hsz
  have hx := Bd.exec
  have hb := Bd.bytes
  have hr := Bd.returns
  have hlocks := Bd.notSynchronized
  have hts0 := atoms_spec Bd.pre
  have hown : s.vm.findClass RX21 = some m.cls := findClass_of_methodNamed Bd.named
  have hA : ∀ q, s.heap.size ≤ q → AL L s.heap.size q := fun _ h => Or.inr h
  have hl := lv_entry ([.int (iI a), .int (iI b)]) (n := 2) (Nat.le_of_ble_eq_true rfl)
  rw [lg_entry_eq]
  generalize (lg_sl ([.int (iI a), .int (iI b)]) ++ List.replicate (2 - (lg_sl ([.int (iI a), .int (iI b)])).length) Slot.unset).toArray = ls at hl ⊢
  refine absQ (fun Q R av hQ hR hav => ?_)
  have hts : ∀ w ∈ gw, w.before av s = true := by rw [hav]; exact fun w h => hts0 w (List.mem_cons_of_mem _ h)
  have hRf : R.frames = 0 := by rw [hR]; rfl
  have hRl : R.locals = 0 := by rw [hR]; rfl
  have hRc : R.cells = 0 := by rw [hR]; rfl
  have hRs : R.slots = 0 := by rw [hR]; rfl
  clear hR hts0 Bd
  have hl : lv_has ls 2 [(0, .int (iI a)), (1, .int (iI b))] := hl
  refine lv_iload_n hx hb d_Int_compare_0 rfl (lv_at hl 0 rfl) ?_
  refine lv_iload_n hx hb d_Int_compare_1 rfl (lv_at hl 1 rfl) ?_
  refine x_icmp_ge (tgt := 9) hx hb d_Int_compare_2 (by decide) (by omega) (by omega) (fun h2 => ?_) (fun h2 => ?_)
  · refine lv_iload_n hx hb d_Int_compare_9 rfl (lv_at hl 0 rfl) ?_
    refine lv_iload_n hx hb d_Int_compare_10 rfl (lv_at hl 1 rfl) ?_
    refine x_icmp_ne (tgt := 18) hx hb d_Int_compare_11 (by decide) (by omega) (by omega) (fun h11 => ?_) (fun h11 => ?_)
    · refine x_iconst hx hb d_Int_compare_18 ?_
      subst hQ hav
      exact x_iret hx hb hr hlocks B d_Int_compare_19 (⟨by unfold cmq; first | rw [if_pos (show a < b by omega)] | rw [if_neg (show ¬ a < b by omega), if_pos (show a = b by omega)] | rw [if_neg (show ¬ a < b by omega), if_neg (show ¬ a = b by omega)], rfl⟩)
    · refine x_iconst hx hb d_Int_compare_14 ?_
      refine lv_goto (tgt := 19) hx hb d_Int_compare_15 (by decide) ?_
      subst hQ hav
      exact x_iret hx hb hr hlocks B d_Int_compare_19 (⟨by unfold cmq; first | rw [if_pos (show a < b by omega)] | rw [if_neg (show ¬ a < b by omega), if_pos (show a = b by omega)] | rw [if_neg (show ¬ a < b by omega), if_neg (show ¬ a = b by omega)], rfl⟩)
  · refine x_iconst hx hb d_Int_compare_5 ?_
    refine lv_goto (tgt := 19) hx hb d_Int_compare_6 (by decide) ?_
    subst hQ hav
    exact x_iret hx hb hr hlocks B d_Int_compare_19 (⟨by unfold cmq; first | rw [if_pos (show a < b by omega)] | rw [if_neg (show ¬ a < b by omega), if_pos (show a = b by omega)] | rw [if_neg (show ¬ a < b by omega), if_neg (show ¬ a = b by omega)], rfl⟩)
theorem d_Math_floorDiv_0 : decode prog_13_method_47_code 0 = .ok (.iload_n 0, 1) := by decide +kernel
theorem d_Math_floorDiv_1 : decode prog_13_method_47_code 1 = .ok (.iload_n 1, 1) := by decide +kernel
theorem d_Math_floorDiv_2 : decode prog_13_method_47_code 2 = .ok (.idiv, 1) := by decide +kernel
theorem d_Math_floorDiv_3 : decode prog_13_method_47_code 3 = .ok (.istore_n 2, 1) := by decide +kernel
theorem d_Math_floorDiv_4 : decode prog_13_method_47_code 4 = .ok (.iload_n 0, 1) := by decide +kernel
theorem d_Math_floorDiv_5 : decode prog_13_method_47_code 5 = .ok (.iload_n 1, 1) := by decide +kernel
theorem d_Math_floorDiv_6 : decode prog_13_method_47_code 6 = .ok (.ixor, 1) := by decide +kernel
theorem d_Math_floorDiv_7 : decode prog_13_method_47_code 7 = .ok (.ifCond .ge 14, 3) := by decide +kernel
theorem d_Math_floorDiv_10 : decode prog_13_method_47_code 10 = .ok (.iload_n 2, 1) := by decide +kernel
theorem d_Math_floorDiv_11 : decode prog_13_method_47_code 11 = .ok (.iload_n 1, 1) := by decide +kernel
theorem d_Math_floorDiv_12 : decode prog_13_method_47_code 12 = .ok (.imul, 1) := by decide +kernel
theorem d_Math_floorDiv_13 : decode prog_13_method_47_code 13 = .ok (.iload_n 0, 1) := by decide +kernel
theorem d_Math_floorDiv_14 : decode prog_13_method_47_code 14 = .ok (.if_icmp .eq 7, 3) := by decide +kernel
theorem d_Math_floorDiv_17 : decode prog_13_method_47_code 17 = .ok (.iload_n 2, 1) := by decide +kernel
theorem d_Math_floorDiv_18 : decode prog_13_method_47_code 18 = .ok (.iconst 1, 1) := by decide +kernel
theorem d_Math_floorDiv_19 : decode prog_13_method_47_code 19 = .ok (.isub, 1) := by decide +kernel
theorem d_Math_floorDiv_20 : decode prog_13_method_47_code 20 = .ok (.ireturn, 1) := by decide +kernel
theorem d_Math_floorDiv_21 : decode prog_13_method_47_code 21 = .ok (.iload_n 2, 1) := by decide +kernel
theorem d_Math_floorDiv_22 : decode prog_13_method_47_code 22 = .ok (.ireturn, 1) := by decide +kernel
set_option maxHeartbeats 8000000 in
set_option maxRecDepth 100000 in
theorem c_Math_floorDiv (l : Launch) (D : va_G) (cs : Nat → ClassId) (L : List Nat) (f : Nat → va_E) (sz : Nat) (a b : Int) (ha : -2147483648 ≤ a ∧ a < 2147483648) (hbp : 0 < b ∧ b < 2147483648) : Met l (⟨"java/lang/Math", "floorDiv", "(II)I"⟩ : MethodName) (.code (⟨"java/lang/Math", "floorDiv", "(II)I"⟩ : MethodName) prog_13_method_47_code 3 (Option.some Jvm.ClassFile.FieldType.int) :: gw) ({ frames := 0, cells := 0, slots := 0, locals := 0 }) (va_Pc [.int (iI a), .int (iI b)] (K0 D vwCl (TY cs) L f sz)) (va_Qi (fun (r : Int32) (g : Nat → va_E) => r = iI (a / b) ∧ g = f) (K1 D vwCl (TY cs) (AL L sz) L) (AL L sz)) 0 0 (AL L sz) := by
  refine va_MetF (cc := prog_13_method_47_code) (maxL := 3) (ret := (Option.some Jvm.ClassFile.FieldType.int)) (by decide +kernel) rfl ?_
  intro p e s m args below meth c s₁ Bd hml hv
  obtain ⟨rfl, hk0⟩ := hv
  obtain ⟨hsz, B⟩ := hk0.start
  subst hsz
  have hx := Bd.exec
  have hb := Bd.bytes
  have hr := Bd.returns
  have hlocks := Bd.notSynchronized
  have hts0 := atoms_spec Bd.pre
  have hown : s.vm.findClass RX20 = some m.cls := findClass_of_methodNamed Bd.named
  have hA : ∀ q, s.heap.size ≤ q → AL L s.heap.size q := fun _ h => Or.inr h
  have hl := lv_entry ([.int (iI a), .int (iI b)]) (n := 3) (Nat.le_of_ble_eq_true rfl)
  rw [lg_entry_eq]
  generalize (lg_sl ([.int (iI a), .int (iI b)]) ++ List.replicate (3 - (lg_sl ([.int (iI a), .int (iI b)])).length) Slot.unset).toArray = ls at hl ⊢
  refine absQ (fun Q R av hQ hR hav => ?_)
  have hts : ∀ w ∈ gw, w.before av s = true := by rw [hav]; exact fun w h => hts0 w (List.mem_cons_of_mem _ h)
  have hRf : R.frames = 0 := by rw [hR]; rfl
  have hRl : R.locals = 0 := by rw [hR]; rfl
  have hRc : R.cells = 0 := by rw [hR]; rfl
  have hRs : R.slots = 0 := by rw [hR]; rfl
  clear hR hts0 Bd
  have hl : lv_has ls 3 [(0, .int (iI a)), (1, .int (iI b))] := hl
  refine lv_iload_n hx hb d_Math_floorDiv_0 rfl (lv_at hl 0 rfl) ?_
  refine lv_iload_n hx hb d_Math_floorDiv_1 rfl (lv_at hl 1 rfl) ?_
  refine x_idiv hx hb d_Math_floorDiv_2 (by omega) (by omega) (by omega) ?_
  refine lv_istore_n (lv' := [(2, .int (iI (a.tdiv b))), (0, .int (iI a)), (1, .int (iI b))]) hx hb d_Math_floorDiv_3 rfl hl (by decide) rfl (fun ls hl => ?_)
  refine lv_iload_n hx hb d_Math_floorDiv_4 rfl (lv_at hl 1 rfl) ?_
  refine lv_iload_n hx hb d_Math_floorDiv_5 rfl (lv_at hl 2 rfl) ?_
  obtain ⟨xw, hxw, hxr, hxs⟩ := iI_xsgn (a := a) (b := b) (ha) (by omega)
  refine lv_ixor hx hb d_Math_floorDiv_6 ?_
  rw [hxw]
  refine x_if_ge (tgt := 21) hx hb d_Math_floorDiv_7 (by decide) (by omega) (fun h7 => ?_) (fun h7 => ?_)
  · refine lv_iload_n hx hb d_Math_floorDiv_21 rfl (lv_at hl 0 rfl) ?_
    subst hQ hav
    exact x_iret hx hb hr hlocks B d_Math_floorDiv_22 (⟨by rw [floor_fix (q := a.tdiv b) hbp.1 rfl, if_neg (fun h => by have h7 := hxs.mpr h.1; have h8 := h.2; omega)], rfl⟩)
  · have hqb := tq_range (a := a) (b := b) hbp.1
    refine lv_iload_n hx hb d_Math_floorDiv_10 rfl (lv_at hl 0 rfl) ?_
    refine lv_iload_n hx hb d_Math_floorDiv_11 rfl (lv_at hl 2 rfl) ?_
    refine x_imul hx hb d_Math_floorDiv_12 ?_
    refine lv_iload_n hx hb d_Math_floorDiv_13 rfl (lv_at hl 1 rfl) ?_
    refine x_icmp_eq (tgt := 21) hx hb d_Math_floorDiv_14 (by decide) (by omega) (by omega) (fun h14 => ?_) (fun h14 => ?_)
    · refine lv_iload_n hx hb d_Math_floorDiv_21 rfl (lv_at hl 0 rfl) ?_
      subst hQ hav
      exact x_iret hx hb hr hlocks B d_Math_floorDiv_22 (⟨by rw [floor_fix (q := a.tdiv b) hbp.1 rfl, if_neg (fun h => by have h7 := hxs.mpr h.1; have h8 := h.2; omega)], rfl⟩)
    · refine lv_iload_n hx hb d_Math_floorDiv_17 rfl (lv_at hl 0 rfl) ?_
      refine x_iconst hx hb d_Math_floorDiv_18 ?_
      refine x_isub hx hb d_Math_floorDiv_19 ?_
      subst hQ hav
      exact x_iret hx hb hr hlocks B d_Math_floorDiv_20 (⟨by rw [floor_fix (q := a.tdiv b) hbp.1 rfl, if_pos ⟨hxs.mp (by omega), by omega⟩], rfl⟩)
theorem d_Math_floorDivJ_0 : decode prog_13_method_49_code 0 = .ok (.lload_n 0, 1) := by decide +kernel
theorem d_Math_floorDivJ_1 : decode prog_13_method_49_code 1 = .ok (.lload_n 2, 1) := by decide +kernel
theorem d_Math_floorDivJ_2 : decode prog_13_method_49_code 2 = .ok (.ldiv, 1) := by decide +kernel
theorem d_Math_floorDivJ_3 : decode prog_13_method_49_code 3 = .ok (.lstore 4, 2) := by decide +kernel
theorem d_Math_floorDivJ_5 : decode prog_13_method_49_code 5 = .ok (.lload_n 0, 1) := by decide +kernel
theorem d_Math_floorDivJ_6 : decode prog_13_method_49_code 6 = .ok (.lload_n 2, 1) := by decide +kernel
theorem d_Math_floorDivJ_7 : decode prog_13_method_49_code 7 = .ok (.lxor, 1) := by decide +kernel
theorem d_Math_floorDivJ_8 : decode prog_13_method_49_code 8 = .ok (.lconst 0, 1) := by decide +kernel
theorem d_Math_floorDivJ_9 : decode prog_13_method_49_code 9 = .ok (.lcmp, 1) := by decide +kernel
theorem d_Math_floorDivJ_10 : decode prog_13_method_49_code 10 = .ok (.ifCond .ge 17, 3) := by decide +kernel
theorem d_Math_floorDivJ_13 : decode prog_13_method_49_code 13 = .ok (.lload 4, 2) := by decide +kernel
theorem d_Math_floorDivJ_15 : decode prog_13_method_49_code 15 = .ok (.lload_n 2, 1) := by decide +kernel
theorem d_Math_floorDivJ_16 : decode prog_13_method_49_code 16 = .ok (.lmul, 1) := by decide +kernel
theorem d_Math_floorDivJ_17 : decode prog_13_method_49_code 17 = .ok (.lload_n 0, 1) := by decide +kernel
theorem d_Math_floorDivJ_18 : decode prog_13_method_49_code 18 = .ok (.lcmp, 1) := by decide +kernel
theorem d_Math_floorDivJ_19 : decode prog_13_method_49_code 19 = .ok (.ifCond .eq 8, 3) := by decide +kernel
theorem d_Math_floorDivJ_22 : decode prog_13_method_49_code 22 = .ok (.lload 4, 2) := by decide +kernel
theorem d_Math_floorDivJ_24 : decode prog_13_method_49_code 24 = .ok (.lconst 1, 1) := by decide +kernel
theorem d_Math_floorDivJ_25 : decode prog_13_method_49_code 25 = .ok (.lsub, 1) := by decide +kernel
theorem d_Math_floorDivJ_26 : decode prog_13_method_49_code 26 = .ok (.lreturn, 1) := by decide +kernel
theorem d_Math_floorDivJ_27 : decode prog_13_method_49_code 27 = .ok (.lload 4, 2) := by decide +kernel
theorem d_Math_floorDivJ_29 : decode prog_13_method_49_code 29 = .ok (.lreturn, 1) := by decide +kernel
set_option maxHeartbeats 8000000 in
set_option maxRecDepth 100000 in
theorem c_Math_floorDivJ (l : Launch) (D : va_G) (cs : Nat → ClassId) (L : List Nat) (f : Nat → va_E) (sz : Nat) (a b : Int) (ha : -9223372036854775808 ≤ a ∧ a < 9223372036854775808) (hbp : 0 < b ∧ b < 9223372036854775808) : Met l (⟨"java/lang/Math", "floorDiv", "(JJ)J"⟩ : MethodName) (.code (⟨"java/lang/Math", "floorDiv", "(JJ)J"⟩ : MethodName) prog_13_method_49_code 6 (Option.some Jvm.ClassFile.FieldType.long) :: gw) ({ frames := 0, cells := 0, slots := 0, locals := 0 }) (va_Pc [.long (lI a), .long (lI b)] (K0 D vwCl (TY cs) L f sz)) (va_Ql (fun (r : Int64) (g : Nat → va_E) => r = lI (a / b) ∧ g = f) (K1 D vwCl (TY cs) (AL L sz) L) (AL L sz)) 0 0 (AL L sz) := by
  refine va_MetF (cc := prog_13_method_49_code) (maxL := 6) (ret := (Option.some Jvm.ClassFile.FieldType.long)) (by decide +kernel) rfl ?_
  intro p e s m args below meth c s₁ Bd hml hv
  obtain ⟨rfl, hk0⟩ := hv
  obtain ⟨hsz, B⟩ := hk0.start
  subst hsz
  have hx := Bd.exec
  have hb := Bd.bytes
  have hr := Bd.returns
  have hlocks := Bd.notSynchronized
  have hts0 := atoms_spec Bd.pre
  have hown : s.vm.findClass RX20 = some m.cls := findClass_of_methodNamed Bd.named
  have hA : ∀ q, s.heap.size ≤ q → AL L s.heap.size q := fun _ h => Or.inr h
  have hl := lv_entry ([.long (lI a), .long (lI b)]) (n := 6) (Nat.le_of_ble_eq_true rfl)
  rw [lg_entry_eq]
  generalize (lg_sl ([.long (lI a), .long (lI b)]) ++ List.replicate (6 - (lg_sl ([.long (lI a), .long (lI b)])).length) Slot.unset).toArray = ls at hl ⊢
  refine absQ (fun Q R av hQ hR hav => ?_)
  have hts : ∀ w ∈ gw, w.before av s = true := by rw [hav]; exact fun w h => hts0 w (List.mem_cons_of_mem _ h)
  have hRf : R.frames = 0 := by rw [hR]; rfl
  have hRl : R.locals = 0 := by rw [hR]; rfl
  have hRc : R.cells = 0 := by rw [hR]; rfl
  have hRs : R.slots = 0 := by rw [hR]; rfl
  clear hR hts0 Bd
  have hl : lv_has ls 6 [(0, .long (lI a)), (2, .long (lI b))] := hl
  refine lv_lload_n hx hb d_Math_floorDivJ_0 rfl (lv_at hl 0 rfl) ?_
  refine lv_lload_n hx hb d_Math_floorDivJ_1 rfl (lv_at hl 1 rfl) ?_
  refine x_ldiv hx hb d_Math_floorDivJ_2 (by omega) (by omega) (by omega) ?_
  refine lv_lstore (lv' := [(4, .long (lI (a.tdiv b))), (0, .long (lI a)), (2, .long (lI b))]) hx hb d_Math_floorDivJ_3 hl (by decide) rfl (fun ls hl => ?_)
  refine lv_lload_n hx hb d_Math_floorDivJ_5 rfl (lv_at hl 1 rfl) ?_
  refine lv_lload_n hx hb d_Math_floorDivJ_6 rfl (lv_at hl 2 rfl) ?_
  obtain ⟨xw, hxw, hxr, hxs⟩ := lI_xsgn (a := a) (b := b) (ha) (by omega)
  refine lv_lxor hx hb d_Math_floorDivJ_7 ?_
  rw [hxw]
  refine x_lconst (z := 0) hx hb d_Math_floorDivJ_8 (by decide) ?_
  refine x_lc_ge (tgt := 27) hx hb d_Math_floorDivJ_9 rfl d_Math_floorDivJ_10 (by decide) (by omega) (by omega) (fun h10 => ?_) (fun h10 => ?_)
  · refine lv_lload hx hb d_Math_floorDivJ_27 (lv_at hl 0 rfl) ?_
    subst hQ hav
    exact x_lret hx hb hr hlocks B d_Math_floorDivJ_29 (⟨by rw [floor_fix (q := a.tdiv b) hbp.1 rfl, if_neg (fun h => by have h7 := hxs.mpr h.1; have h8 := h.2; omega)], rfl⟩)
  · have hqb := tq_range (a := a) (b := b) hbp.1
    refine lv_lload hx hb d_Math_floorDivJ_13 (lv_at hl 0 rfl) ?_
    refine lv_lload_n hx hb d_Math_floorDivJ_15 rfl (lv_at hl 2 rfl) ?_
    refine x_lmul hx hb d_Math_floorDivJ_16 ?_
    refine lv_lload_n hx hb d_Math_floorDivJ_17 rfl (lv_at hl 1 rfl) ?_
    refine x_lc_eq (tgt := 27) hx hb d_Math_floorDivJ_18 rfl d_Math_floorDivJ_19 (by decide) (by omega) (by omega) (fun h19 => ?_) (fun h19 => ?_)
    · refine lv_lload hx hb d_Math_floorDivJ_27 (lv_at hl 0 rfl) ?_
      subst hQ hav
      exact x_lret hx hb hr hlocks B d_Math_floorDivJ_29 (⟨by rw [floor_fix (q := a.tdiv b) hbp.1 rfl, if_neg (fun h => by have h7 := hxs.mpr h.1; have h8 := h.2; omega)], rfl⟩)
    · refine lv_lload hx hb d_Math_floorDivJ_22 (lv_at hl 0 rfl) ?_
      refine x_lconst (z := 1) hx hb d_Math_floorDivJ_24 (by decide) ?_
      refine x_lsub hx hb d_Math_floorDivJ_25 ?_
      subst hQ hav
      exact x_lret hx hb hr hlocks B d_Math_floorDivJ_26 (⟨by rw [floor_fix (q := a.tdiv b) hbp.1 rfl, if_pos ⟨hxs.mp (by omega), by omega⟩], rfl⟩)
