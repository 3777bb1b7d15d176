theorem d_Mo_in_0 : decode prog_9_method_3_code 0 = .ok (.lload_n 0, 1) := by decide +kernel
theorem d_Mo_in_1 : decode prog_9_method_3_code 1 = .ok (.lload_n 2, 1) := by decide +kernel
theorem d_Mo_in_2 : decode prog_9_method_3_code 2 = .ok (.lcmp, 1) := by decide +kernel
theorem d_Mo_in_3 : decode prog_9_method_3_code 3 = .ok (.ifCond .lt 14, 3) := by decide +kernel
theorem d_Mo_in_6 : decode prog_9_method_3_code 6 = .ok (.lload_n 0, 1) := by decide +kernel
theorem d_Mo_in_7 : decode prog_9_method_3_code 7 = .ok (.lload 4, 2) := by decide +kernel
theorem d_Mo_in_9 : decode prog_9_method_3_code 9 = .ok (.lcmp, 1) := by decide +kernel
theorem d_Mo_in_10 : decode prog_9_method_3_code 10 = .ok (.ifCond .gt 7, 3) := by decide +kernel
theorem d_Mo_in_13 : decode prog_9_method_3_code 13 = .ok (.iconst 1, 1) := by decide +kernel
theorem d_Mo_in_14 : decode prog_9_method_3_code 14 = .ok (.goto 4, 3) := by decide +kernel
theorem d_Mo_in_17 : decode prog_9_method_3_code 17 = .ok (.iconst 0, 1) := by decide +kernel
theorem d_Mo_in_18 : decode prog_9_method_3_code 18 = .ok (.ireturn, 1) := by decide +kernel
set_option maxHeartbeats 8000000 in
set_option maxRecDepth 100000 in
theorem c_Mo_in (l : Launch) (D : va_G) (cs : Nat → ClassId) (L : List Nat) (f : Nat → va_E) (sz : Nat) (a1 a2 a3 : Int) (ha1 : -9223372036854775808 ≤ a1 ∧ a1 < 9223372036854775808) (ha2 : -9223372036854775808 ≤ a2 ∧ a2 < 9223372036854775808) (ha3 : -9223372036854775808 ≤ a3 ∧ a3 < 9223372036854775808) : Met l (⟨"RealRootsModel", "in", "(JJJ)Z"⟩ : MethodName) (.code (⟨"RealRootsModel", "in", "(JJJ)Z"⟩ : MethodName) prog_9_method_3_code 6 (Option.some Jvm.ClassFile.FieldType.boolean) :: gw) ({ frames := 0, cells := 0, slots := 0, locals := 0 }) (va_Pc [.long (lI a1), .long (lI a2), .long (lI a3)] (K0 D vwCl (TY cs) L f sz)) (va_Qi (fun (r : Int32) (g : Nat → va_E) => r = iI (if a2 ≤ a1 ∧ a1 ≤ a3 then 1 else 0) ∧ g = f) (K1 D vwCl (TY cs) (AL L sz) L) (AL L sz)) 0 0 (AL L sz) := by
  refine Met.ofW (cc := prog_9_method_3_code) (maxL := 6) (ret := (Option.some Jvm.ClassFile.FieldType.boolean)) (by decide) rfl ?_
  intro p e s m args below meth c s₁ Bd hml hv
  obtain ⟨rfl, hk0⟩ := hv
  obtain ⟨hsz, B⟩ := hk0.start
  subst hsz
  have hx := Bd.exec
  have hb := Bd.bytes
  have hr := Bd.returns
  have hlocks := Bd.notSynchronized
  have hts0 := atoms_spec Bd.pre
  have hown : s.vm.findClass RX7 = some m.cls := findClass_of_methodNamed Bd.named
  have hA : ∀ q, s.heap.size ≤ q → AL L s.heap.size q := fun _ h => Or.inr h
  have hl := lv_entry ([.long (lI a1), .long (lI a2), .long (lI a3)]) (n := 6) (Nat.le_of_ble_eq_true rfl)
  rw [lg_entry_eq]
  generalize (lg_sl ([.long (lI a1), .long (lI a2), .long (lI a3)]) ++ List.replicate (6 - (lg_sl ([.long (lI a1), .long (lI a2), .long (lI a3)])).length) Slot.unset).toArray = ls at hl ⊢
  refine absQ (fun Q R av hQ hR hav => ?_)
  have hts : ∀ w ∈ gw, w.before av s = true := by rw [hav]; exact fun w h => hts0 w (List.mem_cons_of_mem _ h)
  have hRf : R.frames = 0 := by rw [hR]; rfl
  have hRl : R.locals = 0 := by rw [hR]; rfl
  have hRc : R.cells = 0 := by rw [hR]; rfl
  have hRs : R.slots = 0 := by rw [hR]; rfl
  clear hR hts0 Bd
  have hl : lv_has ls 6 [(0, .long (lI a1)), (2, .long (lI a2)), (4, .long (lI a3))] := hl
  refine lv_lload_n hx hb d_Mo_in_0 rfl (lv_at hl 0 rfl) ?_
  refine lv_lload_n hx hb d_Mo_in_1 rfl (lv_at hl 1 rfl) ?_
  refine x_lc_lt (tgt := 17) hx hb d_Mo_in_2 rfl d_Mo_in_3 (by decide) (by omega) (by omega) (fun h3 => ?_) (fun h3 => ?_)
  · refine x_iconst hx hb d_Mo_in_17 ?_
    subst hQ hav
    exact x_zret hx hb hr (by decide) hlocks B d_Mo_in_18 (⟨by rw [if_neg (by omega)], rfl⟩)
  · refine lv_lload_n hx hb d_Mo_in_6 rfl (lv_at hl 0 rfl) ?_
    refine lv_lload hx hb d_Mo_in_7 (lv_at hl 2 rfl) ?_
    refine x_lc_gt (tgt := 17) hx hb d_Mo_in_9 rfl d_Mo_in_10 (by decide) (by omega) (by omega) (fun h10 => ?_) (fun h10 => ?_)
    · refine x_iconst hx hb d_Mo_in_17 ?_
      subst hQ hav
      exact x_zret hx hb hr (by decide) hlocks B d_Mo_in_18 (⟨by rw [if_neg (by omega)], rfl⟩)
    · refine x_iconst hx hb d_Mo_in_13 ?_
      refine lv_goto (tgt := 18) hx hb d_Mo_in_14 (by decide) ?_
      subst hQ hav
      exact x_zret hx hb hr (by decide) hlocks B d_Mo_in_18 (⟨by rw [if_pos (by omega)], rfl⟩)
theorem d_Mo_is_0 : decode prog_9_method_21_code 0 = .ok (.iload_n 1, 1) := by decide +kernel
theorem d_Mo_is_1 : decode prog_9_method_21_code 1 = .ok (.i2l, 1) := by decide +kernel
theorem d_Mo_is_2 : decode prog_9_method_21_code 2 = .ok (.lconst 0, 1) := by decide +kernel
theorem d_Mo_is_3 : decode prog_9_method_21_code 3 = .ok (.aload_n 0, 1) := by decide +kernel
theorem d_Mo_is_4 : decode prog_9_method_21_code 4 = .ok (.getfield 108, 3) := by decide +kernel
theorem d_Mo_is_7 : decode prog_9_method_21_code 7 = .ok (.iconst 1, 1) := by decide +kernel
theorem d_Mo_is_8 : decode prog_9_method_21_code 8 = .ok (.isub, 1) := by decide +kernel
theorem d_Mo_is_9 : decode prog_9_method_21_code 9 = .ok (.i2l, 1) := by decide +kernel
theorem d_Mo_is_10 : decode prog_9_method_21_code 10 = .ok (.invokestatic 111, 3) := by decide +kernel
theorem d_Mo_is_13 : decode prog_9_method_21_code 13 = .ok (.ireturn, 1) := by decide +kernel
set_option maxHeartbeats 8000000 in
set_option maxRecDepth 100000 in
theorem c_Mo_is (l : Launch) (D : va_G) (cs : Nat → ClassId) (L : List Nat) (f : Nat → va_E) (sz : Nat) (y m1 m2 m3 m5 m6 m7 m8 m9 m10 m11 m12 m13 m15 : Nat) (th pn rw_ fu fb : Int) (a1 : Int) (hF : Fc L [y]) (ha : f y = .inr (7, [.int (iI th), .ref m1, .ref m2, .ref m3, .int (iI pn), .ref m5, .ref m6, .ref m7, .ref m8, .ref m9, .ref m10, .ref m11, .ref m12, .ref m13, .int (iI rw_), .ref m15, .long (lI fu), .long (lI fb)])) (hpn : 0 ≤ pn ∧ pn ≤ 12) (ha1 : -2147483648 ≤ a1 ∧ a1 < 2147483648) : Met l (⟨"RealRootsModel", "is", "(I)Z"⟩ : MethodName) (.code (⟨"RealRootsModel", "is", "(I)Z"⟩ : MethodName) prog_9_method_21_code 2 (Option.some Jvm.ClassFile.FieldType.boolean) :: gw) ({ frames := 1, cells := 0, slots := 0, locals := 25 }) (va_Pc [.ref y, .int (iI a1)] (K0 D vwCl (TY cs) L f sz)) (va_Qi (fun (r : Int32) (g : Nat → va_E) => r = iI (if 0 ≤ a1 ∧ a1 ≤ pn - 1 then 1 else 0) ∧ g = f) (K1 D vwCl (TY cs) (AL L sz) L) (AL L sz)) 0 0 (AL L sz) := by
  refine Met.ofW (cc := prog_9_method_21_code) (maxL := 2) (ret := (Option.some Jvm.ClassFile.FieldType.boolean)) (by decide) rfl ?_
  intro p e s m args below meth c s₁ Bd hml hv
  obtain ⟨rfl, hk0⟩ := hv
  obtain ⟨hsz, B⟩ := hk0.start
  subst hsz
  have hx := Bd.exec
  have hb := Bd.bytes
  have hr := Bd.returns
  have hlocks := Bd.notSynchronized
  have hts0 := atoms_spec Bd.pre
  have hown : s.vm.findClass RX7 = some m.cls := findClass_of_methodNamed Bd.named
  have hA : ∀ q, s.heap.size ≤ q → AL L s.heap.size q := fun _ h => Or.inr h
  have hl := lv_entry ([.ref y, .int (iI a1)]) (n := 2) (Nat.le_of_ble_eq_true rfl)
  rw [lg_entry_eq]
  generalize (lg_sl ([.ref y, .int (iI a1)]) ++ List.replicate (2 - (lg_sl ([.ref y, .int (iI a1)])).length) Slot.unset).toArray = ls at hl ⊢
  refine absQ (fun Q R av hQ hR hav => ?_)
  have hts : ∀ w ∈ gw, w.before av s = true := by rw [hav]; exact fun w h => hts0 w (List.mem_cons_of_mem _ h)
  have hRf : R.frames = 1 := by rw [hR]; rfl
  have hRl : R.locals = 25 := by rw [hR]; rfl
  have hRc : R.cells = 0 := by rw [hR]; rfl
  have hRs : R.slots = 0 := by rw [hR]; rfl
  clear hR hts0 Bd
  have hl : lv_has ls 2 [(0, .ref y), (1, .int (iI a1))] := hl
  have hfx : ∀ q ∈ ([(y, .inr (7, [.int (iI th), .ref m1, .ref m2, .ref m3, .int (iI pn), .ref m5, .ref m6, .ref m7, .ref m8, .ref m9, .ref m10, .ref m11, .ref m12, .ref m13, .int (iI rw_), .ref m15, .long (lI fu), .long (lI fb)]))] : List (Nat × va_E)), f q.1 = q.2 := fun q hq => by
    simp only [List.mem_cons, List.not_mem_nil, or_false] at hq
    rcases hq with rfl
    · exact ha
  have hmw : mw f [(y, .inr (7, [.int (iI th), .ref m1, .ref m2, .ref m3, .int (iI pn), .ref m5, .ref m6, .ref m7, .ref m8, .ref m9, .ref m10, .ref m11, .ref m12, .ref m13, .int (iI rw_), .ref m15, .long (lI fu), .long (lI fb)]))] = f := mw_self (fun k a e hk => hfx (a, e) (List.mem_of_getElem? hk))
  have B := B.focus [(y, .inr (7, [.int (iI th), .ref m1, .ref m2, .ref m3, .int (iI pn), .ref m5, .ref m6, .ref m7, .ref m8, .ref m9, .ref m10, .ref m11, .ref m12, .ref m13, .int (iI rw_), .ref m15, .long (lI fu), .long (lI fb)]))] hfx
  refine lv_iload_n hx hb d_Mo_is_0 rfl (lv_at hl 1 rfl) ?_
  refine x_i2l hx hb d_Mo_is_1 (by omega) ?_
  refine x_lconst (z := 0) hx hb d_Mo_is_2 (by decide) ?_
  refine lv_aload_n hx hb d_Mo_is_3 rfl (lv_at hl 0 rfl) ?_
  refine x_get (C := RX7) (T := TX7) (N := 18) hx hb hts inX7 hown B hF 0 rfl rfl 4 (by decide) (hts _ w_681) (fun _ h9 => h9) rfl d_Mo_is_4 ?_
  refine x_iconst hx hb d_Mo_is_7 ?_
  refine x_isub hx hb d_Mo_is_8 ?_
  refine x_i2l hx hb d_Mo_is_9 (by omega) ?_
  refine x_calli B hA (va_runS (As := [.long (lI a1), .long (lI 0), .long (lI (pn - 1))]) (rest := []) ⟨hx, hb, hml, hown, hts⟩ (c_Mo_in l D cs _ _ _ a1 0 (pn - 1) (by omega) (by omega) (by omega)) (va_cwS 3 hts (gw_S w_749 w_750 w_8 w_751) rfl rfl rfl (by decide +kernel) ⟨by rw [hRf]; exact Nat.le_of_ble_eq_true rfl, by rw [hRl]; exact Nat.le_of_ble_eq_true rfl⟩) ⟨K0.blind, B.pre _⟩ rfl rfl hl.1 rfl (lv_room (Nat.le_of_ble_eq_true rfl)) d_Mo_is_10 ⟨by rw [hRc]; omega, by rw [hRs]; omega⟩) (fun r10 g10 H locs hw B => ?_)
  obtain ⟨rfl, rfl⟩ := hw
  have B : Wb D vwCl (TY cs) L (mw f [(y, .inr (7, [.int (iI th), .ref m1, .ref m2, .ref m3, .int (iI pn), .ref m5, .ref m6, .ref m7, .ref m8, .ref m9, .ref m10, .ref m11, .ref m12, .ref m13, .int (iI rw_), .ref m15, .long (lI fu), .long (lI fb)]))]) (AL L s.heap.size) s H _ := B
  have B := B.of_eq hmw
  subst hQ hav
  exact x_zret hx hb hr (by split <;> rfl) hlocks B d_Mo_is_13 (⟨rfl, rfl⟩)
theorem c_Mo_is_f (l : Launch) (D : va_G) (cs : Nat → ClassId) (L : List Nat) (f : Nat → va_E) (sz : Nat) (y m1 m2 m3 m5 m6 m7 m8 m9 m10 m11 m12 m13 m15 : Nat) (th pn rw_ fu fb : Int) (a1 : Int) (hF : Fc L [y]) (ha : f y = .inr (7, [.int (iI th), .ref m1, .ref m2, .ref m3, .int (iI pn), .ref m5, .ref m6, .ref m7, .ref m8, .ref m9, .ref m10, .ref m11, .ref m12, .ref m13, .int (iI rw_), .ref m15, .long (lI fu), .long (lI fb)])) (hpn : 0 ≤ pn ∧ pn ≤ 12) (ha1 : -2147483648 ≤ a1 ∧ a1 < 2147483648) (hun : a1 < 0 ∨ pn ≤ a1) : Met l (⟨"RealRootsModel", "is", "(I)Z"⟩ : MethodName) (.code (⟨"RealRootsModel", "is", "(I)Z"⟩ : MethodName) prog_9_method_21_code 2 (Option.some Jvm.ClassFile.FieldType.boolean) :: gw) ({ frames := 1, cells := 0, slots := 0, locals := 25 }) (va_Pc [.ref y, .int (iI a1)] (K0 D vwCl (TY cs) L f sz)) (va_Qi (fun (r : Int32) (g : Nat → va_E) => r = iI 0 ∧ g = f) (K1 D vwCl (TY cs) (AL L sz) L) (AL L sz)) 0 0 (AL L sz) := by
  have h := c_Mo_is l D cs L f sz y m1 m2 m3 m5 m6 m7 m8 m9 m10 m11 m12 m13 m15 th pn rw_ fu fb a1 hF ha hpn ha1
  rw [if_neg (by omega)] at h
  exact h
theorem d_Mo_isRoot_0 : decode prog_9_method_48_code 0 = .ok (.aload_n 0, 1) := by decide +kernel
theorem d_Mo_isRoot_1 : decode prog_9_method_48_code 1 = .ok (.iload_n 1, 1) := by decide +kernel
theorem d_Mo_isRoot_2 : decode prog_9_method_48_code 2 = .ok (.invokevirtual 115, 3) := by decide +kernel
theorem d_Mo_isRoot_5 : decode prog_9_method_48_code 5 = .ok (.ifCond .ne 5, 3) := by decide +kernel
theorem d_Mo_isRoot_8 : decode prog_9_method_48_code 8 = .ok (.iconst 0, 1) := by decide +kernel
theorem d_Mo_isRoot_9 : decode prog_9_method_48_code 9 = .ok (.ireturn, 1) := by decide +kernel
theorem d_Mo_isRoot_10 : decode prog_9_method_48_code 10 = .ok (.aload_n 0, 1) := by decide +kernel
theorem d_Mo_isRoot_11 : decode prog_9_method_48_code 11 = .ok (.iload_n 1, 1) := by decide +kernel
theorem d_Mo_isRoot_12 : decode prog_9_method_48_code 12 = .ok (.invokevirtual 207, 3) := by decide +kernel
theorem d_Mo_isRoot_15 : decode prog_9_method_48_code 15 = .ok (.iload_n 2, 1) := by decide +kernel
theorem d_Mo_isRoot_16 : decode prog_9_method_48_code 16 = .ok (.i2l, 1) := by decide +kernel
theorem d_Mo_isRoot_17 : decode prog_9_method_48_code 17 = .ok (.lconst 0, 1) := by decide +kernel
theorem d_Mo_isRoot_18 : decode prog_9_method_48_code 18 = .ok (.aload_n 0, 1) := by decide +kernel
theorem d_Mo_isRoot_19 : decode prog_9_method_48_code 19 = .ok (.getfield 42, 3) := by decide +kernel
theorem d_Mo_isRoot_22 : decode prog_9_method_48_code 22 = .ok (.iload_n 1, 1) := by decide +kernel
theorem d_Mo_isRoot_23 : decode prog_9_method_48_code 23 = .ok (.iaload, 1) := by decide +kernel
theorem d_Mo_isRoot_24 : decode prog_9_method_48_code 24 = .ok (.iconst 1, 1) := by decide +kernel
theorem d_Mo_isRoot_25 : decode prog_9_method_48_code 25 = .ok (.isub, 1) := by decide +kernel
theorem d_Mo_isRoot_26 : decode prog_9_method_48_code 26 = .ok (.i2l, 1) := by decide +kernel
theorem d_Mo_isRoot_27 : decode prog_9_method_48_code 27 = .ok (.invokestatic 111, 3) := by decide +kernel
theorem d_Mo_isRoot_30 : decode prog_9_method_48_code 30 = .ok (.ireturn, 1) := by decide +kernel
set_option maxHeartbeats 8000000 in
set_option maxRecDepth 100000 in
theorem c_Mo_isRoot_f (l : Launch) (D : va_G) (cs : Nat → ClassId) (L : List Nat) (f : Nat → va_E) (sz : Nat) (y m1 m2 m3 m5 m6 m7 m8 m9 m10 m11 m12 m13 m15 : Nat) (th pn rw_ fu fb : Int) (a1 a2 : Int) (hF : Fc L [y]) (ha : f y = .inr (7, [.int (iI th), .ref m1, .ref m2, .ref m3, .int (iI pn), .ref m5, .ref m6, .ref m7, .ref m8, .ref m9, .ref m10, .ref m11, .ref m12, .ref m13, .int (iI rw_), .ref m15, .long (lI fu), .long (lI fb)])) (hpn : 0 ≤ pn ∧ pn ≤ 12) (ha1 : -2147483648 ≤ a1 ∧ a1 < 2147483648) (ha2 : -2147483648 ≤ a2 ∧ a2 < 2147483648) (hun : a1 < 0 ∨ pn ≤ a1) : Met l (⟨"RealRootsModel", "isRoot", "(II)Z"⟩ : MethodName) (.code (⟨"RealRootsModel", "isRoot", "(II)Z"⟩ : MethodName) prog_9_method_48_code 3 (Option.some Jvm.ClassFile.FieldType.boolean) :: gw) ({ frames := 2, cells := 0, slots := 0, locals := 46 }) (va_Pc [.ref y, .int (iI a1), .int (iI a2)] (K0 D vwCl (TY cs) L f sz)) (va_Qi (fun (r : Int32) (g : Nat → va_E) => r = iI 0 ∧ g = f) (K1 D vwCl (TY cs) (AL L sz) L) (AL L sz)) 0 0 (AL L sz) := by
  refine Met.ofW (cc := prog_9_method_48_code) (maxL := 3) (ret := (Option.some Jvm.ClassFile.FieldType.boolean)) (by decide) rfl ?_
  intro p e s m args below meth c s₁ Bd hml hv
  obtain ⟨rfl, hk0⟩ := hv
  obtain ⟨hsz, B⟩ := hk0.start
  subst hsz
  have hx := Bd.exec
  have hb := Bd.bytes
  have hr := Bd.returns
  have hlocks := Bd.notSynchronized
  have hts0 := atoms_spec Bd.pre
  have hown : s.vm.findClass RX7 = some m.cls := findClass_of_methodNamed Bd.named
  have hA : ∀ q, s.heap.size ≤ q → AL L s.heap.size q := fun _ h => Or.inr h
  have hl := lv_entry ([.ref y, .int (iI a1), .int (iI a2)]) (n := 3) (Nat.le_of_ble_eq_true rfl)
  rw [lg_entry_eq]
  generalize (lg_sl ([.ref y, .int (iI a1), .int (iI a2)]) ++ List.replicate (3 - (lg_sl ([.ref y, .int (iI a1), .int (iI a2)])).length) Slot.unset).toArray = ls at hl ⊢
  refine absQ (fun Q R av hQ hR hav => ?_)
  have hts : ∀ w ∈ gw, w.before av s = true := by rw [hav]; exact fun w h => hts0 w (List.mem_cons_of_mem _ h)
  have hRf : R.frames = 2 := by rw [hR]; rfl
  have hRl : R.locals = 46 := by rw [hR]; rfl
  have hRc : R.cells = 0 := by rw [hR]; rfl
  have hRs : R.slots = 0 := by rw [hR]; rfl
  clear hR hts0 Bd
  have hl : lv_has ls 3 [(0, .ref y), (1, .int (iI a1)), (2, .int (iI a2))] := hl
  have hfx : ∀ q ∈ ([(y, .inr (7, [.int (iI th), .ref m1, .ref m2, .ref m3, .int (iI pn), .ref m5, .ref m6, .ref m7, .ref m8, .ref m9, .ref m10, .ref m11, .ref m12, .ref m13, .int (iI rw_), .ref m15, .long (lI fu), .long (lI fb)]))] : List (Nat × va_E)), f q.1 = q.2 := fun q hq => by
    simp only [List.mem_cons, List.not_mem_nil, or_false] at hq
    rcases hq with rfl
    · exact ha
  have hmw : mw f [(y, .inr (7, [.int (iI th), .ref m1, .ref m2, .ref m3, .int (iI pn), .ref m5, .ref m6, .ref m7, .ref m8, .ref m9, .ref m10, .ref m11, .ref m12, .ref m13, .int (iI rw_), .ref m15, .long (lI fu), .long (lI fb)]))] = f := mw_self (fun k a e hk => hfx (a, e) (List.mem_of_getElem? hk))
  have B := B.focus [(y, .inr (7, [.int (iI th), .ref m1, .ref m2, .ref m3, .int (iI pn), .ref m5, .ref m6, .ref m7, .ref m8, .ref m9, .ref m10, .ref m11, .ref m12, .ref m13, .int (iI rw_), .ref m15, .long (lI fu), .long (lI fb)]))] hfx
  refine lv_aload_n hx hb d_Mo_isRoot_0 rfl (lv_at hl 0 rfl) ?_
  refine lv_iload_n hx hb d_Mo_isRoot_1 rfl (lv_at hl 1 rfl) ?_
  refine x_calli B hA (va_runV (As := [.int (iI a1)]) (rest := []) ⟨hx, hb, hml, hown, hts⟩ (c_Mo_is_f l D cs _ _ _ y m1 m2 m3 m5 m6 m7 m8 m9 m10 m11 m12 m13 m15 th pn rw_ fu fb a1 hF (mw_get (X := [(y, .inr (7, [.int (iI th), .ref m1, .ref m2, .ref m3, .int (iI pn), .ref m5, .ref m6, .ref m7, .ref m8, .ref m9, .ref m10, .ref m11, .ref m12, .ref m13, .int (iI rw_), .ref m15, .long (lI fu), .long (lI fb)]))]) hF.1 (k := 0) rfl) hpn (by omega) (by omega)) (cwV 1 hts (gw_V w_745 w_747 s_29 w_8 w_748) rfl rfl rfl (by decide +kernel) ⟨by rw [hRf]; exact Nat.le_of_ble_eq_true rfl, by rw [hRl]; exact Nat.le_of_ble_eq_true rfl⟩) ⟨K0.blind, B.recv (hF.2 _ (mw_key (k := 0) (X := [(y, .inr (7, [.int (iI th), .ref m1, .ref m2, .ref m3, .int (iI pn), .ref m5, .ref m6, .ref m7, .ref m8, .ref m9, .ref m10, .ref m11, .ref m12, .ref m13, .int (iI rw_), .ref m15, .long (lI fu), .long (lI fb)]))]) rfl)) (mw_get (X := [(y, .inr (7, [.int (iI th), .ref m1, .ref m2, .ref m3, .int (iI pn), .ref m5, .ref m6, .ref m7, .ref m8, .ref m9, .ref m10, .ref m11, .ref m12, .ref m13, .int (iI rw_), .ref m15, .long (lI fu), .long (lI fb)]))]) hF.1 (k := 0) rfl) rfl, B.pre _⟩ rfl rfl hl.1 rfl (lv_room (Nat.le_of_ble_eq_true rfl)) d_Mo_isRoot_2 ⟨by rw [hRc]; omega, by rw [hRs]; omega⟩) (fun r2 g2 H locs hw B => ?_)
  obtain ⟨rfl, rfl⟩ := hw
  have B : Wb D vwCl (TY cs) L (mw f [(y, .inr (7, [.int (iI th), .ref m1, .ref m2, .ref m3, .int (iI pn), .ref m5, .ref m6, .ref m7, .ref m8, .ref m9, .ref m10, .ref m11, .ref m12, .ref m13, .int (iI rw_), .ref m15, .long (lI fu), .long (lI fb)]))]) (AL L s.heap.size) s H _ := B
  refine x_if_ne (tgt := 10) hx hb d_Mo_isRoot_5 (by decide) (by omega) (fun h5 => ?_) (fun h5 => ?_)
  · exfalso; omega
  · refine x_iconst hx hb d_Mo_isRoot_8 ?_
    have B := B.of_eq hmw
    subst hQ hav
    exact x_zret hx hb hr (by decide) hlocks B d_Mo_isRoot_9 (⟨rfl, rfl⟩)
