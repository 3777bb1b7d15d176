theorem d_Mo_set_0 : decode prog_9_method_22_code 0 = .ok (.aload_n 0, 1) := by decide +kernel
theorem d_Mo_set_1 : decode prog_9_method_22_code 1 = .ok (.iconst 0, 1) := by decide +kernel
theorem d_Mo_set_2 : decode prog_9_method_22_code 2 = .ok (.putfield 51, 3) := by decide +kernel
theorem d_Mo_set_5 : decode prog_9_method_22_code 5 = .ok (.aload_n 0, 1) := by decide +kernel
theorem d_Mo_set_6 : decode prog_9_method_22_code 6 = .ok (.iload_n 1, 1) := by decide +kernel
theorem d_Mo_set_7 : decode prog_9_method_22_code 7 = .ok (.invokevirtual 115, 3) := by decide +kernel
theorem d_Mo_set_10 : decode prog_9_method_22_code 10 = .ok (.ifCond .ne 5, 3) := by decide +kernel
theorem d_Mo_set_13 : decode prog_9_method_22_code 13 = .ok (.iconst (-1), 1) := by decide +kernel
theorem d_Mo_set_14 : decode prog_9_method_22_code 14 = .ok (.ireturn, 1) := by decide +kernel
theorem d_Mo_set_15 : decode prog_9_method_22_code 15 = .ok (.iload_n 2, 1) := by decide +kernel
theorem d_Mo_set_16 : decode prog_9_method_22_code 16 = .ok (.i2l, 1) := by decide +kernel
theorem d_Mo_set_17 : decode prog_9_method_22_code 17 = .ok (.lconst 0, 1) := by decide +kernel
theorem d_Mo_set_18 : decode prog_9_method_22_code 18 = .ok (.ldc2_w 119, 3) := by decide +kernel
theorem d_Mo_set_21 : decode prog_9_method_22_code 21 = .ok (.invokestatic 111, 3) := by decide +kernel
theorem d_Mo_set_24 : decode prog_9_method_22_code 24 = .ok (.ifCond .eq 17, 3) := by decide +kernel
theorem d_Mo_set_27 : decode prog_9_method_22_code 27 = .ok (.iload_n 3, 1) := by decide +kernel
theorem d_Mo_set_28 : decode prog_9_method_22_code 28 = .ok (.i2l, 1) := by decide +kernel
theorem d_Mo_set_29 : decode prog_9_method_22_code 29 = .ok (.ldc2_w 121, 3) := by decide +kernel
theorem d_Mo_set_32 : decode prog_9_method_22_code 32 = .ok (.ldc2_w 123, 3) := by decide +kernel
theorem d_Mo_set_35 : decode prog_9_method_22_code 35 = .ok (.invokestatic 111, 3) := by decide +kernel
theorem d_Mo_set_38 : decode prog_9_method_22_code 38 = .ok (.ifCond .ne 6, 3) := by decide +kernel
theorem d_Mo_set_41 : decode prog_9_method_22_code 41 = .ok (.bipush (-2), 2) := by decide +kernel
theorem d_Mo_set_43 : decode prog_9_method_22_code 43 = .ok (.ireturn, 1) := by decide +kernel
theorem d_Mo_set_44 : decode prog_9_method_22_code 44 = .ok (.aload_n 0, 1) := by decide +kernel
theorem d_Mo_set_45 : decode prog_9_method_22_code 45 = .ok (.getfield 19, 3) := by decide +kernel
theorem d_Mo_set_48 : decode prog_9_method_22_code 48 = .ok (.bipush 6, 2) := by decide +kernel
theorem d_Mo_set_50 : decode prog_9_method_22_code 50 = .ok (.iload_n 1, 1) := by decide +kernel
theorem d_Mo_set_51 : decode prog_9_method_22_code 51 = .ok (.imul, 1) := by decide +kernel
theorem d_Mo_set_52 : decode prog_9_method_22_code 52 = .ok (.iload_n 2, 1) := by decide +kernel
theorem d_Mo_set_53 : decode prog_9_method_22_code 53 = .ok (.iadd, 1) := by decide +kernel
theorem d_Mo_set_54 : decode prog_9_method_22_code 54 = .ok (.iaload, 1) := by decide +kernel
theorem d_Mo_set_55 : decode prog_9_method_22_code 55 = .ok (.istore 4, 2) := by decide +kernel
theorem d_Mo_set_57 : decode prog_9_method_22_code 57 = .ok (.aload_n 0, 1) := by decide +kernel
theorem d_Mo_set_58 : decode prog_9_method_22_code 58 = .ok (.getfield 19, 3) := by decide +kernel
theorem d_Mo_set_61 : decode prog_9_method_22_code 61 = .ok (.bipush 6, 2) := by decide +kernel
theorem d_Mo_set_63 : decode prog_9_method_22_code 63 = .ok (.iload_n 1, 1) := by decide +kernel
theorem d_Mo_set_64 : decode prog_9_method_22_code 64 = .ok (.imul, 1) := by decide +kernel
theorem d_Mo_set_65 : decode prog_9_method_22_code 65 = .ok (.iload_n 2, 1) := by decide +kernel
theorem d_Mo_set_66 : decode prog_9_method_22_code 66 = .ok (.iadd, 1) := by decide +kernel
theorem d_Mo_set_67 : decode prog_9_method_22_code 67 = .ok (.iload_n 3, 1) := by decide +kernel
theorem d_Mo_set_68 : decode prog_9_method_22_code 68 = .ok (.iastore, 1) := by decide +kernel
theorem d_Mo_set_69 : decode prog_9_method_22_code 69 = .ok (.aload_n 0, 1) := by decide +kernel
theorem d_Mo_set_70 : decode prog_9_method_22_code 70 = .ok (.getfield 22, 3) := by decide +kernel
theorem d_Mo_set_73 : decode prog_9_method_22_code 73 = .ok (.iload_n 1, 1) := by decide +kernel
theorem d_Mo_set_74 : decode prog_9_method_22_code 74 = .ok (.iconst 0, 1) := by decide +kernel
theorem d_Mo_set_75 : decode prog_9_method_22_code 75 = .ok (.bastore, 1) := by decide +kernel
theorem d_Mo_set_76 : decode prog_9_method_22_code 76 = .ok (.iload 4, 2) := by decide +kernel
theorem d_Mo_set_78 : decode prog_9_method_22_code 78 = .ok (.sipush 1000, 3) := by decide +kernel
theorem d_Mo_set_81 : decode prog_9_method_22_code 81 = .ok (.iadd, 1) := by decide +kernel
theorem d_Mo_set_82 : decode prog_9_method_22_code 82 = .ok (.ireturn, 1) := by decide +kernel
set_option maxHeartbeats 8000000 in
set_option maxRecDepth 100000 in
theorem c_Mo_set_u (l : Launch) (D : va_G) (cs : Nat → ClassId) (L : List Nat) (f : Nat → va_E) (sz : Nat) (y m1 m2 m3 m5 m6 m7 m8 m9 m10 m11 m12 m13 m15 : Nat) (th pn rw_ fu fb : Int) (a1 a2 a3 : Int) (hF : Fc L [y]) (ha : f y = .inr (7, [.int (iI th), .ref m1, .ref m2, .ref m3, .int (iI pn), .ref m5, .ref m6, .ref m7, .ref m8, .ref m9, .ref m10, .ref m11, .ref m12, .ref m13, .int (iI rw_), .ref m15, .long (lI fu), .long (lI fb)])) (hpn : 0 ≤ pn ∧ pn ≤ 12) (ha1 : -2147483648 ≤ a1 ∧ a1 < 2147483648) (ha2 : -2147483648 ≤ a2 ∧ a2 < 2147483648) (ha3 : -2147483648 ≤ a3 ∧ a3 < 2147483648) (hun : a1 < 0 ∨ pn ≤ a1) : Met l (⟨"RealRootsModel", "set", "(III)I"⟩ : MethodName) (.code (⟨"RealRootsModel", "set", "(III)I"⟩ : MethodName) prog_9_method_22_code 5 (Option.some Jvm.ClassFile.FieldType.int) :: gw) ({ frames := 2, cells := 0, slots := 0, locals := 55 }) (va_Pc [.ref y, .int (iI a1), .int (iI a2), .int (iI a3)] (K0 D vwCl (TY cs) L f sz)) (va_Qi (fun (r : Int32) (g : Nat → va_E) => r = iI (-1) ∧ g = mw f [(y, .inr (7, [.int (iI 0), .ref m1, .ref m2, .ref m3, .int (iI pn), .ref m5, .ref m6, .ref m7, .ref m8, .ref m9, .ref m10, .ref m11, .ref m12, .ref m13, .int (iI rw_), .ref m15, .long (lI fu), .long (lI fb)]))]) (K1 D vwCl (TY cs) (AL L sz) L) (AL L sz)) 0 0 (AL L sz) := by
  refine Met.ofW (cc := prog_9_method_22_code) (maxL := 5) (ret := (Option.some Jvm.ClassFile.FieldType.int)) (by decide) rfl ?_
  intro p e s m args below meth c s₁ Bd hml hv
  obtain ⟨rfl, hk0⟩ := hv
  obtain ⟨hsz, B⟩ := hk0.start
  subst hsz
  have hx := Bd.exec
  have hb := Bd.bytes
  have hr := Bd.returns
  have hlocks := Bd.notSynchronized
  have hts0 := atoms_spec Bd.pre
  have hown : s.vm.findClass RX7 = some m.cls := findClass_of_methodNamed Bd.named
  have hA : ∀ q, s.heap.size ≤ q → AL L s.heap.size q := fun _ h => Or.inr h
  have hl := lv_entry ([.ref y, .int (iI a1), .int (iI a2), .int (iI a3)]) (n := 5) (Nat.le_of_ble_eq_true rfl)
  rw [lg_entry_eq]
  generalize (lg_sl ([.ref y, .int (iI a1), .int (iI a2), .int (iI a3)]) ++ List.replicate (5 - (lg_sl ([.ref y, .int (iI a1), .int (iI a2), .int (iI a3)])).length) Slot.unset).toArray = ls at hl ⊢
  refine absQ (fun Q R av hQ hR hav => ?_)
  have hts : ∀ w ∈ gw, w.before av s = true := by rw [hav]; exact fun w h => hts0 w (List.mem_cons_of_mem _ h)
  have hRf : R.frames = 2 := by rw [hR]; rfl
  have hRl : R.locals = 55 := by rw [hR]; rfl
  have hRc : R.cells = 0 := by rw [hR]; rfl
  have hRs : R.slots = 0 := by rw [hR]; rfl
  clear hR hts0 Bd
  have hl : lv_has ls 5 [(0, .ref y), (1, .int (iI a1)), (2, .int (iI a2)), (3, .int (iI a3))] := hl
  have hfx : ∀ q ∈ ([(y, .inr (7, [.int (iI th), .ref m1, .ref m2, .ref m3, .int (iI pn), .ref m5, .ref m6, .ref m7, .ref m8, .ref m9, .ref m10, .ref m11, .ref m12, .ref m13, .int (iI rw_), .ref m15, .long (lI fu), .long (lI fb)]))] : List (Nat × va_E)), f q.1 = q.2 := fun q hq => by
    simp only [List.mem_cons, List.not_mem_nil, or_false] at hq
    rcases hq with rfl
    · exact ha
  have hmw : mw f [(y, .inr (7, [.int (iI th), .ref m1, .ref m2, .ref m3, .int (iI pn), .ref m5, .ref m6, .ref m7, .ref m8, .ref m9, .ref m10, .ref m11, .ref m12, .ref m13, .int (iI rw_), .ref m15, .long (lI fu), .long (lI fb)]))] = f := mw_self (fun k a e hk => hfx (a, e) (List.mem_of_getElem? hk))
  have B := B.focus [(y, .inr (7, [.int (iI th), .ref m1, .ref m2, .ref m3, .int (iI pn), .ref m5, .ref m6, .ref m7, .ref m8, .ref m9, .ref m10, .ref m11, .ref m12, .ref m13, .int (iI rw_), .ref m15, .long (lI fu), .long (lI fb)]))] hfx
  refine lv_aload_n hx hb d_Mo_set_0 rfl (lv_at hl 0 rfl) ?_
  refine x_iconst hx hb d_Mo_set_1 ?_
  refine x_put (C := RX7) (T := TX7) (N := 18) hx hb hts inX7 tyX7 tyX7_ok nmX7 hown B hF 0 rfl rfl 0 (by decide) (hts _ w_677) (fun _ h9 => h9) rfl (tyX7_ok 0 (by decide)) rfl rfl (Nat.le_of_ble_eq_true rfl) d_Mo_set_2 (fun H locs B => ?_)
  have B : Wb D vwCl (TY cs) L (mw f [(y, .inr (7, [.int (iI 0), .ref m1, .ref m2, .ref m3, .int (iI pn), .ref m5, .ref m6, .ref m7, .ref m8, .ref m9, .ref m10, .ref m11, .ref m12, .ref m13, .int (iI rw_), .ref m15, .long (lI fu), .long (lI fb)]))]) (AL L s.heap.size) s H _ := B
  refine lv_aload_n hx hb d_Mo_set_5 rfl (lv_at hl 0 rfl) ?_
  refine lv_iload_n hx hb d_Mo_set_6 rfl (lv_at hl 1 rfl) ?_
  refine x_calli B hA (va_runV (As := [.int (iI a1)]) (rest := []) ⟨hx, hb, hml, hown, hts⟩ (c_Mo_is_f l D cs _ _ _ y m1 m2 m3 m5 m6 m7 m8 m9 m10 m11 m12 m13 m15 0 pn rw_ fu fb a1 hF (mw_get (X := [(y, .inr (7, [.int (iI 0), .ref m1, .ref m2, .ref m3, .int (iI pn), .ref m5, .ref m6, .ref m7, .ref m8, .ref m9, .ref m10, .ref m11, .ref m12, .ref m13, .int (iI rw_), .ref m15, .long (lI fu), .long (lI fb)]))]) hF.1 (k := 0) rfl) hpn (by omega) (by omega)) (cwV 1 hts (gw_V w_745 w_747 s_29 w_8 w_748) rfl rfl rfl (by decide +kernel) ⟨by rw [hRf]; exact Nat.le_of_ble_eq_true rfl, by rw [hRl]; exact Nat.le_of_ble_eq_true rfl⟩) ⟨K0.blind, B.recv (hF.2 _ (mw_key (k := 0) (X := [(y, .inr (7, [.int (iI 0), .ref m1, .ref m2, .ref m3, .int (iI pn), .ref m5, .ref m6, .ref m7, .ref m8, .ref m9, .ref m10, .ref m11, .ref m12, .ref m13, .int (iI rw_), .ref m15, .long (lI fu), .long (lI fb)]))]) rfl)) (mw_get (X := [(y, .inr (7, [.int (iI 0), .ref m1, .ref m2, .ref m3, .int (iI pn), .ref m5, .ref m6, .ref m7, .ref m8, .ref m9, .ref m10, .ref m11, .ref m12, .ref m13, .int (iI rw_), .ref m15, .long (lI fu), .long (lI fb)]))]) hF.1 (k := 0) rfl) rfl, B.pre _⟩ rfl rfl hl.1 rfl (lv_room (Nat.le_of_ble_eq_true rfl)) d_Mo_set_7 ⟨by rw [hRc]; omega, by rw [hRs]; omega⟩) (fun r7 g7 H locs hw B => ?_)
  obtain ⟨rfl, rfl⟩ := hw
  have B : Wb D vwCl (TY cs) L (mw f [(y, .inr (7, [.int (iI 0), .ref m1, .ref m2, .ref m3, .int (iI pn), .ref m5, .ref m6, .ref m7, .ref m8, .ref m9, .ref m10, .ref m11, .ref m12, .ref m13, .int (iI rw_), .ref m15, .long (lI fu), .long (lI fb)]))]) (AL L s.heap.size) s H _ := B
  refine x_if_ne (tgt := 15) hx hb d_Mo_set_10 (by decide) (by omega) (fun h10 => ?_) (fun h10 => ?_)
  · exfalso; omega
  · refine x_iconst hx hb d_Mo_set_13 ?_
    subst hQ hav
    exact x_iret hx hb hr hlocks B d_Mo_set_14 (⟨rfl, rfl⟩)
theorem d_Mo_coefficient_0 : decode prog_9_method_23_code 0 = .ok (.aload_n 0, 1) := by decide +kernel
theorem d_Mo_coefficient_1 : decode prog_9_method_23_code 1 = .ok (.iconst 0, 1) := by decide +kernel
theorem d_Mo_coefficient_2 : decode prog_9_method_23_code 2 = .ok (.putfield 51, 3) := by decide +kernel
theorem d_Mo_coefficient_5 : decode prog_9_method_23_code 5 = .ok (.aload_n 0, 1) := by decide +kernel
theorem d_Mo_coefficient_6 : decode prog_9_method_23_code 6 = .ok (.iload_n 1, 1) := by decide +kernel
theorem d_Mo_coefficient_7 : decode prog_9_method_23_code 7 = .ok (.invokevirtual 115, 3) := by decide +kernel
theorem d_Mo_coefficient_10 : decode prog_9_method_23_code 10 = .ok (.ifCond .eq 29, 3) := by decide +kernel
theorem d_Mo_coefficient_13 : decode prog_9_method_23_code 13 = .ok (.iload_n 2, 1) := by decide +kernel
theorem d_Mo_coefficient_14 : decode prog_9_method_23_code 14 = .ok (.i2l, 1) := by decide +kernel
theorem d_Mo_coefficient_15 : decode prog_9_method_23_code 15 = .ok (.lconst 0, 1) := by decide +kernel
theorem d_Mo_coefficient_16 : decode prog_9_method_23_code 16 = .ok (.ldc2_w 119, 3) := by decide +kernel
theorem d_Mo_coefficient_19 : decode prog_9_method_23_code 19 = .ok (.invokestatic 111, 3) := by decide +kernel
theorem d_Mo_coefficient_22 : decode prog_9_method_23_code 22 = .ok (.ifCond .eq 17, 3) := by decide +kernel
theorem d_Mo_coefficient_25 : decode prog_9_method_23_code 25 = .ok (.aload_n 0, 1) := by decide +kernel
theorem d_Mo_coefficient_26 : decode prog_9_method_23_code 26 = .ok (.getfield 19, 3) := by decide +kernel
theorem d_Mo_coefficient_29 : decode prog_9_method_23_code 29 = .ok (.bipush 6, 2) := by decide +kernel
theorem d_Mo_coefficient_31 : decode prog_9_method_23_code 31 = .ok (.iload_n 1, 1) := by decide +kernel
theorem d_Mo_coefficient_32 : decode prog_9_method_23_code 32 = .ok (.imul, 1) := by decide +kernel
theorem d_Mo_coefficient_33 : decode prog_9_method_23_code 33 = .ok (.iload_n 2, 1) := by decide +kernel
theorem d_Mo_coefficient_34 : decode prog_9_method_23_code 34 = .ok (.iadd, 1) := by decide +kernel
theorem d_Mo_coefficient_35 : decode prog_9_method_23_code 35 = .ok (.iaload, 1) := by decide +kernel
theorem d_Mo_coefficient_36 : decode prog_9_method_23_code 36 = .ok (.goto 4, 3) := by decide +kernel
theorem d_Mo_coefficient_39 : decode prog_9_method_23_code 39 = .ok (.iconst 0, 1) := by decide +kernel
theorem d_Mo_coefficient_40 : decode prog_9_method_23_code 40 = .ok (.ireturn, 1) := by decide +kernel
set_option maxHeartbeats 8000000 in
set_option maxRecDepth 100000 in
theorem c_Mo_coefficient_u (l : Launch) (D : va_G) (cs : Nat → ClassId) (L : List Nat) (f : Nat → va_E) (sz : Nat) (y m1 m2 m3 m5 m6 m7 m8 m9 m10 m11 m12 m13 m15 : Nat) (th pn rw_ fu fb : Int) (a1 a2 : Int) (hF : Fc L [y]) (ha : f y = .inr (7, [.int (iI th), .ref m1, .ref m2, .ref m3, .int (iI pn), .ref m5, .ref m6, .ref m7, .ref m8, .ref m9, .ref m10, .ref m11, .ref m12, .ref m13, .int (iI rw_), .ref m15, .long (lI fu), .long (lI fb)])) (hpn : 0 ≤ pn ∧ pn ≤ 12) (ha1 : -2147483648 ≤ a1 ∧ a1 < 2147483648) (ha2 : -2147483648 ≤ a2 ∧ a2 < 2147483648) (hun : a1 < 0 ∨ pn ≤ a1) : Met l (⟨"RealRootsModel", "coefficient", "(II)I"⟩ : MethodName) (.code (⟨"RealRootsModel", "coefficient", "(II)I"⟩ : MethodName) prog_9_method_23_code 3 (Option.some Jvm.ClassFile.FieldType.int) :: gw) ({ frames := 2, cells := 0, slots := 0, locals := 55 }) (va_Pc [.ref y, .int (iI a1), .int (iI a2)] (K0 D vwCl (TY cs) L f sz)) (va_Qi (fun (r : Int32) (g : Nat → va_E) => r = iI (0) ∧ g = mw f [(y, .inr (7, [.int (iI 0), .ref m1, .ref m2, .ref m3, .int (iI pn), .ref m5, .ref m6, .ref m7, .ref m8, .ref m9, .ref m10, .ref m11, .ref m12, .ref m13, .int (iI rw_), .ref m15, .long (lI fu), .long (lI fb)]))]) (K1 D vwCl (TY cs) (AL L sz) L) (AL L sz)) 0 0 (AL L sz) := by
  refine Met.ofW (cc := prog_9_method_23_code) (maxL := 3) (ret := (Option.some Jvm.ClassFile.FieldType.int)) (by decide) rfl ?_
  intro p e s m args below meth c s₁ Bd hml hv
  obtain ⟨rfl, hk0⟩ := hv
  obtain ⟨hsz, B⟩ := hk0.start
  subst hsz
  have hx := Bd.exec
  have hb := Bd.bytes
  have hr := Bd.returns
  have hlocks := Bd.notSynchronized
  have hts0 := atoms_spec Bd.pre
  have hown : s.vm.findClass RX7 = some m.cls := findClass_of_methodNamed Bd.named
  have hA : ∀ q, s.heap.size ≤ q → AL L s.heap.size q := fun _ h => Or.inr h
  have hl := lv_entry ([.ref y, .int (iI a1), .int (iI a2)]) (n := 3) (Nat.le_of_ble_eq_true rfl)
  rw [lg_entry_eq]
  generalize (lg_sl ([.ref y, .int (iI a1), .int (iI a2)]) ++ List.replicate (3 - (lg_sl ([.ref y, .int (iI a1), .int (iI a2)])).length) Slot.unset).toArray = ls at hl ⊢
  refine absQ (fun Q R av hQ hR hav => ?_)
  have hts : ∀ w ∈ gw, w.before av s = true := by rw [hav]; exact fun w h => hts0 w (List.mem_cons_of_mem _ h)
  have hRf : R.frames = 2 := by rw [hR]; rfl
  have hRl : R.locals = 55 := by rw [hR]; rfl
  have hRc : R.cells = 0 := by rw [hR]; rfl
  have hRs : R.slots = 0 := by rw [hR]; rfl
  clear hR hts0 Bd
  have hl : lv_has ls 3 [(0, .ref y), (1, .int (iI a1)), (2, .int (iI a2))] := hl
  have hfx : ∀ q ∈ ([(y, .inr (7, [.int (iI th), .ref m1, .ref m2, .ref m3, .int (iI pn), .ref m5, .ref m6, .ref m7, .ref m8, .ref m9, .ref m10, .ref m11, .ref m12, .ref m13, .int (iI rw_), .ref m15, .long (lI fu), .long (lI fb)]))] : List (Nat × va_E)), f q.1 = q.2 := fun q hq => by
    simp only [List.mem_cons, List.not_mem_nil, or_false] at hq
    rcases hq with rfl
    · exact ha
  have hmw : mw f [(y, .inr (7, [.int (iI th), .ref m1, .ref m2, .ref m3, .int (iI pn), .ref m5, .ref m6, .ref m7, .ref m8, .ref m9, .ref m10, .ref m11, .ref m12, .ref m13, .int (iI rw_), .ref m15, .long (lI fu), .long (lI fb)]))] = f := mw_self (fun k a e hk => hfx (a, e) (List.mem_of_getElem? hk))
  have B := B.focus [(y, .inr (7, [.int (iI th), .ref m1, .ref m2, .ref m3, .int (iI pn), .ref m5, .ref m6, .ref m7, .ref m8, .ref m9, .ref m10, .ref m11, .ref m12, .ref m13, .int (iI rw_), .ref m15, .long (lI fu), .long (lI fb)]))] hfx
  refine lv_aload_n hx hb d_Mo_coefficient_0 rfl (lv_at hl 0 rfl) ?_
  refine x_iconst hx hb d_Mo_coefficient_1 ?_
  refine x_put (C := RX7) (T := TX7) (N := 18) hx hb hts inX7 tyX7 tyX7_ok nmX7 hown B hF 0 rfl rfl 0 (by decide) (hts _ w_677) (fun _ h9 => h9) rfl (tyX7_ok 0 (by decide)) rfl rfl (Nat.le_of_ble_eq_true rfl) d_Mo_coefficient_2 (fun H locs B => ?_)
  have B : Wb D vwCl (TY cs) L (mw f [(y, .inr (7, [.int (iI 0), .ref m1, .ref m2, .ref m3, .int (iI pn), .ref m5, .ref m6, .ref m7, .ref m8, .ref m9, .ref m10, .ref m11, .ref m12, .ref m13, .int (iI rw_), .ref m15, .long (lI fu), .long (lI fb)]))]) (AL L s.heap.size) s H _ := B
  refine lv_aload_n hx hb d_Mo_coefficient_5 rfl (lv_at hl 0 rfl) ?_
  refine lv_iload_n hx hb d_Mo_coefficient_6 rfl (lv_at hl 1 rfl) ?_
  refine x_calli B hA (va_runV (As := [.int (iI a1)]) (rest := []) ⟨hx, hb, hml, hown, hts⟩ (c_Mo_is_f l D cs _ _ _ y m1 m2 m3 m5 m6 m7 m8 m9 m10 m11 m12 m13 m15 0 pn rw_ fu fb a1 hF (mw_get (X := [(y, .inr (7, [.int (iI 0), .ref m1, .ref m2, .ref m3, .int (iI pn), .ref m5, .ref m6, .ref m7, .ref m8, .ref m9, .ref m10, .ref m11, .ref m12, .ref m13, .int (iI rw_), .ref m15, .long (lI fu), .long (lI fb)]))]) hF.1 (k := 0) rfl) hpn (by omega) (by omega)) (cwV 1 hts (gw_V w_745 w_747 s_29 w_8 w_748) rfl rfl rfl (by decide +kernel) ⟨by rw [hRf]; exact Nat.le_of_ble_eq_true rfl, by rw [hRl]; exact Nat.le_of_ble_eq_true rfl⟩) ⟨K0.blind, B.recv (hF.2 _ (mw_key (k := 0) (X := [(y, .inr (7, [.int (iI 0), .ref m1, .ref m2, .ref m3, .int (iI pn), .ref m5, .ref m6, .ref m7, .ref m8, .ref m9, .ref m10, .ref m11, .ref m12, .ref m13, .int (iI rw_), .ref m15, .long (lI fu), .long (lI fb)]))]) rfl)) (mw_get (X := [(y, .inr (7, [.int (iI 0), .ref m1, .ref m2, .ref m3, .int (iI pn), .ref m5, .ref m6, .ref m7, .ref m8, .ref m9, .ref m10, .ref m11, .ref m12, .ref m13, .int (iI rw_), .ref m15, .long (lI fu), .long (lI fb)]))]) hF.1 (k := 0) rfl) rfl, B.pre _⟩ rfl rfl hl.1 rfl (lv_room (Nat.le_of_ble_eq_true rfl)) d_Mo_coefficient_7 ⟨by rw [hRc]; omega, by rw [hRs]; omega⟩) (fun r7 g7 H locs hw B => ?_)
  obtain ⟨rfl, rfl⟩ := hw
  have B : Wb D vwCl (TY cs) L (mw f [(y, .inr (7, [.int (iI 0), .ref m1, .ref m2, .ref m3, .int (iI pn), .ref m5, .ref m6, .ref m7, .ref m8, .ref m9, .ref m10, .ref m11, .ref m12, .ref m13, .int (iI rw_), .ref m15, .long (lI fu), .long (lI fb)]))]) (AL L s.heap.size) s H _ := B
  refine x_if_eq (tgt := 39) hx hb d_Mo_coefficient_10 (by decide) (by omega) (fun h10 => ?_) (fun h10 => ?_)
  · refine x_iconst hx hb d_Mo_coefficient_39 ?_
    subst hQ hav
    exact x_iret hx hb hr hlocks B d_Mo_coefficient_40 (⟨rfl, rfl⟩)
  · exfalso; omega
theorem d_Mo_degree_0 : decode prog_9_method_25_code 0 = .ok (.aload_n 0, 1) := by decide +kernel
theorem d_Mo_degree_1 : decode prog_9_method_25_code 1 = .ok (.iconst 0, 1) := by decide +kernel
theorem d_Mo_degree_2 : decode prog_9_method_25_code 2 = .ok (.putfield 51, 3) := by decide +kernel
theorem d_Mo_degree_5 : decode prog_9_method_25_code 5 = .ok (.aload_n 0, 1) := by decide +kernel
theorem d_Mo_degree_6 : decode prog_9_method_25_code 6 = .ok (.iload_n 1, 1) := by decide +kernel
theorem d_Mo_degree_7 : decode prog_9_method_25_code 7 = .ok (.invokevirtual 115, 3) := by decide +kernel
theorem d_Mo_degree_10 : decode prog_9_method_25_code 10 = .ok (.ifCond .eq 11, 3) := by decide +kernel
theorem d_Mo_degree_13 : decode prog_9_method_25_code 13 = .ok (.aload_n 0, 1) := by decide +kernel
theorem d_Mo_degree_14 : decode prog_9_method_25_code 14 = .ok (.iload_n 1, 1) := by decide +kernel
theorem d_Mo_degree_15 : decode prog_9_method_25_code 15 = .ok (.invokevirtual 125, 3) := by decide +kernel
theorem d_Mo_degree_18 : decode prog_9_method_25_code 18 = .ok (.goto 5, 3) := by decide +kernel
theorem d_Mo_degree_21 : decode prog_9_method_25_code 21 = .ok (.bipush (-9), 2) := by decide +kernel
theorem d_Mo_degree_23 : decode prog_9_method_25_code 23 = .ok (.ireturn, 1) := by decide +kernel
set_option maxHeartbeats 8000000 in
set_option maxRecDepth 100000 in
theorem c_Mo_degree_u (l : Launch) (D : va_G) (cs : Nat → ClassId) (L : List Nat) (f : Nat → va_E) (sz : Nat) (y m1 m2 m3 m5 m6 m7 m8 m9 m10 m11 m12 m13 m15 : Nat) (th pn rw_ fu fb : Int) (a1 : Int) (hF : Fc L [y]) (ha : f y = .inr (7, [.int (iI th), .ref m1, .ref m2, .ref m3, .int (iI pn), .ref m5, .ref m6, .ref m7, .ref m8, .ref m9, .ref m10, .ref m11, .ref m12, .ref m13, .int (iI rw_), .ref m15, .long (lI fu), .long (lI fb)])) (hpn : 0 ≤ pn ∧ pn ≤ 12) (ha1 : -2147483648 ≤ a1 ∧ a1 < 2147483648) (hun : a1 < 0 ∨ pn ≤ a1) : Met l (⟨"RealRootsModel", "degree", "(I)I"⟩ : MethodName) (.code (⟨"RealRootsModel", "degree", "(I)I"⟩ : MethodName) prog_9_method_25_code 2 (Option.some Jvm.ClassFile.FieldType.int) :: gw) ({ frames := 2, cells := 0, slots := 0, locals := 55 }) (va_Pc [.ref y, .int (iI a1)] (K0 D vwCl (TY cs) L f sz)) (va_Qi (fun (r : Int32) (g : Nat → va_E) => r = iI (-9) ∧ g = mw f [(y, .inr (7, [.int (iI 0), .ref m1, .ref m2, .ref m3, .int (iI pn), .ref m5, .ref m6, .ref m7, .ref m8, .ref m9, .ref m10, .ref m11, .ref m12, .ref m13, .int (iI rw_), .ref m15, .long (lI fu), .long (lI fb)]))]) (K1 D vwCl (TY cs) (AL L sz) L) (AL L sz)) 0 0 (AL L sz) := by
  refine Met.ofW (cc := prog_9_method_25_code) (maxL := 2) (ret := (Option.some Jvm.ClassFile.FieldType.int)) (by decide) rfl ?_
  intro p e s m args below meth c s₁ Bd hml hv
  obtain ⟨rfl, hk0⟩ := hv
  obtain ⟨hsz, B⟩ := hk0.start
  subst hsz
  have hx := Bd.exec
  have hb := Bd.bytes
  have hr := Bd.returns
  have hlocks := Bd.notSynchronized
  have hts0 := atoms_spec Bd.pre
  have hown : s.vm.findClass RX7 = some m.cls := findClass_of_methodNamed Bd.named
  have hA : ∀ q, s.heap.size ≤ q → AL L s.heap.size q := fun _ h => Or.inr h
  have hl := lv_entry ([.ref y, .int (iI a1)]) (n := 2) (Nat.le_of_ble_eq_true rfl)
  rw [lg_entry_eq]
  generalize (lg_sl ([.ref y, .int (iI a1)]) ++ List.replicate (2 - (lg_sl ([.ref y, .int (iI a1)])).length) Slot.unset).toArray = ls at hl ⊢
  refine absQ (fun Q R av hQ hR hav => ?_)
  have hts : ∀ w ∈ gw, w.before av s = true := by rw [hav]; exact fun w h => hts0 w (List.mem_cons_of_mem _ h)
  have hRf : R.frames = 2 := by rw [hR]; rfl
  have hRl : R.locals = 55 := by rw [hR]; rfl
  have hRc : R.cells = 0 := by rw [hR]; rfl
  have hRs : R.slots = 0 := by rw [hR]; rfl
  clear hR hts0 Bd
  have hl : lv_has ls 2 [(0, .ref y), (1, .int (iI a1))] := hl
  have hfx : ∀ q ∈ ([(y, .inr (7, [.int (iI th), .ref m1, .ref m2, .ref m3, .int (iI pn), .ref m5, .ref m6, .ref m7, .ref m8, .ref m9, .ref m10, .ref m11, .ref m12, .ref m13, .int (iI rw_), .ref m15, .long (lI fu), .long (lI fb)]))] : List (Nat × va_E)), f q.1 = q.2 := fun q hq => by
    simp only [List.mem_cons, List.not_mem_nil, or_false] at hq
    rcases hq with rfl
    · exact ha
  have hmw : mw f [(y, .inr (7, [.int (iI th), .ref m1, .ref m2, .ref m3, .int (iI pn), .ref m5, .ref m6, .ref m7, .ref m8, .ref m9, .ref m10, .ref m11, .ref m12, .ref m13, .int (iI rw_), .ref m15, .long (lI fu), .long (lI fb)]))] = f := mw_self (fun k a e hk => hfx (a, e) (List.mem_of_getElem? hk))
  have B := B.focus [(y, .inr (7, [.int (iI th), .ref m1, .ref m2, .ref m3, .int (iI pn), .ref m5, .ref m6, .ref m7, .ref m8, .ref m9, .ref m10, .ref m11, .ref m12, .ref m13, .int (iI rw_), .ref m15, .long (lI fu), .long (lI fb)]))] hfx
  refine lv_aload_n hx hb d_Mo_degree_0 rfl (lv_at hl 0 rfl) ?_
  refine x_iconst hx hb d_Mo_degree_1 ?_
  refine x_put (C := RX7) (T := TX7) (N := 18) hx hb hts inX7 tyX7 tyX7_ok nmX7 hown B hF 0 rfl rfl 0 (by decide) (hts _ w_677) (fun _ h9 => h9) rfl (tyX7_ok 0 (by decide)) rfl rfl (Nat.le_of_ble_eq_true rfl) d_Mo_degree_2 (fun H locs B => ?_)
  have B : Wb D vwCl (TY cs) L (mw f [(y, .inr (7, [.int (iI 0), .ref m1, .ref m2, .ref m3, .int (iI pn), .ref m5, .ref m6, .ref m7, .ref m8, .ref m9, .ref m10, .ref m11, .ref m12, .ref m13, .int (iI rw_), .ref m15, .long (lI fu), .long (lI fb)]))]) (AL L s.heap.size) s H _ := B
  refine lv_aload_n hx hb d_Mo_degree_5 rfl (lv_at hl 0 rfl) ?_
  refine lv_iload_n hx hb d_Mo_degree_6 rfl (lv_at hl 1 rfl) ?_
  refine x_calli B hA (va_runV (As := [.int (iI a1)]) (rest := []) ⟨hx, hb, hml, hown, hts⟩ (c_Mo_is_f l D cs _ _ _ y m1 m2 m3 m5 m6 m7 m8 m9 m10 m11 m12 m13 m15 0 pn rw_ fu fb a1 hF (mw_get (X := [(y, .inr (7, [.int (iI 0), .ref m1, .ref m2, .ref m3, .int (iI pn), .ref m5, .ref m6, .ref m7, .ref m8, .ref m9, .ref m10, .ref m11, .ref m12, .ref m13, .int (iI rw_), .ref m15, .long (lI fu), .long (lI fb)]))]) hF.1 (k := 0) rfl) hpn (by omega) (by omega)) (cwV 1 hts (gw_V w_745 w_747 s_29 w_8 w_748) rfl rfl rfl (by decide +kernel) ⟨by rw [hRf]; exact Nat.le_of_ble_eq_true rfl, by rw [hRl]; exact Nat.le_of_ble_eq_true rfl⟩) ⟨K0.blind, B.recv (hF.2 _ (mw_key (k := 0) (X := [(y, .inr (7, [.int (iI 0), .ref m1, .ref m2, .ref m3, .int (iI pn), .ref m5, .ref m6, .ref m7, .ref m8, .ref m9, .ref m10, .ref m11, .ref m12, .ref m13, .int (iI rw_), .ref m15, .long (lI fu), .long (lI fb)]))]) rfl)) (mw_get (X := [(y, .inr (7, [.int (iI 0), .ref m1, .ref m2, .ref m3, .int (iI pn), .ref m5, .ref m6, .ref m7, .ref m8, .ref m9, .ref m10, .ref m11, .ref m12, .ref m13, .int (iI rw_), .ref m15, .long (lI fu), .long (lI fb)]))]) hF.1 (k := 0) rfl) rfl, B.pre _⟩ rfl rfl hl.1 rfl (lv_room (Nat.le_of_ble_eq_true rfl)) d_Mo_degree_7 ⟨by rw [hRc]; omega, by rw [hRs]; omega⟩) (fun r7 g7 H locs hw B => ?_)
  obtain ⟨rfl, rfl⟩ := hw
  have B : Wb D vwCl (TY cs) L (mw f [(y, .inr (7, [.int (iI 0), .ref m1, .ref m2, .ref m3, .int (iI pn), .ref m5, .ref m6, .ref m7, .ref m8, .ref m9, .ref m10, .ref m11, .ref m12, .ref m13, .int (iI rw_), .ref m15, .long (lI fu), .long (lI fb)]))]) (AL L s.heap.size) s H _ := B
  refine x_if_eq (tgt := 21) hx hb d_Mo_degree_10 (by decide) (by omega) (fun h10 => ?_) (fun h10 => ?_)
  · refine x_bipush hx hb d_Mo_degree_21 (by decide) ?_
    subst hQ hav
    exact x_iret hx hb hr hlocks B d_Mo_degree_23 (⟨rfl, rfl⟩)
  · exfalso; omega
theorem d_Mo_roots_0 : decode prog_9_method_49_code 0 = .ok (.aload_n 0, 1) := by decide +kernel
theorem d_Mo_roots_1 : decode prog_9_method_49_code 1 = .ok (.iconst 0, 1) := by decide +kernel
theorem d_Mo_roots_2 : decode prog_9_method_49_code 2 = .ok (.putfield 51, 3) := by decide +kernel
theorem d_Mo_roots_5 : decode prog_9_method_49_code 5 = .ok (.aload_n 0, 1) := by decide +kernel
theorem d_Mo_roots_6 : decode prog_9_method_49_code 6 = .ok (.iload_n 1, 1) := by decide +kernel
theorem d_Mo_roots_7 : decode prog_9_method_49_code 7 = .ok (.invokevirtual 115, 3) := by decide +kernel
theorem d_Mo_roots_10 : decode prog_9_method_49_code 10 = .ok (.ifCond .ne 5, 3) := by decide +kernel
theorem d_Mo_roots_13 : decode prog_9_method_49_code 13 = .ok (.iconst (-1), 1) := by decide +kernel
theorem d_Mo_roots_14 : decode prog_9_method_49_code 14 = .ok (.ireturn, 1) := by decide +kernel
theorem d_Mo_roots_15 : decode prog_9_method_49_code 15 = .ok (.aload_n 0, 1) := by decide +kernel
theorem d_Mo_roots_16 : decode prog_9_method_49_code 16 = .ok (.iload_n 1, 1) := by decide +kernel
theorem d_Mo_roots_17 : decode prog_9_method_49_code 17 = .ok (.invokevirtual 125, 3) := by decide +kernel
theorem d_Mo_roots_20 : decode prog_9_method_49_code 20 = .ok (.ifCond .ge 6, 3) := by decide +kernel
theorem d_Mo_roots_23 : decode prog_9_method_49_code 23 = .ok (.bipush (-3), 2) := by decide +kernel
theorem d_Mo_roots_25 : decode prog_9_method_49_code 25 = .ok (.ireturn, 1) := by decide +kernel
theorem d_Mo_roots_26 : decode prog_9_method_49_code 26 = .ok (.aload_n 0, 1) := by decide +kernel
theorem d_Mo_roots_27 : decode prog_9_method_49_code 27 = .ok (.iload_n 1, 1) := by decide +kernel
theorem d_Mo_roots_28 : decode prog_9_method_49_code 28 = .ok (.invokevirtual 207, 3) := by decide +kernel
theorem d_Mo_roots_31 : decode prog_9_method_49_code 31 = .ok (.aload_n 0, 1) := by decide +kernel
theorem d_Mo_roots_32 : decode prog_9_method_49_code 32 = .ok (.getfield 42, 3) := by decide +kernel
theorem d_Mo_roots_35 : decode prog_9_method_49_code 35 = .ok (.iload_n 1, 1) := by decide +kernel
theorem d_Mo_roots_36 : decode prog_9_method_49_code 36 = .ok (.iaload, 1) := by decide +kernel
theorem d_Mo_roots_37 : decode prog_9_method_49_code 37 = .ok (.ireturn, 1) := by decide +kernel
set_option maxHeartbeats 8000000 in
set_option maxRecDepth 100000 in
theorem c_Mo_roots_u (l : Launch) (D : va_G) (cs : Nat → ClassId) (L : List Nat) (f : Nat → va_E) (sz : Nat) (y m1 m2 m3 m5 m6 m7 m8 m9 m10 m11 m12 m13 m15 : Nat) (th pn rw_ fu fb : Int) (a1 : Int) (hF : Fc L [y]) (ha : f y = .inr (7, [.int (iI th), .ref m1, .ref m2, .ref m3, .int (iI pn), .ref m5, .ref m6, .ref m7, .ref m8, .ref m9, .ref m10, .ref m11, .ref m12, .ref m13, .int (iI rw_), .ref m15, .long (lI fu), .long (lI fb)])) (hpn : 0 ≤ pn ∧ pn ≤ 12) (ha1 : -2147483648 ≤ a1 ∧ a1 < 2147483648) (hun : a1 < 0 ∨ pn ≤ a1) : Met l (⟨"RealRootsModel", "roots", "(I)I"⟩ : MethodName) (.code (⟨"RealRootsModel", "roots", "(I)I"⟩ : MethodName) prog_9_method_49_code 2 (Option.some Jvm.ClassFile.FieldType.int) :: gw) ({ frames := 2, cells := 0, slots := 0, locals := 55 }) (va_Pc [.ref y, .int (iI a1)] (K0 D vwCl (TY cs) L f sz)) (va_Qi (fun (r : Int32) (g : Nat → va_E) => r = iI (-1) ∧ g = mw f [(y, .inr (7, [.int (iI 0), .ref m1, .ref m2, .ref m3, .int (iI pn), .ref m5, .ref m6, .ref m7, .ref m8, .ref m9, .ref m10, .ref m11, .ref m12, .ref m13, .int (iI rw_), .ref m15, .long (lI fu), .long (lI fb)]))]) (K1 D vwCl (TY cs) (AL L sz) L) (AL L sz)) 0 0 (AL L sz) := by
  refine Met.ofW (cc := prog_9_method_49_code) (maxL := 2) (ret := (Option.some Jvm.ClassFile.FieldType.int)) (by decide) rfl ?_
  intro p e s m args below meth c s₁ Bd hml hv
  obtain ⟨rfl, hk0⟩ := hv
  obtain ⟨hsz, B⟩ := hk0.start
  subst hsz
  have hx := Bd.exec
  have hb := Bd.bytes
  have hr := Bd.returns
  have hlocks := Bd.notSynchronized
  have hts0 := atoms_spec Bd.pre
  have hown : s.vm.findClass RX7 = some m.cls := findClass_of_methodNamed Bd.named
  have hA : ∀ q, s.heap.size ≤ q → AL L s.heap.size q := fun _ h => Or.inr h
  have hl := lv_entry ([.ref y, .int (iI a1)]) (n := 2) (Nat.le_of_ble_eq_true rfl)
  rw [lg_entry_eq]
  generalize (lg_sl ([.ref y, .int (iI a1)]) ++ List.replicate (2 - (lg_sl ([.ref y, .int (iI a1)])).length) Slot.unset).toArray = ls at hl ⊢
  refine absQ (fun Q R av hQ hR hav => ?_)
  have hts : ∀ w ∈ gw, w.before av s = true := by rw [hav]; exact fun w h => hts0 w (List.mem_cons_of_mem _ h)
  have hRf : R.frames = 2 := by rw [hR]; rfl
  have hRl : R.locals = 55 := by rw [hR]; rfl
  have hRc : R.cells = 0 := by rw [hR]; rfl
  have hRs : R.slots = 0 := by rw [hR]; rfl
  clear hR hts0 Bd
  have hl : lv_has ls 2 [(0, .ref y), (1, .int (iI a1))] := hl
  have hfx : ∀ q ∈ ([(y, .inr (7, [.int (iI th), .ref m1, .ref m2, .ref m3, .int (iI pn), .ref m5, .ref m6, .ref m7, .ref m8, .ref m9, .ref m10, .ref m11, .ref m12, .ref m13, .int (iI rw_), .ref m15, .long (lI fu), .long (lI fb)]))] : List (Nat × va_E)), f q.1 = q.2 := fun q hq => by
    simp only [List.mem_cons, List.not_mem_nil, or_false] at hq
    rcases hq with rfl
    · exact ha
  have hmw : mw f [(y, .inr (7, [.int (iI th), .ref m1, .ref m2, .ref m3, .int (iI pn), .ref m5, .ref m6, .ref m7, .ref m8, .ref m9, .ref m10, .ref m11, .ref m12, .ref m13, .int (iI rw_), .ref m15, .long (lI fu), .long (lI fb)]))] = f := mw_self (fun k a e hk => hfx (a, e) (List.mem_of_getElem? hk))
  have B := B.focus [(y, .inr (7, [.int (iI th), .ref m1, .ref m2, .ref m3, .int (iI pn), .ref m5, .ref m6, .ref m7, .ref m8, .ref m9, .ref m10, .ref m11, .ref m12, .ref m13, .int (iI rw_), .ref m15, .long (lI fu), .long (lI fb)]))] hfx
  refine lv_aload_n hx hb d_Mo_roots_0 rfl (lv_at hl 0 rfl) ?_
  refine x_iconst hx hb d_Mo_roots_1 ?_
  refine x_put (C := RX7) (T := TX7) (N := 18) hx hb hts inX7 tyX7 tyX7_ok nmX7 hown B hF 0 rfl rfl 0 (by decide) (hts _ w_677) (fun _ h9 => h9) rfl (tyX7_ok 0 (by decide)) rfl rfl (Nat.le_of_ble_eq_true rfl) d_Mo_roots_2 (fun H locs B => ?_)
  have B : Wb D vwCl (TY cs) L (mw f [(y, .inr (7, [.int (iI 0), .ref m1, .ref m2, .ref m3, .int (iI pn), .ref m5, .ref m6, .ref m7, .ref m8, .ref m9, .ref m10, .ref m11, .ref m12, .ref m13, .int (iI rw_), .ref m15, .long (lI fu), .long (lI fb)]))]) (AL L s.heap.size) s H _ := B
  refine lv_aload_n hx hb d_Mo_roots_5 rfl (lv_at hl 0 rfl) ?_
  refine lv_iload_n hx hb d_Mo_roots_6 rfl (lv_at hl 1 rfl) ?_
  refine x_calli B hA (va_runV (As := [.int (iI a1)]) (rest := []) ⟨hx, hb, hml, hown, hts⟩ (c_Mo_is_f l D cs _ _ _ y m1 m2 m3 m5 m6 m7 m8 m9 m10 m11 m12 m13 m15 0 pn rw_ fu fb a1 hF (mw_get (X := [(y, .inr (7, [.int (iI 0), .ref m1, .ref m2, .ref m3, .int (iI pn), .ref m5, .ref m6, .ref m7, .ref m8, .ref m9, .ref m10, .ref m11, .ref m12, .ref m13, .int (iI rw_), .ref m15, .long (lI fu), .long (lI fb)]))]) hF.1 (k := 0) rfl) hpn (by omega) (by omega)) (cwV 1 hts (gw_V w_745 w_747 s_29 w_8 w_748) rfl rfl rfl (by decide +kernel) ⟨by rw [hRf]; exact Nat.le_of_ble_eq_true rfl, by rw [hRl]; exact Nat.le_of_ble_eq_true rfl⟩) ⟨K0.blind, B.recv (hF.2 _ (mw_key (k := 0) (X := [(y, .inr (7, [.int (iI 0), .ref m1, .ref m2, .ref m3, .int (iI pn), .ref m5, .ref m6, .ref m7, .ref m8, .ref m9, .ref m10, .ref m11, .ref m12, .ref m13, .int (iI rw_), .ref m15, .long (lI fu), .long (lI fb)]))]) rfl)) (mw_get (X := [(y, .inr (7, [.int (iI 0), .ref m1, .ref m2, .ref m3, .int (iI pn), .ref m5, .ref m6, .ref m7, .ref m8, .ref m9, .ref m10, .ref m11, .ref m12, .ref m13, .int (iI rw_), .ref m15, .long (lI fu), .long (lI fb)]))]) hF.1 (k := 0) rfl) rfl, B.pre _⟩ rfl rfl hl.1 rfl (lv_room (Nat.le_of_ble_eq_true rfl)) d_Mo_roots_7 ⟨by rw [hRc]; omega, by rw [hRs]; omega⟩) (fun r7 g7 H locs hw B => ?_)
  obtain ⟨rfl, rfl⟩ := hw
  have B : Wb D vwCl (TY cs) L (mw f [(y, .inr (7, [.int (iI 0), .ref m1, .ref m2, .ref m3, .int (iI pn), .ref m5, .ref m6, .ref m7, .ref m8, .ref m9, .ref m10, .ref m11, .ref m12, .ref m13, .int (iI rw_), .ref m15, .long (lI fu), .long (lI fb)]))]) (AL L s.heap.size) s H _ := B
  refine x_if_ne (tgt := 15) hx hb d_Mo_roots_10 (by decide) (by omega) (fun h10 => ?_) (fun h10 => ?_)
  · exfalso; omega
  · refine x_iconst hx hb d_Mo_roots_13 ?_
    subst hQ hav
    exact x_iret hx hb hr hlocks B d_Mo_roots_14 (⟨rfl, rfl⟩)
theorem d_Mo_between_0 : decode prog_9_method_64_code 0 = .ok (.aload_n 0, 1) := by decide +kernel
theorem d_Mo_between_1 : decode prog_9_method_64_code 1 = .ok (.iconst 0, 1) := by decide +kernel
theorem d_Mo_between_2 : decode prog_9_method_64_code 2 = .ok (.putfield 51, 3) := by decide +kernel
theorem d_Mo_between_5 : decode prog_9_method_64_code 5 = .ok (.aload_n 0, 1) := by decide +kernel
theorem d_Mo_between_6 : decode prog_9_method_64_code 6 = .ok (.iload_n 1, 1) := by decide +kernel
theorem d_Mo_between_7 : decode prog_9_method_64_code 7 = .ok (.invokevirtual 115, 3) := by decide +kernel
theorem d_Mo_between_10 : decode prog_9_method_64_code 10 = .ok (.ifCond .ne 5, 3) := by decide +kernel
theorem d_Mo_between_13 : decode prog_9_method_64_code 13 = .ok (.iconst (-1), 1) := by decide +kernel
theorem d_Mo_between_14 : decode prog_9_method_64_code 14 = .ok (.ireturn, 1) := by decide +kernel
theorem d_Mo_between_15 : decode prog_9_method_64_code 15 = .ok (.iload_n 2, 1) := by decide +kernel
theorem d_Mo_between_16 : decode prog_9_method_64_code 16 = .ok (.iload_n 3, 1) := by decide +kernel
theorem d_Mo_between_17 : decode prog_9_method_64_code 17 = .ok (.invokestatic 250, 3) := by decide +kernel
theorem d_Mo_between_20 : decode prog_9_method_64_code 20 = .ok (.ifCond .eq 29, 3) := by decide +kernel
theorem d_Mo_between_23 : decode prog_9_method_64_code 23 = .ok (.iload 4, 2) := by decide +kernel
theorem d_Mo_between_25 : decode prog_9_method_64_code 25 = .ok (.iload 5, 2) := by decide +kernel
theorem d_Mo_between_27 : decode prog_9_method_64_code 27 = .ok (.invokestatic 250, 3) := by decide +kernel
theorem d_Mo_between_30 : decode prog_9_method_64_code 30 = .ok (.ifCond .eq 19, 3) := by decide +kernel
theorem d_Mo_between_33 : decode prog_9_method_64_code 33 = .ok (.iload 4, 2) := by decide +kernel
theorem d_Mo_between_35 : decode prog_9_method_64_code 35 = .ok (.i2l, 1) := by decide +kernel
theorem d_Mo_between_36 : decode prog_9_method_64_code 36 = .ok (.iload_n 3, 1) := by decide +kernel
theorem d_Mo_between_37 : decode prog_9_method_64_code 37 = .ok (.i2l, 1) := by decide +kernel
theorem d_Mo_between_38 : decode prog_9_method_64_code 38 = .ok (.lmul, 1) := by decide +kernel
theorem d_Mo_between_39 : decode prog_9_method_64_code 39 = .ok (.iload_n 2, 1) := by decide +kernel
theorem d_Mo_between_40 : decode prog_9_method_64_code 40 = .ok (.i2l, 1) := by decide +kernel
theorem d_Mo_between_41 : decode prog_9_method_64_code 41 = .ok (.iload 5, 2) := by decide +kernel
theorem d_Mo_between_43 : decode prog_9_method_64_code 43 = .ok (.i2l, 1) := by decide +kernel
theorem d_Mo_between_44 : decode prog_9_method_64_code 44 = .ok (.lmul, 1) := by decide +kernel
theorem d_Mo_between_45 : decode prog_9_method_64_code 45 = .ok (.lcmp, 1) := by decide +kernel
theorem d_Mo_between_46 : decode prog_9_method_64_code 46 = .ok (.ifCond .ge 6, 3) := by decide +kernel
theorem d_Mo_between_49 : decode prog_9_method_64_code 49 = .ok (.bipush (-2), 2) := by decide +kernel
theorem d_Mo_between_51 : decode prog_9_method_64_code 51 = .ok (.ireturn, 1) := by decide +kernel
theorem d_Mo_between_52 : decode prog_9_method_64_code 52 = .ok (.aload_n 0, 1) := by decide +kernel
theorem d_Mo_between_53 : decode prog_9_method_64_code 53 = .ok (.iload_n 1, 1) := by decide +kernel
theorem d_Mo_between_54 : decode prog_9_method_64_code 54 = .ok (.invokevirtual 125, 3) := by decide +kernel
theorem d_Mo_between_57 : decode prog_9_method_64_code 57 = .ok (.ifCond .ge 6, 3) := by decide +kernel
theorem d_Mo_between_60 : decode prog_9_method_64_code 60 = .ok (.bipush (-3), 2) := by decide +kernel
theorem d_Mo_between_62 : decode prog_9_method_64_code 62 = .ok (.ireturn, 1) := by decide +kernel
theorem d_Mo_between_63 : decode prog_9_method_64_code 63 = .ok (.aload_n 0, 1) := by decide +kernel
theorem d_Mo_between_64 : decode prog_9_method_64_code 64 = .ok (.iload_n 1, 1) := by decide +kernel
theorem d_Mo_between_65 : decode prog_9_method_64_code 65 = .ok (.invokevirtual 207, 3) := by decide +kernel
theorem d_Mo_between_68 : decode prog_9_method_64_code 68 = .ok (.iconst 0, 1) := by decide +kernel
theorem d_Mo_between_69 : decode prog_9_method_64_code 69 = .ok (.istore 6, 2) := by decide +kernel
theorem d_Mo_between_71 : decode prog_9_method_64_code 71 = .ok (.iconst 0, 1) := by decide +kernel
theorem d_Mo_between_72 : decode prog_9_method_64_code 72 = .ok (.istore 7, 2) := by decide +kernel
theorem d_Mo_between_74 : decode prog_9_method_64_code 74 = .ok (.iload 7, 2) := by decide +kernel
theorem d_Mo_between_76 : decode prog_9_method_64_code 76 = .ok (.aload_n 0, 1) := by decide +kernel
theorem d_Mo_between_77 : decode prog_9_method_64_code 77 = .ok (.getfield 42, 3) := by decide +kernel
theorem d_Mo_between_80 : decode prog_9_method_64_code 80 = .ok (.iload_n 1, 1) := by decide +kernel
theorem d_Mo_between_81 : decode prog_9_method_64_code 81 = .ok (.iaload, 1) := by decide +kernel
theorem d_Mo_between_82 : decode prog_9_method_64_code 82 = .ok (.if_icmp .ge 51, 3) := by decide +kernel
theorem d_Mo_between_85 : decode prog_9_method_64_code 85 = .ok (.iload 6, 2) := by decide +kernel
theorem d_Mo_between_87 : decode prog_9_method_64_code 87 = .ok (.aload_n 0, 1) := by decide +kernel
theorem d_Mo_between_88 : decode prog_9_method_64_code 88 = .ok (.iconst 5, 1) := by decide +kernel
theorem d_Mo_between_89 : decode prog_9_method_64_code 89 = .ok (.iload_n 1, 1) := by decide +kernel
theorem d_Mo_between_90 : decode prog_9_method_64_code 90 = .ok (.imul, 1) := by decide +kernel
theorem d_Mo_between_91 : decode prog_9_method_64_code 91 = .ok (.iload 7, 2) := by decide +kernel
theorem d_Mo_between_93 : decode prog_9_method_64_code 93 = .ok (.iadd, 1) := by decide +kernel
theorem d_Mo_between_94 : decode prog_9_method_64_code 94 = .ok (.iload_n 2, 1) := by decide +kernel
theorem d_Mo_between_95 : decode prog_9_method_64_code 95 = .ok (.iload_n 3, 1) := by decide +kernel
theorem d_Mo_between_96 : decode prog_9_method_64_code 96 = .ok (.invokevirtual 253, 3) := by decide +kernel
theorem d_Mo_between_99 : decode prog_9_method_64_code 99 = .ok (.ifCond .le 24, 3) := by decide +kernel
theorem d_Mo_between_102 : decode prog_9_method_64_code 102 = .ok (.aload_n 0, 1) := by decide +kernel
theorem d_Mo_between_103 : decode prog_9_method_64_code 103 = .ok (.iconst 5, 1) := by decide +kernel
theorem d_Mo_between_104 : decode prog_9_method_64_code 104 = .ok (.iload_n 1, 1) := by decide +kernel
theorem d_Mo_between_105 : decode prog_9_method_64_code 105 = .ok (.imul, 1) := by decide +kernel
theorem d_Mo_between_106 : decode prog_9_method_64_code 106 = .ok (.iload 7, 2) := by decide +kernel
theorem d_Mo_between_108 : decode prog_9_method_64_code 108 = .ok (.iadd, 1) := by decide +kernel
theorem d_Mo_between_109 : decode prog_9_method_64_code 109 = .ok (.iload 4, 2) := by decide +kernel
theorem d_Mo_between_111 : decode prog_9_method_64_code 111 = .ok (.iload 5, 2) := by decide +kernel
theorem d_Mo_between_113 : decode prog_9_method_64_code 113 = .ok (.invokevirtual 253, 3) := by decide +kernel
theorem d_Mo_between_116 : decode prog_9_method_64_code 116 = .ok (.ifCond .gt 7, 3) := by decide +kernel
theorem d_Mo_between_119 : decode prog_9_method_64_code 119 = .ok (.iconst 1, 1) := by decide +kernel
theorem d_Mo_between_120 : decode prog_9_method_64_code 120 = .ok (.goto 4, 3) := by decide +kernel
theorem d_Mo_between_123 : decode prog_9_method_64_code 123 = .ok (.iconst 0, 1) := by decide +kernel
theorem d_Mo_between_124 : decode prog_9_method_64_code 124 = .ok (.iadd, 1) := by decide +kernel
theorem d_Mo_between_125 : decode prog_9_method_64_code 125 = .ok (.istore 6, 2) := by decide +kernel
theorem d_Mo_between_127 : decode prog_9_method_64_code 127 = .ok (.iinc 7 1, 3) := by decide +kernel
theorem d_Mo_between_130 : decode prog_9_method_64_code 130 = .ok (.goto (-56), 3) := by decide +kernel
theorem d_Mo_between_133 : decode prog_9_method_64_code 133 = .ok (.iload 6, 2) := by decide +kernel
theorem d_Mo_between_135 : decode prog_9_method_64_code 135 = .ok (.ireturn, 1) := by decide +kernel
set_option maxHeartbeats 8000000 in
set_option maxRecDepth 100000 in
theorem c_Mo_between_u (l : Launch) (D : va_G) (cs : Nat → ClassId) (L : List Nat) (f : Nat → va_E) (sz : Nat) (y m1 m2 m3 m5 m6 m7 m8 m9 m10 m11 m12 m13 m15 : Nat) (th pn rw_ fu fb : Int) (a1 a2 a3 a4 a5 : Int) (hF : Fc L [y]) (ha : f y = .inr (7, [.int (iI th), .ref m1, .ref m2, .ref m3, .int (iI pn), .ref m5, .ref m6, .ref m7, .ref m8, .ref m9, .ref m10, .ref m11, .ref m12, .ref m13, .int (iI rw_), .ref m15, .long (lI fu), .long (lI fb)])) (hpn : 0 ≤ pn ∧ pn ≤ 12) (ha1 : -2147483648 ≤ a1 ∧ a1 < 2147483648) (ha2 : -2147483648 ≤ a2 ∧ a2 < 2147483648) (ha3 : -2147483648 ≤ a3 ∧ a3 < 2147483648) (ha4 : -2147483648 ≤ a4 ∧ a4 < 2147483648) (ha5 : -2147483648 ≤ a5 ∧ a5 < 2147483648) (hun : a1 < 0 ∨ pn ≤ a1) : Met l (⟨"RealRootsModel", "between", "(IIIII)I"⟩ : MethodName) (.code (⟨"RealRootsModel", "between", "(IIIII)I"⟩ : MethodName) prog_9_method_64_code 8 (Option.some Jvm.ClassFile.FieldType.int) :: gw) ({ frames := 2, cells := 0, slots := 0, locals := 55 }) (va_Pc [.ref y, .int (iI a1), .int (iI a2), .int (iI a3), .int (iI a4), .int (iI a5)] (K0 D vwCl (TY cs) L f sz)) (va_Qi (fun (r : Int32) (g : Nat → va_E) => r = iI (-1) ∧ g = mw f [(y, .inr (7, [.int (iI 0), .ref m1, .ref m2, .ref m3, .int (iI pn), .ref m5, .ref m6, .ref m7, .ref m8, .ref m9, .ref m10, .ref m11, .ref m12, .ref m13, .int (iI rw_), .ref m15, .long (lI fu), .long (lI fb)]))]) (K1 D vwCl (TY cs) (AL L sz) L) (AL L sz)) 0 0 (AL L sz) := by
  refine Met.ofW (cc := prog_9_method_64_code) (maxL := 8) (ret := (Option.some Jvm.ClassFile.FieldType.int)) (by decide) rfl ?_
  intro p e s m args below meth c s₁ Bd hml hv
  obtain ⟨rfl, hk0⟩ := hv
  obtain ⟨hsz, B⟩ := hk0.start
  subst hsz
  have hx := Bd.exec
  have hb := Bd.bytes
  have hr := Bd.returns
  have hlocks := Bd.notSynchronized
  have hts0 := atoms_spec Bd.pre
  have hown : s.vm.findClass RX7 = some m.cls := findClass_of_methodNamed Bd.named
  have hA : ∀ q, s.heap.size ≤ q → AL L s.heap.size q := fun _ h => Or.inr h
  have hl := lv_entry ([.ref y, .int (iI a1), .int (iI a2), .int (iI a3), .int (iI a4), .int (iI a5)]) (n := 8) (Nat.le_of_ble_eq_true rfl)
  rw [lg_entry_eq]
  generalize (lg_sl ([.ref y, .int (iI a1), .int (iI a2), .int (iI a3), .int (iI a4), .int (iI a5)]) ++ List.replicate (8 - (lg_sl ([.ref y, .int (iI a1), .int (iI a2), .int (iI a3), .int (iI a4), .int (iI a5)])).length) Slot.unset).toArray = ls at hl ⊢
  refine absQ (fun Q R av hQ hR hav => ?_)
  have hts : ∀ w ∈ gw, w.before av s = true := by rw [hav]; exact fun w h => hts0 w (List.mem_cons_of_mem _ h)
  have hRf : R.frames = 2 := by rw [hR]; rfl
  have hRl : R.locals = 55 := by rw [hR]; rfl
  have hRc : R.cells = 0 := by rw [hR]; rfl
  have hRs : R.slots = 0 := by rw [hR]; rfl
  clear hR hts0 Bd
  have hl : lv_has ls 8 [(0, .ref y), (1, .int (iI a1)), (2, .int (iI a2)), (3, .int (iI a3)), (4, .int (iI a4)), (5, .int (iI a5))] := hl
  have hfx : ∀ q ∈ ([(y, .inr (7, [.int (iI th), .ref m1, .ref m2, .ref m3, .int (iI pn), .ref m5, .ref m6, .ref m7, .ref m8, .ref m9, .ref m10, .ref m11, .ref m12, .ref m13, .int (iI rw_), .ref m15, .long (lI fu), .long (lI fb)]))] : List (Nat × va_E)), f q.1 = q.2 := fun q hq => by
    simp only [List.mem_cons, List.not_mem_nil, or_false] at hq
    rcases hq with rfl
    · exact ha
  have hmw : mw f [(y, .inr (7, [.int (iI th), .ref m1, .ref m2, .ref m3, .int (iI pn), .ref m5, .ref m6, .ref m7, .ref m8, .ref m9, .ref m10, .ref m11, .ref m12, .ref m13, .int (iI rw_), .ref m15, .long (lI fu), .long (lI fb)]))] = f := mw_self (fun k a e hk => hfx (a, e) (List.mem_of_getElem? hk))
  have B := B.focus [(y, .inr (7, [.int (iI th), .ref m1, .ref m2, .ref m3, .int (iI pn), .ref m5, .ref m6, .ref m7, .ref m8, .ref m9, .ref m10, .ref m11, .ref m12, .ref m13, .int (iI rw_), .ref m15, .long (lI fu), .long (lI fb)]))] hfx
  refine lv_aload_n hx hb d_Mo_between_0 rfl (lv_at hl 0 rfl) ?_
  refine x_iconst hx hb d_Mo_between_1 ?_
  refine x_put (C := RX7) (T := TX7) (N := 18) hx hb hts inX7 tyX7 tyX7_ok nmX7 hown B hF 0 rfl rfl 0 (by decide) (hts _ w_677) (fun _ h9 => h9) rfl (tyX7_ok 0 (by decide)) rfl rfl (Nat.le_of_ble_eq_true rfl) d_Mo_between_2 (fun H locs B => ?_)
  have B : Wb D vwCl (TY cs) L (mw f [(y, .inr (7, [.int (iI 0), .ref m1, .ref m2, .ref m3, .int (iI pn), .ref m5, .ref m6, .ref m7, .ref m8, .ref m9, .ref m10, .ref m11, .ref m12, .ref m13, .int (iI rw_), .ref m15, .long (lI fu), .long (lI fb)]))]) (AL L s.heap.size) s H _ := B
  refine lv_aload_n hx hb d_Mo_between_5 rfl (lv_at hl 0 rfl) ?_
  refine lv_iload_n hx hb d_Mo_between_6 rfl (lv_at hl 1 rfl) ?_
  refine x_calli B hA (va_runV (As := [.int (iI a1)]) (rest := []) ⟨hx, hb, hml, hown, hts⟩ (c_Mo_is_f l D cs _ _ _ y m1 m2 m3 m5 m6 m7 m8 m9 m10 m11 m12 m13 m15 0 pn rw_ fu fb a1 hF (mw_get (X := [(y, .inr (7, [.int (iI 0), .ref m1, .ref m2, .ref m3, .int (iI pn), .ref m5, .ref m6, .ref m7, .ref m8, .ref m9, .ref m10, .ref m11, .ref m12, .ref m13, .int (iI rw_), .ref m15, .long (lI fu), .long (lI fb)]))]) hF.1 (k := 0) rfl) hpn (by omega) (by omega)) (cwV 1 hts (gw_V w_745 w_747 s_29 w_8 w_748) rfl rfl rfl (by decide +kernel) ⟨by rw [hRf]; exact Nat.le_of_ble_eq_true rfl, by rw [hRl]; exact Nat.le_of_ble_eq_true rfl⟩) ⟨K0.blind, B.recv (hF.2 _ (mw_key (k := 0) (X := [(y, .inr (7, [.int (iI 0), .ref m1, .ref m2, .ref m3, .int (iI pn), .ref m5, .ref m6, .ref m7, .ref m8, .ref m9, .ref m10, .ref m11, .ref m12, .ref m13, .int (iI rw_), .ref m15, .long (lI fu), .long (lI fb)]))]) rfl)) (mw_get (X := [(y, .inr (7, [.int (iI 0), .ref m1, .ref m2, .ref m3, .int (iI pn), .ref m5, .ref m6, .ref m7, .ref m8, .ref m9, .ref m10, .ref m11, .ref m12, .ref m13, .int (iI rw_), .ref m15, .long (lI fu), .long (lI fb)]))]) hF.1 (k := 0) rfl) rfl, B.pre _⟩ rfl rfl hl.1 rfl (lv_room (Nat.le_of_ble_eq_true rfl)) d_Mo_between_7 ⟨by rw [hRc]; omega, by rw [hRs]; omega⟩) (fun r7 g7 H locs hw B => ?_)
  obtain ⟨rfl, rfl⟩ := hw
  have B : Wb D vwCl (TY cs) L (mw f [(y, .inr (7, [.int (iI 0), .ref m1, .ref m2, .ref m3, .int (iI pn), .ref m5, .ref m6, .ref m7, .ref m8, .ref m9, .ref m10, .ref m11, .ref m12, .ref m13, .int (iI rw_), .ref m15, .long (lI fu), .long (lI fb)]))]) (AL L s.heap.size) s H _ := B
  refine x_if_ne (tgt := 15) hx hb d_Mo_between_10 (by decide) (by omega) (fun h10 => ?_) (fun h10 => ?_)
  · exfalso; omega
  · refine x_iconst hx hb d_Mo_between_13 ?_
    subst hQ hav
    exact x_iret hx hb hr hlocks B d_Mo_between_14 (⟨rfl, rfl⟩)
theorem d_Mo_changes_0 : decode prog_9_method_65_code 0 = .ok (.aload_n 0, 1) := by decide +kernel
theorem d_Mo_changes_1 : decode prog_9_method_65_code 1 = .ok (.iconst 0, 1) := by decide +kernel
theorem d_Mo_changes_2 : decode prog_9_method_65_code 2 = .ok (.putfield 51, 3) := by decide +kernel
theorem d_Mo_changes_5 : decode prog_9_method_65_code 5 = .ok (.aload_n 0, 1) := by decide +kernel
theorem d_Mo_changes_6 : decode prog_9_method_65_code 6 = .ok (.iload_n 1, 1) := by decide +kernel
theorem d_Mo_changes_7 : decode prog_9_method_65_code 7 = .ok (.invokevirtual 115, 3) := by decide +kernel
theorem d_Mo_changes_10 : decode prog_9_method_65_code 10 = .ok (.ifCond .ne 5, 3) := by decide +kernel
theorem d_Mo_changes_13 : decode prog_9_method_65_code 13 = .ok (.iconst (-1), 1) := by decide +kernel
theorem d_Mo_changes_14 : decode prog_9_method_65_code 14 = .ok (.ireturn, 1) := by decide +kernel
theorem d_Mo_changes_15 : decode prog_9_method_65_code 15 = .ok (.iload_n 2, 1) := by decide +kernel
theorem d_Mo_changes_16 : decode prog_9_method_65_code 16 = .ok (.iload_n 3, 1) := by decide +kernel
theorem d_Mo_changes_17 : decode prog_9_method_65_code 17 = .ok (.invokestatic 250, 3) := by decide +kernel
theorem d_Mo_changes_20 : decode prog_9_method_65_code 20 = .ok (.ifCond .ne 6, 3) := by decide +kernel
theorem d_Mo_changes_23 : decode prog_9_method_65_code 23 = .ok (.bipush (-2), 2) := by decide +kernel
theorem d_Mo_changes_25 : decode prog_9_method_65_code 25 = .ok (.ireturn, 1) := by decide +kernel
theorem d_Mo_changes_26 : decode prog_9_method_65_code 26 = .ok (.aload_n 0, 1) := by decide +kernel
theorem d_Mo_changes_27 : decode prog_9_method_65_code 27 = .ok (.iload_n 1, 1) := by decide +kernel
theorem d_Mo_changes_28 : decode prog_9_method_65_code 28 = .ok (.invokevirtual 125, 3) := by decide +kernel
theorem d_Mo_changes_31 : decode prog_9_method_65_code 31 = .ok (.ifCond .ge 6, 3) := by decide +kernel
theorem d_Mo_changes_34 : decode prog_9_method_65_code 34 = .ok (.bipush (-3), 2) := by decide +kernel
theorem d_Mo_changes_36 : decode prog_9_method_65_code 36 = .ok (.ireturn, 1) := by decide +kernel
theorem d_Mo_changes_37 : decode prog_9_method_65_code 37 = .ok (.aload_n 0, 1) := by decide +kernel
theorem d_Mo_changes_38 : decode prog_9_method_65_code 38 = .ok (.aload_n 0, 1) := by decide +kernel
theorem d_Mo_changes_39 : decode prog_9_method_65_code 39 = .ok (.getfield 39, 3) := by decide +kernel
theorem d_Mo_changes_42 : decode prog_9_method_65_code 42 = .ok (.iload_n 1, 1) := by decide +kernel
theorem d_Mo_changes_43 : decode prog_9_method_65_code 43 = .ok (.invokevirtual 166, 3) := by decide +kernel
theorem d_Mo_changes_46 : decode prog_9_method_65_code 46 = .ok (.aload_n 0, 1) := by decide +kernel
theorem d_Mo_changes_47 : decode prog_9_method_65_code 47 = .ok (.aload_n 0, 1) := by decide +kernel
theorem d_Mo_changes_48 : decode prog_9_method_65_code 48 = .ok (.getfield 39, 3) := by decide +kernel
theorem d_Mo_changes_51 : decode prog_9_method_65_code 51 = .ok (.invokevirtual 186, 3) := by decide +kernel
theorem d_Mo_changes_54 : decode prog_9_method_65_code 54 = .ok (.aload_n 0, 1) := by decide +kernel
theorem d_Mo_changes_55 : decode prog_9_method_65_code 55 = .ok (.sipush 150, 3) := by decide +kernel
theorem d_Mo_changes_58 : decode prog_9_method_65_code 58 = .ok (.iload_n 2, 1) := by decide +kernel
theorem d_Mo_changes_59 : decode prog_9_method_65_code 59 = .ok (.i2l, 1) := by decide +kernel
theorem d_Mo_changes_60 : decode prog_9_method_65_code 60 = .ok (.invokevirtual 77, 3) := by decide +kernel
theorem d_Mo_changes_63 : decode prog_9_method_65_code 63 = .ok (.aload_n 0, 1) := by decide +kernel
theorem d_Mo_changes_64 : decode prog_9_method_65_code 64 = .ok (.sipush 151, 3) := by decide +kernel
theorem d_Mo_changes_67 : decode prog_9_method_65_code 67 = .ok (.iload_n 3, 1) := by decide +kernel
theorem d_Mo_changes_68 : decode prog_9_method_65_code 68 = .ok (.i2l, 1) := by decide +kernel
theorem d_Mo_changes_69 : decode prog_9_method_65_code 69 = .ok (.invokevirtual 77, 3) := by decide +kernel
theorem d_Mo_changes_72 : decode prog_9_method_65_code 72 = .ok (.aload_n 0, 1) := by decide +kernel
theorem d_Mo_changes_73 : decode prog_9_method_65_code 73 = .ok (.invokevirtual 183, 3) := by decide +kernel
theorem d_Mo_changes_76 : decode prog_9_method_65_code 76 = .ok (.ireturn, 1) := by decide +kernel
set_option maxHeartbeats 8000000 in
set_option maxRecDepth 100000 in
theorem c_Mo_changes_u (l : Launch) (D : va_G) (cs : Nat → ClassId) (L : List Nat) (f : Nat → va_E) (sz : Nat) (y m1 m2 m3 m5 m6 m7 m8 m9 m10 m11 m12 m13 m15 : Nat) (th pn rw_ fu fb : Int) (a1 a2 a3 : Int) (hF : Fc L [y]) (ha : f y = .inr (7, [.int (iI th), .ref m1, .ref m2, .ref m3, .int (iI pn), .ref m5, .ref m6, .ref m7, .ref m8, .ref m9, .ref m10, .ref m11, .ref m12, .ref m13, .int (iI rw_), .ref m15, .long (lI fu), .long (lI fb)])) (hpn : 0 ≤ pn ∧ pn ≤ 12) (ha1 : -2147483648 ≤ a1 ∧ a1 < 2147483648) (ha2 : -2147483648 ≤ a2 ∧ a2 < 2147483648) (ha3 : -2147483648 ≤ a3 ∧ a3 < 2147483648) (hun : a1 < 0 ∨ pn ≤ a1) : Met l (⟨"RealRootsModel", "changes", "(III)I"⟩ : MethodName) (.code (⟨"RealRootsModel", "changes", "(III)I"⟩ : MethodName) prog_9_method_65_code 4 (Option.some Jvm.ClassFile.FieldType.int) :: gw) ({ frames := 2, cells := 0, slots := 0, locals := 55 }) (va_Pc [.ref y, .int (iI a1), .int (iI a2), .int (iI a3)] (K0 D vwCl (TY cs) L f sz)) (va_Qi (fun (r : Int32) (g : Nat → va_E) => r = iI (-1) ∧ g = mw f [(y, .inr (7, [.int (iI 0), .ref m1, .ref m2, .ref m3, .int (iI pn), .ref m5, .ref m6, .ref m7, .ref m8, .ref m9, .ref m10, .ref m11, .ref m12, .ref m13, .int (iI rw_), .ref m15, .long (lI fu), .long (lI fb)]))]) (K1 D vwCl (TY cs) (AL L sz) L) (AL L sz)) 0 0 (AL L sz) := by
  refine Met.ofW (cc := prog_9_method_65_code) (maxL := 4) (ret := (Option.some Jvm.ClassFile.FieldType.int)) (by decide) rfl ?_
  intro p e s m args below meth c s₁ Bd hml hv
  obtain ⟨rfl, hk0⟩ := hv
  obtain ⟨hsz, B⟩ := hk0.start
  subst hsz
  have hx := Bd.exec
  have hb := Bd.bytes
  have hr := Bd.returns
  have hlocks := Bd.notSynchronized
  have hts0 := atoms_spec Bd.pre
  have hown : s.vm.findClass RX7 = some m.cls := findClass_of_methodNamed Bd.named
  have hA : ∀ q, s.heap.size ≤ q → AL L s.heap.size q := fun _ h => Or.inr h
  have hl := lv_entry ([.ref y, .int (iI a1), .int (iI a2), .int (iI a3)]) (n := 4) (Nat.le_of_ble_eq_true rfl)
  rw [lg_entry_eq]
  generalize (lg_sl ([.ref y, .int (iI a1), .int (iI a2), .int (iI a3)]) ++ List.replicate (4 - (lg_sl ([.ref y, .int (iI a1), .int (iI a2), .int (iI a3)])).length) Slot.unset).toArray = ls at hl ⊢
  refine absQ (fun Q R av hQ hR hav => ?_)
  have hts : ∀ w ∈ gw, w.before av s = true := by rw [hav]; exact fun w h => hts0 w (List.mem_cons_of_mem _ h)
  have hRf : R.frames = 2 := by rw [hR]; rfl
  have hRl : R.locals = 55 := by rw [hR]; rfl
  have hRc : R.cells = 0 := by rw [hR]; rfl
  have hRs : R.slots = 0 := by rw [hR]; rfl
  clear hR hts0 Bd
  have hl : lv_has ls 4 [(0, .ref y), (1, .int (iI a1)), (2, .int (iI a2)), (3, .int (iI a3))] := hl
  have hfx : ∀ q ∈ ([(y, .inr (7, [.int (iI th), .ref m1, .ref m2, .ref m3, .int (iI pn), .ref m5, .ref m6, .ref m7, .ref m8, .ref m9, .ref m10, .ref m11, .ref m12, .ref m13, .int (iI rw_), .ref m15, .long (lI fu), .long (lI fb)]))] : List (Nat × va_E)), f q.1 = q.2 := fun q hq => by
    simp only [List.mem_cons, List.not_mem_nil, or_false] at hq
    rcases hq with rfl
    · exact ha
  have hmw : mw f [(y, .inr (7, [.int (iI th), .ref m1, .ref m2, .ref m3, .int (iI pn), .ref m5, .ref m6, .ref m7, .ref m8, .ref m9, .ref m10, .ref m11, .ref m12, .ref m13, .int (iI rw_), .ref m15, .long (lI fu), .long (lI fb)]))] = f := mw_self (fun k a e hk => hfx (a, e) (List.mem_of_getElem? hk))
  have B := B.focus [(y, .inr (7, [.int (iI th), .ref m1, .ref m2, .ref m3, .int (iI pn), .ref m5, .ref m6, .ref m7, .ref m8, .ref m9, .ref m10, .ref m11, .ref m12, .ref m13, .int (iI rw_), .ref m15, .long (lI fu), .long (lI fb)]))] hfx
  refine lv_aload_n hx hb d_Mo_changes_0 rfl (lv_at hl 0 rfl) ?_
  refine x_iconst hx hb d_Mo_changes_1 ?_
  refine x_put (C := RX7) (T := TX7) (N := 18) hx hb hts inX7 tyX7 tyX7_ok nmX7 hown B hF 0 rfl rfl 0 (by decide) (hts _ w_677) (fun _ h9 => h9) rfl (tyX7_ok 0 (by decide)) rfl rfl (Nat.le_of_ble_eq_true rfl) d_Mo_changes_2 (fun H locs B => ?_)
  have B : Wb D vwCl (TY cs) L (mw f [(y, .inr (7, [.int (iI 0), .ref m1, .ref m2, .ref m3, .int (iI pn), .ref m5, .ref m6, .ref m7, .ref m8, .ref m9, .ref m10, .ref m11, .ref m12, .ref m13, .int (iI rw_), .ref m15, .long (lI fu), .long (lI fb)]))]) (AL L s.heap.size) s H _ := B
  refine lv_aload_n hx hb d_Mo_changes_5 rfl (lv_at hl 0 rfl) ?_
  refine lv_iload_n hx hb d_Mo_changes_6 rfl (lv_at hl 1 rfl) ?_
  refine x_calli B hA (va_runV (As := [.int (iI a1)]) (rest := []) ⟨hx, hb, hml, hown, hts⟩ (c_Mo_is_f l D cs _ _ _ y m1 m2 m3 m5 m6 m7 m8 m9 m10 m11 m12 m13 m15 0 pn rw_ fu fb a1 hF (mw_get (X := [(y, .inr (7, [.int (iI 0), .ref m1, .ref m2, .ref m3, .int (iI pn), .ref m5, .ref m6, .ref m7, .ref m8, .ref m9, .ref m10, .ref m11, .ref m12, .ref m13, .int (iI rw_), .ref m15, .long (lI fu), .long (lI fb)]))]) hF.1 (k := 0) rfl) hpn (by omega) (by omega)) (cwV 1 hts (gw_V w_745 w_747 s_29 w_8 w_748) rfl rfl rfl (by decide +kernel) ⟨by rw [hRf]; exact Nat.le_of_ble_eq_true rfl, by rw [hRl]; exact Nat.le_of_ble_eq_true rfl⟩) ⟨K0.blind, B.recv (hF.2 _ (mw_key (k := 0) (X := [(y, .inr (7, [.int (iI 0), .ref m1, .ref m2, .ref m3, .int (iI pn), .ref m5, .ref m6, .ref m7, .ref m8, .ref m9, .ref m10, .ref m11, .ref m12, .ref m13, .int (iI rw_), .ref m15, .long (lI fu), .long (lI fb)]))]) rfl)) (mw_get (X := [(y, .inr (7, [.int (iI 0), .ref m1, .ref m2, .ref m3, .int (iI pn), .ref m5, .ref m6, .ref m7, .ref m8, .ref m9, .ref m10, .ref m11, .ref m12, .ref m13, .int (iI rw_), .ref m15, .long (lI fu), .long (lI fb)]))]) hF.1 (k := 0) rfl) rfl, B.pre _⟩ rfl rfl hl.1 rfl (lv_room (Nat.le_of_ble_eq_true rfl)) d_Mo_changes_7 ⟨by rw [hRc]; omega, by rw [hRs]; omega⟩) (fun r7 g7 H locs hw B => ?_)
  obtain ⟨rfl, rfl⟩ := hw
  have B : Wb D vwCl (TY cs) L (mw f [(y, .inr (7, [.int (iI 0), .ref m1, .ref m2, .ref m3, .int (iI pn), .ref m5, .ref m6, .ref m7, .ref m8, .ref m9, .ref m10, .ref m11, .ref m12, .ref m13, .int (iI rw_), .ref m15, .long (lI fu), .long (lI fb)]))]) (AL L s.heap.size) s H _ := B
  refine x_if_ne (tgt := 15) hx hb d_Mo_changes_10 (by decide) (by omega) (fun h10 => ?_) (fun h10 => ?_)
  · exfalso; omega
  · refine x_iconst hx hb d_Mo_changes_13 ?_
    subst hQ hav
    exact x_iret hx hb hr hlocks B d_Mo_changes_14 (⟨rfl, rfl⟩)
theorem d_Mo_row_0 : decode prog_9_method_66_code 0 = .ok (.aload_n 0, 1) := by decide +kernel
theorem d_Mo_row_1 : decode prog_9_method_66_code 1 = .ok (.iconst 0, 1) := by decide +kernel
theorem d_Mo_row_2 : decode prog_9_method_66_code 2 = .ok (.putfield 51, 3) := by decide +kernel
theorem d_Mo_row_5 : decode prog_9_method_66_code 5 = .ok (.aload_n 0, 1) := by decide +kernel
theorem d_Mo_row_6 : decode prog_9_method_66_code 6 = .ok (.iload_n 1, 1) := by decide +kernel
theorem d_Mo_row_7 : decode prog_9_method_66_code 7 = .ok (.invokevirtual 115, 3) := by decide +kernel
theorem d_Mo_row_10 : decode prog_9_method_66_code 10 = .ok (.ifCond .ne 5, 3) := by decide +kernel
theorem d_Mo_row_13 : decode prog_9_method_66_code 13 = .ok (.iconst (-1), 1) := by decide +kernel
theorem d_Mo_row_14 : decode prog_9_method_66_code 14 = .ok (.ireturn, 1) := by decide +kernel
theorem d_Mo_row_15 : decode prog_9_method_66_code 15 = .ok (.aload_n 0, 1) := by decide +kernel
theorem d_Mo_row_16 : decode prog_9_method_66_code 16 = .ok (.iload_n 1, 1) := by decide +kernel
theorem d_Mo_row_17 : decode prog_9_method_66_code 17 = .ok (.invokevirtual 125, 3) := by decide +kernel
theorem d_Mo_row_20 : decode prog_9_method_66_code 20 = .ok (.ifCond .ge 6, 3) := by decide +kernel
theorem d_Mo_row_23 : decode prog_9_method_66_code 23 = .ok (.bipush (-3), 2) := by decide +kernel
theorem d_Mo_row_25 : decode prog_9_method_66_code 25 = .ok (.ireturn, 1) := by decide +kernel
theorem d_Mo_row_26 : decode prog_9_method_66_code 26 = .ok (.aload_n 0, 1) := by decide +kernel
theorem d_Mo_row_27 : decode prog_9_method_66_code 27 = .ok (.aload_n 0, 1) := by decide +kernel
theorem d_Mo_row_28 : decode prog_9_method_66_code 28 = .ok (.getfield 39, 3) := by decide +kernel
theorem d_Mo_row_31 : decode prog_9_method_66_code 31 = .ok (.iload_n 1, 1) := by decide +kernel
theorem d_Mo_row_32 : decode prog_9_method_66_code 32 = .ok (.invokevirtual 166, 3) := by decide +kernel
theorem d_Mo_row_35 : decode prog_9_method_66_code 35 = .ok (.aload_n 0, 1) := by decide +kernel
theorem d_Mo_row_36 : decode prog_9_method_66_code 36 = .ok (.aload_n 0, 1) := by decide +kernel
theorem d_Mo_row_37 : decode prog_9_method_66_code 37 = .ok (.getfield 39, 3) := by decide +kernel
theorem d_Mo_row_40 : decode prog_9_method_66_code 40 = .ok (.invokevirtual 186, 3) := by decide +kernel
theorem d_Mo_row_43 : decode prog_9_method_66_code 43 = .ok (.aload_n 0, 1) := by decide +kernel
theorem d_Mo_row_44 : decode prog_9_method_66_code 44 = .ok (.getfield 177, 3) := by decide +kernel
theorem d_Mo_row_47 : decode prog_9_method_66_code 47 = .ok (.ireturn, 1) := by decide +kernel
set_option maxHeartbeats 8000000 in
set_option maxRecDepth 100000 in
theorem c_Mo_row_u (l : Launch) (D : va_G) (cs : Nat → ClassId) (L : List Nat) (f : Nat → va_E) (sz : Nat) (y m1 m2 m3 m5 m6 m7 m8 m9 m10 m11 m12 m13 m15 : Nat) (th pn rw_ fu fb : Int) (a1 : Int) (hF : Fc L [y]) (ha : f y = .inr (7, [.int (iI th), .ref m1, .ref m2, .ref m3, .int (iI pn), .ref m5, .ref m6, .ref m7, .ref m8, .ref m9, .ref m10, .ref m11, .ref m12, .ref m13, .int (iI rw_), .ref m15, .long (lI fu), .long (lI fb)])) (hpn : 0 ≤ pn ∧ pn ≤ 12) (ha1 : -2147483648 ≤ a1 ∧ a1 < 2147483648) (hun : a1 < 0 ∨ pn ≤ a1) : Met l (⟨"RealRootsModel", "row", "(I)I"⟩ : MethodName) (.code (⟨"RealRootsModel", "row", "(I)I"⟩ : MethodName) prog_9_method_66_code 2 (Option.some Jvm.ClassFile.FieldType.int) :: gw) ({ frames := 2, cells := 0, slots := 0, locals := 55 }) (va_Pc [.ref y, .int (iI a1)] (K0 D vwCl (TY cs) L f sz)) (va_Qi (fun (r : Int32) (g : Nat → va_E) => r = iI (-1) ∧ g = mw f [(y, .inr (7, [.int (iI 0), .ref m1, .ref m2, .ref m3, .int (iI pn), .ref m5, .ref m6, .ref m7, .ref m8, .ref m9, .ref m10, .ref m11, .ref m12, .ref m13, .int (iI rw_), .ref m15, .long (lI fu), .long (lI fb)]))]) (K1 D vwCl (TY cs) (AL L sz) L) (AL L sz)) 0 0 (AL L sz) := by
  refine Met.ofW (cc := prog_9_method_66_code) (maxL := 2) (ret := (Option.some Jvm.ClassFile.FieldType.int)) (by decide) rfl ?_
  intro p e s m args below meth c s₁ Bd hml hv
  obtain ⟨rfl, hk0⟩ := hv
  obtain ⟨hsz, B⟩ := hk0.start
  subst hsz
  have hx := Bd.exec
  have hb := Bd.bytes
  have hr := Bd.returns
  have hlocks := Bd.notSynchronized
  have hts0 := atoms_spec Bd.pre
  have hown : s.vm.findClass RX7 = some m.cls := findClass_of_methodNamed Bd.named
  have hA : ∀ q, s.heap.size ≤ q → AL L s.heap.size q := fun _ h => Or.inr h
  have hl := lv_entry ([.ref y, .int (iI a1)]) (n := 2) (Nat.le_of_ble_eq_true rfl)
  rw [lg_entry_eq]
  generalize (lg_sl ([.ref y, .int (iI a1)]) ++ List.replicate (2 - (lg_sl ([.ref y, .int (iI a1)])).length) Slot.unset).toArray = ls at hl ⊢
  refine absQ (fun Q R av hQ hR hav => ?_)
  have hts : ∀ w ∈ gw, w.before av s = true := by rw [hav]; exact fun w h => hts0 w (List.mem_cons_of_mem _ h)
  have hRf : R.frames = 2 := by rw [hR]; rfl
  have hRl : R.locals = 55 := by rw [hR]; rfl
  have hRc : R.cells = 0 := by rw [hR]; rfl
  have hRs : R.slots = 0 := by rw [hR]; rfl
  clear hR hts0 Bd
  have hl : lv_has ls 2 [(0, .ref y), (1, .int (iI a1))] := hl
  have hfx : ∀ q ∈ ([(y, .inr (7, [.int (iI th), .ref m1, .ref m2, .ref m3, .int (iI pn), .ref m5, .ref m6, .ref m7, .ref m8, .ref m9, .ref m10, .ref m11, .ref m12, .ref m13, .int (iI rw_), .ref m15, .long (lI fu), .long (lI fb)]))] : List (Nat × va_E)), f q.1 = q.2 := fun q hq => by
    simp only [List.mem_cons, List.not_mem_nil, or_false] at hq
    rcases hq with rfl
    · exact ha
  have hmw : mw f [(y, .inr (7, [.int (iI th), .ref m1, .ref m2, .ref m3, .int (iI pn), .ref m5, .ref m6, .ref m7, .ref m8, .ref m9, .ref m10, .ref m11, .ref m12, .ref m13, .int (iI rw_), .ref m15, .long (lI fu), .long (lI fb)]))] = f := mw_self (fun k a e hk => hfx (a, e) (List.mem_of_getElem? hk))
  have B := B.focus [(y, .inr (7, [.int (iI th), .ref m1, .ref m2, .ref m3, .int (iI pn), .ref m5, .ref m6, .ref m7, .ref m8, .ref m9, .ref m10, .ref m11, .ref m12, .ref m13, .int (iI rw_), .ref m15, .long (lI fu), .long (lI fb)]))] hfx
  refine lv_aload_n hx hb d_Mo_row_0 rfl (lv_at hl 0 rfl) ?_
  refine x_iconst hx hb d_Mo_row_1 ?_
  refine x_put (C := RX7) (T := TX7) (N := 18) hx hb hts inX7 tyX7 tyX7_ok nmX7 hown B hF 0 rfl rfl 0 (by decide) (hts _ w_677) (fun _ h9 => h9) rfl (tyX7_ok 0 (by decide)) rfl rfl (Nat.le_of_ble_eq_true rfl) d_Mo_row_2 (fun H locs B => ?_)
  have B : Wb D vwCl (TY cs) L (mw f [(y, .inr (7, [.int (iI 0), .ref m1, .ref m2, .ref m3, .int (iI pn), .ref m5, .ref m6, .ref m7, .ref m8, .ref m9, .ref m10, .ref m11, .ref m12, .ref m13, .int (iI rw_), .ref m15, .long (lI fu), .long (lI fb)]))]) (AL L s.heap.size) s H _ := B
  refine lv_aload_n hx hb d_Mo_row_5 rfl (lv_at hl 0 rfl) ?_
  refine lv_iload_n hx hb d_Mo_row_6 rfl (lv_at hl 1 rfl) ?_
  refine x_calli B hA (va_runV (As := [.int (iI a1)]) (rest := []) ⟨hx, hb, hml, hown, hts⟩ (c_Mo_is_f l D cs _ _ _ y m1 m2 m3 m5 m6 m7 m8 m9 m10 m11 m12 m13 m15 0 pn rw_ fu fb a1 hF (mw_get (X := [(y, .inr (7, [.int (iI 0), .ref m1, .ref m2, .ref m3, .int (iI pn), .ref m5, .ref m6, .ref m7, .ref m8, .ref m9, .ref m10, .ref m11, .ref m12, .ref m13, .int (iI rw_), .ref m15, .long (lI fu), .long (lI fb)]))]) hF.1 (k := 0) rfl) hpn (by omega) (by omega)) (cwV 1 hts (gw_V w_745 w_747 s_29 w_8 w_748) rfl rfl rfl (by decide +kernel) ⟨by rw [hRf]; exact Nat.le_of_ble_eq_true rfl, by rw [hRl]; exact Nat.le_of_ble_eq_true rfl⟩) ⟨K0.blind, B.recv (hF.2 _ (mw_key (k := 0) (X := [(y, .inr (7, [.int (iI 0), .ref m1, .ref m2, .ref m3, .int (iI pn), .ref m5, .ref m6, .ref m7, .ref m8, .ref m9, .ref m10, .ref m11, .ref m12, .ref m13, .int (iI rw_), .ref m15, .long (lI fu), .long (lI fb)]))]) rfl)) (mw_get (X := [(y, .inr (7, [.int (iI 0), .ref m1, .ref m2, .ref m3, .int (iI pn), .ref m5, .ref m6, .ref m7, .ref m8, .ref m9, .ref m10, .ref m11, .ref m12, .ref m13, .int (iI rw_), .ref m15, .long (lI fu), .long (lI fb)]))]) hF.1 (k := 0) rfl) rfl, B.pre _⟩ rfl rfl hl.1 rfl (lv_room (Nat.le_of_ble_eq_true rfl)) d_Mo_row_7 ⟨by rw [hRc]; omega, by rw [hRs]; omega⟩) (fun r7 g7 H locs hw B => ?_)
  obtain ⟨rfl, rfl⟩ := hw
  have B : Wb D vwCl (TY cs) L (mw f [(y, .inr (7, [.int (iI 0), .ref m1, .ref m2, .ref m3, .int (iI pn), .ref m5, .ref m6, .ref m7, .ref m8, .ref m9, .ref m10, .ref m11, .ref m12, .ref m13, .int (iI rw_), .ref m15, .long (lI fu), .long (lI fb)]))]) (AL L s.heap.size) s H _ := B
  refine x_if_ne (tgt := 15) hx hb d_Mo_row_10 (by decide) (by omega) (fun h10 => ?_) (fun h10 => ?_)
  · exfalso; omega
  · refine x_iconst hx hb d_Mo_row_13 ?_
    subst hQ hav
    exact x_iret hx hb hr hlocks B d_Mo_row_14 (⟨rfl, rfl⟩)
