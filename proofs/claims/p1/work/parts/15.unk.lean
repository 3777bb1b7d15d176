theorem d_RR_between_0 : decode prog_1_method_14_code 0 = .ok (.aload_n 0, 1) := by decide +kernel
theorem d_RR_between_1 : decode prog_1_method_14_code 1 = .ok (.iload_n 1, 1) := by decide +kernel
theorem d_RR_between_2 : decode prog_1_method_14_code 2 = .ok (.invokevirtual 78, 3) := by decide +kernel
theorem d_RR_between_5 : decode prog_1_method_14_code 5 = .ok (.ifCond .eq 5, 3) := by decide +kernel
theorem d_RR_between_8 : decode prog_1_method_14_code 8 = .ok (.iconst (-1), 1) := by decide +kernel
theorem d_RR_between_9 : decode prog_1_method_14_code 9 = .ok (.ireturn, 1) := by decide +kernel
theorem d_RR_between_10 : decode prog_1_method_14_code 10 = .ok (.iload_n 2, 1) := by decide +kernel
theorem d_RR_between_11 : decode prog_1_method_14_code 11 = .ok (.iload_n 3, 1) := by decide +kernel
theorem d_RR_between_12 : decode prog_1_method_14_code 12 = .ok (.invokestatic 176, 3) := by decide +kernel
theorem d_RR_between_15 : decode prog_1_method_14_code 15 = .ok (.ifCond .ne 29, 3) := by decide +kernel
theorem d_RR_between_18 : decode prog_1_method_14_code 18 = .ok (.iload 4, 2) := by decide +kernel
theorem d_RR_between_20 : decode prog_1_method_14_code 20 = .ok (.iload 5, 2) := by decide +kernel
theorem d_RR_between_22 : decode prog_1_method_14_code 22 = .ok (.invokestatic 176, 3) := by decide +kernel
theorem d_RR_between_25 : decode prog_1_method_14_code 25 = .ok (.ifCond .ne 19, 3) := by decide +kernel
theorem d_RR_between_28 : decode prog_1_method_14_code 28 = .ok (.iload 4, 2) := by decide +kernel
theorem d_RR_between_30 : decode prog_1_method_14_code 30 = .ok (.i2l, 1) := by decide +kernel
theorem d_RR_between_31 : decode prog_1_method_14_code 31 = .ok (.iload_n 3, 1) := by decide +kernel
theorem d_RR_between_32 : decode prog_1_method_14_code 32 = .ok (.i2l, 1) := by decide +kernel
theorem d_RR_between_33 : decode prog_1_method_14_code 33 = .ok (.lmul, 1) := by decide +kernel
theorem d_RR_between_34 : decode prog_1_method_14_code 34 = .ok (.iload_n 2, 1) := by decide +kernel
theorem d_RR_between_35 : decode prog_1_method_14_code 35 = .ok (.i2l, 1) := by decide +kernel
theorem d_RR_between_36 : decode prog_1_method_14_code 36 = .ok (.iload 5, 2) := by decide +kernel
theorem d_RR_between_38 : decode prog_1_method_14_code 38 = .ok (.i2l, 1) := by decide +kernel
theorem d_RR_between_39 : decode prog_1_method_14_code 39 = .ok (.lmul, 1) := by decide +kernel
theorem d_RR_between_40 : decode prog_1_method_14_code 40 = .ok (.lcmp, 1) := by decide +kernel
theorem d_RR_between_41 : decode prog_1_method_14_code 41 = .ok (.ifCond .ge 6, 3) := by decide +kernel
theorem d_RR_between_44 : decode prog_1_method_14_code 44 = .ok (.bipush (-2), 2) := by decide +kernel
theorem d_RR_between_46 : decode prog_1_method_14_code 46 = .ok (.ireturn, 1) := by decide +kernel
theorem d_RR_between_47 : decode prog_1_method_14_code 47 = .ok (.aload_n 0, 1) := by decide +kernel
theorem d_RR_between_48 : decode prog_1_method_14_code 48 = .ok (.iload_n 1, 1) := by decide +kernel
theorem d_RR_between_49 : decode prog_1_method_14_code 49 = .ok (.invokevirtual 100, 3) := by decide +kernel
theorem d_RR_between_52 : decode prog_1_method_14_code 52 = .ok (.iconst (-1), 1) := by decide +kernel
theorem d_RR_between_53 : decode prog_1_method_14_code 53 = .ok (.if_icmp .ne 6, 3) := by decide +kernel
theorem d_RR_between_56 : decode prog_1_method_14_code 56 = .ok (.bipush (-3), 2) := by decide +kernel
theorem d_RR_between_58 : decode prog_1_method_14_code 58 = .ok (.ireturn, 1) := by decide +kernel
theorem d_RR_between_59 : decode prog_1_method_14_code 59 = .ok (.aload_n 0, 1) := by decide +kernel
theorem d_RR_between_60 : decode prog_1_method_14_code 60 = .ok (.aload_n 0, 1) := by decide +kernel
theorem d_RR_between_61 : decode prog_1_method_14_code 61 = .ok (.getfield 11, 3) := by decide +kernel
theorem d_RR_between_64 : decode prog_1_method_14_code 64 = .ok (.iload_n 1, 1) := by decide +kernel
theorem d_RR_between_65 : decode prog_1_method_14_code 65 = .ok (.aaload, 1) := by decide +kernel
theorem d_RR_between_66 : decode prog_1_method_14_code 66 = .ok (.getfield 111, 3) := by decide +kernel
theorem d_RR_between_69 : decode prog_1_method_14_code 69 = .ok (.invokevirtual 180, 3) := by decide +kernel
theorem d_RR_between_72 : decode prog_1_method_14_code 72 = .ok (.aload_n 0, 1) := by decide +kernel
theorem d_RR_between_73 : decode prog_1_method_14_code 73 = .ok (.getfield 29, 3) := by decide +kernel
theorem d_RR_between_76 : decode prog_1_method_14_code 76 = .ok (.iload_n 2, 1) := by decide +kernel
theorem d_RR_between_77 : decode prog_1_method_14_code 77 = .ok (.i2l, 1) := by decide +kernel
theorem d_RR_between_78 : decode prog_1_method_14_code 78 = .ok (.iload_n 3, 1) := by decide +kernel
theorem d_RR_between_79 : decode prog_1_method_14_code 79 = .ok (.i2l, 1) := by decide +kernel
theorem d_RR_between_80 : decode prog_1_method_14_code 80 = .ok (.invokevirtual 183, 3) := by decide +kernel
theorem d_RR_between_83 : decode prog_1_method_14_code 83 = .ok (.aload_n 0, 1) := by decide +kernel
theorem d_RR_between_84 : decode prog_1_method_14_code 84 = .ok (.getfield 22, 3) := by decide +kernel
theorem d_RR_between_87 : decode prog_1_method_14_code 87 = .ok (.aload_n 0, 1) := by decide +kernel
theorem d_RR_between_88 : decode prog_1_method_14_code 88 = .ok (.getfield 29, 3) := by decide +kernel
theorem d_RR_between_91 : decode prog_1_method_14_code 91 = .ok (.invokevirtual 187, 3) := by decide +kernel
theorem d_RR_between_94 : decode prog_1_method_14_code 94 = .ok (.aload_n 0, 1) := by decide +kernel
theorem d_RR_between_95 : decode prog_1_method_14_code 95 = .ok (.getfield 22, 3) := by decide +kernel
theorem d_RR_between_98 : decode prog_1_method_14_code 98 = .ok (.getfield 191, 3) := by decide +kernel
theorem d_RR_between_101 : decode prog_1_method_14_code 101 = .ok (.istore 6, 2) := by decide +kernel
theorem d_RR_between_103 : decode prog_1_method_14_code 103 = .ok (.aload_n 0, 1) := by decide +kernel
theorem d_RR_between_104 : decode prog_1_method_14_code 104 = .ok (.getfield 29, 3) := by decide +kernel
theorem d_RR_between_107 : decode prog_1_method_14_code 107 = .ok (.iload 4, 2) := by decide +kernel
theorem d_RR_between_109 : decode prog_1_method_14_code 109 = .ok (.i2l, 1) := by decide +kernel
theorem d_RR_between_110 : decode prog_1_method_14_code 110 = .ok (.iload 5, 2) := by decide +kernel
theorem d_RR_between_112 : decode prog_1_method_14_code 112 = .ok (.i2l, 1) := by decide +kernel
theorem d_RR_between_113 : decode prog_1_method_14_code 113 = .ok (.invokevirtual 183, 3) := by decide +kernel
theorem d_RR_between_116 : decode prog_1_method_14_code 116 = .ok (.aload_n 0, 1) := by decide +kernel
theorem d_RR_between_117 : decode prog_1_method_14_code 117 = .ok (.getfield 22, 3) := by decide +kernel
theorem d_RR_between_120 : decode prog_1_method_14_code 120 = .ok (.aload_n 0, 1) := by decide +kernel
theorem d_RR_between_121 : decode prog_1_method_14_code 121 = .ok (.getfield 29, 3) := by decide +kernel
theorem d_RR_between_124 : decode prog_1_method_14_code 124 = .ok (.invokevirtual 187, 3) := by decide +kernel
theorem d_RR_between_127 : decode prog_1_method_14_code 127 = .ok (.iload 6, 2) := by decide +kernel
theorem d_RR_between_129 : decode prog_1_method_14_code 129 = .ok (.aload_n 0, 1) := by decide +kernel
theorem d_RR_between_130 : decode prog_1_method_14_code 130 = .ok (.getfield 22, 3) := by decide +kernel
theorem d_RR_between_133 : decode prog_1_method_14_code 133 = .ok (.getfield 191, 3) := by decide +kernel
theorem d_RR_between_136 : decode prog_1_method_14_code 136 = .ok (.isub, 1) := by decide +kernel
theorem d_RR_between_137 : decode prog_1_method_14_code 137 = .ok (.ireturn, 1) := by decide +kernel
set_option maxHeartbeats 8000000 in
set_option maxRecDepth 100000 in
theorem c_RR_between_u (l : Launch) (D : va_G) (cs : Nat → ClassId) (L : List Nat) (f : Nat → va_E) (sz : Nat) (x c0 c2 c3 c4 c5 c6 c7 c8 c9 c10 c11 : Nat) (hd ll ln : Int) (a1 a2 a3 a4 a5 : Int) (hF : Fc L [x]) (ha : f x = .inr (6, [.ref c0, .int (iI hd), .ref c2, .ref c3, .ref c4, .ref c5, .ref c6, .ref c7, .ref c8, .ref c9, .ref c10, .ref c11, .int (iI ll), .int (iI ln)])) (hhd : 0 ≤ hd ∧ hd ≤ 12) (ha1 : -2147483648 ≤ a1 ∧ a1 < 2147483648) (ha2 : -2147483648 ≤ a2 ∧ a2 < 2147483648) (ha3 : -2147483648 ≤ a3 ∧ a3 < 2147483648) (ha4 : -2147483648 ≤ a4 ∧ a4 < 2147483648) (ha5 : -2147483648 ≤ a5 ∧ a5 < 2147483648) (hun : a1 < 0 ∨ hd ≤ a1) : Met l (⟨"RealRoots", "between", "(IIIII)I"⟩ : MethodName) (.code (⟨"RealRoots", "between", "(IIIII)I"⟩ : MethodName) prog_1_method_14_code 7 (Option.some Jvm.ClassFile.FieldType.int) :: gw) ({ frames := 1, cells := 0, slots := 0, locals := 22 }) (va_Pc [.ref x, .int (iI a1), .int (iI a2), .int (iI a3), .int (iI a4), .int (iI a5)] (K0 D vwCl (TY cs) L f sz)) (va_Qi (fun (r : Int32) (g : Nat → va_E) => r = iI (-1) ∧ g = f) (K1 D vwCl (TY cs) (AL L sz) L) (AL L sz)) 0 0 (AL L sz) := by
  refine Met.ofW (cc := prog_1_method_14_code) (maxL := 7) (ret := (Option.some Jvm.ClassFile.FieldType.int)) (by decide) rfl ?_
  intro p e s m args below meth c s₁ Bd hml hv
  obtain ⟨rfl, hk0⟩ := hv
  obtain ⟨hsz, B⟩ := hk0.start
  subst hsz
  have hx := Bd.exec
  have hb := Bd.bytes
  have hr := Bd.returns
  have hlocks := Bd.notSynchronized
  have hts0 := atoms_spec Bd.pre
  have hown : s.vm.findClass RX6 = some m.cls := findClass_of_methodNamed Bd.named
  have hA : ∀ q, s.heap.size ≤ q → AL L s.heap.size q := fun _ h => Or.inr h
  have hl := lv_entry ([.ref x, .int (iI a1), .int (iI a2), .int (iI a3), .int (iI a4), .int (iI a5)]) (n := 7) (Nat.le_of_ble_eq_true rfl)
  rw [lg_entry_eq]
  generalize (lg_sl ([.ref x, .int (iI a1), .int (iI a2), .int (iI a3), .int (iI a4), .int (iI a5)]) ++ List.replicate (7 - (lg_sl ([.ref x, .int (iI a1), .int (iI a2), .int (iI a3), .int (iI a4), .int (iI a5)])).length) Slot.unset).toArray = ls at hl ⊢
  refine absQ (fun Q R av hQ hR hav => ?_)
  have hts : ∀ w ∈ gw, w.before av s = true := by rw [hav]; exact fun w h => hts0 w (List.mem_cons_of_mem _ h)
  have hRf : R.frames = 1 := by rw [hR]; rfl
  have hRl : R.locals = 22 := by rw [hR]; rfl
  have hRc : R.cells = 0 := by rw [hR]; rfl
  have hRs : R.slots = 0 := by rw [hR]; rfl
  clear hR hts0 Bd
  have hl : lv_has ls 7 [(0, .ref x), (1, .int (iI a1)), (2, .int (iI a2)), (3, .int (iI a3)), (4, .int (iI a4)), (5, .int (iI a5))] := hl
  have hfx : ∀ q ∈ ([(x, .inr (6, [.ref c0, .int (iI hd), .ref c2, .ref c3, .ref c4, .ref c5, .ref c6, .ref c7, .ref c8, .ref c9, .ref c10, .ref c11, .int (iI ll), .int (iI ln)]))] : List (Nat × va_E)), f q.1 = q.2 := fun q hq => by
    simp only [List.mem_cons, List.not_mem_nil, or_false] at hq
    rcases hq with rfl
    · exact ha
  have hmw : mw f [(x, .inr (6, [.ref c0, .int (iI hd), .ref c2, .ref c3, .ref c4, .ref c5, .ref c6, .ref c7, .ref c8, .ref c9, .ref c10, .ref c11, .int (iI ll), .int (iI ln)]))] = f := mw_self (fun k a e hk => hfx (a, e) (List.mem_of_getElem? hk))
  have B := B.focus [(x, .inr (6, [.ref c0, .int (iI hd), .ref c2, .ref c3, .ref c4, .ref c5, .ref c6, .ref c7, .ref c8, .ref c9, .ref c10, .ref c11, .int (iI ll), .int (iI ln)]))] hfx
  refine lv_aload_n hx hb d_RR_between_0 rfl (lv_at hl 0 rfl) ?_
  refine lv_iload_n hx hb d_RR_between_1 rfl (lv_at hl 1 rfl) ?_
  refine x_calli B hA (va_runV (As := [.int (iI a1)]) (rest := []) ⟨hx, hb, hml, hown, hts⟩ (c_RR_unknown_t l D cs _ _ _ x c0 c2 c3 c4 c5 c6 c7 c8 c9 c10 c11 hd ll ln a1 hF (mw_get (X := [(x, .inr (6, [.ref c0, .int (iI hd), .ref c2, .ref c3, .ref c4, .ref c5, .ref c6, .ref c7, .ref c8, .ref c9, .ref c10, .ref c11, .int (iI ll), .int (iI ln)]))]) hF.1 (k := 0) rfl) hhd (by omega) (by omega)) (cwV 1 hts (gw_V w_261 w_263 s_3 w_1 w_264) rfl rfl rfl (by decide +kernel) ⟨by rw [hRf]; exact Nat.le_of_ble_eq_true rfl, by rw [hRl]; exact Nat.le_of_ble_eq_true rfl⟩) ⟨K0.blind, B.recv (hF.2 _ (mw_key (k := 0) (X := [(x, .inr (6, [.ref c0, .int (iI hd), .ref c2, .ref c3, .ref c4, .ref c5, .ref c6, .ref c7, .ref c8, .ref c9, .ref c10, .ref c11, .int (iI ll), .int (iI ln)]))]) rfl)) (mw_get (X := [(x, .inr (6, [.ref c0, .int (iI hd), .ref c2, .ref c3, .ref c4, .ref c5, .ref c6, .ref c7, .ref c8, .ref c9, .ref c10, .ref c11, .int (iI ll), .int (iI ln)]))]) hF.1 (k := 0) rfl) rfl, B.pre _⟩ rfl rfl hl.1 rfl (lv_room (Nat.le_of_ble_eq_true rfl)) d_RR_between_2 ⟨by rw [hRc]; omega, by rw [hRs]; omega⟩) (fun r2 g2 H locs hw B => ?_)
  obtain ⟨rfl, rfl⟩ := hw
  have B : Wb D vwCl (TY cs) L (mw f [(x, .inr (6, [.ref c0, .int (iI hd), .ref c2, .ref c3, .ref c4, .ref c5, .ref c6, .ref c7, .ref c8, .ref c9, .ref c10, .ref c11, .int (iI ll), .int (iI ln)]))]) (AL L s.heap.size) s H _ := B
  refine x_if_eq (tgt := 10) hx hb d_RR_between_5 (by decide) (by omega) (fun h5 => ?_) (fun h5 => ?_)
  · exfalso; omega
  · refine x_iconst hx hb d_RR_between_8 ?_
    have B := B.of_eq hmw
    subst hQ hav
    exact x_iret hx hb hr hlocks B d_RR_between_9 (⟨rfl, rfl⟩)
theorem d_RR_changes_0 : decode prog_1_method_15_code 0 = .ok (.aload_n 0, 1) := by decide +kernel
theorem d_RR_changes_1 : decode prog_1_method_15_code 1 = .ok (.iload_n 1, 1) := by decide +kernel
theorem d_RR_changes_2 : decode prog_1_method_15_code 2 = .ok (.invokevirtual 78, 3) := by decide +kernel
theorem d_RR_changes_5 : decode prog_1_method_15_code 5 = .ok (.ifCond .eq 5, 3) := by decide +kernel
theorem d_RR_changes_8 : decode prog_1_method_15_code 8 = .ok (.iconst (-1), 1) := by decide +kernel
theorem d_RR_changes_9 : decode prog_1_method_15_code 9 = .ok (.ireturn, 1) := by decide +kernel
theorem d_RR_changes_10 : decode prog_1_method_15_code 10 = .ok (.iload_n 2, 1) := by decide +kernel
theorem d_RR_changes_11 : decode prog_1_method_15_code 11 = .ok (.iload_n 3, 1) := by decide +kernel
theorem d_RR_changes_12 : decode prog_1_method_15_code 12 = .ok (.invokestatic 176, 3) := by decide +kernel
theorem d_RR_changes_15 : decode prog_1_method_15_code 15 = .ok (.ifCond .eq 6, 3) := by decide +kernel
theorem d_RR_changes_18 : decode prog_1_method_15_code 18 = .ok (.bipush (-2), 2) := by decide +kernel
theorem d_RR_changes_20 : decode prog_1_method_15_code 20 = .ok (.ireturn, 1) := by decide +kernel
theorem d_RR_changes_21 : decode prog_1_method_15_code 21 = .ok (.aload_n 0, 1) := by decide +kernel
theorem d_RR_changes_22 : decode prog_1_method_15_code 22 = .ok (.getfield 11, 3) := by decide +kernel
theorem d_RR_changes_25 : decode prog_1_method_15_code 25 = .ok (.iload_n 1, 1) := by decide +kernel
theorem d_RR_changes_26 : decode prog_1_method_15_code 26 = .ok (.aaload, 1) := by decide +kernel
theorem d_RR_changes_27 : decode prog_1_method_15_code 27 = .ok (.getfield 82, 3) := by decide +kernel
theorem d_RR_changes_30 : decode prog_1_method_15_code 30 = .ok (.invokestatic 88, 3) := by decide +kernel
theorem d_RR_changes_33 : decode prog_1_method_15_code 33 = .ok (.iconst (-1), 1) := by decide +kernel
theorem d_RR_changes_34 : decode prog_1_method_15_code 34 = .ok (.if_icmp .ne 6, 3) := by decide +kernel
theorem d_RR_changes_37 : decode prog_1_method_15_code 37 = .ok (.bipush (-3), 2) := by decide +kernel
theorem d_RR_changes_39 : decode prog_1_method_15_code 39 = .ok (.ireturn, 1) := by decide +kernel
theorem d_RR_changes_40 : decode prog_1_method_15_code 40 = .ok (.aload_n 0, 1) := by decide +kernel
theorem d_RR_changes_41 : decode prog_1_method_15_code 41 = .ok (.aload_n 0, 1) := by decide +kernel
theorem d_RR_changes_42 : decode prog_1_method_15_code 42 = .ok (.getfield 11, 3) := by decide +kernel
theorem d_RR_changes_45 : decode prog_1_method_15_code 45 = .ok (.iload_n 1, 1) := by decide +kernel
theorem d_RR_changes_46 : decode prog_1_method_15_code 46 = .ok (.aaload, 1) := by decide +kernel
theorem d_RR_changes_47 : decode prog_1_method_15_code 47 = .ok (.getfield 82, 3) := by decide +kernel
theorem d_RR_changes_50 : decode prog_1_method_15_code 50 = .ok (.invokevirtual 180, 3) := by decide +kernel
theorem d_RR_changes_53 : decode prog_1_method_15_code 53 = .ok (.aload_n 0, 1) := by decide +kernel
theorem d_RR_changes_54 : decode prog_1_method_15_code 54 = .ok (.getfield 29, 3) := by decide +kernel
theorem d_RR_changes_57 : decode prog_1_method_15_code 57 = .ok (.iload_n 2, 1) := by decide +kernel
theorem d_RR_changes_58 : decode prog_1_method_15_code 58 = .ok (.i2l, 1) := by decide +kernel
theorem d_RR_changes_59 : decode prog_1_method_15_code 59 = .ok (.iload_n 3, 1) := by decide +kernel
theorem d_RR_changes_60 : decode prog_1_method_15_code 60 = .ok (.i2l, 1) := by decide +kernel
theorem d_RR_changes_61 : decode prog_1_method_15_code 61 = .ok (.invokevirtual 183, 3) := by decide +kernel
theorem d_RR_changes_64 : decode prog_1_method_15_code 64 = .ok (.aload_n 0, 1) := by decide +kernel
theorem d_RR_changes_65 : decode prog_1_method_15_code 65 = .ok (.getfield 22, 3) := by decide +kernel
theorem d_RR_changes_68 : decode prog_1_method_15_code 68 = .ok (.aload_n 0, 1) := by decide +kernel
theorem d_RR_changes_69 : decode prog_1_method_15_code 69 = .ok (.getfield 29, 3) := by decide +kernel
theorem d_RR_changes_72 : decode prog_1_method_15_code 72 = .ok (.invokevirtual 187, 3) := by decide +kernel
theorem d_RR_changes_75 : decode prog_1_method_15_code 75 = .ok (.aload_n 0, 1) := by decide +kernel
theorem d_RR_changes_76 : decode prog_1_method_15_code 76 = .ok (.getfield 22, 3) := by decide +kernel
theorem d_RR_changes_79 : decode prog_1_method_15_code 79 = .ok (.getfield 191, 3) := by decide +kernel
theorem d_RR_changes_82 : decode prog_1_method_15_code 82 = .ok (.ireturn, 1) := by decide +kernel
set_option maxHeartbeats 8000000 in
set_option maxRecDepth 100000 in
theorem c_RR_changes_u (l : Launch) (D : va_G) (cs : Nat → ClassId) (L : List Nat) (f : Nat → va_E) (sz : Nat) (x c0 c2 c3 c4 c5 c6 c7 c8 c9 c10 c11 : Nat) (hd ll ln : Int) (a1 a2 a3 : Int) (hF : Fc L [x]) (ha : f x = .inr (6, [.ref c0, .int (iI hd), .ref c2, .ref c3, .ref c4, .ref c5, .ref c6, .ref c7, .ref c8, .ref c9, .ref c10, .ref c11, .int (iI ll), .int (iI ln)])) (hhd : 0 ≤ hd ∧ hd ≤ 12) (ha1 : -2147483648 ≤ a1 ∧ a1 < 2147483648) (ha2 : -2147483648 ≤ a2 ∧ a2 < 2147483648) (ha3 : -2147483648 ≤ a3 ∧ a3 < 2147483648) (hun : a1 < 0 ∨ hd ≤ a1) : Met l (⟨"RealRoots", "changes", "(III)I"⟩ : MethodName) (.code (⟨"RealRoots", "changes", "(III)I"⟩ : MethodName) prog_1_method_15_code 4 (Option.some Jvm.ClassFile.FieldType.int) :: gw) ({ frames := 1, cells := 0, slots := 0, locals := 22 }) (va_Pc [.ref x, .int (iI a1), .int (iI a2), .int (iI a3)] (K0 D vwCl (TY cs) L f sz)) (va_Qi (fun (r : Int32) (g : Nat → va_E) => r = iI (-1) ∧ g = f) (K1 D vwCl (TY cs) (AL L sz) L) (AL L sz)) 0 0 (AL L sz) := by
  refine Met.ofW (cc := prog_1_method_15_code) (maxL := 4) (ret := (Option.some Jvm.ClassFile.FieldType.int)) (by decide) rfl ?_
  intro p e s m args below meth c s₁ Bd hml hv
  obtain ⟨rfl, hk0⟩ := hv
  obtain ⟨hsz, B⟩ := hk0.start
  subst hsz
  have hx := Bd.exec
  have hb := Bd.bytes
  have hr := Bd.returns
  have hlocks := Bd.notSynchronized
  have hts0 := atoms_spec Bd.pre
  have hown : s.vm.findClass RX6 = some m.cls := findClass_of_methodNamed Bd.named
  have hA : ∀ q, s.heap.size ≤ q → AL L s.heap.size q := fun _ h => Or.inr h
  have hl := lv_entry ([.ref x, .int (iI a1), .int (iI a2), .int (iI a3)]) (n := 4) (Nat.le_of_ble_eq_true rfl)
  rw [lg_entry_eq]
  generalize (lg_sl ([.ref x, .int (iI a1), .int (iI a2), .int (iI a3)]) ++ List.replicate (4 - (lg_sl ([.ref x, .int (iI a1), .int (iI a2), .int (iI a3)])).length) Slot.unset).toArray = ls at hl ⊢
  refine absQ (fun Q R av hQ hR hav => ?_)
  have hts : ∀ w ∈ gw, w.before av s = true := by rw [hav]; exact fun w h => hts0 w (List.mem_cons_of_mem _ h)
  have hRf : R.frames = 1 := by rw [hR]; rfl
  have hRl : R.locals = 22 := by rw [hR]; rfl
  have hRc : R.cells = 0 := by rw [hR]; rfl
  have hRs : R.slots = 0 := by rw [hR]; rfl
  clear hR hts0 Bd
  have hl : lv_has ls 4 [(0, .ref x), (1, .int (iI a1)), (2, .int (iI a2)), (3, .int (iI a3))] := hl
  have hfx : ∀ q ∈ ([(x, .inr (6, [.ref c0, .int (iI hd), .ref c2, .ref c3, .ref c4, .ref c5, .ref c6, .ref c7, .ref c8, .ref c9, .ref c10, .ref c11, .int (iI ll), .int (iI ln)]))] : List (Nat × va_E)), f q.1 = q.2 := fun q hq => by
    simp only [List.mem_cons, List.not_mem_nil, or_false] at hq
    rcases hq with rfl
    · exact ha
  have hmw : mw f [(x, .inr (6, [.ref c0, .int (iI hd), .ref c2, .ref c3, .ref c4, .ref c5, .ref c6, .ref c7, .ref c8, .ref c9, .ref c10, .ref c11, .int (iI ll), .int (iI ln)]))] = f := mw_self (fun k a e hk => hfx (a, e) (List.mem_of_getElem? hk))
  have B := B.focus [(x, .inr (6, [.ref c0, .int (iI hd), .ref c2, .ref c3, .ref c4, .ref c5, .ref c6, .ref c7, .ref c8, .ref c9, .ref c10, .ref c11, .int (iI ll), .int (iI ln)]))] hfx
  refine lv_aload_n hx hb d_RR_changes_0 rfl (lv_at hl 0 rfl) ?_
  refine lv_iload_n hx hb d_RR_changes_1 rfl (lv_at hl 1 rfl) ?_
  refine x_calli B hA (va_runV (As := [.int (iI a1)]) (rest := []) ⟨hx, hb, hml, hown, hts⟩ (c_RR_unknown_t l D cs _ _ _ x c0 c2 c3 c4 c5 c6 c7 c8 c9 c10 c11 hd ll ln a1 hF (mw_get (X := [(x, .inr (6, [.ref c0, .int (iI hd), .ref c2, .ref c3, .ref c4, .ref c5, .ref c6, .ref c7, .ref c8, .ref c9, .ref c10, .ref c11, .int (iI ll), .int (iI ln)]))]) hF.1 (k := 0) rfl) hhd (by omega) (by omega)) (cwV 1 hts (gw_V w_261 w_263 s_3 w_1 w_264) rfl rfl rfl (by decide +kernel) ⟨by rw [hRf]; exact Nat.le_of_ble_eq_true rfl, by rw [hRl]; exact Nat.le_of_ble_eq_true rfl⟩) ⟨K0.blind, B.recv (hF.2 _ (mw_key (k := 0) (X := [(x, .inr (6, [.ref c0, .int (iI hd), .ref c2, .ref c3, .ref c4, .ref c5, .ref c6, .ref c7, .ref c8, .ref c9, .ref c10, .ref c11, .int (iI ll), .int (iI ln)]))]) rfl)) (mw_get (X := [(x, .inr (6, [.ref c0, .int (iI hd), .ref c2, .ref c3, .ref c4, .ref c5, .ref c6, .ref c7, .ref c8, .ref c9, .ref c10, .ref c11, .int (iI ll), .int (iI ln)]))]) hF.1 (k := 0) rfl) rfl, B.pre _⟩ rfl rfl hl.1 rfl (lv_room (Nat.le_of_ble_eq_true rfl)) d_RR_changes_2 ⟨by rw [hRc]; omega, by rw [hRs]; omega⟩) (fun r2 g2 H locs hw B => ?_)
  obtain ⟨rfl, rfl⟩ := hw
  have B : Wb D vwCl (TY cs) L (mw f [(x, .inr (6, [.ref c0, .int (iI hd), .ref c2, .ref c3, .ref c4, .ref c5, .ref c6, .ref c7, .ref c8, .ref c9, .ref c10, .ref c11, .int (iI ll), .int (iI ln)]))]) (AL L s.heap.size) s H _ := B
  refine x_if_eq (tgt := 10) hx hb d_RR_changes_5 (by decide) (by omega) (fun h5 => ?_) (fun h5 => ?_)
  · exfalso; omega
  · refine x_iconst hx hb d_RR_changes_8 ?_
    have B := B.of_eq hmw
    subst hQ hav
    exact x_iret hx hb hr hlocks B d_RR_changes_9 (⟨rfl, rfl⟩)
theorem d_RR_row_0 : decode prog_1_method_16_code 0 = .ok (.aload_n 0, 1) := by decide +kernel
theorem d_RR_row_1 : decode prog_1_method_16_code 1 = .ok (.iload_n 1, 1) := by decide +kernel
theorem d_RR_row_2 : decode prog_1_method_16_code 2 = .ok (.invokevirtual 78, 3) := by decide +kernel
theorem d_RR_row_5 : decode prog_1_method_16_code 5 = .ok (.ifCond .eq 5, 3) := by decide +kernel
theorem d_RR_row_8 : decode prog_1_method_16_code 8 = .ok (.iconst (-1), 1) := by decide +kernel
theorem d_RR_row_9 : decode prog_1_method_16_code 9 = .ok (.ireturn, 1) := by decide +kernel
theorem d_RR_row_10 : decode prog_1_method_16_code 10 = .ok (.aload_n 0, 1) := by decide +kernel
theorem d_RR_row_11 : decode prog_1_method_16_code 11 = .ok (.getfield 11, 3) := by decide +kernel
theorem d_RR_row_14 : decode prog_1_method_16_code 14 = .ok (.iload_n 1, 1) := by decide +kernel
theorem d_RR_row_15 : decode prog_1_method_16_code 15 = .ok (.aaload, 1) := by decide +kernel
theorem d_RR_row_16 : decode prog_1_method_16_code 16 = .ok (.getfield 82, 3) := by decide +kernel
theorem d_RR_row_19 : decode prog_1_method_16_code 19 = .ok (.invokestatic 88, 3) := by decide +kernel
theorem d_RR_row_22 : decode prog_1_method_16_code 22 = .ok (.iconst (-1), 1) := by decide +kernel
theorem d_RR_row_23 : decode prog_1_method_16_code 23 = .ok (.if_icmp .ne 6, 3) := by decide +kernel
theorem d_RR_row_26 : decode prog_1_method_16_code 26 = .ok (.bipush (-3), 2) := by decide +kernel
theorem d_RR_row_28 : decode prog_1_method_16_code 28 = .ok (.ireturn, 1) := by decide +kernel
theorem d_RR_row_29 : decode prog_1_method_16_code 29 = .ok (.aload_n 0, 1) := by decide +kernel
theorem d_RR_row_30 : decode prog_1_method_16_code 30 = .ok (.aload_n 0, 1) := by decide +kernel
theorem d_RR_row_31 : decode prog_1_method_16_code 31 = .ok (.getfield 11, 3) := by decide +kernel
theorem d_RR_row_34 : decode prog_1_method_16_code 34 = .ok (.iload_n 1, 1) := by decide +kernel
theorem d_RR_row_35 : decode prog_1_method_16_code 35 = .ok (.aaload, 1) := by decide +kernel
theorem d_RR_row_36 : decode prog_1_method_16_code 36 = .ok (.getfield 82, 3) := by decide +kernel
theorem d_RR_row_39 : decode prog_1_method_16_code 39 = .ok (.invokevirtual 180, 3) := by decide +kernel
theorem d_RR_row_42 : decode prog_1_method_16_code 42 = .ok (.aload_n 0, 1) := by decide +kernel
theorem d_RR_row_43 : decode prog_1_method_16_code 43 = .ok (.getfield 22, 3) := by decide +kernel
theorem d_RR_row_46 : decode prog_1_method_16_code 46 = .ok (.getfield 194, 3) := by decide +kernel
theorem d_RR_row_49 : decode prog_1_method_16_code 49 = .ok (.ireturn, 1) := by decide +kernel
set_option maxHeartbeats 8000000 in
set_option maxRecDepth 100000 in
theorem c_RR_row_u (l : Launch) (D : va_G) (cs : Nat → ClassId) (L : List Nat) (f : Nat → va_E) (sz : Nat) (x c0 c2 c3 c4 c5 c6 c7 c8 c9 c10 c11 : Nat) (hd ll ln : Int) (a1 : Int) (hF : Fc L [x]) (ha : f x = .inr (6, [.ref c0, .int (iI hd), .ref c2, .ref c3, .ref c4, .ref c5, .ref c6, .ref c7, .ref c8, .ref c9, .ref c10, .ref c11, .int (iI ll), .int (iI ln)])) (hhd : 0 ≤ hd ∧ hd ≤ 12) (ha1 : -2147483648 ≤ a1 ∧ a1 < 2147483648) (hun : a1 < 0 ∨ hd ≤ a1) : Met l (⟨"RealRoots", "row", "(I)I"⟩ : MethodName) (.code (⟨"RealRoots", "row", "(I)I"⟩ : MethodName) prog_1_method_16_code 2 (Option.some Jvm.ClassFile.FieldType.int) :: gw) ({ frames := 1, cells := 0, slots := 0, locals := 22 }) (va_Pc [.ref x, .int (iI a1)] (K0 D vwCl (TY cs) L f sz)) (va_Qi (fun (r : Int32) (g : Nat → va_E) => r = iI (-1) ∧ g = f) (K1 D vwCl (TY cs) (AL L sz) L) (AL L sz)) 0 0 (AL L sz) := by
  refine Met.ofW (cc := prog_1_method_16_code) (maxL := 2) (ret := (Option.some Jvm.ClassFile.FieldType.int)) (by decide) rfl ?_
  intro p e s m args below meth c s₁ Bd hml hv
  obtain ⟨rfl, hk0⟩ := hv
  obtain ⟨hsz, B⟩ := hk0.start
  subst hsz
  have hx := Bd.exec
  have hb := Bd.bytes
  have hr := Bd.returns
  have hlocks := Bd.notSynchronized
  have hts0 := atoms_spec Bd.pre
  have hown : s.vm.findClass RX6 = some m.cls := findClass_of_methodNamed Bd.named
  have hA : ∀ q, s.heap.size ≤ q → AL L s.heap.size q := fun _ h => Or.inr h
  have hl := lv_entry ([.ref x, .int (iI a1)]) (n := 2) (Nat.le_of_ble_eq_true rfl)
  rw [lg_entry_eq]
  generalize (lg_sl ([.ref x, .int (iI a1)]) ++ List.replicate (2 - (lg_sl ([.ref x, .int (iI a1)])).length) Slot.unset).toArray = ls at hl ⊢
  refine absQ (fun Q R av hQ hR hav => ?_)
  have hts : ∀ w ∈ gw, w.before av s = true := by rw [hav]; exact fun w h => hts0 w (List.mem_cons_of_mem _ h)
  have hRf : R.frames = 1 := by rw [hR]; rfl
  have hRl : R.locals = 22 := by rw [hR]; rfl
  have hRc : R.cells = 0 := by rw [hR]; rfl
  have hRs : R.slots = 0 := by rw [hR]; rfl
  clear hR hts0 Bd
  have hl : lv_has ls 2 [(0, .ref x), (1, .int (iI a1))] := hl
  have hfx : ∀ q ∈ ([(x, .inr (6, [.ref c0, .int (iI hd), .ref c2, .ref c3, .ref c4, .ref c5, .ref c6, .ref c7, .ref c8, .ref c9, .ref c10, .ref c11, .int (iI ll), .int (iI ln)]))] : List (Nat × va_E)), f q.1 = q.2 := fun q hq => by
    simp only [List.mem_cons, List.not_mem_nil, or_false] at hq
    rcases hq with rfl
    · exact ha
  have hmw : mw f [(x, .inr (6, [.ref c0, .int (iI hd), .ref c2, .ref c3, .ref c4, .ref c5, .ref c6, .ref c7, .ref c8, .ref c9, .ref c10, .ref c11, .int (iI ll), .int (iI ln)]))] = f := mw_self (fun k a e hk => hfx (a, e) (List.mem_of_getElem? hk))
  have B := B.focus [(x, .inr (6, [.ref c0, .int (iI hd), .ref c2, .ref c3, .ref c4, .ref c5, .ref c6, .ref c7, .ref c8, .ref c9, .ref c10, .ref c11, .int (iI ll), .int (iI ln)]))] hfx
  refine lv_aload_n hx hb d_RR_row_0 rfl (lv_at hl 0 rfl) ?_
  refine lv_iload_n hx hb d_RR_row_1 rfl (lv_at hl 1 rfl) ?_
  refine x_calli B hA (va_runV (As := [.int (iI a1)]) (rest := []) ⟨hx, hb, hml, hown, hts⟩ (c_RR_unknown_t l D cs _ _ _ x c0 c2 c3 c4 c5 c6 c7 c8 c9 c10 c11 hd ll ln a1 hF (mw_get (X := [(x, .inr (6, [.ref c0, .int (iI hd), .ref c2, .ref c3, .ref c4, .ref c5, .ref c6, .ref c7, .ref c8, .ref c9, .ref c10, .ref c11, .int (iI ll), .int (iI ln)]))]) hF.1 (k := 0) rfl) hhd (by omega) (by omega)) (cwV 1 hts (gw_V w_261 w_263 s_3 w_1 w_264) rfl rfl rfl (by decide +kernel) ⟨by rw [hRf]; exact Nat.le_of_ble_eq_true rfl, by rw [hRl]; exact Nat.le_of_ble_eq_true rfl⟩) ⟨K0.blind, B.recv (hF.2 _ (mw_key (k := 0) (X := [(x, .inr (6, [.ref c0, .int (iI hd), .ref c2, .ref c3, .ref c4, .ref c5, .ref c6, .ref c7, .ref c8, .ref c9, .ref c10, .ref c11, .int (iI ll), .int (iI ln)]))]) rfl)) (mw_get (X := [(x, .inr (6, [.ref c0, .int (iI hd), .ref c2, .ref c3, .ref c4, .ref c5, .ref c6, .ref c7, .ref c8, .ref c9, .ref c10, .ref c11, .int (iI ll), .int (iI ln)]))]) hF.1 (k := 0) rfl) rfl, B.pre _⟩ rfl rfl hl.1 rfl (lv_room (Nat.le_of_ble_eq_true rfl)) d_RR_row_2 ⟨by rw [hRc]; omega, by rw [hRs]; omega⟩) (fun r2 g2 H locs hw B => ?_)
  obtain ⟨rfl, rfl⟩ := hw
  have B : Wb D vwCl (TY cs) L (mw f [(x, .inr (6, [.ref c0, .int (iI hd), .ref c2, .ref c3, .ref c4, .ref c5, .ref c6, .ref c7, .ref c8, .ref c9, .ref c10, .ref c11, .int (iI ll), .int (iI ln)]))]) (AL L s.heap.size) s H _ := B
  refine x_if_eq (tgt := 10) hx hb d_RR_row_5 (by decide) (by omega) (fun h5 => ?_) (fun h5 => ?_)
  · exfalso; omega
  · refine x_iconst hx hb d_RR_row_8 ?_
    have B := B.of_eq hmw
    subst hQ hav
    exact x_iret hx hb hr hlocks B d_RR_row_9 (⟨rfl, rfl⟩)
theorem d_RR_at_0 : decode prog_1_method_17_code 0 = .ok (.aload_n 0, 1) := by decide +kernel
theorem d_RR_at_1 : decode prog_1_method_17_code 1 = .ok (.iload_n 1, 1) := by decide +kernel
theorem d_RR_at_2 : decode prog_1_method_17_code 2 = .ok (.invokevirtual 78, 3) := by decide +kernel
theorem d_RR_at_5 : decode prog_1_method_17_code 5 = .ok (.ifCond .eq 6, 3) := by decide +kernel
theorem d_RR_at_8 : decode prog_1_method_17_code 8 = .ok (.bipush (-9), 2) := by decide +kernel
theorem d_RR_at_10 : decode prog_1_method_17_code 10 = .ok (.ireturn, 1) := by decide +kernel
theorem d_RR_at_11 : decode prog_1_method_17_code 11 = .ok (.iload_n 2, 1) := by decide +kernel
theorem d_RR_at_12 : decode prog_1_method_17_code 12 = .ok (.iload_n 3, 1) := by decide +kernel
theorem d_RR_at_13 : decode prog_1_method_17_code 13 = .ok (.invokestatic 176, 3) := by decide +kernel
theorem d_RR_at_16 : decode prog_1_method_17_code 16 = .ok (.ifCond .eq 6, 3) := by decide +kernel
theorem d_RR_at_19 : decode prog_1_method_17_code 19 = .ok (.bipush (-8), 2) := by decide +kernel
theorem d_RR_at_21 : decode prog_1_method_17_code 21 = .ok (.ireturn, 1) := by decide +kernel
theorem d_RR_at_22 : decode prog_1_method_17_code 22 = .ok (.aload_n 0, 1) := by decide +kernel
theorem d_RR_at_23 : decode prog_1_method_17_code 23 = .ok (.getfield 29, 3) := by decide +kernel
theorem d_RR_at_26 : decode prog_1_method_17_code 26 = .ok (.aload_n 0, 1) := by decide +kernel
theorem d_RR_at_27 : decode prog_1_method_17_code 27 = .ok (.getfield 11, 3) := by decide +kernel
theorem d_RR_at_30 : decode prog_1_method_17_code 30 = .ok (.iload_n 1, 1) := by decide +kernel
theorem d_RR_at_31 : decode prog_1_method_17_code 31 = .ok (.aaload, 1) := by decide +kernel
theorem d_RR_at_32 : decode prog_1_method_17_code 32 = .ok (.getfield 82, 3) := by decide +kernel
theorem d_RR_at_35 : decode prog_1_method_17_code 35 = .ok (.invokevirtual 154, 3) := by decide +kernel
theorem d_RR_at_38 : decode prog_1_method_17_code 38 = .ok (.aload_n 0, 1) := by decide +kernel
theorem d_RR_at_39 : decode prog_1_method_17_code 39 = .ok (.getfield 29, 3) := by decide +kernel
theorem d_RR_at_42 : decode prog_1_method_17_code 42 = .ok (.iload_n 2, 1) := by decide +kernel
theorem d_RR_at_43 : decode prog_1_method_17_code 43 = .ok (.i2l, 1) := by decide +kernel
theorem d_RR_at_44 : decode prog_1_method_17_code 44 = .ok (.iload_n 3, 1) := by decide +kernel
theorem d_RR_at_45 : decode prog_1_method_17_code 45 = .ok (.i2l, 1) := by decide +kernel
theorem d_RR_at_46 : decode prog_1_method_17_code 46 = .ok (.invokevirtual 183, 3) := by decide +kernel
theorem d_RR_at_49 : decode prog_1_method_17_code 49 = .ok (.aload_n 0, 1) := by decide +kernel
theorem d_RR_at_50 : decode prog_1_method_17_code 50 = .ok (.getfield 29, 3) := by decide +kernel
theorem d_RR_at_53 : decode prog_1_method_17_code 53 = .ok (.aload_n 0, 1) := by decide +kernel
theorem d_RR_at_54 : decode prog_1_method_17_code 54 = .ok (.getfield 29, 3) := by decide +kernel
theorem d_RR_at_57 : decode prog_1_method_17_code 57 = .ok (.getfield 162, 3) := by decide +kernel
theorem d_RR_at_60 : decode prog_1_method_17_code 60 = .ok (.iconst 0, 1) := by decide +kernel
theorem d_RR_at_61 : decode prog_1_method_17_code 61 = .ok (.aload_n 0, 1) := by decide +kernel
theorem d_RR_at_62 : decode prog_1_method_17_code 62 = .ok (.getfield 29, 3) := by decide +kernel
theorem d_RR_at_65 : decode prog_1_method_17_code 65 = .ok (.getfield 166, 3) := by decide +kernel
theorem d_RR_at_68 : decode prog_1_method_17_code 68 = .ok (.invokevirtual 169, 3) := by decide +kernel
theorem d_RR_at_71 : decode prog_1_method_17_code 71 = .ok (.ireturn, 1) := by decide +kernel
set_option maxHeartbeats 8000000 in
set_option maxRecDepth 100000 in
theorem c_RR_at_u (l : Launch) (D : va_G) (cs : Nat → ClassId) (L : List Nat) (f : Nat → va_E) (sz : Nat) (x c0 c2 c3 c4 c5 c6 c7 c8 c9 c10 c11 : Nat) (hd ll ln : Int) (a1 a2 a3 : Int) (hF : Fc L [x]) (ha : f x = .inr (6, [.ref c0, .int (iI hd), .ref c2, .ref c3, .ref c4, .ref c5, .ref c6, .ref c7, .ref c8, .ref c9, .ref c10, .ref c11, .int (iI ll), .int (iI ln)])) (hhd : 0 ≤ hd ∧ hd ≤ 12) (ha1 : -2147483648 ≤ a1 ∧ a1 < 2147483648) (ha2 : -2147483648 ≤ a2 ∧ a2 < 2147483648) (ha3 : -2147483648 ≤ a3 ∧ a3 < 2147483648) (hun : a1 < 0 ∨ hd ≤ a1) : Met l (⟨"RealRoots", "at", "(III)I"⟩ : MethodName) (.code (⟨"RealRoots", "at", "(III)I"⟩ : MethodName) prog_1_method_17_code 4 (Option.some Jvm.ClassFile.FieldType.int) :: gw) ({ frames := 1, cells := 0, slots := 0, locals := 22 }) (va_Pc [.ref x, .int (iI a1), .int (iI a2), .int (iI a3)] (K0 D vwCl (TY cs) L f sz)) (va_Qi (fun (r : Int32) (g : Nat → va_E) => r = iI (-9) ∧ g = f) (K1 D vwCl (TY cs) (AL L sz) L) (AL L sz)) 0 0 (AL L sz) := by
  refine Met.ofW (cc := prog_1_method_17_code) (maxL := 4) (ret := (Option.some Jvm.ClassFile.FieldType.int)) (by decide) rfl ?_
  intro p e s m args below meth c s₁ Bd hml hv
  obtain ⟨rfl, hk0⟩ := hv
  obtain ⟨hsz, B⟩ := hk0.start
  subst hsz
  have hx := Bd.exec
  have hb := Bd.bytes
  have hr := Bd.returns
  have hlocks := Bd.notSynchronized
  have hts0 := atoms_spec Bd.pre
  have hown : s.vm.findClass RX6 = some m.cls := findClass_of_methodNamed Bd.named
  have hA : ∀ q, s.heap.size ≤ q → AL L s.heap.size q := fun _ h => Or.inr h
  have hl := lv_entry ([.ref x, .int (iI a1), .int (iI a2), .int (iI a3)]) (n := 4) (Nat.le_of_ble_eq_true rfl)
  rw [lg_entry_eq]
  generalize (lg_sl ([.ref x, .int (iI a1), .int (iI a2), .int (iI a3)]) ++ List.replicate (4 - (lg_sl ([.ref x, .int (iI a1), .int (iI a2), .int (iI a3)])).length) Slot.unset).toArray = ls at hl ⊢
  refine absQ (fun Q R av hQ hR hav => ?_)
  have hts : ∀ w ∈ gw, w.before av s = true := by rw [hav]; exact fun w h => hts0 w (List.mem_cons_of_mem _ h)
  have hRf : R.frames = 1 := by rw [hR]; rfl
  have hRl : R.locals = 22 := by rw [hR]; rfl
  have hRc : R.cells = 0 := by rw [hR]; rfl
  have hRs : R.slots = 0 := by rw [hR]; rfl
  clear hR hts0 Bd
  have hl : lv_has ls 4 [(0, .ref x), (1, .int (iI a1)), (2, .int (iI a2)), (3, .int (iI a3))] := hl
  have hfx : ∀ q ∈ ([(x, .inr (6, [.ref c0, .int (iI hd), .ref c2, .ref c3, .ref c4, .ref c5, .ref c6, .ref c7, .ref c8, .ref c9, .ref c10, .ref c11, .int (iI ll), .int (iI ln)]))] : List (Nat × va_E)), f q.1 = q.2 := fun q hq => by
    simp only [List.mem_cons, List.not_mem_nil, or_false] at hq
    rcases hq with rfl
    · exact ha
  have hmw : mw f [(x, .inr (6, [.ref c0, .int (iI hd), .ref c2, .ref c3, .ref c4, .ref c5, .ref c6, .ref c7, .ref c8, .ref c9, .ref c10, .ref c11, .int (iI ll), .int (iI ln)]))] = f := mw_self (fun k a e hk => hfx (a, e) (List.mem_of_getElem? hk))
  have B := B.focus [(x, .inr (6, [.ref c0, .int (iI hd), .ref c2, .ref c3, .ref c4, .ref c5, .ref c6, .ref c7, .ref c8, .ref c9, .ref c10, .ref c11, .int (iI ll), .int (iI ln)]))] hfx
  refine lv_aload_n hx hb d_RR_at_0 rfl (lv_at hl 0 rfl) ?_
  refine lv_iload_n hx hb d_RR_at_1 rfl (lv_at hl 1 rfl) ?_
  refine x_calli B hA (va_runV (As := [.int (iI a1)]) (rest := []) ⟨hx, hb, hml, hown, hts⟩ (c_RR_unknown_t l D cs _ _ _ x c0 c2 c3 c4 c5 c6 c7 c8 c9 c10 c11 hd ll ln a1 hF (mw_get (X := [(x, .inr (6, [.ref c0, .int (iI hd), .ref c2, .ref c3, .ref c4, .ref c5, .ref c6, .ref c7, .ref c8, .ref c9, .ref c10, .ref c11, .int (iI ll), .int (iI ln)]))]) hF.1 (k := 0) rfl) hhd (by omega) (by omega)) (cwV 1 hts (gw_V w_261 w_263 s_3 w_1 w_264) rfl rfl rfl (by decide +kernel) ⟨by rw [hRf]; exact Nat.le_of_ble_eq_true rfl, by rw [hRl]; exact Nat.le_of_ble_eq_true rfl⟩) ⟨K0.blind, B.recv (hF.2 _ (mw_key (k := 0) (X := [(x, .inr (6, [.ref c0, .int (iI hd), .ref c2, .ref c3, .ref c4, .ref c5, .ref c6, .ref c7, .ref c8, .ref c9, .ref c10, .ref c11, .int (iI ll), .int (iI ln)]))]) rfl)) (mw_get (X := [(x, .inr (6, [.ref c0, .int (iI hd), .ref c2, .ref c3, .ref c4, .ref c5, .ref c6, .ref c7, .ref c8, .ref c9, .ref c10, .ref c11, .int (iI ll), .int (iI ln)]))]) hF.1 (k := 0) rfl) rfl, B.pre _⟩ rfl rfl hl.1 rfl (lv_room (Nat.le_of_ble_eq_true rfl)) d_RR_at_2 ⟨by rw [hRc]; omega, by rw [hRs]; omega⟩) (fun r2 g2 H locs hw B => ?_)
  obtain ⟨rfl, rfl⟩ := hw
  have B : Wb D vwCl (TY cs) L (mw f [(x, .inr (6, [.ref c0, .int (iI hd), .ref c2, .ref c3, .ref c4, .ref c5, .ref c6, .ref c7, .ref c8, .ref c9, .ref c10, .ref c11, .int (iI ll), .int (iI ln)]))]) (AL L s.heap.size) s H _ := B
  refine x_if_eq (tgt := 11) hx hb d_RR_at_5 (by decide) (by omega) (fun h5 => ?_) (fun h5 => ?_)
  · exfalso; omega
  · refine x_bipush hx hb d_RR_at_8 (by decide) ?_
    have B := B.of_eq hmw
    subst hQ hav
    exact x_iret hx hb hr hlocks B d_RR_at_10 (⟨rfl, rfl⟩)
theorem d_RR_bound_0 : decode prog_1_method_19_code 0 = .ok (.aload_n 0, 1) := by decide +kernel
theorem d_RR_bound_1 : decode prog_1_method_19_code 1 = .ok (.iload_n 1, 1) := by decide +kernel
theorem d_RR_bound_2 : decode prog_1_method_19_code 2 = .ok (.invokevirtual 78, 3) := by decide +kernel
theorem d_RR_bound_5 : decode prog_1_method_19_code 5 = .ok (.ifCond .eq 5, 3) := by decide +kernel
theorem d_RR_bound_8 : decode prog_1_method_19_code 8 = .ok (.iconst (-1), 1) := by decide +kernel
theorem d_RR_bound_9 : decode prog_1_method_19_code 9 = .ok (.ireturn, 1) := by decide +kernel
theorem d_RR_bound_10 : decode prog_1_method_19_code 10 = .ok (.aload_n 0, 1) := by decide +kernel
theorem d_RR_bound_11 : decode prog_1_method_19_code 11 = .ok (.iload_n 1, 1) := by decide +kernel
theorem d_RR_bound_12 : decode prog_1_method_19_code 12 = .ok (.invokevirtual 100, 3) := by decide +kernel
theorem d_RR_bound_15 : decode prog_1_method_19_code 15 = .ok (.istore_n 2, 1) := by decide +kernel
theorem d_RR_bound_16 : decode prog_1_method_19_code 16 = .ok (.iload_n 2, 1) := by decide +kernel
theorem d_RR_bound_17 : decode prog_1_method_19_code 17 = .ok (.iconst (-1), 1) := by decide +kernel
theorem d_RR_bound_18 : decode prog_1_method_19_code 18 = .ok (.if_icmp .ne 6, 3) := by decide +kernel
theorem d_RR_bound_21 : decode prog_1_method_19_code 21 = .ok (.bipush (-3), 2) := by decide +kernel
theorem d_RR_bound_23 : decode prog_1_method_19_code 23 = .ok (.ireturn, 1) := by decide +kernel
theorem d_RR_bound_24 : decode prog_1_method_19_code 24 = .ok (.iload_n 2, 1) := by decide +kernel
theorem d_RR_bound_25 : decode prog_1_method_19_code 25 = .ok (.ifCond .ne 5, 3) := by decide +kernel
theorem d_RR_bound_28 : decode prog_1_method_19_code 28 = .ok (.iconst 0, 1) := by decide +kernel
theorem d_RR_bound_29 : decode prog_1_method_19_code 29 = .ok (.ireturn, 1) := by decide +kernel
theorem d_RR_bound_30 : decode prog_1_method_19_code 30 = .ok (.aload_n 0, 1) := by decide +kernel
theorem d_RR_bound_31 : decode prog_1_method_19_code 31 = .ok (.getfield 11, 3) := by decide +kernel
theorem d_RR_bound_34 : decode prog_1_method_19_code 34 = .ok (.iload_n 1, 1) := by decide +kernel
theorem d_RR_bound_35 : decode prog_1_method_19_code 35 = .ok (.aaload, 1) := by decide +kernel
theorem d_RR_bound_36 : decode prog_1_method_19_code 36 = .ok (.astore_n 3, 1) := by decide +kernel
theorem d_RR_bound_37 : decode prog_1_method_19_code 37 = .ok (.aload_n 0, 1) := by decide +kernel
theorem d_RR_bound_38 : decode prog_1_method_19_code 38 = .ok (.aload_n 3, 1) := by decide +kernel
theorem d_RR_bound_39 : decode prog_1_method_19_code 39 = .ok (.iload_n 2, 1) := by decide +kernel
theorem d_RR_bound_40 : decode prog_1_method_19_code 40 = .ok (.iconst 1, 1) := by decide +kernel
theorem d_RR_bound_41 : decode prog_1_method_19_code 41 = .ok (.isub, 1) := by decide +kernel
theorem d_RR_bound_42 : decode prog_1_method_19_code 42 = .ok (.invokevirtual 139, 3) := by decide +kernel
theorem d_RR_bound_45 : decode prog_1_method_19_code 45 = .ok (.aload_n 3, 1) := by decide +kernel
theorem d_RR_bound_46 : decode prog_1_method_19_code 46 = .ok (.getfield 129, 3) := by decide +kernel
theorem d_RR_bound_49 : decode prog_1_method_19_code 49 = .ok (.iconst 0, 1) := by decide +kernel
theorem d_RR_bound_50 : decode prog_1_method_19_code 50 = .ok (.aaload, 1) := by decide +kernel
theorem d_RR_bound_51 : decode prog_1_method_19_code 51 = .ok (.getfield 234, 3) := by decide +kernel
theorem d_RR_bound_54 : decode prog_1_method_19_code 54 = .ok (.ineg, 1) := by decide +kernel
theorem d_RR_bound_55 : decode prog_1_method_19_code 55 = .ok (.istore 4, 2) := by decide +kernel
theorem d_RR_bound_57 : decode prog_1_method_19_code 57 = .ok (.aload_n 3, 1) := by decide +kernel
theorem d_RR_bound_58 : decode prog_1_method_19_code 58 = .ok (.getfield 129, 3) := by decide +kernel
theorem d_RR_bound_61 : decode prog_1_method_19_code 61 = .ok (.iload_n 2, 1) := by decide +kernel
theorem d_RR_bound_62 : decode prog_1_method_19_code 62 = .ok (.iconst 1, 1) := by decide +kernel
theorem d_RR_bound_63 : decode prog_1_method_19_code 63 = .ok (.isub, 1) := by decide +kernel
theorem d_RR_bound_64 : decode prog_1_method_19_code 64 = .ok (.aaload, 1) := by decide +kernel
theorem d_RR_bound_65 : decode prog_1_method_19_code 65 = .ok (.getfield 234, 3) := by decide +kernel
theorem d_RR_bound_68 : decode prog_1_method_19_code 68 = .ok (.aload_n 0, 1) := by decide +kernel
theorem d_RR_bound_69 : decode prog_1_method_19_code 69 = .ok (.getfield 36, 3) := by decide +kernel
theorem d_RR_bound_72 : decode prog_1_method_19_code 72 = .ok (.getfield 147, 3) := by decide +kernel
theorem d_RR_bound_75 : decode prog_1_method_19_code 75 = .ok (.lconst 1, 1) := by decide +kernel
theorem d_RR_bound_76 : decode prog_1_method_19_code 76 = .ok (.lcmp, 1) := by decide +kernel
theorem d_RR_bound_77 : decode prog_1_method_19_code 77 = .ok (.ifCond .ne 7, 3) := by decide +kernel
theorem d_RR_bound_80 : decode prog_1_method_19_code 80 = .ok (.iconst 0, 1) := by decide +kernel
theorem d_RR_bound_81 : decode prog_1_method_19_code 81 = .ok (.goto 4, 3) := by decide +kernel
theorem d_RR_bound_84 : decode prog_1_method_19_code 84 = .ok (.iconst 1, 1) := by decide +kernel
theorem d_RR_bound_85 : decode prog_1_method_19_code 85 = .ok (.iadd, 1) := by decide +kernel
theorem d_RR_bound_86 : decode prog_1_method_19_code 86 = .ok (.istore 5, 2) := by decide +kernel
theorem d_RR_bound_88 : decode prog_1_method_19_code 88 = .ok (.iload 4, 2) := by decide +kernel
theorem d_RR_bound_90 : decode prog_1_method_19_code 90 = .ok (.iload 5, 2) := by decide +kernel
theorem d_RR_bound_92 : decode prog_1_method_19_code 92 = .ok (.iconst 0, 1) := by decide +kernel
theorem d_RR_bound_93 : decode prog_1_method_19_code 93 = .ok (.invokestatic 237, 3) := by decide +kernel
theorem d_RR_bound_96 : decode prog_1_method_19_code 96 = .ok (.invokestatic 237, 3) := by decide +kernel
theorem d_RR_bound_99 : decode prog_1_method_19_code 99 = .ok (.ireturn, 1) := by decide +kernel
set_option maxHeartbeats 8000000 in
set_option maxRecDepth 100000 in
theorem c_RR_bound_u (l : Launch) (D : va_G) (cs : Nat → ClassId) (L : List Nat) (f : Nat → va_E) (sz : Nat) (x c0 c2 c3 c4 c5 c6 c7 c8 c9 c10 c11 : Nat) (hd ll ln : Int) (a1 : Int) (hF : Fc L [x]) (ha : f x = .inr (6, [.ref c0, .int (iI hd), .ref c2, .ref c3, .ref c4, .ref c5, .ref c6, .ref c7, .ref c8, .ref c9, .ref c10, .ref c11, .int (iI ll), .int (iI ln)])) (hhd : 0 ≤ hd ∧ hd ≤ 12) (ha1 : -2147483648 ≤ a1 ∧ a1 < 2147483648) (hun : a1 < 0 ∨ hd ≤ a1) : Met l (⟨"RealRoots", "bound", "(I)I"⟩ : MethodName) (.code (⟨"RealRoots", "bound", "(I)I"⟩ : MethodName) prog_1_method_19_code 6 (Option.some Jvm.ClassFile.FieldType.int) :: gw) ({ frames := 1, cells := 0, slots := 0, locals := 22 }) (va_Pc [.ref x, .int (iI a1)] (K0 D vwCl (TY cs) L f sz)) (va_Qi (fun (r : Int32) (g : Nat → va_E) => r = iI (-1) ∧ g = f) (K1 D vwCl (TY cs) (AL L sz) L) (AL L sz)) 0 0 (AL L sz) := by
  refine Met.ofW (cc := prog_1_method_19_code) (maxL := 6) (ret := (Option.some Jvm.ClassFile.FieldType.int)) (by decide) rfl ?_
  intro p e s m args below meth c s₁ Bd hml hv
  obtain ⟨rfl, hk0⟩ := hv
  obtain ⟨hsz, B⟩ := hk0.start
  subst hsz
  have hx := Bd.exec
  have hb := Bd.bytes
  have hr := Bd.returns
  have hlocks := Bd.notSynchronized
  have hts0 := atoms_spec Bd.pre
  have hown : s.vm.findClass RX6 = some m.cls := findClass_of_methodNamed Bd.named
  have hA : ∀ q, s.heap.size ≤ q → AL L s.heap.size q := fun _ h => Or.inr h
  have hl := lv_entry ([.ref x, .int (iI a1)]) (n := 6) (Nat.le_of_ble_eq_true rfl)
  rw [lg_entry_eq]
  generalize (lg_sl ([.ref x, .int (iI a1)]) ++ List.replicate (6 - (lg_sl ([.ref x, .int (iI a1)])).length) Slot.unset).toArray = ls at hl ⊢
  refine absQ (fun Q R av hQ hR hav => ?_)
  have hts : ∀ w ∈ gw, w.before av s = true := by rw [hav]; exact fun w h => hts0 w (List.mem_cons_of_mem _ h)
  have hRf : R.frames = 1 := by rw [hR]; rfl
  have hRl : R.locals = 22 := by rw [hR]; rfl
  have hRc : R.cells = 0 := by rw [hR]; rfl
  have hRs : R.slots = 0 := by rw [hR]; rfl
  clear hR hts0 Bd
  have hl : lv_has ls 6 [(0, .ref x), (1, .int (iI a1))] := hl
  have hfx : ∀ q ∈ ([(x, .inr (6, [.ref c0, .int (iI hd), .ref c2, .ref c3, .ref c4, .ref c5, .ref c6, .ref c7, .ref c8, .ref c9, .ref c10, .ref c11, .int (iI ll), .int (iI ln)]))] : List (Nat × va_E)), f q.1 = q.2 := fun q hq => by
    simp only [List.mem_cons, List.not_mem_nil, or_false] at hq
    rcases hq with rfl
    · exact ha
  have hmw : mw f [(x, .inr (6, [.ref c0, .int (iI hd), .ref c2, .ref c3, .ref c4, .ref c5, .ref c6, .ref c7, .ref c8, .ref c9, .ref c10, .ref c11, .int (iI ll), .int (iI ln)]))] = f := mw_self (fun k a e hk => hfx (a, e) (List.mem_of_getElem? hk))
  have B := B.focus [(x, .inr (6, [.ref c0, .int (iI hd), .ref c2, .ref c3, .ref c4, .ref c5, .ref c6, .ref c7, .ref c8, .ref c9, .ref c10, .ref c11, .int (iI ll), .int (iI ln)]))] hfx
  refine lv_aload_n hx hb d_RR_bound_0 rfl (lv_at hl 0 rfl) ?_
  refine lv_iload_n hx hb d_RR_bound_1 rfl (lv_at hl 1 rfl) ?_
  refine x_calli B hA (va_runV (As := [.int (iI a1)]) (rest := []) ⟨hx, hb, hml, hown, hts⟩ (c_RR_unknown_t l D cs _ _ _ x c0 c2 c3 c4 c5 c6 c7 c8 c9 c10 c11 hd ll ln a1 hF (mw_get (X := [(x, .inr (6, [.ref c0, .int (iI hd), .ref c2, .ref c3, .ref c4, .ref c5, .ref c6, .ref c7, .ref c8, .ref c9, .ref c10, .ref c11, .int (iI ll), .int (iI ln)]))]) hF.1 (k := 0) rfl) hhd (by omega) (by omega)) (cwV 1 hts (gw_V w_261 w_263 s_3 w_1 w_264) rfl rfl rfl (by decide +kernel) ⟨by rw [hRf]; exact Nat.le_of_ble_eq_true rfl, by rw [hRl]; exact Nat.le_of_ble_eq_true rfl⟩) ⟨K0.blind, B.recv (hF.2 _ (mw_key (k := 0) (X := [(x, .inr (6, [.ref c0, .int (iI hd), .ref c2, .ref c3, .ref c4, .ref c5, .ref c6, .ref c7, .ref c8, .ref c9, .ref c10, .ref c11, .int (iI ll), .int (iI ln)]))]) rfl)) (mw_get (X := [(x, .inr (6, [.ref c0, .int (iI hd), .ref c2, .ref c3, .ref c4, .ref c5, .ref c6, .ref c7, .ref c8, .ref c9, .ref c10, .ref c11, .int (iI ll), .int (iI ln)]))]) hF.1 (k := 0) rfl) rfl, B.pre _⟩ rfl rfl hl.1 rfl (lv_room (Nat.le_of_ble_eq_true rfl)) d_RR_bound_2 ⟨by rw [hRc]; omega, by rw [hRs]; omega⟩) (fun r2 g2 H locs hw B => ?_)
  obtain ⟨rfl, rfl⟩ := hw
  have B : Wb D vwCl (TY cs) L (mw f [(x, .inr (6, [.ref c0, .int (iI hd), .ref c2, .ref c3, .ref c4, .ref c5, .ref c6, .ref c7, .ref c8, .ref c9, .ref c10, .ref c11, .int (iI ll), .int (iI ln)]))]) (AL L s.heap.size) s H _ := B
  refine x_if_eq (tgt := 10) hx hb d_RR_bound_5 (by decide) (by omega) (fun h5 => ?_) (fun h5 => ?_)
  · exfalso; omega
  · refine x_iconst hx hb d_RR_bound_8 ?_
    have B := B.of_eq hmw
    subst hQ hav
    exact x_iret hx hb hr hlocks B d_RR_bound_9 (⟨rfl, rfl⟩)
theorem d_RR_sign_0 : decode prog_1_method_11_code 0 = .ok (.aload_n 0, 1) := by decide +kernel
theorem d_RR_sign_1 : decode prog_1_method_11_code 1 = .ok (.iload_n 1, 1) := by decide +kernel
theorem d_RR_sign_2 : decode prog_1_method_11_code 2 = .ok (.invokevirtual 78, 3) := by decide +kernel
theorem d_RR_sign_5 : decode prog_1_method_11_code 5 = .ok (.ifCond .ne 16, 3) := by decide +kernel
theorem d_RR_sign_8 : decode prog_1_method_11_code 8 = .ok (.iload_n 3, 1) := by decide +kernel
theorem d_RR_sign_9 : decode prog_1_method_11_code 9 = .ok (.ifCond .lt 12, 3) := by decide +kernel
theorem d_RR_sign_12 : decode prog_1_method_11_code 12 = .ok (.iload_n 3, 1) := by decide +kernel
theorem d_RR_sign_13 : decode prog_1_method_11_code 13 = .ok (.aload_n 0, 1) := by decide +kernel
theorem d_RR_sign_14 : decode prog_1_method_11_code 14 = .ok (.iload_n 2, 1) := by decide +kernel
theorem d_RR_sign_15 : decode prog_1_method_11_code 15 = .ok (.invokevirtual 100, 3) := by decide +kernel
theorem d_RR_sign_18 : decode prog_1_method_11_code 18 = .ok (.if_icmp .lt 6, 3) := by decide +kernel
theorem d_RR_sign_21 : decode prog_1_method_11_code 21 = .ok (.bipush (-9), 2) := by decide +kernel
theorem d_RR_sign_23 : decode prog_1_method_11_code 23 = .ok (.ireturn, 1) := by decide +kernel
theorem d_RR_sign_24 : decode prog_1_method_11_code 24 = .ok (.aload_n 0, 1) := by decide +kernel
theorem d_RR_sign_25 : decode prog_1_method_11_code 25 = .ok (.iload_n 1, 1) := by decide +kernel
theorem d_RR_sign_26 : decode prog_1_method_11_code 26 = .ok (.invokevirtual 100, 3) := by decide +kernel
theorem d_RR_sign_29 : decode prog_1_method_11_code 29 = .ok (.istore 4, 2) := by decide +kernel
theorem d_RR_sign_31 : decode prog_1_method_11_code 31 = .ok (.iconst 0, 1) := by decide +kernel
theorem d_RR_sign_32 : decode prog_1_method_11_code 32 = .ok (.istore 5, 2) := by decide +kernel
theorem d_RR_sign_34 : decode prog_1_method_11_code 34 = .ok (.iload 5, 2) := by decide +kernel
theorem d_RR_sign_36 : decode prog_1_method_11_code 36 = .ok (.iload 4, 2) := by decide +kernel
theorem d_RR_sign_38 : decode prog_1_method_11_code 38 = .ok (.if_icmp .ge 29, 3) := by decide +kernel
theorem d_RR_sign_41 : decode prog_1_method_11_code 41 = .ok (.aload_n 0, 1) := by decide +kernel
theorem d_RR_sign_42 : decode prog_1_method_11_code 42 = .ok (.iload_n 2, 1) := by decide +kernel
theorem d_RR_sign_43 : decode prog_1_method_11_code 43 = .ok (.iconst 5, 1) := by decide +kernel
theorem d_RR_sign_44 : decode prog_1_method_11_code 44 = .ok (.imul, 1) := by decide +kernel
theorem d_RR_sign_45 : decode prog_1_method_11_code 45 = .ok (.iload_n 3, 1) := by decide +kernel
theorem d_RR_sign_46 : decode prog_1_method_11_code 46 = .ok (.iadd, 1) := by decide +kernel
theorem d_RR_sign_47 : decode prog_1_method_11_code 47 = .ok (.iload_n 1, 1) := by decide +kernel
theorem d_RR_sign_48 : decode prog_1_method_11_code 48 = .ok (.iconst 5, 1) := by decide +kernel
theorem d_RR_sign_49 : decode prog_1_method_11_code 49 = .ok (.imul, 1) := by decide +kernel
theorem d_RR_sign_50 : decode prog_1_method_11_code 50 = .ok (.iload 5, 2) := by decide +kernel
theorem d_RR_sign_52 : decode prog_1_method_11_code 52 = .ok (.iadd, 1) := by decide +kernel
theorem d_RR_sign_53 : decode prog_1_method_11_code 53 = .ok (.invokevirtual 150, 3) := by decide +kernel
theorem d_RR_sign_56 : decode prog_1_method_11_code 56 = .ok (.ifCond .ne 5, 3) := by decide +kernel
theorem d_RR_sign_59 : decode prog_1_method_11_code 59 = .ok (.iconst 0, 1) := by decide +kernel
theorem d_RR_sign_60 : decode prog_1_method_11_code 60 = .ok (.ireturn, 1) := by decide +kernel
theorem d_RR_sign_61 : decode prog_1_method_11_code 61 = .ok (.iinc 5 1, 3) := by decide +kernel
theorem d_RR_sign_64 : decode prog_1_method_11_code 64 = .ok (.goto (-30), 3) := by decide +kernel
theorem d_RR_sign_67 : decode prog_1_method_11_code 67 = .ok (.aload_n 0, 1) := by decide +kernel
theorem d_RR_sign_68 : decode prog_1_method_11_code 68 = .ok (.getfield 29, 3) := by decide +kernel
theorem d_RR_sign_71 : decode prog_1_method_11_code 71 = .ok (.aload_n 0, 1) := by decide +kernel
theorem d_RR_sign_72 : decode prog_1_method_11_code 72 = .ok (.getfield 11, 3) := by decide +kernel
theorem d_RR_sign_75 : decode prog_1_method_11_code 75 = .ok (.iload_n 1, 1) := by decide +kernel
theorem d_RR_sign_76 : decode prog_1_method_11_code 76 = .ok (.aaload, 1) := by decide +kernel
theorem d_RR_sign_77 : decode prog_1_method_11_code 77 = .ok (.getfield 82, 3) := by decide +kernel
theorem d_RR_sign_80 : decode prog_1_method_11_code 80 = .ok (.invokevirtual 154, 3) := by decide +kernel
theorem d_RR_sign_83 : decode prog_1_method_11_code 83 = .ok (.aload_n 0, 1) := by decide +kernel
theorem d_RR_sign_84 : decode prog_1_method_11_code 84 = .ok (.getfield 29, 3) := by decide +kernel
theorem d_RR_sign_87 : decode prog_1_method_11_code 87 = .ok (.aload_n 0, 1) := by decide +kernel
theorem d_RR_sign_88 : decode prog_1_method_11_code 88 = .ok (.getfield 11, 3) := by decide +kernel
theorem d_RR_sign_91 : decode prog_1_method_11_code 91 = .ok (.iload_n 2, 1) := by decide +kernel
theorem d_RR_sign_92 : decode prog_1_method_11_code 92 = .ok (.aaload, 1) := by decide +kernel
theorem d_RR_sign_93 : decode prog_1_method_11_code 93 = .ok (.getfield 129, 3) := by decide +kernel
theorem d_RR_sign_96 : decode prog_1_method_11_code 96 = .ok (.iload_n 3, 1) := by decide +kernel
theorem d_RR_sign_97 : decode prog_1_method_11_code 97 = .ok (.aaload, 1) := by decide +kernel
theorem d_RR_sign_98 : decode prog_1_method_11_code 98 = .ok (.invokevirtual 158, 3) := by decide +kernel
theorem d_RR_sign_101 : decode prog_1_method_11_code 101 = .ok (.aload_n 0, 1) := by decide +kernel
theorem d_RR_sign_102 : decode prog_1_method_11_code 102 = .ok (.getfield 29, 3) := by decide +kernel
theorem d_RR_sign_105 : decode prog_1_method_11_code 105 = .ok (.aload_n 0, 1) := by decide +kernel
theorem d_RR_sign_106 : decode prog_1_method_11_code 106 = .ok (.getfield 29, 3) := by decide +kernel
theorem d_RR_sign_109 : decode prog_1_method_11_code 109 = .ok (.getfield 162, 3) := by decide +kernel
theorem d_RR_sign_112 : decode prog_1_method_11_code 112 = .ok (.iconst 0, 1) := by decide +kernel
theorem d_RR_sign_113 : decode prog_1_method_11_code 113 = .ok (.aload_n 0, 1) := by decide +kernel
theorem d_RR_sign_114 : decode prog_1_method_11_code 114 = .ok (.getfield 29, 3) := by decide +kernel
theorem d_RR_sign_117 : decode prog_1_method_11_code 117 = .ok (.getfield 166, 3) := by decide +kernel
theorem d_RR_sign_120 : decode prog_1_method_11_code 120 = .ok (.invokevirtual 169, 3) := by decide +kernel
theorem d_RR_sign_123 : decode prog_1_method_11_code 123 = .ok (.ireturn, 1) := by decide +kernel
set_option maxHeartbeats 8000000 in
set_option maxRecDepth 100000 in
theorem c_RR_sign_u (l : Launch) (D : va_G) (cs : Nat → ClassId) (L : List Nat) (f : Nat → va_E) (sz : Nat) (x c0 c2 c3 c4 c5 c6 c7 c8 c9 c10 c11 : Nat) (hd ll ln : Int) (a1 a2 a3 : Int) (hF : Fc L [x]) (ha : f x = .inr (6, [.ref c0, .int (iI hd), .ref c2, .ref c3, .ref c4, .ref c5, .ref c6, .ref c7, .ref c8, .ref c9, .ref c10, .ref c11, .int (iI ll), .int (iI ln)])) (hhd : 0 ≤ hd ∧ hd ≤ 12) (ha1 : -2147483648 ≤ a1 ∧ a1 < 2147483648) (ha2 : -2147483648 ≤ a2 ∧ a2 < 2147483648) (ha3 : -2147483648 ≤ a3 ∧ a3 < 2147483648) (hun : a1 < 0 ∨ hd ≤ a1) : Met l (⟨"RealRoots", "sign", "(III)I"⟩ : MethodName) (.code (⟨"RealRoots", "sign", "(III)I"⟩ : MethodName) prog_1_method_11_code 6 (Option.some Jvm.ClassFile.FieldType.int) :: gw) ({ frames := 1, cells := 0, slots := 0, locals := 22 }) (va_Pc [.ref x, .int (iI a1), .int (iI a2), .int (iI a3)] (K0 D vwCl (TY cs) L f sz)) (va_Qi (fun (r : Int32) (g : Nat → va_E) => r = iI (-9) ∧ g = f) (K1 D vwCl (TY cs) (AL L sz) L) (AL L sz)) 0 0 (AL L sz) := by
  refine Met.ofW (cc := prog_1_method_11_code) (maxL := 6) (ret := (Option.some Jvm.ClassFile.FieldType.int)) (by decide) rfl ?_
  intro p e s m args below meth c s₁ Bd hml hv
  obtain ⟨rfl, hk0⟩ := hv
  obtain ⟨hsz, B⟩ := hk0.start
  subst hsz
  have hx := Bd.exec
  have hb := Bd.bytes
  have hr := Bd.returns
  have hlocks := Bd.notSynchronized
  have hts0 := atoms_spec Bd.pre
  have hown : s.vm.findClass RX6 = some m.cls := findClass_of_methodNamed Bd.named
  have hA : ∀ q, s.heap.size ≤ q → AL L s.heap.size q := fun _ h => Or.inr h
  have hl := lv_entry ([.ref x, .int (iI a1), .int (iI a2), .int (iI a3)]) (n := 6) (Nat.le_of_ble_eq_true rfl)
  rw [lg_entry_eq]
  generalize (lg_sl ([.ref x, .int (iI a1), .int (iI a2), .int (iI a3)]) ++ List.replicate (6 - (lg_sl ([.ref x, .int (iI a1), .int (iI a2), .int (iI a3)])).length) Slot.unset).toArray = ls at hl ⊢
  refine absQ (fun Q R av hQ hR hav => ?_)
  have hts : ∀ w ∈ gw, w.before av s = true := by rw [hav]; exact fun w h => hts0 w (List.mem_cons_of_mem _ h)
  have hRf : R.frames = 1 := by rw [hR]; rfl
  have hRl : R.locals = 22 := by rw [hR]; rfl
  have hRc : R.cells = 0 := by rw [hR]; rfl
  have hRs : R.slots = 0 := by rw [hR]; rfl
  clear hR hts0 Bd
  have hl : lv_has ls 6 [(0, .ref x), (1, .int (iI a1)), (2, .int (iI a2)), (3, .int (iI a3))] := hl
  have hfx : ∀ q ∈ ([(x, .inr (6, [.ref c0, .int (iI hd), .ref c2, .ref c3, .ref c4, .ref c5, .ref c6, .ref c7, .ref c8, .ref c9, .ref c10, .ref c11, .int (iI ll), .int (iI ln)]))] : List (Nat × va_E)), f q.1 = q.2 := fun q hq => by
    simp only [List.mem_cons, List.not_mem_nil, or_false] at hq
    rcases hq with rfl
    · exact ha
  have hmw : mw f [(x, .inr (6, [.ref c0, .int (iI hd), .ref c2, .ref c3, .ref c4, .ref c5, .ref c6, .ref c7, .ref c8, .ref c9, .ref c10, .ref c11, .int (iI ll), .int (iI ln)]))] = f := mw_self (fun k a e hk => hfx (a, e) (List.mem_of_getElem? hk))
  have B := B.focus [(x, .inr (6, [.ref c0, .int (iI hd), .ref c2, .ref c3, .ref c4, .ref c5, .ref c6, .ref c7, .ref c8, .ref c9, .ref c10, .ref c11, .int (iI ll), .int (iI ln)]))] hfx
  refine lv_aload_n hx hb d_RR_sign_0 rfl (lv_at hl 0 rfl) ?_
  refine lv_iload_n hx hb d_RR_sign_1 rfl (lv_at hl 1 rfl) ?_
  refine x_calli B hA (va_runV (As := [.int (iI a1)]) (rest := []) ⟨hx, hb, hml, hown, hts⟩ (c_RR_unknown_t l D cs _ _ _ x c0 c2 c3 c4 c5 c6 c7 c8 c9 c10 c11 hd ll ln a1 hF (mw_get (X := [(x, .inr (6, [.ref c0, .int (iI hd), .ref c2, .ref c3, .ref c4, .ref c5, .ref c6, .ref c7, .ref c8, .ref c9, .ref c10, .ref c11, .int (iI ll), .int (iI ln)]))]) hF.1 (k := 0) rfl) hhd (by omega) (by omega)) (cwV 1 hts (gw_V w_261 w_263 s_3 w_1 w_264) rfl rfl rfl (by decide +kernel) ⟨by rw [hRf]; exact Nat.le_of_ble_eq_true rfl, by rw [hRl]; exact Nat.le_of_ble_eq_true rfl⟩) ⟨K0.blind, B.recv (hF.2 _ (mw_key (k := 0) (X := [(x, .inr (6, [.ref c0, .int (iI hd), .ref c2, .ref c3, .ref c4, .ref c5, .ref c6, .ref c7, .ref c8, .ref c9, .ref c10, .ref c11, .int (iI ll), .int (iI ln)]))]) rfl)) (mw_get (X := [(x, .inr (6, [.ref c0, .int (iI hd), .ref c2, .ref c3, .ref c4, .ref c5, .ref c6, .ref c7, .ref c8, .ref c9, .ref c10, .ref c11, .int (iI ll), .int (iI ln)]))]) hF.1 (k := 0) rfl) rfl, B.pre _⟩ rfl rfl hl.1 rfl (lv_room (Nat.le_of_ble_eq_true rfl)) d_RR_sign_2 ⟨by rw [hRc]; omega, by rw [hRs]; omega⟩) (fun r2 g2 H locs hw B => ?_)
  obtain ⟨rfl, rfl⟩ := hw
  have B : Wb D vwCl (TY cs) L (mw f [(x, .inr (6, [.ref c0, .int (iI hd), .ref c2, .ref c3, .ref c4, .ref c5, .ref c6, .ref c7, .ref c8, .ref c9, .ref c10, .ref c11, .int (iI ll), .int (iI ln)]))]) (AL L s.heap.size) s H _ := B
  refine x_if_ne (tgt := 21) hx hb d_RR_sign_5 (by decide) (by omega) (fun h5 => ?_) (fun h5 => ?_)
  · refine x_bipush hx hb d_RR_sign_21 (by decide) ?_
    have B := B.of_eq hmw
    subst hQ hav
    exact x_iret hx hb hr hlocks B d_RR_sign_23 (⟨rfl, rfl⟩)
  · exfalso; omega
theorem d_RR_make_0 : decode prog_1_method_5_code 0 = .ok (.iload_n 1, 1) := by decide +kernel
theorem d_RR_make_1 : decode prog_1_method_5_code 1 = .ok (.ifCond .eq 18, 3) := by decide +kernel
theorem d_RR_make_4 : decode prog_1_method_5_code 4 = .ok (.iload_n 1, 1) := by decide +kernel
theorem d_RR_make_5 : decode prog_1_method_5_code 5 = .ok (.iconst 1, 1) := by decide +kernel
theorem d_RR_make_6 : decode prog_1_method_5_code 6 = .ok (.if_icmp .eq 13, 3) := by decide +kernel
theorem d_RR_make_9 : decode prog_1_method_5_code 9 = .ok (.iload_n 1, 1) := by decide +kernel
theorem d_RR_make_10 : decode prog_1_method_5_code 10 = .ok (.iconst 2, 1) := by decide +kernel
theorem d_RR_make_11 : decode prog_1_method_5_code 11 = .ok (.if_icmp .eq 8, 3) := by decide +kernel
theorem d_RR_make_14 : decode prog_1_method_5_code 14 = .ok (.iload_n 1, 1) := by decide +kernel
theorem d_RR_make_15 : decode prog_1_method_5_code 15 = .ok (.iconst 4, 1) := by decide +kernel
theorem d_RR_make_16 : decode prog_1_method_5_code 16 = .ok (.if_icmp .ne 7, 3) := by decide +kernel
theorem d_RR_make_19 : decode prog_1_method_5_code 19 = .ok (.iconst 1, 1) := by decide +kernel
theorem d_RR_make_20 : decode prog_1_method_5_code 20 = .ok (.goto 4, 3) := by decide +kernel
theorem d_RR_make_23 : decode prog_1_method_5_code 23 = .ok (.iconst 0, 1) := by decide +kernel
theorem d_RR_make_24 : decode prog_1_method_5_code 24 = .ok (.istore 4, 2) := by decide +kernel
theorem d_RR_make_26 : decode prog_1_method_5_code 26 = .ok (.iload_n 1, 1) := by decide +kernel
theorem d_RR_make_27 : decode prog_1_method_5_code 27 = .ok (.ifCond .lt 30, 3) := by decide +kernel
theorem d_RR_make_30 : decode prog_1_method_5_code 30 = .ok (.iload_n 1, 1) := by decide +kernel
theorem d_RR_make_31 : decode prog_1_method_5_code 31 = .ok (.bipush 9, 2) := by decide +kernel
theorem d_RR_make_33 : decode prog_1_method_5_code 33 = .ok (.if_icmp .gt 24, 3) := by decide +kernel
theorem d_RR_make_36 : decode prog_1_method_5_code 36 = .ok (.aload_n 0, 1) := by decide +kernel
theorem d_RR_make_37 : decode prog_1_method_5_code 37 = .ok (.iload_n 2, 1) := by decide +kernel
theorem d_RR_make_38 : decode prog_1_method_5_code 38 = .ok (.invokevirtual 78, 3) := by decide +kernel
theorem d_RR_make_41 : decode prog_1_method_5_code 41 = .ok (.ifCond .ne 16, 3) := by decide +kernel
theorem d_RR_make_44 : decode prog_1_method_5_code 44 = .ok (.iload 4, 2) := by decide +kernel
theorem d_RR_make_46 : decode prog_1_method_5_code 46 = .ok (.ifCond .eq 13, 3) := by decide +kernel
theorem d_RR_make_49 : decode prog_1_method_5_code 49 = .ok (.aload_n 0, 1) := by decide +kernel
theorem d_RR_make_50 : decode prog_1_method_5_code 50 = .ok (.iload_n 3, 1) := by decide +kernel
theorem d_RR_make_51 : decode prog_1_method_5_code 51 = .ok (.invokevirtual 78, 3) := by decide +kernel
theorem d_RR_make_54 : decode prog_1_method_5_code 54 = .ok (.ifCond .eq 5, 3) := by decide +kernel
theorem d_RR_make_57 : decode prog_1_method_5_code 57 = .ok (.iconst (-1), 1) := by decide +kernel
theorem d_RR_make_58 : decode prog_1_method_5_code 58 = .ok (.ireturn, 1) := by decide +kernel
theorem d_RR_make_59 : decode prog_1_method_5_code 59 = .ok (.iload_n 1, 1) := by decide +kernel
theorem d_RR_make_60 : decode prog_1_method_5_code 60 = .ok (.bipush 6, 2) := by decide +kernel
theorem d_RR_make_62 : decode prog_1_method_5_code 62 = .ok (.if_icmp .eq 9, 3) := by decide +kernel
theorem d_RR_make_65 : decode prog_1_method_5_code 65 = .ok (.iload_n 1, 1) := by decide +kernel
theorem d_RR_make_66 : decode prog_1_method_5_code 66 = .ok (.bipush 9, 2) := by decide +kernel
theorem d_RR_make_68 : decode prog_1_method_5_code 68 = .ok (.if_icmp .ne 20, 3) := by decide +kernel
theorem d_RR_make_71 : decode prog_1_method_5_code 71 = .ok (.iload_n 3, 1) := by decide +kernel
theorem d_RR_make_72 : decode prog_1_method_5_code 72 = .ok (.sipush (-1000), 3) := by decide +kernel
theorem d_RR_make_75 : decode prog_1_method_5_code 75 = .ok (.if_icmp .lt 10, 3) := by decide +kernel
theorem d_RR_make_78 : decode prog_1_method_5_code 78 = .ok (.iload_n 3, 1) := by decide +kernel
theorem d_RR_make_79 : decode prog_1_method_5_code 79 = .ok (.sipush 1000, 3) := by decide +kernel
theorem d_RR_make_82 : decode prog_1_method_5_code 82 = .ok (.if_icmp .le 6, 3) := by decide +kernel
theorem d_RR_make_85 : decode prog_1_method_5_code 85 = .ok (.bipush (-2), 2) := by decide +kernel
theorem d_RR_make_87 : decode prog_1_method_5_code 87 = .ok (.ireturn, 1) := by decide +kernel
theorem d_RR_make_88 : decode prog_1_method_5_code 88 = .ok (.iload_n 1, 1) := by decide +kernel
theorem d_RR_make_89 : decode prog_1_method_5_code 89 = .ok (.iconst 5, 1) := by decide +kernel
theorem d_RR_make_90 : decode prog_1_method_5_code 90 = .ok (.if_icmp .eq 9, 3) := by decide +kernel
theorem d_RR_make_93 : decode prog_1_method_5_code 93 = .ok (.iload_n 1, 1) := by decide +kernel
theorem d_RR_make_94 : decode prog_1_method_5_code 94 = .ok (.bipush 8, 2) := by decide +kernel
theorem d_RR_make_96 : decode prog_1_method_5_code 96 = .ok (.if_icmp .ne 22, 3) := by decide +kernel
theorem d_RR_make_99 : decode prog_1_method_5_code 99 = .ok (.aload_n 0, 1) := by decide +kernel
theorem d_RR_make_100 : decode prog_1_method_5_code 100 = .ok (.getfield 11, 3) := by decide +kernel
theorem d_RR_make_103 : decode prog_1_method_5_code 103 = .ok (.iload_n 2, 1) := by decide +kernel
theorem d_RR_make_104 : decode prog_1_method_5_code 104 = .ok (.aaload, 1) := by decide +kernel
theorem d_RR_make_105 : decode prog_1_method_5_code 105 = .ok (.getfield 82, 3) := by decide +kernel
theorem d_RR_make_108 : decode prog_1_method_5_code 108 = .ok (.invokestatic 88, 3) := by decide +kernel
theorem d_RR_make_111 : decode prog_1_method_5_code 111 = .ok (.iconst (-1), 1) := by decide +kernel
theorem d_RR_make_112 : decode prog_1_method_5_code 112 = .ok (.if_icmp .ne 6, 3) := by decide +kernel
theorem d_RR_make_115 : decode prog_1_method_5_code 115 = .ok (.bipush (-3), 2) := by decide +kernel
theorem d_RR_make_117 : decode prog_1_method_5_code 117 = .ok (.ireturn, 1) := by decide +kernel
theorem d_RR_make_118 : decode prog_1_method_5_code 118 = .ok (.aload_n 0, 1) := by decide +kernel
theorem d_RR_make_119 : decode prog_1_method_5_code 119 = .ok (.invokevirtual 71, 3) := by decide +kernel
theorem d_RR_make_122 : decode prog_1_method_5_code 122 = .ok (.iload 4, 2) := by decide +kernel
theorem d_RR_make_124 : decode prog_1_method_5_code 124 = .ok (.ifCond .eq 29, 3) := by decide +kernel
theorem d_RR_make_127 : decode prog_1_method_5_code 127 = .ok (.aload_n 0, 1) := by decide +kernel
theorem d_RR_make_128 : decode prog_1_method_5_code 128 = .ok (.iload_n 1, 1) := by decide +kernel
theorem d_RR_make_129 : decode prog_1_method_5_code 129 = .ok (.aload_n 0, 1) := by decide +kernel
theorem d_RR_make_130 : decode prog_1_method_5_code 130 = .ok (.getfield 11, 3) := by decide +kernel
theorem d_RR_make_133 : decode prog_1_method_5_code 133 = .ok (.iload_n 2, 1) := by decide +kernel
theorem d_RR_make_134 : decode prog_1_method_5_code 134 = .ok (.aaload, 1) := by decide +kernel
theorem d_RR_make_135 : decode prog_1_method_5_code 135 = .ok (.getfield 82, 3) := by decide +kernel
theorem d_RR_make_138 : decode prog_1_method_5_code 138 = .ok (.aload_n 0, 1) := by decide +kernel
theorem d_RR_make_139 : decode prog_1_method_5_code 139 = .ok (.getfield 11, 3) := by decide +kernel
theorem d_RR_make_142 : decode prog_1_method_5_code 142 = .ok (.iload_n 3, 1) := by decide +kernel
theorem d_RR_make_143 : decode prog_1_method_5_code 143 = .ok (.aaload, 1) := by decide +kernel
theorem d_RR_make_144 : decode prog_1_method_5_code 144 = .ok (.getfield 82, 3) := by decide +kernel
theorem d_RR_make_147 : decode prog_1_method_5_code 147 = .ok (.invokevirtual 92, 3) := by decide +kernel
theorem d_RR_make_150 : decode prog_1_method_5_code 150 = .ok (.goto 18, 3) := by decide +kernel
theorem d_RR_make_153 : decode prog_1_method_5_code 153 = .ok (.aload_n 0, 1) := by decide +kernel
theorem d_RR_make_154 : decode prog_1_method_5_code 154 = .ok (.iload_n 1, 1) := by decide +kernel
theorem d_RR_make_155 : decode prog_1_method_5_code 155 = .ok (.aload_n 0, 1) := by decide +kernel
theorem d_RR_make_156 : decode prog_1_method_5_code 156 = .ok (.getfield 11, 3) := by decide +kernel
theorem d_RR_make_159 : decode prog_1_method_5_code 159 = .ok (.iload_n 2, 1) := by decide +kernel
theorem d_RR_make_160 : decode prog_1_method_5_code 160 = .ok (.aaload, 1) := by decide +kernel
theorem d_RR_make_161 : decode prog_1_method_5_code 161 = .ok (.getfield 82, 3) := by decide +kernel
theorem d_RR_make_164 : decode prog_1_method_5_code 164 = .ok (.iload_n 3, 1) := by decide +kernel
theorem d_RR_make_165 : decode prog_1_method_5_code 165 = .ok (.invokevirtual 96, 3) := by decide +kernel
theorem d_RR_make_168 : decode prog_1_method_5_code 168 = .ok (.aload_n 0, 1) := by decide +kernel
theorem d_RR_make_169 : decode prog_1_method_5_code 169 = .ok (.invokevirtual 74, 3) := by decide +kernel
theorem d_RR_make_172 : decode prog_1_method_5_code 172 = .ok (.ireturn, 1) := by decide +kernel
set_option maxHeartbeats 8000000 in
set_option maxRecDepth 100000 in
theorem c_RR_make_u (l : Launch) (D : va_G) (cs : Nat → ClassId) (L : List Nat) (f : Nat → va_E) (sz : Nat) (x c0 c2 c3 c4 c5 c6 c7 c8 c9 c10 c11 : Nat) (hd ll ln : Int) (a1 a2 a3 : Int) (hF : Fc L [x]) (ha : f x = .inr (6, [.ref c0, .int (iI hd), .ref c2, .ref c3, .ref c4, .ref c5, .ref c6, .ref c7, .ref c8, .ref c9, .ref c10, .ref c11, .int (iI ll), .int (iI ln)])) (hhd : 0 ≤ hd ∧ hd ≤ 12) (ha1 : -2147483648 ≤ a1 ∧ a1 < 2147483648) (ha2 : -2147483648 ≤ a2 ∧ a2 < 2147483648) (ha3 : -2147483648 ≤ a3 ∧ a3 < 2147483648) (hun : a2 < 0 ∨ hd ≤ a2) : Met l (⟨"RealRoots", "make", "(III)I"⟩ : MethodName) (.code (⟨"RealRoots", "make", "(III)I"⟩ : MethodName) prog_1_method_5_code 5 (Option.some Jvm.ClassFile.FieldType.int) :: gw) ({ frames := 1, cells := 0, slots := 0, locals := 22 }) (va_Pc [.ref x, .int (iI a1), .int (iI a2), .int (iI a3)] (K0 D vwCl (TY cs) L f sz)) (va_Qi (fun (r : Int32) (g : Nat → va_E) => r = iI (-1) ∧ g = f) (K1 D vwCl (TY cs) (AL L sz) L) (AL L sz)) 0 0 (AL L sz) := by
  refine Met.ofW (cc := prog_1_method_5_code) (maxL := 5) (ret := (Option.some Jvm.ClassFile.FieldType.int)) (by decide) rfl ?_
  intro p e s m args below meth c s₁ Bd hml hv
  obtain ⟨rfl, hk0⟩ := hv
  obtain ⟨hsz, B⟩ := hk0.start
  subst hsz
  have hx := Bd.exec
  have hb := Bd.bytes
  have hr := Bd.returns
  have hlocks := Bd.notSynchronized
  have hts0 := atoms_spec Bd.pre
  have hown : s.vm.findClass RX6 = some m.cls := findClass_of_methodNamed Bd.named
  have hA : ∀ q, s.heap.size ≤ q → AL L s.heap.size q := fun _ h => Or.inr h
  have hl := lv_entry ([.ref x, .int (iI a1), .int (iI a2), .int (iI a3)]) (n := 5) (Nat.le_of_ble_eq_true rfl)
  rw [lg_entry_eq]
  generalize (lg_sl ([.ref x, .int (iI a1), .int (iI a2), .int (iI a3)]) ++ List.replicate (5 - (lg_sl ([.ref x, .int (iI a1), .int (iI a2), .int (iI a3)])).length) Slot.unset).toArray = ls at hl ⊢
  refine absQ (fun Q R av hQ hR hav => ?_)
  have hts : ∀ w ∈ gw, w.before av s = true := by rw [hav]; exact fun w h => hts0 w (List.mem_cons_of_mem _ h)
  have hRf : R.frames = 1 := by rw [hR]; rfl
  have hRl : R.locals = 22 := by rw [hR]; rfl
  have hRc : R.cells = 0 := by rw [hR]; rfl
  have hRs : R.slots = 0 := by rw [hR]; rfl
  clear hR hts0 Bd
  have hl : lv_has ls 5 [(0, .ref x), (1, .int (iI a1)), (2, .int (iI a2)), (3, .int (iI a3))] := hl
  have hfx : ∀ q ∈ ([(x, .inr (6, [.ref c0, .int (iI hd), .ref c2, .ref c3, .ref c4, .ref c5, .ref c6, .ref c7, .ref c8, .ref c9, .ref c10, .ref c11, .int (iI ll), .int (iI ln)]))] : List (Nat × va_E)), f q.1 = q.2 := fun q hq => by
    simp only [List.mem_cons, List.not_mem_nil, or_false] at hq
    rcases hq with rfl
    · exact ha
  have hmw : mw f [(x, .inr (6, [.ref c0, .int (iI hd), .ref c2, .ref c3, .ref c4, .ref c5, .ref c6, .ref c7, .ref c8, .ref c9, .ref c10, .ref c11, .int (iI ll), .int (iI ln)]))] = f := mw_self (fun k a e hk => hfx (a, e) (List.mem_of_getElem? hk))
  have B := B.focus [(x, .inr (6, [.ref c0, .int (iI hd), .ref c2, .ref c3, .ref c4, .ref c5, .ref c6, .ref c7, .ref c8, .ref c9, .ref c10, .ref c11, .int (iI ll), .int (iI ln)]))] hfx
  refine lv_iload_n hx hb d_RR_make_0 rfl (lv_at hl 1 rfl) ?_
  refine x_if_eq (tgt := 19) hx hb d_RR_make_1 (by decide) (by omega) (fun h1 => ?_) (fun h1 => ?_)
  · refine x_iconst hx hb d_RR_make_19 ?_
    refine lv_goto (tgt := 24) hx hb d_RR_make_20 (by decide) ?_
    refine lv_istore (lv' := [(4, .int (iI 1)), (0, .ref x), (1, .int (iI a1)), (2, .int (iI a2)), (3, .int (iI a3))]) hx hb d_RR_make_24 hl (by decide) rfl (fun ls hl => ?_)
    refine lv_iload_n hx hb d_RR_make_26 rfl (lv_at hl 2 rfl) ?_
    refine x_if_lt (tgt := 57) hx hb d_RR_make_27 (by decide) (by omega) (fun h27 => ?_) (fun h27 => ?_)
    · refine x_iconst hx hb d_RR_make_57 ?_
      have B := B.of_eq hmw
      subst hQ hav
      exact x_iret hx hb hr hlocks B d_RR_make_58 (⟨rfl, rfl⟩)
    · refine lv_iload_n hx hb d_RR_make_30 rfl (lv_at hl 2 rfl) ?_
      refine x_bipush hx hb d_RR_make_31 (by decide) ?_
      refine x_icmp_gt (tgt := 57) hx hb d_RR_make_33 (by decide) (by omega) (by omega) (fun h33 => ?_) (fun h33 => ?_)
      · refine x_iconst hx hb d_RR_make_57 ?_
        have B := B.of_eq hmw
        subst hQ hav
        exact x_iret hx hb hr hlocks B d_RR_make_58 (⟨rfl, rfl⟩)
      · refine lv_aload_n hx hb d_RR_make_36 rfl (lv_at hl 1 rfl) ?_
        refine lv_iload_n hx hb d_RR_make_37 rfl (lv_at hl 3 rfl) ?_
        refine x_calli B hA (va_runV (As := [.int (iI a2)]) (rest := []) ⟨hx, hb, hml, hown, hts⟩ (c_RR_unknown_t l D cs _ _ _ x c0 c2 c3 c4 c5 c6 c7 c8 c9 c10 c11 hd ll ln a2 hF (mw_get (X := [(x, .inr (6, [.ref c0, .int (iI hd), .ref c2, .ref c3, .ref c4, .ref c5, .ref c6, .ref c7, .ref c8, .ref c9, .ref c10, .ref c11, .int (iI ll), .int (iI ln)]))]) hF.1 (k := 0) rfl) hhd (by omega) (by omega)) (cwV 1 hts (gw_V w_261 w_263 s_3 w_1 w_264) rfl rfl rfl (by decide +kernel) ⟨by rw [hRf]; exact Nat.le_of_ble_eq_true rfl, by rw [hRl]; exact Nat.le_of_ble_eq_true rfl⟩) ⟨K0.blind, B.recv (hF.2 _ (mw_key (k := 0) (X := [(x, .inr (6, [.ref c0, .int (iI hd), .ref c2, .ref c3, .ref c4, .ref c5, .ref c6, .ref c7, .ref c8, .ref c9, .ref c10, .ref c11, .int (iI ll), .int (iI ln)]))]) rfl)) (mw_get (X := [(x, .inr (6, [.ref c0, .int (iI hd), .ref c2, .ref c3, .ref c4, .ref c5, .ref c6, .ref c7, .ref c8, .ref c9, .ref c10, .ref c11, .int (iI ll), .int (iI ln)]))]) hF.1 (k := 0) rfl) rfl, B.pre _⟩ rfl rfl hl.1 rfl (lv_room (Nat.le_of_ble_eq_true rfl)) d_RR_make_38 ⟨by rw [hRc]; omega, by rw [hRs]; omega⟩) (fun r38 g38 H locs hw B => ?_)
        obtain ⟨rfl, rfl⟩ := hw
        have B : Wb D vwCl (TY cs) L (mw f [(x, .inr (6, [.ref c0, .int (iI hd), .ref c2, .ref c3, .ref c4, .ref c5, .ref c6, .ref c7, .ref c8, .ref c9, .ref c10, .ref c11, .int (iI ll), .int (iI ln)]))]) (AL L s.heap.size) s H _ := B
        refine x_if_ne (tgt := 57) hx hb d_RR_make_41 (by decide) (by omega) (fun h41 => ?_) (fun h41 => ?_)
        · refine x_iconst hx hb d_RR_make_57 ?_
          have B := B.of_eq hmw
          subst hQ hav
          exact x_iret hx hb hr hlocks B d_RR_make_58 (⟨rfl, rfl⟩)
        · exfalso; omega
  · refine lv_iload_n hx hb d_RR_make_4 rfl (lv_at hl 1 rfl) ?_
    refine x_iconst hx hb d_RR_make_5 ?_
    refine x_icmp_eq (tgt := 19) hx hb d_RR_make_6 (by decide) (by omega) (by omega) (fun h6 => ?_) (fun h6 => ?_)
    · refine x_iconst hx hb d_RR_make_19 ?_
      refine lv_goto (tgt := 24) hx hb d_RR_make_20 (by decide) ?_
      refine lv_istore (lv' := [(4, .int (iI 1)), (0, .ref x), (1, .int (iI a1)), (2, .int (iI a2)), (3, .int (iI a3))]) hx hb d_RR_make_24 hl (by decide) rfl (fun ls hl => ?_)
      refine lv_iload_n hx hb d_RR_make_26 rfl (lv_at hl 2 rfl) ?_
      refine x_if_lt (tgt := 57) hx hb d_RR_make_27 (by decide) (by omega) (fun h27 => ?_) (fun h27 => ?_)
      · refine x_iconst hx hb d_RR_make_57 ?_
        have B := B.of_eq hmw
        subst hQ hav
        exact x_iret hx hb hr hlocks B d_RR_make_58 (⟨rfl, rfl⟩)
      · refine lv_iload_n hx hb d_RR_make_30 rfl (lv_at hl 2 rfl) ?_
        refine x_bipush hx hb d_RR_make_31 (by decide) ?_
        refine x_icmp_gt (tgt := 57) hx hb d_RR_make_33 (by decide) (by omega) (by omega) (fun h33 => ?_) (fun h33 => ?_)
        · refine x_iconst hx hb d_RR_make_57 ?_
          have B := B.of_eq hmw
          subst hQ hav
          exact x_iret hx hb hr hlocks B d_RR_make_58 (⟨rfl, rfl⟩)
        · refine lv_aload_n hx hb d_RR_make_36 rfl (lv_at hl 1 rfl) ?_
          refine lv_iload_n hx hb d_RR_make_37 rfl (lv_at hl 3 rfl) ?_
          refine x_calli B hA (va_runV (As := [.int (iI a2)]) (rest := []) ⟨hx, hb, hml, hown, hts⟩ (c_RR_unknown_t l D cs _ _ _ x c0 c2 c3 c4 c5 c6 c7 c8 c9 c10 c11 hd ll ln a2 hF (mw_get (X := [(x, .inr (6, [.ref c0, .int (iI hd), .ref c2, .ref c3, .ref c4, .ref c5, .ref c6, .ref c7, .ref c8, .ref c9, .ref c10, .ref c11, .int (iI ll), .int (iI ln)]))]) hF.1 (k := 0) rfl) hhd (by omega) (by omega)) (cwV 1 hts (gw_V w_261 w_263 s_3 w_1 w_264) rfl rfl rfl (by decide +kernel) ⟨by rw [hRf]; exact Nat.le_of_ble_eq_true rfl, by rw [hRl]; exact Nat.le_of_ble_eq_true rfl⟩) ⟨K0.blind, B.recv (hF.2 _ (mw_key (k := 0) (X := [(x, .inr (6, [.ref c0, .int (iI hd), .ref c2, .ref c3, .ref c4, .ref c5, .ref c6, .ref c7, .ref c8, .ref c9, .ref c10, .ref c11, .int (iI ll), .int (iI ln)]))]) rfl)) (mw_get (X := [(x, .inr (6, [.ref c0, .int (iI hd), .ref c2, .ref c3, .ref c4, .ref c5, .ref c6, .ref c7, .ref c8, .ref c9, .ref c10, .ref c11, .int (iI ll), .int (iI ln)]))]) hF.1 (k := 0) rfl) rfl, B.pre _⟩ rfl rfl hl.1 rfl (lv_room (Nat.le_of_ble_eq_true rfl)) d_RR_make_38 ⟨by rw [hRc]; omega, by rw [hRs]; omega⟩) (fun r38 g38 H locs hw B => ?_)
          obtain ⟨rfl, rfl⟩ := hw
          have B : Wb D vwCl (TY cs) L (mw f [(x, .inr (6, [.ref c0, .int (iI hd), .ref c2, .ref c3, .ref c4, .ref c5, .ref c6, .ref c7, .ref c8, .ref c9, .ref c10, .ref c11, .int (iI ll), .int (iI ln)]))]) (AL L s.heap.size) s H _ := B
          refine x_if_ne (tgt := 57) hx hb d_RR_make_41 (by decide) (by omega) (fun h41 => ?_) (fun h41 => ?_)
          · refine x_iconst hx hb d_RR_make_57 ?_
            have B := B.of_eq hmw
            subst hQ hav
            exact x_iret hx hb hr hlocks B d_RR_make_58 (⟨rfl, rfl⟩)
          · exfalso; omega
    · refine lv_iload_n hx hb d_RR_make_9 rfl (lv_at hl 1 rfl) ?_
      refine x_iconst hx hb d_RR_make_10 ?_
      refine x_icmp_eq (tgt := 19) hx hb d_RR_make_11 (by decide) (by omega) (by omega) (fun h11 => ?_) (fun h11 => ?_)
      · refine x_iconst hx hb d_RR_make_19 ?_
        refine lv_goto (tgt := 24) hx hb d_RR_make_20 (by decide) ?_
        refine lv_istore (lv' := [(4, .int (iI 1)), (0, .ref x), (1, .int (iI a1)), (2, .int (iI a2)), (3, .int (iI a3))]) hx hb d_RR_make_24 hl (by decide) rfl (fun ls hl => ?_)
        refine lv_iload_n hx hb d_RR_make_26 rfl (lv_at hl 2 rfl) ?_
        refine x_if_lt (tgt := 57) hx hb d_RR_make_27 (by decide) (by omega) (fun h27 => ?_) (fun h27 => ?_)
        · refine x_iconst hx hb d_RR_make_57 ?_
          have B := B.of_eq hmw
          subst hQ hav
          exact x_iret hx hb hr hlocks B d_RR_make_58 (⟨rfl, rfl⟩)
        · refine lv_iload_n hx hb d_RR_make_30 rfl (lv_at hl 2 rfl) ?_
          refine x_bipush hx hb d_RR_make_31 (by decide) ?_
          refine x_icmp_gt (tgt := 57) hx hb d_RR_make_33 (by decide) (by omega) (by omega) (fun h33 => ?_) (fun h33 => ?_)
          · refine x_iconst hx hb d_RR_make_57 ?_
            have B := B.of_eq hmw
            subst hQ hav
            exact x_iret hx hb hr hlocks B d_RR_make_58 (⟨rfl, rfl⟩)
          · refine lv_aload_n hx hb d_RR_make_36 rfl (lv_at hl 1 rfl) ?_
            refine lv_iload_n hx hb d_RR_make_37 rfl (lv_at hl 3 rfl) ?_
            refine x_calli B hA (va_runV (As := [.int (iI a2)]) (rest := []) ⟨hx, hb, hml, hown, hts⟩ (c_RR_unknown_t l D cs _ _ _ x c0 c2 c3 c4 c5 c6 c7 c8 c9 c10 c11 hd ll ln a2 hF (mw_get (X := [(x, .inr (6, [.ref c0, .int (iI hd), .ref c2, .ref c3, .ref c4, .ref c5, .ref c6, .ref c7, .ref c8, .ref c9, .ref c10, .ref c11, .int (iI ll), .int (iI ln)]))]) hF.1 (k := 0) rfl) hhd (by omega) (by omega)) (cwV 1 hts (gw_V w_261 w_263 s_3 w_1 w_264) rfl rfl rfl (by decide +kernel) ⟨by rw [hRf]; exact Nat.le_of_ble_eq_true rfl, by rw [hRl]; exact Nat.le_of_ble_eq_true rfl⟩) ⟨K0.blind, B.recv (hF.2 _ (mw_key (k := 0) (X := [(x, .inr (6, [.ref c0, .int (iI hd), .ref c2, .ref c3, .ref c4, .ref c5, .ref c6, .ref c7, .ref c8, .ref c9, .ref c10, .ref c11, .int (iI ll), .int (iI ln)]))]) rfl)) (mw_get (X := [(x, .inr (6, [.ref c0, .int (iI hd), .ref c2, .ref c3, .ref c4, .ref c5, .ref c6, .ref c7, .ref c8, .ref c9, .ref c10, .ref c11, .int (iI ll), .int (iI ln)]))]) hF.1 (k := 0) rfl) rfl, B.pre _⟩ rfl rfl hl.1 rfl (lv_room (Nat.le_of_ble_eq_true rfl)) d_RR_make_38 ⟨by rw [hRc]; omega, by rw [hRs]; omega⟩) (fun r38 g38 H locs hw B => ?_)
            obtain ⟨rfl, rfl⟩ := hw
            have B : Wb D vwCl (TY cs) L (mw f [(x, .inr (6, [.ref c0, .int (iI hd), .ref c2, .ref c3, .ref c4, .ref c5, .ref c6, .ref c7, .ref c8, .ref c9, .ref c10, .ref c11, .int (iI ll), .int (iI ln)]))]) (AL L s.heap.size) s H _ := B
            refine x_if_ne (tgt := 57) hx hb d_RR_make_41 (by decide) (by omega) (fun h41 => ?_) (fun h41 => ?_)
            · refine x_iconst hx hb d_RR_make_57 ?_
              have B := B.of_eq hmw
              subst hQ hav
              exact x_iret hx hb hr hlocks B d_RR_make_58 (⟨rfl, rfl⟩)
            · exfalso; omega
      · refine lv_iload_n hx hb d_RR_make_14 rfl (lv_at hl 1 rfl) ?_
        refine x_iconst hx hb d_RR_make_15 ?_
        refine x_icmp_ne (tgt := 23) hx hb d_RR_make_16 (by decide) (by omega) (by omega) (fun h16 => ?_) (fun h16 => ?_)
        · refine x_iconst hx hb d_RR_make_23 ?_
          refine lv_istore (lv' := [(4, .int (iI 0)), (0, .ref x), (1, .int (iI a1)), (2, .int (iI a2)), (3, .int (iI a3))]) hx hb d_RR_make_24 hl (by decide) rfl (fun ls hl => ?_)
          refine lv_iload_n hx hb d_RR_make_26 rfl (lv_at hl 2 rfl) ?_
          refine x_if_lt (tgt := 57) hx hb d_RR_make_27 (by decide) (by omega) (fun h27 => ?_) (fun h27 => ?_)
          · refine x_iconst hx hb d_RR_make_57 ?_
            have B := B.of_eq hmw
            subst hQ hav
            exact x_iret hx hb hr hlocks B d_RR_make_58 (⟨rfl, rfl⟩)
          · refine lv_iload_n hx hb d_RR_make_30 rfl (lv_at hl 2 rfl) ?_
            refine x_bipush hx hb d_RR_make_31 (by decide) ?_
            refine x_icmp_gt (tgt := 57) hx hb d_RR_make_33 (by decide) (by omega) (by omega) (fun h33 => ?_) (fun h33 => ?_)
            · refine x_iconst hx hb d_RR_make_57 ?_
              have B := B.of_eq hmw
              subst hQ hav
              exact x_iret hx hb hr hlocks B d_RR_make_58 (⟨rfl, rfl⟩)
            · refine lv_aload_n hx hb d_RR_make_36 rfl (lv_at hl 1 rfl) ?_
              refine lv_iload_n hx hb d_RR_make_37 rfl (lv_at hl 3 rfl) ?_
              refine x_calli B hA (va_runV (As := [.int (iI a2)]) (rest := []) ⟨hx, hb, hml, hown, hts⟩ (c_RR_unknown_t l D cs _ _ _ x c0 c2 c3 c4 c5 c6 c7 c8 c9 c10 c11 hd ll ln a2 hF (mw_get (X := [(x, .inr (6, [.ref c0, .int (iI hd), .ref c2, .ref c3, .ref c4, .ref c5, .ref c6, .ref c7, .ref c8, .ref c9, .ref c10, .ref c11, .int (iI ll), .int (iI ln)]))]) hF.1 (k := 0) rfl) hhd (by omega) (by omega)) (cwV 1 hts (gw_V w_261 w_263 s_3 w_1 w_264) rfl rfl rfl (by decide +kernel) ⟨by rw [hRf]; exact Nat.le_of_ble_eq_true rfl, by rw [hRl]; exact Nat.le_of_ble_eq_true rfl⟩) ⟨K0.blind, B.recv (hF.2 _ (mw_key (k := 0) (X := [(x, .inr (6, [.ref c0, .int (iI hd), .ref c2, .ref c3, .ref c4, .ref c5, .ref c6, .ref c7, .ref c8, .ref c9, .ref c10, .ref c11, .int (iI ll), .int (iI ln)]))]) rfl)) (mw_get (X := [(x, .inr (6, [.ref c0, .int (iI hd), .ref c2, .ref c3, .ref c4, .ref c5, .ref c6, .ref c7, .ref c8, .ref c9, .ref c10, .ref c11, .int (iI ll), .int (iI ln)]))]) hF.1 (k := 0) rfl) rfl, B.pre _⟩ rfl rfl hl.1 rfl (lv_room (Nat.le_of_ble_eq_true rfl)) d_RR_make_38 ⟨by rw [hRc]; omega, by rw [hRs]; omega⟩) (fun r38 g38 H locs hw B => ?_)
              obtain ⟨rfl, rfl⟩ := hw
              have B : Wb D vwCl (TY cs) L (mw f [(x, .inr (6, [.ref c0, .int (iI hd), .ref c2, .ref c3, .ref c4, .ref c5, .ref c6, .ref c7, .ref c8, .ref c9, .ref c10, .ref c11, .int (iI ll), .int (iI ln)]))]) (AL L s.heap.size) s H _ := B
              refine x_if_ne (tgt := 57) hx hb d_RR_make_41 (by decide) (by omega) (fun h41 => ?_) (fun h41 => ?_)
              · refine x_iconst hx hb d_RR_make_57 ?_
                have B := B.of_eq hmw
                subst hQ hav
                exact x_iret hx hb hr hlocks B d_RR_make_58 (⟨rfl, rfl⟩)
              · exfalso; omega
        · refine x_iconst hx hb d_RR_make_19 ?_
          refine lv_goto (tgt := 24) hx hb d_RR_make_20 (by decide) ?_
          refine lv_istore (lv' := [(4, .int (iI 1)), (0, .ref x), (1, .int (iI a1)), (2, .int (iI a2)), (3, .int (iI a3))]) hx hb d_RR_make_24 hl (by decide) rfl (fun ls hl => ?_)
          refine lv_iload_n hx hb d_RR_make_26 rfl (lv_at hl 2 rfl) ?_
          refine x_if_lt (tgt := 57) hx hb d_RR_make_27 (by decide) (by omega) (fun h27 => ?_) (fun h27 => ?_)
          · refine x_iconst hx hb d_RR_make_57 ?_
            have B := B.of_eq hmw
            subst hQ hav
            exact x_iret hx hb hr hlocks B d_RR_make_58 (⟨rfl, rfl⟩)
          · refine lv_iload_n hx hb d_RR_make_30 rfl (lv_at hl 2 rfl) ?_
            refine x_bipush hx hb d_RR_make_31 (by decide) ?_
            refine x_icmp_gt (tgt := 57) hx hb d_RR_make_33 (by decide) (by omega) (by omega) (fun h33 => ?_) (fun h33 => ?_)
            · refine x_iconst hx hb d_RR_make_57 ?_
              have B := B.of_eq hmw
              subst hQ hav
              exact x_iret hx hb hr hlocks B d_RR_make_58 (⟨rfl, rfl⟩)
            · refine lv_aload_n hx hb d_RR_make_36 rfl (lv_at hl 1 rfl) ?_
              refine lv_iload_n hx hb d_RR_make_37 rfl (lv_at hl 3 rfl) ?_
              refine x_calli B hA (va_runV (As := [.int (iI a2)]) (rest := []) ⟨hx, hb, hml, hown, hts⟩ (c_RR_unknown_t l D cs _ _ _ x c0 c2 c3 c4 c5 c6 c7 c8 c9 c10 c11 hd ll ln a2 hF (mw_get (X := [(x, .inr (6, [.ref c0, .int (iI hd), .ref c2, .ref c3, .ref c4, .ref c5, .ref c6, .ref c7, .ref c8, .ref c9, .ref c10, .ref c11, .int (iI ll), .int (iI ln)]))]) hF.1 (k := 0) rfl) hhd (by omega) (by omega)) (cwV 1 hts (gw_V w_261 w_263 s_3 w_1 w_264) rfl rfl rfl (by decide +kernel) ⟨by rw [hRf]; exact Nat.le_of_ble_eq_true rfl, by rw [hRl]; exact Nat.le_of_ble_eq_true rfl⟩) ⟨K0.blind, B.recv (hF.2 _ (mw_key (k := 0) (X := [(x, .inr (6, [.ref c0, .int (iI hd), .ref c2, .ref c3, .ref c4, .ref c5, .ref c6, .ref c7, .ref c8, .ref c9, .ref c10, .ref c11, .int (iI ll), .int (iI ln)]))]) rfl)) (mw_get (X := [(x, .inr (6, [.ref c0, .int (iI hd), .ref c2, .ref c3, .ref c4, .ref c5, .ref c6, .ref c7, .ref c8, .ref c9, .ref c10, .ref c11, .int (iI ll), .int (iI ln)]))]) hF.1 (k := 0) rfl) rfl, B.pre _⟩ rfl rfl hl.1 rfl (lv_room (Nat.le_of_ble_eq_true rfl)) d_RR_make_38 ⟨by rw [hRc]; omega, by rw [hRs]; omega⟩) (fun r38 g38 H locs hw B => ?_)
              obtain ⟨rfl, rfl⟩ := hw
              have B : Wb D vwCl (TY cs) L (mw f [(x, .inr (6, [.ref c0, .int (iI hd), .ref c2, .ref c3, .ref c4, .ref c5, .ref c6, .ref c7, .ref c8, .ref c9, .ref c10, .ref c11, .int (iI ll), .int (iI ln)]))]) (AL L s.heap.size) s H _ := B
              refine x_if_ne (tgt := 57) hx hb d_RR_make_41 (by decide) (by omega) (fun h41 => ?_) (fun h41 => ?_)
              · refine x_iconst hx hb d_RR_make_57 ?_
                have B := B.of_eq hmw
                subst hQ hav
                exact x_iret hx hb hr hlocks B d_RR_make_58 (⟨rfl, rfl⟩)
              · exfalso; omega
