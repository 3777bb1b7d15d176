theorem d_RR_ready_0 : decode prog_1_method_40_code 0 = .ok (.aload_n 0, 1) := by decide +kernel
theorem d_RR_ready_1 : decode prog_1_method_40_code 1 = .ok (.iload_n 1, 1) := by decide +kernel
theorem d_RR_ready_2 : decode prog_1_method_40_code 2 = .ok (.invokevirtual 78, 3) := by decide +kernel
theorem d_RR_ready_5 : decode prog_1_method_40_code 5 = .ok (.ifCond .ne 19, 3) := by decide +kernel
theorem d_RR_ready_8 : decode prog_1_method_40_code 8 = .ok (.aload_n 0, 1) := by decide +kernel
theorem d_RR_ready_9 : decode prog_1_method_40_code 9 = .ok (.getfield 11, 3) := by decide +kernel
theorem d_RR_ready_12 : decode prog_1_method_40_code 12 = .ok (.iload_n 1, 1) := by decide +kernel
theorem d_RR_ready_13 : decode prog_1_method_40_code 13 = .ok (.aaload, 1) := by decide +kernel
theorem d_RR_ready_14 : decode prog_1_method_40_code 14 = .ok (.getfield 82, 3) := by decide +kernel
theorem d_RR_ready_17 : decode prog_1_method_40_code 17 = .ok (.invokestatic 88, 3) := by decide +kernel
theorem d_RR_ready_20 : decode prog_1_method_40_code 20 = .ok (.iconst (-1), 1) := by decide +kernel
theorem d_RR_ready_21 : decode prog_1_method_40_code 21 = .ok (.if_icmp .ne 5, 3) := by decide +kernel
theorem d_RR_ready_24 : decode prog_1_method_40_code 24 = .ok (.iconst (-1), 1) := by decide +kernel
theorem d_RR_ready_25 : decode prog_1_method_40_code 25 = .ok (.ireturn, 1) := by decide +kernel
theorem d_RR_ready_26 : decode prog_1_method_40_code 26 = .ok (.aload_n 0, 1) := by decide +kernel
theorem d_RR_ready_27 : decode prog_1_method_40_code 27 = .ok (.getfield 11, 3) := by decide +kernel
theorem d_RR_ready_30 : decode prog_1_method_40_code 30 = .ok (.iload_n 1, 1) := by decide +kernel
theorem d_RR_ready_31 : decode prog_1_method_40_code 31 = .ok (.aaload, 1) := by decide +kernel
theorem d_RR_ready_32 : decode prog_1_method_40_code 32 = .ok (.astore_n 2, 1) := by decide +kernel
theorem d_RR_ready_33 : decode prog_1_method_40_code 33 = .ok (.aload_n 2, 1) := by decide +kernel
theorem d_RR_ready_34 : decode prog_1_method_40_code 34 = .ok (.getfield 85, 3) := by decide +kernel
theorem d_RR_ready_37 : decode prog_1_method_40_code 37 = .ok (.ifCond .ne 71, 3) := by decide +kernel
theorem d_RR_ready_40 : decode prog_1_method_40_code 40 = .ok (.aload_n 0, 1) := by decide +kernel
theorem d_RR_ready_41 : decode prog_1_method_40_code 41 = .ok (.aload_n 2, 1) := by decide +kernel
theorem d_RR_ready_42 : decode prog_1_method_40_code 42 = .ok (.getfield 82, 3) := by decide +kernel
theorem d_RR_ready_45 : decode prog_1_method_40_code 45 = .ok (.invokevirtual 252, 3) := by decide +kernel
theorem d_RR_ready_48 : decode prog_1_method_40_code 48 = .ok (.aload_n 0, 1) := by decide +kernel
theorem d_RR_ready_49 : decode prog_1_method_40_code 49 = .ok (.aload_n 2, 1) := by decide +kernel
theorem d_RR_ready_50 : decode prog_1_method_40_code 50 = .ok (.getfield 111, 3) := by decide +kernel
theorem d_RR_ready_53 : decode prog_1_method_40_code 53 = .ok (.invokevirtual 246, 3) := by decide +kernel
theorem d_RR_ready_56 : decode prog_1_method_40_code 56 = .ok (.aload_n 0, 1) := by decide +kernel
theorem d_RR_ready_57 : decode prog_1_method_40_code 57 = .ok (.aload_n 2, 1) := by decide +kernel
theorem d_RR_ready_58 : decode prog_1_method_40_code 58 = .ok (.getfield 111, 3) := by decide +kernel
theorem d_RR_ready_61 : decode prog_1_method_40_code 61 = .ok (.invokevirtual 180, 3) := by decide +kernel
theorem d_RR_ready_64 : decode prog_1_method_40_code 64 = .ok (.aload_n 2, 1) := by decide +kernel
theorem d_RR_ready_65 : decode prog_1_method_40_code 65 = .ok (.iconst 5, 1) := by decide +kernel
theorem d_RR_ready_66 : decode prog_1_method_40_code 66 = .ok (.iconst 0, 1) := by decide +kernel
theorem d_RR_ready_67 : decode prog_1_method_40_code 67 = .ok (.aload_n 0, 1) := by decide +kernel
theorem d_RR_ready_68 : decode prog_1_method_40_code 68 = .ok (.getfield 22, 3) := by decide +kernel
theorem d_RR_ready_71 : decode prog_1_method_40_code 71 = .ok (.iconst (-1), 1) := by decide +kernel
theorem d_RR_ready_72 : decode prog_1_method_40_code 72 = .ok (.invokevirtual 276, 3) := by decide +kernel
theorem d_RR_ready_75 : decode prog_1_method_40_code 75 = .ok (.aload_n 0, 1) := by decide +kernel
theorem d_RR_ready_76 : decode prog_1_method_40_code 76 = .ok (.getfield 22, 3) := by decide +kernel
theorem d_RR_ready_79 : decode prog_1_method_40_code 79 = .ok (.iconst 1, 1) := by decide +kernel
theorem d_RR_ready_80 : decode prog_1_method_40_code 80 = .ok (.invokevirtual 276, 3) := by decide +kernel
theorem d_RR_ready_83 : decode prog_1_method_40_code 83 = .ok (.isub, 1) := by decide +kernel
theorem d_RR_ready_84 : decode prog_1_method_40_code 84 = .ok (.invokestatic 237, 3) := by decide +kernel
theorem d_RR_ready_87 : decode prog_1_method_40_code 87 = .ok (.invokestatic 279, 3) := by decide +kernel
theorem d_RR_ready_90 : decode prog_1_method_40_code 90 = .ok (.putfield 282, 3) := by decide +kernel
theorem d_RR_ready_93 : decode prog_1_method_40_code 93 = .ok (.aload_n 0, 1) := by decide +kernel
theorem d_RR_ready_94 : decode prog_1_method_40_code 94 = .ok (.aload_n 2, 1) := by decide +kernel
theorem d_RR_ready_95 : decode prog_1_method_40_code 95 = .ok (.invokevirtual 285, 3) := by decide +kernel
theorem d_RR_ready_98 : decode prog_1_method_40_code 98 = .ok (.aload_n 0, 1) := by decide +kernel
theorem d_RR_ready_99 : decode prog_1_method_40_code 99 = .ok (.aload_n 2, 1) := by decide +kernel
theorem d_RR_ready_100 : decode prog_1_method_40_code 100 = .ok (.invokevirtual 289, 3) := by decide +kernel
theorem d_RR_ready_103 : decode prog_1_method_40_code 103 = .ok (.aload_n 2, 1) := by decide +kernel
theorem d_RR_ready_104 : decode prog_1_method_40_code 104 = .ok (.iconst 1, 1) := by decide +kernel
theorem d_RR_ready_105 : decode prog_1_method_40_code 105 = .ok (.putfield 85, 3) := by decide +kernel
theorem d_RR_ready_108 : decode prog_1_method_40_code 108 = .ok (.aload_n 2, 1) := by decide +kernel
theorem d_RR_ready_109 : decode prog_1_method_40_code 109 = .ok (.getfield 282, 3) := by decide +kernel
theorem d_RR_ready_112 : decode prog_1_method_40_code 112 = .ok (.ireturn, 1) := by decide +kernel
set_option maxHeartbeats 8000000 in
set_option maxRecDepth 100000 in
theorem c_RR_ready_t (l : Launch) (D : va_G) (cs : Nat → ClassId) (L : List Nat) (f : Nat → va_E) (sz : Nat) (x c0 c2 c3 c4 c5 c6 c7 c8 c9 c10 c11 : Nat) (hd ll ln : Int) (a1 : Int) (hF : Fc L [x]) (ha : f x = .inr (6, [.ref c0, .int (iI hd), .ref c2, .ref c3, .ref c4, .ref c5, .ref c6, .ref c7, .ref c8, .ref c9, .ref c10, .ref c11, .int (iI ll), .int (iI ln)])) (hhd : 0 ≤ hd ∧ hd ≤ 12) (ha1 : -2147483648 ≤ a1 ∧ a1 < 2147483648) (hun : a1 < 0 ∨ hd ≤ a1) : Met l (⟨"RealRoots", "ready", "(I)I"⟩ : MethodName) (.code (⟨"RealRoots", "ready", "(I)I"⟩ : MethodName) prog_1_method_40_code 3 (Option.some Jvm.ClassFile.FieldType.int) :: gw) ({ frames := 1, cells := 0, slots := 0, locals := 22 }) (va_Pc [.ref x, .int (iI a1)] (K0 D vwCl (TY cs) L f sz)) (va_Qi (fun (r : Int32) (g : Nat → va_E) => r = iI (-1) ∧ g = f) (K1 D vwCl (TY cs) (AL L sz) L) (AL L sz)) 0 0 (AL L sz) := by
  refine Met.ofW (cc := prog_1_method_40_code) (maxL := 3) (ret := (Option.some Jvm.ClassFile.FieldType.int)) (by decide) rfl ?_
  intro p e s m args below meth c s₁ Bd hml hv
  obtain ⟨rfl, hk0⟩ := hv
  obtain ⟨hsz, B⟩ := hk0.start
  subst hsz
  have hx := Bd.exec
  have hb := Bd.bytes
  have hr := Bd.returns
  have hlocks := Bd.notSynchronized
  have hts0 := atoms_spec Bd.pre
  have hown : s.vm.findClass RX6 = some m.cls := findClass_of_methodNamed Bd.named
  have hA : ∀ q, s.heap.size ≤ q → AL L s.heap.size q := fun _ h => Or.inr h
  have hl := lv_entry ([.ref x, .int (iI a1)]) (n := 3) (Nat.le_of_ble_eq_true rfl)
  rw [lg_entry_eq]
  generalize (lg_sl ([.ref x, .int (iI a1)]) ++ List.replicate (3 - (lg_sl ([.ref x, .int (iI a1)])).length) Slot.unset).toArray = ls at hl ⊢
  refine absQ (fun Q R av hQ hR hav => ?_)
  have hts : ∀ w ∈ gw, w.before av s = true := by rw [hav]; exact fun w h => hts0 w (List.mem_cons_of_mem _ h)
  have hRf : R.frames = 1 := by rw [hR]; rfl
  have hRl : R.locals = 22 := by rw [hR]; rfl
  have hRc : R.cells = 0 := by rw [hR]; rfl
  have hRs : R.slots = 0 := by rw [hR]; rfl
  clear hR hts0 Bd
  have hl : lv_has ls 3 [(0, .ref x), (1, .int (iI a1))] := hl
  have hfx : ∀ q ∈ ([(x, .inr (6, [.ref c0, .int (iI hd), .ref c2, .ref c3, .ref c4, .ref c5, .ref c6, .ref c7, .ref c8, .ref c9, .ref c10, .ref c11, .int (iI ll), .int (iI ln)]))] : List (Nat × va_E)), f q.1 = q.2 := fun q hq => by
    simp only [List.mem_cons, List.not_mem_nil, or_false] at hq
    rcases hq with rfl
    · exact ha
  have hmw : mw f [(x, .inr (6, [.ref c0, .int (iI hd), .ref c2, .ref c3, .ref c4, .ref c5, .ref c6, .ref c7, .ref c8, .ref c9, .ref c10, .ref c11, .int (iI ll), .int (iI ln)]))] = f := mw_self (fun k a e hk => hfx (a, e) (List.mem_of_getElem? hk))
  have B := B.focus [(x, .inr (6, [.ref c0, .int (iI hd), .ref c2, .ref c3, .ref c4, .ref c5, .ref c6, .ref c7, .ref c8, .ref c9, .ref c10, .ref c11, .int (iI ll), .int (iI ln)]))] hfx
  refine lv_aload_n hx hb d_RR_ready_0 rfl (lv_at hl 0 rfl) ?_
  refine lv_iload_n hx hb d_RR_ready_1 rfl (lv_at hl 1 rfl) ?_
  refine x_calli B hA (va_runV (As := [.int (iI a1)]) (rest := []) ⟨hx, hb, hml, hown, hts⟩ (c_RR_unknown_t l D cs _ _ _ x c0 c2 c3 c4 c5 c6 c7 c8 c9 c10 c11 hd ll ln a1 hF (mw_get (X := [(x, .inr (6, [.ref c0, .int (iI hd), .ref c2, .ref c3, .ref c4, .ref c5, .ref c6, .ref c7, .ref c8, .ref c9, .ref c10, .ref c11, .int (iI ll), .int (iI ln)]))]) hF.1 (k := 0) rfl) hhd (by omega) (by omega)) (cwV 1 hts (gw_V w_261 w_263 s_3 w_1 w_264) rfl rfl rfl (by decide +kernel) ⟨by rw [hRf]; exact Nat.le_of_ble_eq_true rfl, by rw [hRl]; exact Nat.le_of_ble_eq_true rfl⟩) ⟨K0.blind, B.recv (hF.2 _ (mw_key (k := 0) (X := [(x, .inr (6, [.ref c0, .int (iI hd), .ref c2, .ref c3, .ref c4, .ref c5, .ref c6, .ref c7, .ref c8, .ref c9, .ref c10, .ref c11, .int (iI ll), .int (iI ln)]))]) rfl)) (mw_get (X := [(x, .inr (6, [.ref c0, .int (iI hd), .ref c2, .ref c3, .ref c4, .ref c5, .ref c6, .ref c7, .ref c8, .ref c9, .ref c10, .ref c11, .int (iI ll), .int (iI ln)]))]) hF.1 (k := 0) rfl) rfl, B.pre _⟩ rfl rfl hl.1 rfl (lv_room (Nat.le_of_ble_eq_true rfl)) d_RR_ready_2 ⟨by rw [hRc]; omega, by rw [hRs]; omega⟩) (fun r2 g2 H locs hw B => ?_)
  obtain ⟨rfl, rfl⟩ := hw
  have B : Wb D vwCl (TY cs) L (mw f [(x, .inr (6, [.ref c0, .int (iI hd), .ref c2, .ref c3, .ref c4, .ref c5, .ref c6, .ref c7, .ref c8, .ref c9, .ref c10, .ref c11, .int (iI ll), .int (iI ln)]))]) (AL L s.heap.size) s H _ := B
  refine x_if_ne (tgt := 24) hx hb d_RR_ready_5 (by decide) (by omega) (fun h5 => ?_) (fun h5 => ?_)
  · refine x_iconst hx hb d_RR_ready_24 ?_
    have B := B.of_eq hmw
    subst hQ hav
    exact x_iret hx hb hr hlocks B d_RR_ready_25 (⟨rfl, rfl⟩)
  · exfalso; omega
theorem d_RR_set_0 : decode prog_1_method_3_code 0 = .ok (.aload_n 0, 1) := by decide +kernel
theorem d_RR_set_1 : decode prog_1_method_3_code 1 = .ok (.iload_n 1, 1) := by decide +kernel
theorem d_RR_set_2 : decode prog_1_method_3_code 2 = .ok (.invokevirtual 78, 3) := by decide +kernel
theorem d_RR_set_5 : decode prog_1_method_3_code 5 = .ok (.ifCond .eq 5, 3) := by decide +kernel
theorem d_RR_set_8 : decode prog_1_method_3_code 8 = .ok (.iconst (-1), 1) := by decide +kernel
theorem d_RR_set_9 : decode prog_1_method_3_code 9 = .ok (.ireturn, 1) := by decide +kernel
theorem d_RR_set_10 : decode prog_1_method_3_code 10 = .ok (.iload_n 2, 1) := by decide +kernel
theorem d_RR_set_11 : decode prog_1_method_3_code 11 = .ok (.ifCond .lt 23, 3) := by decide +kernel
theorem d_RR_set_14 : decode prog_1_method_3_code 14 = .ok (.iload_n 2, 1) := by decide +kernel
theorem d_RR_set_15 : decode prog_1_method_3_code 15 = .ok (.bipush 6, 2) := by decide +kernel
theorem d_RR_set_17 : decode prog_1_method_3_code 17 = .ok (.if_icmp .ge 17, 3) := by decide +kernel
theorem d_RR_set_20 : decode prog_1_method_3_code 20 = .ok (.iload_n 3, 1) := by decide +kernel
theorem d_RR_set_21 : decode prog_1_method_3_code 21 = .ok (.sipush (-1000), 3) := by decide +kernel
theorem d_RR_set_24 : decode prog_1_method_3_code 24 = .ok (.if_icmp .lt 10, 3) := by decide +kernel
theorem d_RR_set_27 : decode prog_1_method_3_code 27 = .ok (.iload_n 3, 1) := by decide +kernel
theorem d_RR_set_28 : decode prog_1_method_3_code 28 = .ok (.sipush 1000, 3) := by decide +kernel
theorem d_RR_set_31 : decode prog_1_method_3_code 31 = .ok (.if_icmp .le 6, 3) := by decide +kernel
theorem d_RR_set_34 : decode prog_1_method_3_code 34 = .ok (.bipush (-2), 2) := by decide +kernel
theorem d_RR_set_36 : decode prog_1_method_3_code 36 = .ok (.ireturn, 1) := by decide +kernel
theorem d_RR_set_37 : decode prog_1_method_3_code 37 = .ok (.aload_n 0, 1) := by decide +kernel
theorem d_RR_set_38 : decode prog_1_method_3_code 38 = .ok (.getfield 11, 3) := by decide +kernel
theorem d_RR_set_41 : decode prog_1_method_3_code 41 = .ok (.iload_n 1, 1) := by decide +kernel
theorem d_RR_set_42 : decode prog_1_method_3_code 42 = .ok (.aaload, 1) := by decide +kernel
theorem d_RR_set_43 : decode prog_1_method_3_code 43 = .ok (.getfield 82, 3) := by decide +kernel
theorem d_RR_set_46 : decode prog_1_method_3_code 46 = .ok (.iload_n 2, 1) := by decide +kernel
theorem d_RR_set_47 : decode prog_1_method_3_code 47 = .ok (.iaload, 1) := by decide +kernel
theorem d_RR_set_48 : decode prog_1_method_3_code 48 = .ok (.istore 4, 2) := by decide +kernel
theorem d_RR_set_50 : decode prog_1_method_3_code 50 = .ok (.iload 4, 2) := by decide +kernel
theorem d_RR_set_52 : decode prog_1_method_3_code 52 = .ok (.iload_n 3, 1) := by decide +kernel
theorem d_RR_set_53 : decode prog_1_method_3_code 53 = .ok (.if_icmp .eq 30, 3) := by decide +kernel
theorem d_RR_set_56 : decode prog_1_method_3_code 56 = .ok (.aload_n 0, 1) := by decide +kernel
theorem d_RR_set_57 : decode prog_1_method_3_code 57 = .ok (.getfield 11, 3) := by decide +kernel
theorem d_RR_set_60 : decode prog_1_method_3_code 60 = .ok (.iload_n 1, 1) := by decide +kernel
theorem d_RR_set_61 : decode prog_1_method_3_code 61 = .ok (.aaload, 1) := by decide +kernel
theorem d_RR_set_62 : decode prog_1_method_3_code 62 = .ok (.getfield 82, 3) := by decide +kernel
theorem d_RR_set_65 : decode prog_1_method_3_code 65 = .ok (.iload_n 2, 1) := by decide +kernel
theorem d_RR_set_66 : decode prog_1_method_3_code 66 = .ok (.iload_n 3, 1) := by decide +kernel
theorem d_RR_set_67 : decode prog_1_method_3_code 67 = .ok (.iastore, 1) := by decide +kernel
theorem d_RR_set_68 : decode prog_1_method_3_code 68 = .ok (.aload_n 0, 1) := by decide +kernel
theorem d_RR_set_69 : decode prog_1_method_3_code 69 = .ok (.getfield 11, 3) := by decide +kernel
theorem d_RR_set_72 : decode prog_1_method_3_code 72 = .ok (.iload_n 1, 1) := by decide +kernel
theorem d_RR_set_73 : decode prog_1_method_3_code 73 = .ok (.aaload, 1) := by decide +kernel
theorem d_RR_set_74 : decode prog_1_method_3_code 74 = .ok (.iconst 0, 1) := by decide +kernel
theorem d_RR_set_75 : decode prog_1_method_3_code 75 = .ok (.putfield 85, 3) := by decide +kernel
theorem d_RR_set_78 : decode prog_1_method_3_code 78 = .ok (.aload_n 0, 1) := by decide +kernel
theorem d_RR_set_79 : decode prog_1_method_3_code 79 = .ok (.iconst 0, 1) := by decide +kernel
theorem d_RR_set_80 : decode prog_1_method_3_code 80 = .ok (.putfield 66, 3) := by decide +kernel
theorem d_RR_set_83 : decode prog_1_method_3_code 83 = .ok (.iload 4, 2) := by decide +kernel
theorem d_RR_set_85 : decode prog_1_method_3_code 85 = .ok (.sipush 1000, 3) := by decide +kernel
theorem d_RR_set_88 : decode prog_1_method_3_code 88 = .ok (.iadd, 1) := by decide +kernel
theorem d_RR_set_89 : decode prog_1_method_3_code 89 = .ok (.ireturn, 1) := by decide +kernel
set_option maxHeartbeats 8000000 in
set_option maxRecDepth 100000 in
theorem c_RR_set_u (l : Launch) (D : va_G) (cs : Nat → ClassId) (L : List Nat) (f : Nat → va_E) (sz : Nat) (x c0 c2 c3 c4 c5 c6 c7 c8 c9 c10 c11 : Nat) (hd ll ln : Int) (a1 a2 a3 : Int) (hF : Fc L [x]) (ha : f x = .inr (6, [.ref c0, .int (iI hd), .ref c2, .ref c3, .ref c4, .ref c5, .ref c6, .ref c7, .ref c8, .ref c9, .ref c10, .ref c11, .int (iI ll), .int (iI ln)])) (hhd : 0 ≤ hd ∧ hd ≤ 12) (ha1 : -2147483648 ≤ a1 ∧ a1 < 2147483648) (ha2 : -2147483648 ≤ a2 ∧ a2 < 2147483648) (ha3 : -2147483648 ≤ a3 ∧ a3 < 2147483648) (hun : a1 < 0 ∨ hd ≤ a1) : Met l (⟨"RealRoots", "set", "(III)I"⟩ : MethodName) (.code (⟨"RealRoots", "set", "(III)I"⟩ : MethodName) prog_1_method_3_code 5 (Option.some Jvm.ClassFile.FieldType.int) :: gw) ({ frames := 1, cells := 0, slots := 0, locals := 22 }) (va_Pc [.ref x, .int (iI a1), .int (iI a2), .int (iI a3)] (K0 D vwCl (TY cs) L f sz)) (va_Qi (fun (r : Int32) (g : Nat → va_E) => r = iI (-1) ∧ g = f) (K1 D vwCl (TY cs) (AL L sz) L) (AL L sz)) 0 0 (AL L sz) := by
  refine Met.ofW (cc := prog_1_method_3_code) (maxL := 5) (ret := (Option.some Jvm.ClassFile.FieldType.int)) (by decide) rfl ?_
  intro p e s m args below meth c s₁ Bd hml hv
  obtain ⟨rfl, hk0⟩ := hv
  obtain ⟨hsz, B⟩ := hk0.start
  subst hsz
  have hx := Bd.exec
  have hb := Bd.bytes
  have hr := Bd.returns
  have hlocks := Bd.notSynchronized
  have hts0 := atoms_spec Bd.pre
  have hown : s.vm.findClass RX6 = some m.cls := findClass_of_methodNamed Bd.named
  have hA : ∀ q, s.heap.size ≤ q → AL L s.heap.size q := fun _ h => Or.inr h
  have hl := lv_entry ([.ref x, .int (iI a1), .int (iI a2), .int (iI a3)]) (n := 5) (Nat.le_of_ble_eq_true rfl)
  rw [lg_entry_eq]
  generalize (lg_sl ([.ref x, .int (iI a1), .int (iI a2), .int (iI a3)]) ++ List.replicate (5 - (lg_sl ([.ref x, .int (iI a1), .int (iI a2), .int (iI a3)])).length) Slot.unset).toArray = ls at hl ⊢
  refine absQ (fun Q R av hQ hR hav => ?_)
  have hts : ∀ w ∈ gw, w.before av s = true := by rw [hav]; exact fun w h => hts0 w (List.mem_cons_of_mem _ h)
  have hRf : R.frames = 1 := by rw [hR]; rfl
  have hRl : R.locals = 22 := by rw [hR]; rfl
  have hRc : R.cells = 0 := by rw [hR]; rfl
  have hRs : R.slots = 0 := by rw [hR]; rfl
  clear hR hts0 Bd
  have hl : lv_has ls 5 [(0, .ref x), (1, .int (iI a1)), (2, .int (iI a2)), (3, .int (iI a3))] := hl
  have hfx : ∀ q ∈ ([(x, .inr (6, [.ref c0, .int (iI hd), .ref c2, .ref c3, .ref c4, .ref c5, .ref c6, .ref c7, .ref c8, .ref c9, .ref c10, .ref c11, .int (iI ll), .int (iI ln)]))] : List (Nat × va_E)), f q.1 = q.2 := fun q hq => by
    simp only [List.mem_cons, List.not_mem_nil, or_false] at hq
    rcases hq with rfl
    · exact ha
  have hmw : mw f [(x, .inr (6, [.ref c0, .int (iI hd), .ref c2, .ref c3, .ref c4, .ref c5, .ref c6, .ref c7, .ref c8, .ref c9, .ref c10, .ref c11, .int (iI ll), .int (iI ln)]))] = f := mw_self (fun k a e hk => hfx (a, e) (List.mem_of_getElem? hk))
  have B := B.focus [(x, .inr (6, [.ref c0, .int (iI hd), .ref c2, .ref c3, .ref c4, .ref c5, .ref c6, .ref c7, .ref c8, .ref c9, .ref c10, .ref c11, .int (iI ll), .int (iI ln)]))] hfx
  refine lv_aload_n hx hb d_RR_set_0 rfl (lv_at hl 0 rfl) ?_
  refine lv_iload_n hx hb d_RR_set_1 rfl (lv_at hl 1 rfl) ?_
  refine x_calli B hA (va_runV (As := [.int (iI a1)]) (rest := []) ⟨hx, hb, hml, hown, hts⟩ (c_RR_unknown_t l D cs _ _ _ x c0 c2 c3 c4 c5 c6 c7 c8 c9 c10 c11 hd ll ln a1 hF (mw_get (X := [(x, .inr (6, [.ref c0, .int (iI hd), .ref c2, .ref c3, .ref c4, .ref c5, .ref c6, .ref c7, .ref c8, .ref c9, .ref c10, .ref c11, .int (iI ll), .int (iI ln)]))]) hF.1 (k := 0) rfl) hhd (by omega) (by omega)) (cwV 1 hts (gw_V w_261 w_263 s_3 w_1 w_264) rfl rfl rfl (by decide +kernel) ⟨by rw [hRf]; exact Nat.le_of_ble_eq_true rfl, by rw [hRl]; exact Nat.le_of_ble_eq_true rfl⟩) ⟨K0.blind, B.recv (hF.2 _ (mw_key (k := 0) (X := [(x, .inr (6, [.ref c0, .int (iI hd), .ref c2, .ref c3, .ref c4, .ref c5, .ref c6, .ref c7, .ref c8, .ref c9, .ref c10, .ref c11, .int (iI ll), .int (iI ln)]))]) rfl)) (mw_get (X := [(x, .inr (6, [.ref c0, .int (iI hd), .ref c2, .ref c3, .ref c4, .ref c5, .ref c6, .ref c7, .ref c8, .ref c9, .ref c10, .ref c11, .int (iI ll), .int (iI ln)]))]) hF.1 (k := 0) rfl) rfl, B.pre _⟩ rfl rfl hl.1 rfl (lv_room (Nat.le_of_ble_eq_true rfl)) d_RR_set_2 ⟨by rw [hRc]; omega, by rw [hRs]; omega⟩) (fun r2 g2 H locs hw B => ?_)
  obtain ⟨rfl, rfl⟩ := hw
  have B : Wb D vwCl (TY cs) L (mw f [(x, .inr (6, [.ref c0, .int (iI hd), .ref c2, .ref c3, .ref c4, .ref c5, .ref c6, .ref c7, .ref c8, .ref c9, .ref c10, .ref c11, .int (iI ll), .int (iI ln)]))]) (AL L s.heap.size) s H _ := B
  refine x_if_eq (tgt := 10) hx hb d_RR_set_5 (by decide) (by omega) (fun h5 => ?_) (fun h5 => ?_)
  · exfalso; omega
  · refine x_iconst hx hb d_RR_set_8 ?_
    have B := B.of_eq hmw
    subst hQ hav
    exact x_iret hx hb hr hlocks B d_RR_set_9 (⟨rfl, rfl⟩)
theorem d_RR_coefficient_0 : decode prog_1_method_4_code 0 = .ok (.aload_n 0, 1) := by decide +kernel
theorem d_RR_coefficient_1 : decode prog_1_method_4_code 1 = .ok (.iload_n 1, 1) := by decide +kernel
theorem d_RR_coefficient_2 : decode prog_1_method_4_code 2 = .ok (.invokevirtual 78, 3) := by decide +kernel
theorem d_RR_coefficient_5 : decode prog_1_method_4_code 5 = .ok (.ifCond .ne 13, 3) := by decide +kernel
theorem d_RR_coefficient_8 : decode prog_1_method_4_code 8 = .ok (.iload_n 2, 1) := by decide +kernel
theorem d_RR_coefficient_9 : decode prog_1_method_4_code 9 = .ok (.ifCond .lt 9, 3) := by decide +kernel
theorem d_RR_coefficient_12 : decode prog_1_method_4_code 12 = .ok (.iload_n 2, 1) := by decide +kernel
theorem d_RR_coefficient_13 : decode prog_1_method_4_code 13 = .ok (.bipush 6, 2) := by decide +kernel
theorem d_RR_coefficient_15 : decode prog_1_method_4_code 15 = .ok (.if_icmp .lt 7, 3) := by decide +kernel
theorem d_RR_coefficient_18 : decode prog_1_method_4_code 18 = .ok (.iconst 0, 1) := by decide +kernel
theorem d_RR_coefficient_19 : decode prog_1_method_4_code 19 = .ok (.goto 14, 3) := by decide +kernel
theorem d_RR_coefficient_22 : decode prog_1_method_4_code 22 = .ok (.aload_n 0, 1) := by decide +kernel
theorem d_RR_coefficient_23 : decode prog_1_method_4_code 23 = .ok (.getfield 11, 3) := by decide +kernel
theorem d_RR_coefficient_26 : decode prog_1_method_4_code 26 = .ok (.iload_n 1, 1) := by decide +kernel
theorem d_RR_coefficient_27 : decode prog_1_method_4_code 27 = .ok (.aaload, 1) := by decide +kernel
theorem d_RR_coefficient_28 : decode prog_1_method_4_code 28 = .ok (.getfield 82, 3) := by decide +kernel
theorem d_RR_coefficient_31 : decode prog_1_method_4_code 31 = .ok (.iload_n 2, 1) := by decide +kernel
theorem d_RR_coefficient_32 : decode prog_1_method_4_code 32 = .ok (.iaload, 1) := by decide +kernel
theorem d_RR_coefficient_33 : decode prog_1_method_4_code 33 = .ok (.ireturn, 1) := by decide +kernel
set_option maxHeartbeats 8000000 in
set_option maxRecDepth 100000 in
theorem c_RR_coefficient_u (l : Launch) (D : va_G) (cs : Nat → ClassId) (L : List Nat) (f : Nat → va_E) (sz : Nat) (x c0 c2 c3 c4 c5 c6 c7 c8 c9 c10 c11 : Nat) (hd ll ln : Int) (a1 a2 : Int) (hF : Fc L [x]) (ha : f x = .inr (6, [.ref c0, .int (iI hd), .ref c2, .ref c3, .ref c4, .ref c5, .ref c6, .ref c7, .ref c8, .ref c9, .ref c10, .ref c11, .int (iI ll), .int (iI ln)])) (hhd : 0 ≤ hd ∧ hd ≤ 12) (ha1 : -2147483648 ≤ a1 ∧ a1 < 2147483648) (ha2 : -2147483648 ≤ a2 ∧ a2 < 2147483648) (hun : a1 < 0 ∨ hd ≤ a1) : Met l (⟨"RealRoots", "coefficient", "(II)I"⟩ : MethodName) (.code (⟨"RealRoots", "coefficient", "(II)I"⟩ : MethodName) prog_1_method_4_code 3 (Option.some Jvm.ClassFile.FieldType.int) :: gw) ({ frames := 1, cells := 0, slots := 0, locals := 22 }) (va_Pc [.ref x, .int (iI a1), .int (iI a2)] (K0 D vwCl (TY cs) L f sz)) (va_Qi (fun (r : Int32) (g : Nat → va_E) => r = iI (0) ∧ g = f) (K1 D vwCl (TY cs) (AL L sz) L) (AL L sz)) 0 0 (AL L sz) := by
  refine Met.ofW (cc := prog_1_method_4_code) (maxL := 3) (ret := (Option.some Jvm.ClassFile.FieldType.int)) (by decide) rfl ?_
  intro p e s m args below meth c s₁ Bd hml hv
  obtain ⟨rfl, hk0⟩ := hv
  obtain ⟨hsz, B⟩ := hk0.start
  subst hsz
  have hx := Bd.exec
  have hb := Bd.bytes
  have hr := Bd.returns
  have hlocks := Bd.notSynchronized
  have hts0 := atoms_spec Bd.pre
  have hown : s.vm.findClass RX6 = some m.cls := findClass_of_methodNamed Bd.named
  have hA : ∀ q, s.heap.size ≤ q → AL L s.heap.size q := fun _ h => Or.inr h
  have hl := lv_entry ([.ref x, .int (iI a1), .int (iI a2)]) (n := 3) (Nat.le_of_ble_eq_true rfl)
  rw [lg_entry_eq]
  generalize (lg_sl ([.ref x, .int (iI a1), .int (iI a2)]) ++ List.replicate (3 - (lg_sl ([.ref x, .int (iI a1), .int (iI a2)])).length) Slot.unset).toArray = ls at hl ⊢
  refine absQ (fun Q R av hQ hR hav => ?_)
  have hts : ∀ w ∈ gw, w.before av s = true := by rw [hav]; exact fun w h => hts0 w (List.mem_cons_of_mem _ h)
  have hRf : R.frames = 1 := by rw [hR]; rfl
  have hRl : R.locals = 22 := by rw [hR]; rfl
  have hRc : R.cells = 0 := by rw [hR]; rfl
  have hRs : R.slots = 0 := by rw [hR]; rfl
  clear hR hts0 Bd
  have hl : lv_has ls 3 [(0, .ref x), (1, .int (iI a1)), (2, .int (iI a2))] := hl
  have hfx : ∀ q ∈ ([(x, .inr (6, [.ref c0, .int (iI hd), .ref c2, .ref c3, .ref c4, .ref c5, .ref c6, .ref c7, .ref c8, .ref c9, .ref c10, .ref c11, .int (iI ll), .int (iI ln)]))] : List (Nat × va_E)), f q.1 = q.2 := fun q hq => by
    simp only [List.mem_cons, List.not_mem_nil, or_false] at hq
    rcases hq with rfl
    · exact ha
  have hmw : mw f [(x, .inr (6, [.ref c0, .int (iI hd), .ref c2, .ref c3, .ref c4, .ref c5, .ref c6, .ref c7, .ref c8, .ref c9, .ref c10, .ref c11, .int (iI ll), .int (iI ln)]))] = f := mw_self (fun k a e hk => hfx (a, e) (List.mem_of_getElem? hk))
  have B := B.focus [(x, .inr (6, [.ref c0, .int (iI hd), .ref c2, .ref c3, .ref c4, .ref c5, .ref c6, .ref c7, .ref c8, .ref c9, .ref c10, .ref c11, .int (iI ll), .int (iI ln)]))] hfx
  refine lv_aload_n hx hb d_RR_coefficient_0 rfl (lv_at hl 0 rfl) ?_
  refine lv_iload_n hx hb d_RR_coefficient_1 rfl (lv_at hl 1 rfl) ?_
  refine x_calli B hA (va_runV (As := [.int (iI a1)]) (rest := []) ⟨hx, hb, hml, hown, hts⟩ (c_RR_unknown_t l D cs _ _ _ x c0 c2 c3 c4 c5 c6 c7 c8 c9 c10 c11 hd ll ln a1 hF (mw_get (X := [(x, .inr (6, [.ref c0, .int (iI hd), .ref c2, .ref c3, .ref c4, .ref c5, .ref c6, .ref c7, .ref c8, .ref c9, .ref c10, .ref c11, .int (iI ll), .int (iI ln)]))]) hF.1 (k := 0) rfl) hhd (by omega) (by omega)) (cwV 1 hts (gw_V w_261 w_263 s_3 w_1 w_264) rfl rfl rfl (by decide +kernel) ⟨by rw [hRf]; exact Nat.le_of_ble_eq_true rfl, by rw [hRl]; exact Nat.le_of_ble_eq_true rfl⟩) ⟨K0.blind, B.recv (hF.2 _ (mw_key (k := 0) (X := [(x, .inr (6, [.ref c0, .int (iI hd), .ref c2, .ref c3, .ref c4, .ref c5, .ref c6, .ref c7, .ref c8, .ref c9, .ref c10, .ref c11, .int (iI ll), .int (iI ln)]))]) rfl)) (mw_get (X := [(x, .inr (6, [.ref c0, .int (iI hd), .ref c2, .ref c3, .ref c4, .ref c5, .ref c6, .ref c7, .ref c8, .ref c9, .ref c10, .ref c11, .int (iI ll), .int (iI ln)]))]) hF.1 (k := 0) rfl) rfl, B.pre _⟩ rfl rfl hl.1 rfl (lv_room (Nat.le_of_ble_eq_true rfl)) d_RR_coefficient_2 ⟨by rw [hRc]; omega, by rw [hRs]; omega⟩) (fun r2 g2 H locs hw B => ?_)
  obtain ⟨rfl, rfl⟩ := hw
  have B : Wb D vwCl (TY cs) L (mw f [(x, .inr (6, [.ref c0, .int (iI hd), .ref c2, .ref c3, .ref c4, .ref c5, .ref c6, .ref c7, .ref c8, .ref c9, .ref c10, .ref c11, .int (iI ll), .int (iI ln)]))]) (AL L s.heap.size) s H _ := B
  refine x_if_ne (tgt := 18) hx hb d_RR_coefficient_5 (by decide) (by omega) (fun h5 => ?_) (fun h5 => ?_)
  · refine x_iconst hx hb d_RR_coefficient_18 ?_
    refine lv_goto (tgt := 33) hx hb d_RR_coefficient_19 (by decide) ?_
    have B := B.of_eq hmw
    subst hQ hav
    exact x_iret hx hb hr hlocks B d_RR_coefficient_33 (⟨rfl, rfl⟩)
  · exfalso; omega
theorem d_RR_degree_0 : decode prog_1_method_6_code 0 = .ok (.aload_n 0, 1) := by decide +kernel
theorem d_RR_degree_1 : decode prog_1_method_6_code 1 = .ok (.iload_n 1, 1) := by decide +kernel
theorem d_RR_degree_2 : decode prog_1_method_6_code 2 = .ok (.invokevirtual 78, 3) := by decide +kernel
theorem d_RR_degree_5 : decode prog_1_method_6_code 5 = .ok (.ifCond .eq 8, 3) := by decide +kernel
theorem d_RR_degree_8 : decode prog_1_method_6_code 8 = .ok (.bipush (-9), 2) := by decide +kernel
theorem d_RR_degree_10 : decode prog_1_method_6_code 10 = .ok (.goto 15, 3) := by decide +kernel
theorem d_RR_degree_13 : decode prog_1_method_6_code 13 = .ok (.aload_n 0, 1) := by decide +kernel
theorem d_RR_degree_14 : decode prog_1_method_6_code 14 = .ok (.getfield 11, 3) := by decide +kernel
theorem d_RR_degree_17 : decode prog_1_method_6_code 17 = .ok (.iload_n 1, 1) := by decide +kernel
theorem d_RR_degree_18 : decode prog_1_method_6_code 18 = .ok (.aaload, 1) := by decide +kernel
theorem d_RR_degree_19 : decode prog_1_method_6_code 19 = .ok (.getfield 82, 3) := by decide +kernel
theorem d_RR_degree_22 : decode prog_1_method_6_code 22 = .ok (.invokestatic 88, 3) := by decide +kernel
theorem d_RR_degree_25 : decode prog_1_method_6_code 25 = .ok (.ireturn, 1) := by decide +kernel
set_option maxHeartbeats 8000000 in
set_option maxRecDepth 100000 in
theorem c_RR_degree_u (l : Launch) (D : va_G) (cs : Nat → ClassId) (L : List Nat) (f : Nat → va_E) (sz : Nat) (x c0 c2 c3 c4 c5 c6 c7 c8 c9 c10 c11 : Nat) (hd ll ln : Int) (a1 : Int) (hF : Fc L [x]) (ha : f x = .inr (6, [.ref c0, .int (iI hd), .ref c2, .ref c3, .ref c4, .ref c5, .ref c6, .ref c7, .ref c8, .ref c9, .ref c10, .ref c11, .int (iI ll), .int (iI ln)])) (hhd : 0 ≤ hd ∧ hd ≤ 12) (ha1 : -2147483648 ≤ a1 ∧ a1 < 2147483648) (hun : a1 < 0 ∨ hd ≤ a1) : Met l (⟨"RealRoots", "degree", "(I)I"⟩ : MethodName) (.code (⟨"RealRoots", "degree", "(I)I"⟩ : MethodName) prog_1_method_6_code 2 (Option.some Jvm.ClassFile.FieldType.int) :: gw) ({ frames := 1, cells := 0, slots := 0, locals := 22 }) (va_Pc [.ref x, .int (iI a1)] (K0 D vwCl (TY cs) L f sz)) (va_Qi (fun (r : Int32) (g : Nat → va_E) => r = iI (-9) ∧ g = f) (K1 D vwCl (TY cs) (AL L sz) L) (AL L sz)) 0 0 (AL L sz) := by
  refine Met.ofW (cc := prog_1_method_6_code) (maxL := 2) (ret := (Option.some Jvm.ClassFile.FieldType.int)) (by decide) rfl ?_
  intro p e s m args below meth c s₁ Bd hml hv
  obtain ⟨rfl, hk0⟩ := hv
  obtain ⟨hsz, B⟩ := hk0.start
  subst hsz
  have hx := Bd.exec
  have hb := Bd.bytes
  have hr := Bd.returns
  have hlocks := Bd.notSynchronized
  have hts0 := atoms_spec Bd.pre
  have hown : s.vm.findClass RX6 = some m.cls := findClass_of_methodNamed Bd.named
  have hA : ∀ q, s.heap.size ≤ q → AL L s.heap.size q := fun _ h => Or.inr h
  have hl := lv_entry ([.ref x, .int (iI a1)]) (n := 2) (Nat.le_of_ble_eq_true rfl)
  rw [lg_entry_eq]
  generalize (lg_sl ([.ref x, .int (iI a1)]) ++ List.replicate (2 - (lg_sl ([.ref x, .int (iI a1)])).length) Slot.unset).toArray = ls at hl ⊢
  refine absQ (fun Q R av hQ hR hav => ?_)
  have hts : ∀ w ∈ gw, w.before av s = true := by rw [hav]; exact fun w h => hts0 w (List.mem_cons_of_mem _ h)
  have hRf : R.frames = 1 := by rw [hR]; rfl
  have hRl : R.locals = 22 := by rw [hR]; rfl
  have hRc : R.cells = 0 := by rw [hR]; rfl
  have hRs : R.slots = 0 := by rw [hR]; rfl
  clear hR hts0 Bd
  have hl : lv_has ls 2 [(0, .ref x), (1, .int (iI a1))] := hl
  have hfx : ∀ q ∈ ([(x, .inr (6, [.ref c0, .int (iI hd), .ref c2, .ref c3, .ref c4, .ref c5, .ref c6, .ref c7, .ref c8, .ref c9, .ref c10, .ref c11, .int (iI ll), .int (iI ln)]))] : List (Nat × va_E)), f q.1 = q.2 := fun q hq => by
    simp only [List.mem_cons, List.not_mem_nil, or_false] at hq
    rcases hq with rfl
    · exact ha
  have hmw : mw f [(x, .inr (6, [.ref c0, .int (iI hd), .ref c2, .ref c3, .ref c4, .ref c5, .ref c6, .ref c7, .ref c8, .ref c9, .ref c10, .ref c11, .int (iI ll), .int (iI ln)]))] = f := mw_self (fun k a e hk => hfx (a, e) (List.mem_of_getElem? hk))
  have B := B.focus [(x, .inr (6, [.ref c0, .int (iI hd), .ref c2, .ref c3, .ref c4, .ref c5, .ref c6, .ref c7, .ref c8, .ref c9, .ref c10, .ref c11, .int (iI ll), .int (iI ln)]))] hfx
  refine lv_aload_n hx hb d_RR_degree_0 rfl (lv_at hl 0 rfl) ?_
  refine lv_iload_n hx hb d_RR_degree_1 rfl (lv_at hl 1 rfl) ?_
  refine x_calli B hA (va_runV (As := [.int (iI a1)]) (rest := []) ⟨hx, hb, hml, hown, hts⟩ (c_RR_unknown_t l D cs _ _ _ x c0 c2 c3 c4 c5 c6 c7 c8 c9 c10 c11 hd ll ln a1 hF (mw_get (X := [(x, .inr (6, [.ref c0, .int (iI hd), .ref c2, .ref c3, .ref c4, .ref c5, .ref c6, .ref c7, .ref c8, .ref c9, .ref c10, .ref c11, .int (iI ll), .int (iI ln)]))]) hF.1 (k := 0) rfl) hhd (by omega) (by omega)) (cwV 1 hts (gw_V w_261 w_263 s_3 w_1 w_264) rfl rfl rfl (by decide +kernel) ⟨by rw [hRf]; exact Nat.le_of_ble_eq_true rfl, by rw [hRl]; exact Nat.le_of_ble_eq_true rfl⟩) ⟨K0.blind, B.recv (hF.2 _ (mw_key (k := 0) (X := [(x, .inr (6, [.ref c0, .int (iI hd), .ref c2, .ref c3, .ref c4, .ref c5, .ref c6, .ref c7, .ref c8, .ref c9, .ref c10, .ref c11, .int (iI ll), .int (iI ln)]))]) rfl)) (mw_get (X := [(x, .inr (6, [.ref c0, .int (iI hd), .ref c2, .ref c3, .ref c4, .ref c5, .ref c6, .ref c7, .ref c8, .ref c9, .ref c10, .ref c11, .int (iI ll), .int (iI ln)]))]) hF.1 (k := 0) rfl) rfl, B.pre _⟩ rfl rfl hl.1 rfl (lv_room (Nat.le_of_ble_eq_true rfl)) d_RR_degree_2 ⟨by rw [hRc]; omega, by rw [hRs]; omega⟩) (fun r2 g2 H locs hw B => ?_)
  obtain ⟨rfl, rfl⟩ := hw
  have B : Wb D vwCl (TY cs) L (mw f [(x, .inr (6, [.ref c0, .int (iI hd), .ref c2, .ref c3, .ref c4, .ref c5, .ref c6, .ref c7, .ref c8, .ref c9, .ref c10, .ref c11, .int (iI ll), .int (iI ln)]))]) (AL L s.heap.size) s H _ := B
  refine x_if_eq (tgt := 13) hx hb d_RR_degree_5 (by decide) (by omega) (fun h5 => ?_) (fun h5 => ?_)
  · exfalso; omega
  · refine x_bipush hx hb d_RR_degree_8 (by decide) ?_
    refine lv_goto (tgt := 25) hx hb d_RR_degree_10 (by decide) ?_
    have B := B.of_eq hmw
    subst hQ hav
    exact x_iret hx hb hr hlocks B d_RR_degree_25 (⟨rfl, rfl⟩)
theorem d_RR_roots_0 : decode prog_1_method_7_code 0 = .ok (.aload_n 0, 1) := by decide +kernel
theorem d_RR_roots_1 : decode prog_1_method_7_code 1 = .ok (.iload_n 1, 1) := by decide +kernel
theorem d_RR_roots_2 : decode prog_1_method_7_code 2 = .ok (.invokevirtual 78, 3) := by decide +kernel
theorem d_RR_roots_5 : decode prog_1_method_7_code 5 = .ok (.ifCond .eq 5, 3) := by decide +kernel
theorem d_RR_roots_8 : decode prog_1_method_7_code 8 = .ok (.iconst (-1), 1) := by decide +kernel
theorem d_RR_roots_9 : decode prog_1_method_7_code 9 = .ok (.ireturn, 1) := by decide +kernel
theorem d_RR_roots_10 : decode prog_1_method_7_code 10 = .ok (.aload_n 0, 1) := by decide +kernel
theorem d_RR_roots_11 : decode prog_1_method_7_code 11 = .ok (.iload_n 1, 1) := by decide +kernel
theorem d_RR_roots_12 : decode prog_1_method_7_code 12 = .ok (.invokevirtual 100, 3) := by decide +kernel
theorem d_RR_roots_15 : decode prog_1_method_7_code 15 = .ok (.istore_n 2, 1) := by decide +kernel
theorem d_RR_roots_16 : decode prog_1_method_7_code 16 = .ok (.iload_n 2, 1) := by decide +kernel
theorem d_RR_roots_17 : decode prog_1_method_7_code 17 = .ok (.iconst (-1), 1) := by decide +kernel
theorem d_RR_roots_18 : decode prog_1_method_7_code 18 = .ok (.if_icmp .ne 8, 3) := by decide +kernel
theorem d_RR_roots_21 : decode prog_1_method_7_code 21 = .ok (.bipush (-3), 2) := by decide +kernel
theorem d_RR_roots_23 : decode prog_1_method_7_code 23 = .ok (.goto 4, 3) := by decide +kernel
theorem d_RR_roots_26 : decode prog_1_method_7_code 26 = .ok (.iload_n 2, 1) := by decide +kernel
theorem d_RR_roots_27 : decode prog_1_method_7_code 27 = .ok (.ireturn, 1) := by decide +kernel
set_option maxHeartbeats 8000000 in
set_option maxRecDepth 100000 in
theorem c_RR_roots_u (l : Launch) (D : va_G) (cs : Nat → ClassId) (L : List Nat) (f : Nat → va_E) (sz : Nat) (x c0 c2 c3 c4 c5 c6 c7 c8 c9 c10 c11 : Nat) (hd ll ln : Int) (a1 : Int) (hF : Fc L [x]) (ha : f x = .inr (6, [.ref c0, .int (iI hd), .ref c2, .ref c3, .ref c4, .ref c5, .ref c6, .ref c7, .ref c8, .ref c9, .ref c10, .ref c11, .int (iI ll), .int (iI ln)])) (hhd : 0 ≤ hd ∧ hd ≤ 12) (ha1 : -2147483648 ≤ a1 ∧ a1 < 2147483648) (hun : a1 < 0 ∨ hd ≤ a1) : Met l (⟨"RealRoots", "roots", "(I)I"⟩ : MethodName) (.code (⟨"RealRoots", "roots", "(I)I"⟩ : MethodName) prog_1_method_7_code 3 (Option.some Jvm.ClassFile.FieldType.int) :: gw) ({ frames := 1, cells := 0, slots := 0, locals := 22 }) (va_Pc [.ref x, .int (iI a1)] (K0 D vwCl (TY cs) L f sz)) (va_Qi (fun (r : Int32) (g : Nat → va_E) => r = iI (-1) ∧ g = f) (K1 D vwCl (TY cs) (AL L sz) L) (AL L sz)) 0 0 (AL L sz) := by
  refine Met.ofW (cc := prog_1_method_7_code) (maxL := 3) (ret := (Option.some Jvm.ClassFile.FieldType.int)) (by decide) rfl ?_
  intro p e s m args below meth c s₁ Bd hml hv
  obtain ⟨rfl, hk0⟩ := hv
  obtain ⟨hsz, B⟩ := hk0.start
  subst hsz
  have hx := Bd.exec
  have hb := Bd.bytes
  have hr := Bd.returns
  have hlocks := Bd.notSynchronized
  have hts0 := atoms_spec Bd.pre
  have hown : s.vm.findClass RX6 = some m.cls := findClass_of_methodNamed Bd.named
  have hA : ∀ q, s.heap.size ≤ q → AL L s.heap.size q := fun _ h => Or.inr h
  have hl := lv_entry ([.ref x, .int (iI a1)]) (n := 3) (Nat.le_of_ble_eq_true rfl)
  rw [lg_entry_eq]
  generalize (lg_sl ([.ref x, .int (iI a1)]) ++ List.replicate (3 - (lg_sl ([.ref x, .int (iI a1)])).length) Slot.unset).toArray = ls at hl ⊢
  refine absQ (fun Q R av hQ hR hav => ?_)
  have hts : ∀ w ∈ gw, w.before av s = true := by rw [hav]; exact fun w h => hts0 w (List.mem_cons_of_mem _ h)
  have hRf : R.frames = 1 := by rw [hR]; rfl
  have hRl : R.locals = 22 := by rw [hR]; rfl
  have hRc : R.cells = 0 := by rw [hR]; rfl
  have hRs : R.slots = 0 := by rw [hR]; rfl
  clear hR hts0 Bd
  have hl : lv_has ls 3 [(0, .ref x), (1, .int (iI a1))] := hl
  have hfx : ∀ q ∈ ([(x, .inr (6, [.ref c0, .int (iI hd), .ref c2, .ref c3, .ref c4, .ref c5, .ref c6, .ref c7, .ref c8, .ref c9, .ref c10, .ref c11, .int (iI ll), .int (iI ln)]))] : List (Nat × va_E)), f q.1 = q.2 := fun q hq => by
    simp only [List.mem_cons, List.not_mem_nil, or_false] at hq
    rcases hq with rfl
    · exact ha
  have hmw : mw f [(x, .inr (6, [.ref c0, .int (iI hd), .ref c2, .ref c3, .ref c4, .ref c5, .ref c6, .ref c7, .ref c8, .ref c9, .ref c10, .ref c11, .int (iI ll), .int (iI ln)]))] = f := mw_self (fun k a e hk => hfx (a, e) (List.mem_of_getElem? hk))
  have B := B.focus [(x, .inr (6, [.ref c0, .int (iI hd), .ref c2, .ref c3, .ref c4, .ref c5, .ref c6, .ref c7, .ref c8, .ref c9, .ref c10, .ref c11, .int (iI ll), .int (iI ln)]))] hfx
  refine lv_aload_n hx hb d_RR_roots_0 rfl (lv_at hl 0 rfl) ?_
  refine lv_iload_n hx hb d_RR_roots_1 rfl (lv_at hl 1 rfl) ?_
  refine x_calli B hA (va_runV (As := [.int (iI a1)]) (rest := []) ⟨hx, hb, hml, hown, hts⟩ (c_RR_unknown_t l D cs _ _ _ x c0 c2 c3 c4 c5 c6 c7 c8 c9 c10 c11 hd ll ln a1 hF (mw_get (X := [(x, .inr (6, [.ref c0, .int (iI hd), .ref c2, .ref c3, .ref c4, .ref c5, .ref c6, .ref c7, .ref c8, .ref c9, .ref c10, .ref c11, .int (iI ll), .int (iI ln)]))]) hF.1 (k := 0) rfl) hhd (by omega) (by omega)) (cwV 1 hts (gw_V w_261 w_263 s_3 w_1 w_264) rfl rfl rfl (by decide +kernel) ⟨by rw [hRf]; exact Nat.le_of_ble_eq_true rfl, by rw [hRl]; exact Nat.le_of_ble_eq_true rfl⟩) ⟨K0.blind, B.recv (hF.2 _ (mw_key (k := 0) (X := [(x, .inr (6, [.ref c0, .int (iI hd), .ref c2, .ref c3, .ref c4, .ref c5, .ref c6, .ref c7, .ref c8, .ref c9, .ref c10, .ref c11, .int (iI ll), .int (iI ln)]))]) rfl)) (mw_get (X := [(x, .inr (6, [.ref c0, .int (iI hd), .ref c2, .ref c3, .ref c4, .ref c5, .ref c6, .ref c7, .ref c8, .ref c9, .ref c10, .ref c11, .int (iI ll), .int (iI ln)]))]) hF.1 (k := 0) rfl) rfl, B.pre _⟩ rfl rfl hl.1 rfl (lv_room (Nat.le_of_ble_eq_true rfl)) d_RR_roots_2 ⟨by rw [hRc]; omega, by rw [hRs]; omega⟩) (fun r2 g2 H locs hw B => ?_)
  obtain ⟨rfl, rfl⟩ := hw
  have B : Wb D vwCl (TY cs) L (mw f [(x, .inr (6, [.ref c0, .int (iI hd), .ref c2, .ref c3, .ref c4, .ref c5, .ref c6, .ref c7, .ref c8, .ref c9, .ref c10, .ref c11, .int (iI ll), .int (iI ln)]))]) (AL L s.heap.size) s H _ := B
  refine x_if_eq (tgt := 10) hx hb d_RR_roots_5 (by decide) (by omega) (fun h5 => ?_) (fun h5 => ?_)
  · exfalso; omega
  · refine x_iconst hx hb d_RR_roots_8 ?_
    have B := B.of_eq hmw
    subst hQ hav
    exact x_iret hx hb hr hlocks B d_RR_roots_9 (⟨rfl, rfl⟩)
