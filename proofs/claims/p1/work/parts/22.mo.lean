theorem d_Mo_at_0 : decode prog_9_method_67_code 0 = .ok (.aload_n 0, 1) := by decide +kernel
theorem d_Mo_at_1 : decode prog_9_method_67_code 1 = .ok (.iconst 0, 1) := by decide +kernel
theorem d_Mo_at_2 : decode prog_9_method_67_code 2 = .ok (.putfield 51, 3) := by decide +kernel
theorem d_Mo_at_5 : decode prog_9_method_67_code 5 = .ok (.aload_n 0, 1) := by decide +kernel
theorem d_Mo_at_6 : decode prog_9_method_67_code 6 = .ok (.iload_n 1, 1) := by decide +kernel
theorem d_Mo_at_7 : decode prog_9_method_67_code 7 = .ok (.invokevirtual 115, 3) := by decide +kernel
theorem d_Mo_at_10 : decode prog_9_method_67_code 10 = .ok (.ifCond .ne 6, 3) := by decide +kernel
theorem d_Mo_at_13 : decode prog_9_method_67_code 13 = .ok (.bipush (-9), 2) := by decide +kernel
theorem d_Mo_at_15 : decode prog_9_method_67_code 15 = .ok (.ireturn, 1) := by decide +kernel
theorem d_Mo_at_16 : decode prog_9_method_67_code 16 = .ok (.iload_n 2, 1) := by decide +kernel
theorem d_Mo_at_17 : decode prog_9_method_67_code 17 = .ok (.iload_n 3, 1) := by decide +kernel
theorem d_Mo_at_18 : decode prog_9_method_67_code 18 = .ok (.invokestatic 250, 3) := by decide +kernel
theorem d_Mo_at_21 : decode prog_9_method_67_code 21 = .ok (.ifCond .ne 6, 3) := by decide +kernel
theorem d_Mo_at_24 : decode prog_9_method_67_code 24 = .ok (.bipush (-8), 2) := by decide +kernel
theorem d_Mo_at_26 : decode prog_9_method_67_code 26 = .ok (.ireturn, 1) := by decide +kernel
theorem d_Mo_at_27 : decode prog_9_method_67_code 27 = .ok (.aload_n 0, 1) := by decide +kernel
theorem d_Mo_at_28 : decode prog_9_method_67_code 28 = .ok (.aload_n 0, 1) := by decide +kernel
theorem d_Mo_at_29 : decode prog_9_method_67_code 29 = .ok (.getfield 39, 3) := by decide +kernel
theorem d_Mo_at_32 : decode prog_9_method_67_code 32 = .ok (.iload_n 1, 1) := by decide +kernel
theorem d_Mo_at_33 : decode prog_9_method_67_code 33 = .ok (.invokevirtual 166, 3) := by decide +kernel
theorem d_Mo_at_36 : decode prog_9_method_67_code 36 = .ok (.aload_n 0, 1) := by decide +kernel
theorem d_Mo_at_37 : decode prog_9_method_67_code 37 = .ok (.bipush 108, 2) := by decide +kernel
theorem d_Mo_at_39 : decode prog_9_method_67_code 39 = .ok (.aload_n 0, 1) := by decide +kernel
theorem d_Mo_at_40 : decode prog_9_method_67_code 40 = .ok (.getfield 39, 3) := by decide +kernel
theorem d_Mo_at_43 : decode prog_9_method_67_code 43 = .ok (.invokevirtual 132, 3) := by decide +kernel
theorem d_Mo_at_46 : decode prog_9_method_67_code 46 = .ok (.aload_n 0, 1) := by decide +kernel
theorem d_Mo_at_47 : decode prog_9_method_67_code 47 = .ok (.sipush 150, 3) := by decide +kernel
theorem d_Mo_at_50 : decode prog_9_method_67_code 50 = .ok (.iload_n 2, 1) := by decide +kernel
theorem d_Mo_at_51 : decode prog_9_method_67_code 51 = .ok (.i2l, 1) := by decide +kernel
theorem d_Mo_at_52 : decode prog_9_method_67_code 52 = .ok (.invokevirtual 77, 3) := by decide +kernel
theorem d_Mo_at_55 : decode prog_9_method_67_code 55 = .ok (.aload_n 0, 1) := by decide +kernel
theorem d_Mo_at_56 : decode prog_9_method_67_code 56 = .ok (.sipush 151, 3) := by decide +kernel
theorem d_Mo_at_59 : decode prog_9_method_67_code 59 = .ok (.iload_n 3, 1) := by decide +kernel
theorem d_Mo_at_60 : decode prog_9_method_67_code 60 = .ok (.i2l, 1) := by decide +kernel
theorem d_Mo_at_61 : decode prog_9_method_67_code 61 = .ok (.invokevirtual 77, 3) := by decide +kernel
theorem d_Mo_at_64 : decode prog_9_method_67_code 64 = .ok (.aload_n 0, 1) := by decide +kernel
theorem d_Mo_at_65 : decode prog_9_method_67_code 65 = .ok (.bipush 108, 2) := by decide +kernel
theorem d_Mo_at_67 : decode prog_9_method_67_code 67 = .ok (.invokevirtual 180, 3) := by decide +kernel
theorem d_Mo_at_70 : decode prog_9_method_67_code 70 = .ok (.ireturn, 1) := by decide +kernel
set_option maxHeartbeats 8000000 in
set_option maxRecDepth 100000 in
theorem c_Mo_at_u (l : Launch) (D : va_G) (cs : Nat → ClassId) (L : List Nat) (f : Nat → va_E) (sz : Nat) (y m1 m2 m3 m5 m6 m7 m8 m9 m10 m11 m12 m13 m15 : Nat) (th pn rw_ fu fb : Int) (a1 a2 a3 : Int) (hF : Fc L [y]) (ha : f y = .inr (7, [.int (iI th), .ref m1, .ref m2, .ref m3, .int (iI pn), .ref m5, .ref m6, .ref m7, .ref m8, .ref m9, .ref m10, .ref m11, .ref m12, .ref m13, .int (iI rw_), .ref m15, .long (lI fu), .long (lI fb)])) (hpn : 0 ≤ pn ∧ pn ≤ 12) (ha1 : -2147483648 ≤ a1 ∧ a1 < 2147483648) (ha2 : -2147483648 ≤ a2 ∧ a2 < 2147483648) (ha3 : -2147483648 ≤ a3 ∧ a3 < 2147483648) (hun : a1 < 0 ∨ pn ≤ a1) : Met l (⟨"RealRootsModel", "at", "(III)I"⟩ : MethodName) (.code (⟨"RealRootsModel", "at", "(III)I"⟩ : MethodName) prog_9_method_67_code 4 (Option.some Jvm.ClassFile.FieldType.int) :: gw) ({ frames := 2, cells := 0, slots := 0, locals := 55 }) (va_Pc [.ref y, .int (iI a1), .int (iI a2), .int (iI a3)] (K0 D vwCl (TY cs) L f sz)) (va_Qi (fun (r : Int32) (g : Nat → va_E) => r = iI (-9) ∧ g = mw f [(y, .inr (7, [.int (iI 0), .ref m1, .ref m2, .ref m3, .int (iI pn), .ref m5, .ref m6, .ref m7, .ref m8, .ref m9, .ref m10, .ref m11, .ref m12, .ref m13, .int (iI rw_), .ref m15, .long (lI fu), .long (lI fb)]))]) (K1 D vwCl (TY cs) (AL L sz) L) (AL L sz)) 0 0 (AL L sz) := by
  refine Met.ofW (cc := prog_9_method_67_code) (maxL := 4) (ret := (Option.some Jvm.ClassFile.FieldType.int)) (by decide) rfl ?_
  intro p e s m args below meth c s₁ Bd hml hv
  obtain ⟨rfl, hk0⟩ := hv
  obtain ⟨hsz, B⟩ := hk0.start
  subst hsz
  have hx := Bd.exec
  have hb := Bd.bytes
  have hr := Bd.returns
  have hlocks := Bd.notSynchronized
  have hts0 := atoms_spec Bd.pre
  have hown : s.vm.findClass RX7 = some m.cls := findClass_of_methodNamed Bd.named
  have hA : ∀ q, s.heap.size ≤ q → AL L s.heap.size q := fun _ h => Or.inr h
  have hl := lv_entry ([.ref y, .int (iI a1), .int (iI a2), .int (iI a3)]) (n := 4) (Nat.le_of_ble_eq_true rfl)
  rw [lg_entry_eq]
  generalize (lg_sl ([.ref y, .int (iI a1), .int (iI a2), .int (iI a3)]) ++ List.replicate (4 - (lg_sl ([.ref y, .int (iI a1), .int (iI a2), .int (iI a3)])).length) Slot.unset).toArray = ls at hl ⊢
  refine absQ (fun Q R av hQ hR hav => ?_)
  have hts : ∀ w ∈ gw, w.before av s = true := by rw [hav]; exact fun w h => hts0 w (List.mem_cons_of_mem _ h)
  have hRf : R.frames = 2 := by rw [hR]; rfl
  have hRl : R.locals = 55 := by rw [hR]; rfl
  have hRc : R.cells = 0 := by rw [hR]; rfl
  have hRs : R.slots = 0 := by rw [hR]; rfl
  clear hR hts0 Bd
  have hl : lv_has ls 4 [(0, .ref y), (1, .int (iI a1)), (2, .int (iI a2)), (3, .int (iI a3))] := hl
  have hfx : ∀ q ∈ ([(y, .inr (7, [.int (iI th), .ref m1, .ref m2, .ref m3, .int (iI pn), .ref m5, .ref m6, .ref m7, .ref m8, .ref m9, .ref m10, .ref m11, .ref m12, .ref m13, .int (iI rw_), .ref m15, .long (lI fu), .long (lI fb)]))] : List (Nat × va_E)), f q.1 = q.2 := fun q hq => by
    simp only [List.mem_cons, List.not_mem_nil, or_false] at hq
    rcases hq with rfl
    · exact ha
  have hmw : mw f [(y, .inr (7, [.int (iI th), .ref m1, .ref m2, .ref m3, .int (iI pn), .ref m5, .ref m6, .ref m7, .ref m8, .ref m9, .ref m10, .ref m11, .ref m12, .ref m13, .int (iI rw_), .ref m15, .long (lI fu), .long (lI fb)]))] = f := mw_self (fun k a e hk => hfx (a, e) (List.mem_of_getElem? hk))
  have B := B.focus [(y, .inr (7, [.int (iI th), .ref m1, .ref m2, .ref m3, .int (iI pn), .ref m5, .ref m6, .ref m7, .ref m8, .ref m9, .ref m10, .ref m11, .ref m12, .ref m13, .int (iI rw_), .ref m15, .long (lI fu), .long (lI fb)]))] hfx
  refine lv_aload_n hx hb d_Mo_at_0 rfl (lv_at hl 0 rfl) ?_
  refine x_iconst hx hb d_Mo_at_1 ?_
  refine x_put (C := RX7) (T := TX7) (N := 18) hx hb hts inX7 tyX7 tyX7_ok nmX7 hown B hF 0 rfl rfl 0 (by decide) (hts _ w_677) (fun _ h9 => h9) rfl (tyX7_ok 0 (by decide)) rfl rfl (Nat.le_of_ble_eq_true rfl) d_Mo_at_2 (fun H locs B => ?_)
  have B : Wb D vwCl (TY cs) L (mw f [(y, .inr (7, [.int (iI 0), .ref m1, .ref m2, .ref m3, .int (iI pn), .ref m5, .ref m6, .ref m7, .ref m8, .ref m9, .ref m10, .ref m11, .ref m12, .ref m13, .int (iI rw_), .ref m15, .long (lI fu), .long (lI fb)]))]) (AL L s.heap.size) s H _ := B
  refine lv_aload_n hx hb d_Mo_at_5 rfl (lv_at hl 0 rfl) ?_
  refine lv_iload_n hx hb d_Mo_at_6 rfl (lv_at hl 1 rfl) ?_
  refine x_calli B hA (va_runV (As := [.int (iI a1)]) (rest := []) ⟨hx, hb, hml, hown, hts⟩ (c_Mo_is_f l D cs _ _ _ y m1 m2 m3 m5 m6 m7 m8 m9 m10 m11 m12 m13 m15 0 pn rw_ fu fb a1 hF (mw_get (X := [(y, .inr (7, [.int (iI 0), .ref m1, .ref m2, .ref m3, .int (iI pn), .ref m5, .ref m6, .ref m7, .ref m8, .ref m9, .ref m10, .ref m11, .ref m12, .ref m13, .int (iI rw_), .ref m15, .long (lI fu), .long (lI fb)]))]) hF.1 (k := 0) rfl) hpn (by omega) (by omega)) (cwV 1 hts (gw_V w_745 w_747 s_29 w_8 w_748) rfl rfl rfl (by decide +kernel) ⟨by rw [hRf]; exact Nat.le_of_ble_eq_true rfl, by rw [hRl]; exact Nat.le_of_ble_eq_true rfl⟩) ⟨K0.blind, B.recv (hF.2 _ (mw_key (k := 0) (X := [(y, .inr (7, [.int (iI 0), .ref m1, .ref m2, .ref m3, .int (iI pn), .ref m5, .ref m6, .ref m7, .ref m8, .ref m9, .ref m10, .ref m11, .ref m12, .ref m13, .int (iI rw_), .ref m15, .long (lI fu), .long (lI fb)]))]) rfl)) (mw_get (X := [(y, .inr (7, [.int (iI 0), .ref m1, .ref m2, .ref m3, .int (iI pn), .ref m5, .ref m6, .ref m7, .ref m8, .ref m9, .ref m10, .ref m11, .ref m12, .ref m13, .int (iI rw_), .ref m15, .long (lI fu), .long (lI fb)]))]) hF.1 (k := 0) rfl) rfl, B.pre _⟩ rfl rfl hl.1 rfl (lv_room (Nat.le_of_ble_eq_true rfl)) d_Mo_at_7 ⟨by rw [hRc]; omega, by rw [hRs]; omega⟩) (fun r7 g7 H locs hw B => ?_)
  obtain ⟨rfl, rfl⟩ := hw
  have B : Wb D vwCl (TY cs) L (mw f [(y, .inr (7, [.int (iI 0), .ref m1, .ref m2, .ref m3, .int (iI pn), .ref m5, .ref m6, .ref m7, .ref m8, .ref m9, .ref m10, .ref m11, .ref m12, .ref m13, .int (iI rw_), .ref m15, .long (lI fu), .long (lI fb)]))]) (AL L s.heap.size) s H _ := B
  refine x_if_ne (tgt := 16) hx hb d_Mo_at_10 (by decide) (by omega) (fun h10 => ?_) (fun h10 => ?_)
  · exfalso; omega
  · refine x_bipush hx hb d_Mo_at_13 (by decide) ?_
    subst hQ hav
    exact x_iret hx hb hr hlocks B d_Mo_at_15 (⟨rfl, rfl⟩)
theorem d_Mo_bound_0 : decode prog_9_method_69_code 0 = .ok (.aload_n 0, 1) := by decide +kernel
theorem d_Mo_bound_1 : decode prog_9_method_69_code 1 = .ok (.iconst 0, 1) := by decide +kernel
theorem d_Mo_bound_2 : decode prog_9_method_69_code 2 = .ok (.putfield 51, 3) := by decide +kernel
theorem d_Mo_bound_5 : decode prog_9_method_69_code 5 = .ok (.aload_n 0, 1) := by decide +kernel
theorem d_Mo_bound_6 : decode prog_9_method_69_code 6 = .ok (.iload_n 1, 1) := by decide +kernel
theorem d_Mo_bound_7 : decode prog_9_method_69_code 7 = .ok (.invokevirtual 115, 3) := by decide +kernel
theorem d_Mo_bound_10 : decode prog_9_method_69_code 10 = .ok (.ifCond .ne 5, 3) := by decide +kernel
theorem d_Mo_bound_13 : decode prog_9_method_69_code 13 = .ok (.iconst (-1), 1) := by decide +kernel
theorem d_Mo_bound_14 : decode prog_9_method_69_code 14 = .ok (.ireturn, 1) := by decide +kernel
theorem d_Mo_bound_15 : decode prog_9_method_69_code 15 = .ok (.aload_n 0, 1) := by decide +kernel
theorem d_Mo_bound_16 : decode prog_9_method_69_code 16 = .ok (.iload_n 1, 1) := by decide +kernel
theorem d_Mo_bound_17 : decode prog_9_method_69_code 17 = .ok (.invokevirtual 125, 3) := by decide +kernel
theorem d_Mo_bound_20 : decode prog_9_method_69_code 20 = .ok (.ifCond .ge 6, 3) := by decide +kernel
theorem d_Mo_bound_23 : decode prog_9_method_69_code 23 = .ok (.bipush (-3), 2) := by decide +kernel
theorem d_Mo_bound_25 : decode prog_9_method_69_code 25 = .ok (.ireturn, 1) := by decide +kernel
theorem d_Mo_bound_26 : decode prog_9_method_69_code 26 = .ok (.aload_n 0, 1) := by decide +kernel
theorem d_Mo_bound_27 : decode prog_9_method_69_code 27 = .ok (.iload_n 1, 1) := by decide +kernel
theorem d_Mo_bound_28 : decode prog_9_method_69_code 28 = .ok (.invokevirtual 207, 3) := by decide +kernel
theorem d_Mo_bound_31 : decode prog_9_method_69_code 31 = .ok (.iconst 0, 1) := by decide +kernel
theorem d_Mo_bound_32 : decode prog_9_method_69_code 32 = .ok (.istore_n 2, 1) := by decide +kernel
theorem d_Mo_bound_33 : decode prog_9_method_69_code 33 = .ok (.iconst 0, 1) := by decide +kernel
theorem d_Mo_bound_34 : decode prog_9_method_69_code 34 = .ok (.istore_n 3, 1) := by decide +kernel
theorem d_Mo_bound_35 : decode prog_9_method_69_code 35 = .ok (.iload_n 3, 1) := by decide +kernel
theorem d_Mo_bound_36 : decode prog_9_method_69_code 36 = .ok (.aload_n 0, 1) := by decide +kernel
theorem d_Mo_bound_37 : decode prog_9_method_69_code 37 = .ok (.getfield 42, 3) := by decide +kernel
theorem d_Mo_bound_40 : decode prog_9_method_69_code 40 = .ok (.iload_n 1, 1) := by decide +kernel
theorem d_Mo_bound_41 : decode prog_9_method_69_code 41 = .ok (.iaload, 1) := by decide +kernel
theorem d_Mo_bound_42 : decode prog_9_method_69_code 42 = .ok (.if_icmp .ge 78, 3) := by decide +kernel
theorem d_Mo_bound_45 : decode prog_9_method_69_code 45 = .ok (.aload_n 0, 1) := by decide +kernel
theorem d_Mo_bound_46 : decode prog_9_method_69_code 46 = .ok (.iconst 5, 1) := by decide +kernel
theorem d_Mo_bound_47 : decode prog_9_method_69_code 47 = .ok (.iload_n 1, 1) := by decide +kernel
theorem d_Mo_bound_48 : decode prog_9_method_69_code 48 = .ok (.imul, 1) := by decide +kernel
theorem d_Mo_bound_49 : decode prog_9_method_69_code 49 = .ok (.iload_n 3, 1) := by decide +kernel
theorem d_Mo_bound_50 : decode prog_9_method_69_code 50 = .ok (.iadd, 1) := by decide +kernel
theorem d_Mo_bound_51 : decode prog_9_method_69_code 51 = .ok (.sipush 256, 3) := by decide +kernel
theorem d_Mo_bound_54 : decode prog_9_method_69_code 54 = .ok (.invokevirtual 222, 3) := by decide +kernel
theorem d_Mo_bound_57 : decode prog_9_method_69_code 57 = .ok (.l2i, 1) := by decide +kernel
theorem d_Mo_bound_58 : decode prog_9_method_69_code 58 = .ok (.istore 4, 2) := by decide +kernel
theorem d_Mo_bound_60 : decode prog_9_method_69_code 60 = .ok (.aload_n 0, 1) := by decide +kernel
theorem d_Mo_bound_61 : decode prog_9_method_69_code 61 = .ok (.iconst 5, 1) := by decide +kernel
theorem d_Mo_bound_62 : decode prog_9_method_69_code 62 = .ok (.iload_n 1, 1) := by decide +kernel
theorem d_Mo_bound_63 : decode prog_9_method_69_code 63 = .ok (.imul, 1) := by decide +kernel
theorem d_Mo_bound_64 : decode prog_9_method_69_code 64 = .ok (.iload_n 3, 1) := by decide +kernel
theorem d_Mo_bound_65 : decode prog_9_method_69_code 65 = .ok (.iadd, 1) := by decide +kernel
theorem d_Mo_bound_66 : decode prog_9_method_69_code 66 = .ok (.iload 4, 2) := by decide +kernel
theorem d_Mo_bound_68 : decode prog_9_method_69_code 68 = .ok (.iconst 1, 1) := by decide +kernel
theorem d_Mo_bound_69 : decode prog_9_method_69_code 69 = .ok (.invokevirtual 253, 3) := by decide +kernel
theorem d_Mo_bound_72 : decode prog_9_method_69_code 72 = .ok (.ifCond .ne 8, 3) := by decide +kernel
theorem d_Mo_bound_75 : decode prog_9_method_69_code 75 = .ok (.iload 4, 2) := by decide +kernel
theorem d_Mo_bound_77 : decode prog_9_method_69_code 77 = .ok (.goto 7, 3) := by decide +kernel
theorem d_Mo_bound_80 : decode prog_9_method_69_code 80 = .ok (.iload 4, 2) := by decide +kernel
theorem d_Mo_bound_82 : decode prog_9_method_69_code 82 = .ok (.iconst 1, 1) := by decide +kernel
theorem d_Mo_bound_83 : decode prog_9_method_69_code 83 = .ok (.iadd, 1) := by decide +kernel
theorem d_Mo_bound_84 : decode prog_9_method_69_code 84 = .ok (.istore 5, 2) := by decide +kernel
theorem d_Mo_bound_86 : decode prog_9_method_69_code 86 = .ok (.iload 4, 2) := by decide +kernel
theorem d_Mo_bound_88 : decode prog_9_method_69_code 88 = .ok (.ineg, 1) := by decide +kernel
theorem d_Mo_bound_89 : decode prog_9_method_69_code 89 = .ok (.iload_n 2, 1) := by decide +kernel
theorem d_Mo_bound_90 : decode prog_9_method_69_code 90 = .ok (.if_icmp .le 9, 3) := by decide +kernel
theorem d_Mo_bound_93 : decode prog_9_method_69_code 93 = .ok (.iload 4, 2) := by decide +kernel
theorem d_Mo_bound_95 : decode prog_9_method_69_code 95 = .ok (.ineg, 1) := by decide +kernel
theorem d_Mo_bound_96 : decode prog_9_method_69_code 96 = .ok (.goto 4, 3) := by decide +kernel
theorem d_Mo_bound_99 : decode prog_9_method_69_code 99 = .ok (.iload_n 2, 1) := by decide +kernel
theorem d_Mo_bound_100 : decode prog_9_method_69_code 100 = .ok (.istore_n 2, 1) := by decide +kernel
theorem d_Mo_bound_101 : decode prog_9_method_69_code 101 = .ok (.iload 5, 2) := by decide +kernel
theorem d_Mo_bound_103 : decode prog_9_method_69_code 103 = .ok (.iload_n 2, 1) := by decide +kernel
theorem d_Mo_bound_104 : decode prog_9_method_69_code 104 = .ok (.if_icmp .le 8, 3) := by decide +kernel
theorem d_Mo_bound_107 : decode prog_9_method_69_code 107 = .ok (.iload 5, 2) := by decide +kernel
theorem d_Mo_bound_109 : decode prog_9_method_69_code 109 = .ok (.goto 4, 3) := by decide +kernel
theorem d_Mo_bound_112 : decode prog_9_method_69_code 112 = .ok (.iload_n 2, 1) := by decide +kernel
theorem d_Mo_bound_113 : decode prog_9_method_69_code 113 = .ok (.istore_n 2, 1) := by decide +kernel
theorem d_Mo_bound_114 : decode prog_9_method_69_code 114 = .ok (.iinc 3 1, 3) := by decide +kernel
theorem d_Mo_bound_117 : decode prog_9_method_69_code 117 = .ok (.goto (-82), 3) := by decide +kernel
theorem d_Mo_bound_120 : decode prog_9_method_69_code 120 = .ok (.iload_n 2, 1) := by decide +kernel
theorem d_Mo_bound_121 : decode prog_9_method_69_code 121 = .ok (.ireturn, 1) := by decide +kernel
set_option maxHeartbeats 8000000 in
set_option maxRecDepth 100000 in
theorem c_Mo_bound_u (l : Launch) (D : va_G) (cs : Nat → ClassId) (L : List Nat) (f : Nat → va_E) (sz : Nat) (y m1 m2 m3 m5 m6 m7 m8 m9 m10 m11 m12 m13 m15 : Nat) (th pn rw_ fu fb : Int) (a1 : Int) (hF : Fc L [y]) (ha : f y = .inr (7, [.int (iI th), .ref m1, .ref m2, .ref m3, .int (iI pn), .ref m5, .ref m6, .ref m7, .ref m8, .ref m9, .ref m10, .ref m11, .ref m12, .ref m13, .int (iI rw_), .ref m15, .long (lI fu), .long (lI fb)])) (hpn : 0 ≤ pn ∧ pn ≤ 12) (ha1 : -2147483648 ≤ a1 ∧ a1 < 2147483648) (hun : a1 < 0 ∨ pn ≤ a1) : Met l (⟨"RealRootsModel", "bound", "(I)I"⟩ : MethodName) (.code (⟨"RealRootsModel", "bound", "(I)I"⟩ : MethodName) prog_9_method_69_code 6 (Option.some Jvm.ClassFile.FieldType.int) :: gw) ({ frames := 2, cells := 0, slots := 0, locals := 55 }) (va_Pc [.ref y, .int (iI a1)] (K0 D vwCl (TY cs) L f sz)) (va_Qi (fun (r : Int32) (g : Nat → va_E) => r = iI (-1) ∧ g = mw f [(y, .inr (7, [.int (iI 0), .ref m1, .ref m2, .ref m3, .int (iI pn), .ref m5, .ref m6, .ref m7, .ref m8, .ref m9, .ref m10, .ref m11, .ref m12, .ref m13, .int (iI rw_), .ref m15, .long (lI fu), .long (lI fb)]))]) (K1 D vwCl (TY cs) (AL L sz) L) (AL L sz)) 0 0 (AL L sz) := by
  refine Met.ofW (cc := prog_9_method_69_code) (maxL := 6) (ret := (Option.some Jvm.ClassFile.FieldType.int)) (by decide) rfl ?_
  intro p e s m args below meth c s₁ Bd hml hv
  obtain ⟨rfl, hk0⟩ := hv
  obtain ⟨hsz, B⟩ := hk0.start
  subst hsz
  have hx := Bd.exec
  have hb := Bd.bytes
  have hr := Bd.returns
  have hlocks := Bd.notSynchronized
  have hts0 := atoms_spec Bd.pre
  have hown : s.vm.findClass RX7 = some m.cls := findClass_of_methodNamed Bd.named
  have hA : ∀ q, s.heap.size ≤ q → AL L s.heap.size q := fun _ h => Or.inr h
  have hl := lv_entry ([.ref y, .int (iI a1)]) (n := 6) (Nat.le_of_ble_eq_true rfl)
  rw [lg_entry_eq]
  generalize (lg_sl ([.ref y, .int (iI a1)]) ++ List.replicate (6 - (lg_sl ([.ref y, .int (iI a1)])).length) Slot.unset).toArray = ls at hl ⊢
  refine absQ (fun Q R av hQ hR hav => ?_)
  have hts : ∀ w ∈ gw, w.before av s = true := by rw [hav]; exact fun w h => hts0 w (List.mem_cons_of_mem _ h)
  have hRf : R.frames = 2 := by rw [hR]; rfl
  have hRl : R.locals = 55 := by rw [hR]; rfl
  have hRc : R.cells = 0 := by rw [hR]; rfl
  have hRs : R.slots = 0 := by rw [hR]; rfl
  clear hR hts0 Bd
  have hl : lv_has ls 6 [(0, .ref y), (1, .int (iI a1))] := hl
  have hfx : ∀ q ∈ ([(y, .inr (7, [.int (iI th), .ref m1, .ref m2, .ref m3, .int (iI pn), .ref m5, .ref m6, .ref m7, .ref m8, .ref m9, .ref m10, .ref m11, .ref m12, .ref m13, .int (iI rw_), .ref m15, .long (lI fu), .long (lI fb)]))] : List (Nat × va_E)), f q.1 = q.2 := fun q hq => by
    simp only [List.mem_cons, List.not_mem_nil, or_false] at hq
    rcases hq with rfl
    · exact ha
  have hmw : mw f [(y, .inr (7, [.int (iI th), .ref m1, .ref m2, .ref m3, .int (iI pn), .ref m5, .ref m6, .ref m7, .ref m8, .ref m9, .ref m10, .ref m11, .ref m12, .ref m13, .int (iI rw_), .ref m15, .long (lI fu), .long (lI fb)]))] = f := mw_self (fun k a e hk => hfx (a, e) (List.mem_of_getElem? hk))
  have B := B.focus [(y, .inr (7, [.int (iI th), .ref m1, .ref m2, .ref m3, .int (iI pn), .ref m5, .ref m6, .ref m7, .ref m8, .ref m9, .ref m10, .ref m11, .ref m12, .ref m13, .int (iI rw_), .ref m15, .long (lI fu), .long (lI fb)]))] hfx
  refine lv_aload_n hx hb d_Mo_bound_0 rfl (lv_at hl 0 rfl) ?_
  refine x_iconst hx hb d_Mo_bound_1 ?_
  refine x_put (C := RX7) (T := TX7) (N := 18) hx hb hts inX7 tyX7 tyX7_ok nmX7 hown B hF 0 rfl rfl 0 (by decide) (hts _ w_677) (fun _ h9 => h9) rfl (tyX7_ok 0 (by decide)) rfl rfl (Nat.le_of_ble_eq_true rfl) d_Mo_bound_2 (fun H locs B => ?_)
  have B : Wb D vwCl (TY cs) L (mw f [(y, .inr (7, [.int (iI 0), .ref m1, .ref m2, .ref m3, .int (iI pn), .ref m5, .ref m6, .ref m7, .ref m8, .ref m9, .ref m10, .ref m11, .ref m12, .ref m13, .int (iI rw_), .ref m15, .long (lI fu), .long (lI fb)]))]) (AL L s.heap.size) s H _ := B
  refine lv_aload_n hx hb d_Mo_bound_5 rfl (lv_at hl 0 rfl) ?_
  refine lv_iload_n hx hb d_Mo_bound_6 rfl (lv_at hl 1 rfl) ?_
  refine x_calli B hA (va_runV (As := [.int (iI a1)]) (rest := []) ⟨hx, hb, hml, hown, hts⟩ (c_Mo_is_f l D cs _ _ _ y m1 m2 m3 m5 m6 m7 m8 m9 m10 m11 m12 m13 m15 0 pn rw_ fu fb a1 hF (mw_get (X := [(y, .inr (7, [.int (iI 0), .ref m1, .ref m2, .ref m3, .int (iI pn), .ref m5, .ref m6, .ref m7, .ref m8, .ref m9, .ref m10, .ref m11, .ref m12, .ref m13, .int (iI rw_), .ref m15, .long (lI fu), .long (lI fb)]))]) hF.1 (k := 0) rfl) hpn (by omega) (by omega)) (cwV 1 hts (gw_V w_745 w_747 s_29 w_8 w_748) rfl rfl rfl (by decide +kernel) ⟨by rw [hRf]; exact Nat.le_of_ble_eq_true rfl, by rw [hRl]; exact Nat.le_of_ble_eq_true rfl⟩) ⟨K0.blind, B.recv (hF.2 _ (mw_key (k := 0) (X := [(y, .inr (7, [.int (iI 0), .ref m1, .ref m2, .ref m3, .int (iI pn), .ref m5, .ref m6, .ref m7, .ref m8, .ref m9, .ref m10, .ref m11, .ref m12, .ref m13, .int (iI rw_), .ref m15, .long (lI fu), .long (lI fb)]))]) rfl)) (mw_get (X := [(y, .inr (7, [.int (iI 0), .ref m1, .ref m2, .ref m3, .int (iI pn), .ref m5, .ref m6, .ref m7, .ref m8, .ref m9, .ref m10, .ref m11, .ref m12, .ref m13, .int (iI rw_), .ref m15, .long (lI fu), .long (lI fb)]))]) hF.1 (k := 0) rfl) rfl, B.pre _⟩ rfl rfl hl.1 rfl (lv_room (Nat.le_of_ble_eq_true rfl)) d_Mo_bound_7 ⟨by rw [hRc]; omega, by rw [hRs]; omega⟩) (fun r7 g7 H locs hw B => ?_)
  obtain ⟨rfl, rfl⟩ := hw
  have B : Wb D vwCl (TY cs) L (mw f [(y, .inr (7, [.int (iI 0), .ref m1, .ref m2, .ref m3, .int (iI pn), .ref m5, .ref m6, .ref m7, .ref m8, .ref m9, .ref m10, .ref m11, .ref m12, .ref m13, .int (iI rw_), .ref m15, .long (lI fu), .long (lI fb)]))]) (AL L s.heap.size) s H _ := B
  refine x_if_ne (tgt := 15) hx hb d_Mo_bound_10 (by decide) (by omega) (fun h10 => ?_) (fun h10 => ?_)
  · exfalso; omega
  · refine x_iconst hx hb d_Mo_bound_13 ?_
    subst hQ hav
    exact x_iret hx hb hr hlocks B d_Mo_bound_14 (⟨rfl, rfl⟩)
theorem d_Mo_sign_0 : decode prog_9_method_56_code 0 = .ok (.aload_n 0, 1) := by decide +kernel
theorem d_Mo_sign_1 : decode prog_9_method_56_code 1 = .ok (.iconst 0, 1) := by decide +kernel
theorem d_Mo_sign_2 : decode prog_9_method_56_code 2 = .ok (.putfield 51, 3) := by decide +kernel
theorem d_Mo_sign_5 : decode prog_9_method_56_code 5 = .ok (.aload_n 0, 1) := by decide +kernel
theorem d_Mo_sign_6 : decode prog_9_method_56_code 6 = .ok (.iload_n 1, 1) := by decide +kernel
theorem d_Mo_sign_7 : decode prog_9_method_56_code 7 = .ok (.invokevirtual 115, 3) := by decide +kernel
theorem d_Mo_sign_10 : decode prog_9_method_56_code 10 = .ok (.ifCond .eq 12, 3) := by decide +kernel
theorem d_Mo_sign_13 : decode prog_9_method_56_code 13 = .ok (.aload_n 0, 1) := by decide +kernel
theorem d_Mo_sign_14 : decode prog_9_method_56_code 14 = .ok (.iload_n 2, 1) := by decide +kernel
theorem d_Mo_sign_15 : decode prog_9_method_56_code 15 = .ok (.iload_n 3, 1) := by decide +kernel
theorem d_Mo_sign_16 : decode prog_9_method_56_code 16 = .ok (.invokevirtual 210, 3) := by decide +kernel
theorem d_Mo_sign_19 : decode prog_9_method_56_code 19 = .ok (.ifCond .ne 6, 3) := by decide +kernel
theorem d_Mo_sign_22 : decode prog_9_method_56_code 22 = .ok (.bipush (-9), 2) := by decide +kernel
theorem d_Mo_sign_24 : decode prog_9_method_56_code 24 = .ok (.ireturn, 1) := by decide +kernel
theorem d_Mo_sign_25 : decode prog_9_method_56_code 25 = .ok (.aload_n 0, 1) := by decide +kernel
theorem d_Mo_sign_26 : decode prog_9_method_56_code 26 = .ok (.iload_n 1, 1) := by decide +kernel
theorem d_Mo_sign_27 : decode prog_9_method_56_code 27 = .ok (.invokevirtual 125, 3) := by decide +kernel
theorem d_Mo_sign_30 : decode prog_9_method_56_code 30 = .ok (.ifCond .ge 5, 3) := by decide +kernel
theorem d_Mo_sign_33 : decode prog_9_method_56_code 33 = .ok (.iconst 0, 1) := by decide +kernel
theorem d_Mo_sign_34 : decode prog_9_method_56_code 34 = .ok (.ireturn, 1) := by decide +kernel
theorem d_Mo_sign_35 : decode prog_9_method_56_code 35 = .ok (.aload_n 0, 1) := by decide +kernel
theorem d_Mo_sign_36 : decode prog_9_method_56_code 36 = .ok (.iload_n 1, 1) := by decide +kernel
theorem d_Mo_sign_37 : decode prog_9_method_56_code 37 = .ok (.invokevirtual 207, 3) := by decide +kernel
theorem d_Mo_sign_40 : decode prog_9_method_56_code 40 = .ok (.iconst 0, 1) := by decide +kernel
theorem d_Mo_sign_41 : decode prog_9_method_56_code 41 = .ok (.istore 4, 2) := by decide +kernel
theorem d_Mo_sign_43 : decode prog_9_method_56_code 43 = .ok (.iload 4, 2) := by decide +kernel
theorem d_Mo_sign_45 : decode prog_9_method_56_code 45 = .ok (.bipush 6, 2) := by decide +kernel
theorem d_Mo_sign_47 : decode prog_9_method_56_code 47 = .ok (.if_icmp .ge 28, 3) := by decide +kernel
theorem d_Mo_sign_50 : decode prog_9_method_56_code 50 = .ok (.aload_n 0, 1) := by decide +kernel
theorem d_Mo_sign_51 : decode prog_9_method_56_code 51 = .ok (.getfield 39, 3) := by decide +kernel
theorem d_Mo_sign_54 : decode prog_9_method_56_code 54 = .ok (.iload 4, 2) := by decide +kernel
theorem d_Mo_sign_56 : decode prog_9_method_56_code 56 = .ok (.aload_n 0, 1) := by decide +kernel
theorem d_Mo_sign_57 : decode prog_9_method_56_code 57 = .ok (.getfield 45, 3) := by decide +kernel
theorem d_Mo_sign_60 : decode prog_9_method_56_code 60 = .ok (.bipush 6, 2) := by decide +kernel
theorem d_Mo_sign_62 : decode prog_9_method_56_code 62 = .ok (.iload_n 1, 1) := by decide +kernel
theorem d_Mo_sign_63 : decode prog_9_method_56_code 63 = .ok (.imul, 1) := by decide +kernel
theorem d_Mo_sign_64 : decode prog_9_method_56_code 64 = .ok (.iload 4, 2) := by decide +kernel
theorem d_Mo_sign_66 : decode prog_9_method_56_code 66 = .ok (.iadd, 1) := by decide +kernel
theorem d_Mo_sign_67 : decode prog_9_method_56_code 67 = .ok (.laload, 1) := by decide +kernel
theorem d_Mo_sign_68 : decode prog_9_method_56_code 68 = .ok (.lastore, 1) := by decide +kernel
theorem d_Mo_sign_69 : decode prog_9_method_56_code 69 = .ok (.iinc 4 1, 3) := by decide +kernel
theorem d_Mo_sign_72 : decode prog_9_method_56_code 72 = .ok (.goto (-29), 3) := by decide +kernel
theorem d_Mo_sign_75 : decode prog_9_method_56_code 75 = .ok (.aload_n 0, 1) := by decide +kernel
theorem d_Mo_sign_76 : decode prog_9_method_56_code 76 = .ok (.aload_n 0, 1) := by decide +kernel
theorem d_Mo_sign_77 : decode prog_9_method_56_code 77 = .ok (.getfield 39, 3) := by decide +kernel
theorem d_Mo_sign_80 : decode prog_9_method_56_code 80 = .ok (.iconst 5, 1) := by decide +kernel
theorem d_Mo_sign_81 : decode prog_9_method_56_code 81 = .ok (.iload_n 2, 1) := by decide +kernel
theorem d_Mo_sign_82 : decode prog_9_method_56_code 82 = .ok (.imul, 1) := by decide +kernel
theorem d_Mo_sign_83 : decode prog_9_method_56_code 83 = .ok (.iload_n 3, 1) := by decide +kernel
theorem d_Mo_sign_84 : decode prog_9_method_56_code 84 = .ok (.iadd, 1) := by decide +kernel
theorem d_Mo_sign_85 : decode prog_9_method_56_code 85 = .ok (.invokevirtual 214, 3) := by decide +kernel
theorem d_Mo_sign_88 : decode prog_9_method_56_code 88 = .ok (.ifCond .eq 5, 3) := by decide +kernel
theorem d_Mo_sign_91 : decode prog_9_method_56_code 91 = .ok (.iconst 0, 1) := by decide +kernel
theorem d_Mo_sign_92 : decode prog_9_method_56_code 92 = .ok (.ireturn, 1) := by decide +kernel
theorem d_Mo_sign_93 : decode prog_9_method_56_code 93 = .ok (.aload_n 0, 1) := by decide +kernel
theorem d_Mo_sign_94 : decode prog_9_method_56_code 94 = .ok (.aload_n 0, 1) := by decide +kernel
theorem d_Mo_sign_95 : decode prog_9_method_56_code 95 = .ok (.getfield 39, 3) := by decide +kernel
theorem d_Mo_sign_98 : decode prog_9_method_56_code 98 = .ok (.iload_n 1, 1) := by decide +kernel
theorem d_Mo_sign_99 : decode prog_9_method_56_code 99 = .ok (.invokevirtual 166, 3) := by decide +kernel
theorem d_Mo_sign_102 : decode prog_9_method_56_code 102 = .ok (.aload_n 0, 1) := by decide +kernel
theorem d_Mo_sign_103 : decode prog_9_method_56_code 103 = .ok (.bipush 108, 2) := by decide +kernel
theorem d_Mo_sign_105 : decode prog_9_method_56_code 105 = .ok (.aload_n 0, 1) := by decide +kernel
theorem d_Mo_sign_106 : decode prog_9_method_56_code 106 = .ok (.getfield 39, 3) := by decide +kernel
theorem d_Mo_sign_109 : decode prog_9_method_56_code 109 = .ok (.invokevirtual 132, 3) := by decide +kernel
theorem d_Mo_sign_112 : decode prog_9_method_56_code 112 = .ok (.aload_n 0, 1) := by decide +kernel
theorem d_Mo_sign_113 : decode prog_9_method_56_code 113 = .ok (.bipush 108, 2) := by decide +kernel
theorem d_Mo_sign_115 : decode prog_9_method_56_code 115 = .ok (.iconst 5, 1) := by decide +kernel
theorem d_Mo_sign_116 : decode prog_9_method_56_code 116 = .ok (.iload_n 2, 1) := by decide +kernel
theorem d_Mo_sign_117 : decode prog_9_method_56_code 117 = .ok (.imul, 1) := by decide +kernel
theorem d_Mo_sign_118 : decode prog_9_method_56_code 118 = .ok (.iload_n 3, 1) := by decide +kernel
theorem d_Mo_sign_119 : decode prog_9_method_56_code 119 = .ok (.iadd, 1) := by decide +kernel
theorem d_Mo_sign_120 : decode prog_9_method_56_code 120 = .ok (.sipush 256, 3) := by decide +kernel
theorem d_Mo_sign_123 : decode prog_9_method_56_code 123 = .ok (.invokevirtual 204, 3) := by decide +kernel
theorem d_Mo_sign_126 : decode prog_9_method_56_code 126 = .ok (.ireturn, 1) := by decide +kernel
set_option maxHeartbeats 8000000 in
set_option maxRecDepth 100000 in
theorem c_Mo_sign_u (l : Launch) (D : va_G) (cs : Nat → ClassId) (L : List Nat) (f : Nat → va_E) (sz : Nat) (y m1 m2 m3 m5 m6 m7 m8 m9 m10 m11 m12 m13 m15 : Nat) (th pn rw_ fu fb : Int) (a1 a2 a3 : Int) (hF : Fc L [y]) (ha : f y = .inr (7, [.int (iI th), .ref m1, .ref m2, .ref m3, .int (iI pn), .ref m5, .ref m6, .ref m7, .ref m8, .ref m9, .ref m10, .ref m11, .ref m12, .ref m13, .int (iI rw_), .ref m15, .long (lI fu), .long (lI fb)])) (hpn : 0 ≤ pn ∧ pn ≤ 12) (ha1 : -2147483648 ≤ a1 ∧ a1 < 2147483648) (ha2 : -2147483648 ≤ a2 ∧ a2 < 2147483648) (ha3 : -2147483648 ≤ a3 ∧ a3 < 2147483648) (hun : a1 < 0 ∨ pn ≤ a1) : Met l (⟨"RealRootsModel", "sign", "(III)I"⟩ : MethodName) (.code (⟨"RealRootsModel", "sign", "(III)I"⟩ : MethodName) prog_9_method_56_code 5 (Option.some Jvm.ClassFile.FieldType.int) :: gw) ({ frames := 2, cells := 0, slots := 0, locals := 55 }) (va_Pc [.ref y, .int (iI a1), .int (iI a2), .int (iI a3)] (K0 D vwCl (TY cs) L f sz)) (va_Qi (fun (r : Int32) (g : Nat → va_E) => r = iI (-9) ∧ g = mw f [(y, .inr (7, [.int (iI 0), .ref m1, .ref m2, .ref m3, .int (iI pn), .ref m5, .ref m6, .ref m7, .ref m8, .ref m9, .ref m10, .ref m11, .ref m12, .ref m13, .int (iI rw_), .ref m15, .long (lI fu), .long (lI fb)]))]) (K1 D vwCl (TY cs) (AL L sz) L) (AL L sz)) 0 0 (AL L sz) := by
  refine Met.ofW (cc := prog_9_method_56_code) (maxL := 5) (ret := (Option.some Jvm.ClassFile.FieldType.int)) (by decide) rfl ?_
  intro p e s m args below meth c s₁ Bd hml hv
  obtain ⟨rfl, hk0⟩ := hv
  obtain ⟨hsz, B⟩ := hk0.start
  subst hsz
  have hx := Bd.exec
  have hb := Bd.bytes
  have hr := Bd.returns
  have hlocks := Bd.notSynchronized
  have hts0 := atoms_spec Bd.pre
  have hown : s.vm.findClass RX7 = some m.cls := findClass_of_methodNamed Bd.named
  have hA : ∀ q, s.heap.size ≤ q → AL L s.heap.size q := fun _ h => Or.inr h
  have hl := lv_entry ([.ref y, .int (iI a1), .int (iI a2), .int (iI a3)]) (n := 5) (Nat.le_of_ble_eq_true rfl)
  rw [lg_entry_eq]
  generalize (lg_sl ([.ref y, .int (iI a1), .int (iI a2), .int (iI a3)]) ++ List.replicate (5 - (lg_sl ([.ref y, .int (iI a1), .int (iI a2), .int (iI a3)])).length) Slot.unset).toArray = ls at hl ⊢
  refine absQ (fun Q R av hQ hR hav => ?_)
  have hts : ∀ w ∈ gw, w.before av s = true := by rw [hav]; exact fun w h => hts0 w (List.mem_cons_of_mem _ h)
  have hRf : R.frames = 2 := by rw [hR]; rfl
  have hRl : R.locals = 55 := by rw [hR]; rfl
  have hRc : R.cells = 0 := by rw [hR]; rfl
  have hRs : R.slots = 0 := by rw [hR]; rfl
  clear hR hts0 Bd
  have hl : lv_has ls 5 [(0, .ref y), (1, .int (iI a1)), (2, .int (iI a2)), (3, .int (iI a3))] := hl
  have hfx : ∀ q ∈ ([(y, .inr (7, [.int (iI th), .ref m1, .ref m2, .ref m3, .int (iI pn), .ref m5, .ref m6, .ref m7, .ref m8, .ref m9, .ref m10, .ref m11, .ref m12, .ref m13, .int (iI rw_), .ref m15, .long (lI fu), .long (lI fb)]))] : List (Nat × va_E)), f q.1 = q.2 := fun q hq => by
    simp only [List.mem_cons, List.not_mem_nil, or_false] at hq
    rcases hq with rfl
    · exact ha
  have hmw : mw f [(y, .inr (7, [.int (iI th), .ref m1, .ref m2, .ref m3, .int (iI pn), .ref m5, .ref m6, .ref m7, .ref m8, .ref m9, .ref m10, .ref m11, .ref m12, .ref m13, .int (iI rw_), .ref m15, .long (lI fu), .long (lI fb)]))] = f := mw_self (fun k a e hk => hfx (a, e) (List.mem_of_getElem? hk))
  have B := B.focus [(y, .inr (7, [.int (iI th), .ref m1, .ref m2, .ref m3, .int (iI pn), .ref m5, .ref m6, .ref m7, .ref m8, .ref m9, .ref m10, .ref m11, .ref m12, .ref m13, .int (iI rw_), .ref m15, .long (lI fu), .long (lI fb)]))] hfx
  refine lv_aload_n hx hb d_Mo_sign_0 rfl (lv_at hl 0 rfl) ?_
  refine x_iconst hx hb d_Mo_sign_1 ?_
  refine x_put (C := RX7) (T := TX7) (N := 18) hx hb hts inX7 tyX7 tyX7_ok nmX7 hown B hF 0 rfl rfl 0 (by decide) (hts _ w_677) (fun _ h9 => h9) rfl (tyX7_ok 0 (by decide)) rfl rfl (Nat.le_of_ble_eq_true rfl) d_Mo_sign_2 (fun H locs B => ?_)
  have B : Wb D vwCl (TY cs) L (mw f [(y, .inr (7, [.int (iI 0), .ref m1, .ref m2, .ref m3, .int (iI pn), .ref m5, .ref m6, .ref m7, .ref m8, .ref m9, .ref m10, .ref m11, .ref m12, .ref m13, .int (iI rw_), .ref m15, .long (lI fu), .long (lI fb)]))]) (AL L s.heap.size) s H _ := B
  refine lv_aload_n hx hb d_Mo_sign_5 rfl (lv_at hl 0 rfl) ?_
  refine lv_iload_n hx hb d_Mo_sign_6 rfl (lv_at hl 1 rfl) ?_
  refine x_calli B hA (va_runV (As := [.int (iI a1)]) (rest := []) ⟨hx, hb, hml, hown, hts⟩ (c_Mo_is_f l D cs _ _ _ y m1 m2 m3 m5 m6 m7 m8 m9 m10 m11 m12 m13 m15 0 pn rw_ fu fb a1 hF (mw_get (X := [(y, .inr (7, [.int (iI 0), .ref m1, .ref m2, .ref m3, .int (iI pn), .ref m5, .ref m6, .ref m7, .ref m8, .ref m9, .ref m10, .ref m11, .ref m12, .ref m13, .int (iI rw_), .ref m15, .long (lI fu), .long (lI fb)]))]) hF.1 (k := 0) rfl) hpn (by omega) (by omega)) (cwV 1 hts (gw_V w_745 w_747 s_29 w_8 w_748) rfl rfl rfl (by decide +kernel) ⟨by rw [hRf]; exact Nat.le_of_ble_eq_true rfl, by rw [hRl]; exact Nat.le_of_ble_eq_true rfl⟩) ⟨K0.blind, B.recv (hF.2 _ (mw_key (k := 0) (X := [(y, .inr (7, [.int (iI 0), .ref m1, .ref m2, .ref m3, .int (iI pn), .ref m5, .ref m6, .ref m7, .ref m8, .ref m9, .ref m10, .ref m11, .ref m12, .ref m13, .int (iI rw_), .ref m15, .long (lI fu), .long (lI fb)]))]) rfl)) (mw_get (X := [(y, .inr (7, [.int (iI 0), .ref m1, .ref m2, .ref m3, .int (iI pn), .ref m5, .ref m6, .ref m7, .ref m8, .ref m9, .ref m10, .ref m11, .ref m12, .ref m13, .int (iI rw_), .ref m15, .long (lI fu), .long (lI fb)]))]) hF.1 (k := 0) rfl) rfl, B.pre _⟩ rfl rfl hl.1 rfl (lv_room (Nat.le_of_ble_eq_true rfl)) d_Mo_sign_7 ⟨by rw [hRc]; omega, by rw [hRs]; omega⟩) (fun r7 g7 H locs hw B => ?_)
  obtain ⟨rfl, rfl⟩ := hw
  have B : Wb D vwCl (TY cs) L (mw f [(y, .inr (7, [.int (iI 0), .ref m1, .ref m2, .ref m3, .int (iI pn), .ref m5, .ref m6, .ref m7, .ref m8, .ref m9, .ref m10, .ref m11, .ref m12, .ref m13, .int (iI rw_), .ref m15, .long (lI fu), .long (lI fb)]))]) (AL L s.heap.size) s H _ := B
  refine x_if_eq (tgt := 22) hx hb d_Mo_sign_10 (by decide) (by omega) (fun h10 => ?_) (fun h10 => ?_)
  · refine x_bipush hx hb d_Mo_sign_22 (by decide) ?_
    subst hQ hav
    exact x_iret hx hb hr hlocks B d_Mo_sign_24 (⟨rfl, rfl⟩)
  · exfalso; omega
theorem d_Mo_newton_0 : decode prog_9_method_68_code 0 = .ok (.aload_n 0, 1) := by decide +kernel
theorem d_Mo_newton_1 : decode prog_9_method_68_code 1 = .ok (.iconst 0, 1) := by decide +kernel
theorem d_Mo_newton_2 : decode prog_9_method_68_code 2 = .ok (.putfield 51, 3) := by decide +kernel
theorem d_Mo_newton_5 : decode prog_9_method_68_code 5 = .ok (.aload_n 0, 1) := by decide +kernel
theorem d_Mo_newton_6 : decode prog_9_method_68_code 6 = .ok (.iload_n 1, 1) := by decide +kernel
theorem d_Mo_newton_7 : decode prog_9_method_68_code 7 = .ok (.invokevirtual 115, 3) := by decide +kernel
theorem d_Mo_newton_10 : decode prog_9_method_68_code 10 = .ok (.ifCond .ne 7, 3) := by decide +kernel
theorem d_Mo_newton_13 : decode prog_9_method_68_code 13 = .ok (.ldc2_w 218, 3) := by decide +kernel
theorem d_Mo_newton_16 : decode prog_9_method_68_code 16 = .ok (.lreturn, 1) := by decide +kernel
theorem d_Mo_newton_17 : decode prog_9_method_68_code 17 = .ok (.iload_n 2, 1) := by decide +kernel
theorem d_Mo_newton_18 : decode prog_9_method_68_code 18 = .ok (.iload_n 3, 1) := by decide +kernel
theorem d_Mo_newton_19 : decode prog_9_method_68_code 19 = .ok (.invokestatic 250, 3) := by decide +kernel
theorem d_Mo_newton_22 : decode prog_9_method_68_code 22 = .ok (.ifCond .eq 14, 3) := by decide +kernel
theorem d_Mo_newton_25 : decode prog_9_method_68_code 25 = .ok (.iload 4, 2) := by decide +kernel
theorem d_Mo_newton_27 : decode prog_9_method_68_code 27 = .ok (.i2l, 1) := by decide +kernel
theorem d_Mo_newton_28 : decode prog_9_method_68_code 28 = .ok (.lconst 0, 1) := by decide +kernel
theorem d_Mo_newton_29 : decode prog_9_method_68_code 29 = .ok (.lconst 1, 1) := by decide +kernel
theorem d_Mo_newton_30 : decode prog_9_method_68_code 30 = .ok (.invokestatic 111, 3) := by decide +kernel
theorem d_Mo_newton_33 : decode prog_9_method_68_code 33 = .ok (.ifCond .ne 7, 3) := by decide +kernel
theorem d_Mo_newton_36 : decode prog_9_method_68_code 36 = .ok (.ldc2_w 225, 3) := by decide +kernel
theorem d_Mo_newton_39 : decode prog_9_method_68_code 39 = .ok (.lreturn, 1) := by decide +kernel
theorem d_Mo_newton_40 : decode prog_9_method_68_code 40 = .ok (.aload_n 0, 1) := by decide +kernel
theorem d_Mo_newton_41 : decode prog_9_method_68_code 41 = .ok (.sipush 150, 3) := by decide +kernel
theorem d_Mo_newton_44 : decode prog_9_method_68_code 44 = .ok (.iload_n 2, 1) := by decide +kernel
theorem d_Mo_newton_45 : decode prog_9_method_68_code 45 = .ok (.i2l, 1) := by decide +kernel
theorem d_Mo_newton_46 : decode prog_9_method_68_code 46 = .ok (.invokevirtual 77, 3) := by decide +kernel
theorem d_Mo_newton_49 : decode prog_9_method_68_code 49 = .ok (.aload_n 0, 1) := by decide +kernel
theorem d_Mo_newton_50 : decode prog_9_method_68_code 50 = .ok (.sipush 151, 3) := by decide +kernel
theorem d_Mo_newton_53 : decode prog_9_method_68_code 53 = .ok (.iload_n 3, 1) := by decide +kernel
theorem d_Mo_newton_54 : decode prog_9_method_68_code 54 = .ok (.i2l, 1) := by decide +kernel
theorem d_Mo_newton_55 : decode prog_9_method_68_code 55 = .ok (.invokevirtual 77, 3) := by decide +kernel
theorem d_Mo_newton_58 : decode prog_9_method_68_code 58 = .ok (.aload_n 0, 1) := by decide +kernel
theorem d_Mo_newton_59 : decode prog_9_method_68_code 59 = .ok (.aload_n 0, 1) := by decide +kernel
theorem d_Mo_newton_60 : decode prog_9_method_68_code 60 = .ok (.getfield 39, 3) := by decide +kernel
theorem d_Mo_newton_63 : decode prog_9_method_68_code 63 = .ok (.iload_n 1, 1) := by decide +kernel
theorem d_Mo_newton_64 : decode prog_9_method_68_code 64 = .ok (.invokevirtual 166, 3) := by decide +kernel
theorem d_Mo_newton_67 : decode prog_9_method_68_code 67 = .ok (.aload_n 0, 1) := by decide +kernel
theorem d_Mo_newton_68 : decode prog_9_method_68_code 68 = .ok (.getfield 39, 3) := by decide +kernel
theorem d_Mo_newton_71 : decode prog_9_method_68_code 71 = .ok (.invokestatic 146, 3) := by decide +kernel
theorem d_Mo_newton_74 : decode prog_9_method_68_code 74 = .ok (.aload_n 0, 1) := by decide +kernel
theorem d_Mo_newton_75 : decode prog_9_method_68_code 75 = .ok (.bipush 114, 2) := by decide +kernel
theorem d_Mo_newton_77 : decode prog_9_method_68_code 77 = .ok (.aload_n 0, 1) := by decide +kernel
theorem d_Mo_newton_78 : decode prog_9_method_68_code 78 = .ok (.getfield 39, 3) := by decide +kernel
theorem d_Mo_newton_81 : decode prog_9_method_68_code 81 = .ok (.invokevirtual 132, 3) := by decide +kernel
theorem d_Mo_newton_84 : decode prog_9_method_68_code 84 = .ok (.aload_n 0, 1) := by decide +kernel
theorem d_Mo_newton_85 : decode prog_9_method_68_code 85 = .ok (.iload_n 1, 1) := by decide +kernel
theorem d_Mo_newton_86 : decode prog_9_method_68_code 86 = .ok (.invokevirtual 125, 3) := by decide +kernel
theorem d_Mo_newton_89 : decode prog_9_method_68_code 89 = .ok (.istore 5, 2) := by decide +kernel
theorem d_Mo_newton_91 : decode prog_9_method_68_code 91 = .ok (.iload 5, 2) := by decide +kernel
theorem d_Mo_newton_93 : decode prog_9_method_68_code 93 = .ok (.iconst 1, 1) := by decide +kernel
theorem d_Mo_newton_94 : decode prog_9_method_68_code 94 = .ok (.if_icmp .lt 12, 3) := by decide +kernel
theorem d_Mo_newton_97 : decode prog_9_method_68_code 97 = .ok (.aload_n 0, 1) := by decide +kernel
theorem d_Mo_newton_98 : decode prog_9_method_68_code 98 = .ok (.bipush 114, 2) := by decide +kernel
theorem d_Mo_newton_100 : decode prog_9_method_68_code 100 = .ok (.invokevirtual 180, 3) := by decide +kernel
theorem d_Mo_newton_103 : decode prog_9_method_68_code 103 = .ok (.ifCond .ne 10, 3) := by decide +kernel
theorem d_Mo_newton_106 : decode prog_9_method_68_code 106 = .ok (.aload_n 0, 1) := by decide +kernel
theorem d_Mo_newton_107 : decode prog_9_method_68_code 107 = .ok (.iconst 1, 1) := by decide +kernel
theorem d_Mo_newton_108 : decode prog_9_method_68_code 108 = .ok (.putfield 51, 3) := by decide +kernel
theorem d_Mo_newton_111 : decode prog_9_method_68_code 111 = .ok (.lconst 0, 1) := by decide +kernel
theorem d_Mo_newton_112 : decode prog_9_method_68_code 112 = .ok (.lreturn, 1) := by decide +kernel
theorem d_Mo_newton_113 : decode prog_9_method_68_code 113 = .ok (.aload_n 0, 1) := by decide +kernel
theorem d_Mo_newton_114 : decode prog_9_method_68_code 114 = .ok (.sipush 160, 3) := by decide +kernel
theorem d_Mo_newton_117 : decode prog_9_method_68_code 117 = .ok (.sipush 152, 3) := by decide +kernel
theorem d_Mo_newton_120 : decode prog_9_method_68_code 120 = .ok (.invokevirtual 65, 3) := by decide +kernel
theorem d_Mo_newton_123 : decode prog_9_method_68_code 123 = .ok (.aload_n 0, 1) := by decide +kernel
theorem d_Mo_newton_124 : decode prog_9_method_68_code 124 = .ok (.aload_n 0, 1) := by decide +kernel
theorem d_Mo_newton_125 : decode prog_9_method_68_code 125 = .ok (.getfield 39, 3) := by decide +kernel
theorem d_Mo_newton_128 : decode prog_9_method_68_code 128 = .ok (.iload_n 1, 1) := by decide +kernel
theorem d_Mo_newton_129 : decode prog_9_method_68_code 129 = .ok (.invokevirtual 166, 3) := by decide +kernel
theorem d_Mo_newton_132 : decode prog_9_method_68_code 132 = .ok (.aload_n 0, 1) := by decide +kernel
theorem d_Mo_newton_133 : decode prog_9_method_68_code 133 = .ok (.bipush 108, 2) := by decide +kernel
theorem d_Mo_newton_135 : decode prog_9_method_68_code 135 = .ok (.aload_n 0, 1) := by decide +kernel
theorem d_Mo_newton_136 : decode prog_9_method_68_code 136 = .ok (.getfield 39, 3) := by decide +kernel
theorem d_Mo_newton_139 : decode prog_9_method_68_code 139 = .ok (.invokevirtual 132, 3) := by decide +kernel
theorem d_Mo_newton_142 : decode prog_9_method_68_code 142 = .ok (.aload_n 0, 1) := by decide +kernel
theorem d_Mo_newton_143 : decode prog_9_method_68_code 143 = .ok (.bipush 108, 2) := by decide +kernel
theorem d_Mo_newton_145 : decode prog_9_method_68_code 145 = .ok (.invokevirtual 180, 3) := by decide +kernel
theorem d_Mo_newton_148 : decode prog_9_method_68_code 148 = .ok (.istore 6, 2) := by decide +kernel
theorem d_Mo_newton_150 : decode prog_9_method_68_code 150 = .ok (.aload_n 0, 1) := by decide +kernel
theorem d_Mo_newton_151 : decode prog_9_method_68_code 151 = .ok (.sipush 161, 3) := by decide +kernel
theorem d_Mo_newton_154 : decode prog_9_method_68_code 154 = .ok (.sipush 152, 3) := by decide +kernel
theorem d_Mo_newton_157 : decode prog_9_method_68_code 157 = .ok (.invokevirtual 65, 3) := by decide +kernel
theorem d_Mo_newton_160 : decode prog_9_method_68_code 160 = .ok (.aload_n 0, 1) := by decide +kernel
theorem d_Mo_newton_161 : decode prog_9_method_68_code 161 = .ok (.sipush 162, 3) := by decide +kernel
theorem d_Mo_newton_164 : decode prog_9_method_68_code 164 = .ok (.sipush 150, 3) := by decide +kernel
theorem d_Mo_newton_167 : decode prog_9_method_68_code 167 = .ok (.sipush 160, 3) := by decide +kernel
theorem d_Mo_newton_170 : decode prog_9_method_68_code 170 = .ok (.invokevirtual 102, 3) := by decide +kernel
theorem d_Mo_newton_173 : decode prog_9_method_68_code 173 = .ok (.aload_n 0, 1) := by decide +kernel
theorem d_Mo_newton_174 : decode prog_9_method_68_code 174 = .ok (.sipush 162, 3) := by decide +kernel
theorem d_Mo_newton_177 : decode prog_9_method_68_code 177 = .ok (.sipush 162, 3) := by decide +kernel
theorem d_Mo_newton_180 : decode prog_9_method_68_code 180 = .ok (.sipush 161, 3) := by decide +kernel
theorem d_Mo_newton_183 : decode prog_9_method_68_code 183 = .ok (.iconst (-1), 1) := by decide +kernel
theorem d_Mo_newton_184 : decode prog_9_method_68_code 184 = .ok (.invokevirtual 88, 3) := by decide +kernel
theorem d_Mo_newton_187 : decode prog_9_method_68_code 187 = .ok (.aload_n 0, 1) := by decide +kernel
theorem d_Mo_newton_188 : decode prog_9_method_68_code 188 = .ok (.sipush 163, 3) := by decide +kernel
theorem d_Mo_newton_191 : decode prog_9_method_68_code 191 = .ok (.sipush 151, 3) := by decide +kernel
theorem d_Mo_newton_194 : decode prog_9_method_68_code 194 = .ok (.sipush 160, 3) := by decide +kernel
theorem d_Mo_newton_197 : decode prog_9_method_68_code 197 = .ok (.invokevirtual 102, 3) := by decide +kernel
theorem d_Mo_newton_200 : decode prog_9_method_68_code 200 = .ok (.aload_n 0, 1) := by decide +kernel
theorem d_Mo_newton_201 : decode prog_9_method_68_code 201 = .ok (.getfield 16, 3) := by decide +kernel
theorem d_Mo_newton_204 : decode prog_9_method_68_code 204 = .ok (.sipush 163, 3) := by decide +kernel
theorem d_Mo_newton_207 : decode prog_9_method_68_code 207 = .ok (.iaload, 1) := by decide +kernel
theorem d_Mo_newton_208 : decode prog_9_method_68_code 208 = .ok (.aload_n 0, 1) := by decide +kernel
theorem d_Mo_newton_209 : decode prog_9_method_68_code 209 = .ok (.getfield 16, 3) := by decide +kernel
theorem d_Mo_newton_212 : decode prog_9_method_68_code 212 = .ok (.sipush 162, 3) := by decide +kernel
theorem d_Mo_newton_215 : decode prog_9_method_68_code 215 = .ok (.iaload, 1) := by decide +kernel
theorem d_Mo_newton_216 : decode prog_9_method_68_code 216 = .ok (.ifCond .ne 7, 3) := by decide +kernel
theorem d_Mo_newton_219 : decode prog_9_method_68_code 219 = .ok (.iconst 1, 1) := by decide +kernel
theorem d_Mo_newton_220 : decode prog_9_method_68_code 220 = .ok (.goto 11, 3) := by decide +kernel
theorem d_Mo_newton_223 : decode prog_9_method_68_code 223 = .ok (.aload_n 0, 1) := by decide +kernel
theorem d_Mo_newton_224 : decode prog_9_method_68_code 224 = .ok (.getfield 16, 3) := by decide +kernel
theorem d_Mo_newton_227 : decode prog_9_method_68_code 227 = .ok (.sipush 162, 3) := by decide +kernel
theorem d_Mo_newton_230 : decode prog_9_method_68_code 230 = .ok (.iaload, 1) := by decide +kernel
theorem d_Mo_newton_231 : decode prog_9_method_68_code 231 = .ok (.imul, 1) := by decide +kernel
theorem d_Mo_newton_232 : decode prog_9_method_68_code 232 = .ok (.istore 7, 2) := by decide +kernel
theorem d_Mo_newton_234 : decode prog_9_method_68_code 234 = .ok (.aload_n 0, 1) := by decide +kernel
theorem d_Mo_newton_235 : decode prog_9_method_68_code 235 = .ok (.sipush 164, 3) := by decide +kernel
theorem d_Mo_newton_238 : decode prog_9_method_68_code 238 = .ok (.sipush 162, 3) := by decide +kernel
theorem d_Mo_newton_241 : decode prog_9_method_68_code 241 = .ok (.invokevirtual 65, 3) := by decide +kernel
theorem d_Mo_newton_244 : decode prog_9_method_68_code 244 = .ok (.aload_n 0, 1) := by decide +kernel
theorem d_Mo_newton_245 : decode prog_9_method_68_code 245 = .ok (.sipush 165, 3) := by decide +kernel
theorem d_Mo_newton_248 : decode prog_9_method_68_code 248 = .ok (.sipush 163, 3) := by decide +kernel
theorem d_Mo_newton_251 : decode prog_9_method_68_code 251 = .ok (.invokevirtual 65, 3) := by decide +kernel
theorem d_Mo_newton_254 : decode prog_9_method_68_code 254 = .ok (.aload_n 0, 1) := by decide +kernel
theorem d_Mo_newton_255 : decode prog_9_method_68_code 255 = .ok (.getfield 16, 3) := by decide +kernel
theorem d_Mo_newton_258 : decode prog_9_method_68_code 258 = .ok (.sipush 164, 3) := by decide +kernel
theorem d_Mo_newton_261 : decode prog_9_method_68_code 261 = .ok (.iaload, 1) := by decide +kernel
theorem d_Mo_newton_262 : decode prog_9_method_68_code 262 = .ok (.ifCond .ne 14, 3) := by decide +kernel
theorem d_Mo_newton_265 : decode prog_9_method_68_code 265 = .ok (.iload 4, 2) := by decide +kernel
theorem d_Mo_newton_267 : decode prog_9_method_68_code 267 = .ok (.ifCond .ne 7, 3) := by decide +kernel
theorem d_Mo_newton_270 : decode prog_9_method_68_code 270 = .ok (.lconst 0, 1) := by decide +kernel
theorem d_Mo_newton_271 : decode prog_9_method_68_code 271 = .ok (.goto 4, 3) := by decide +kernel
theorem d_Mo_newton_274 : decode prog_9_method_68_code 274 = .ok (.lconst 1, 1) := by decide +kernel
theorem d_Mo_newton_275 : decode prog_9_method_68_code 275 = .ok (.lreturn, 1) := by decide +kernel
theorem d_Mo_newton_276 : decode prog_9_method_68_code 276 = .ok (.aload_n 0, 1) := by decide +kernel
theorem d_Mo_newton_277 : decode prog_9_method_68_code 277 = .ok (.sipush 164, 3) := by decide +kernel
theorem d_Mo_newton_280 : decode prog_9_method_68_code 280 = .ok (.sipush 165, 3) := by decide +kernel
theorem d_Mo_newton_283 : decode prog_9_method_68_code 283 = .ok (.invokevirtual 96, 3) := by decide +kernel
theorem d_Mo_newton_286 : decode prog_9_method_68_code 286 = .ok (.aload_n 0, 1) := by decide +kernel
theorem d_Mo_newton_287 : decode prog_9_method_68_code 287 = .ok (.sipush 166, 3) := by decide +kernel
theorem d_Mo_newton_290 : decode prog_9_method_68_code 290 = .ok (.sipush 162, 3) := by decide +kernel
theorem d_Mo_newton_293 : decode prog_9_method_68_code 293 = .ok (.sipush 164, 3) := by decide +kernel
theorem d_Mo_newton_296 : decode prog_9_method_68_code 296 = .ok (.invokevirtual 92, 3) := by decide +kernel
theorem d_Mo_newton_299 : decode prog_9_method_68_code 299 = .ok (.aload_n 0, 1) := by decide +kernel
theorem d_Mo_newton_300 : decode prog_9_method_68_code 300 = .ok (.sipush 167, 3) := by decide +kernel
theorem d_Mo_newton_303 : decode prog_9_method_68_code 303 = .ok (.sipush 163, 3) := by decide +kernel
theorem d_Mo_newton_306 : decode prog_9_method_68_code 306 = .ok (.sipush 164, 3) := by decide +kernel
theorem d_Mo_newton_309 : decode prog_9_method_68_code 309 = .ok (.invokevirtual 92, 3) := by decide +kernel
theorem d_Mo_newton_312 : decode prog_9_method_68_code 312 = .ok (.aload_n 0, 1) := by decide +kernel
theorem d_Mo_newton_313 : decode prog_9_method_68_code 313 = .ok (.sipush 168, 3) := by decide +kernel
theorem d_Mo_newton_316 : decode prog_9_method_68_code 316 = .ok (.ldc2_w 256, 3) := by decide +kernel
theorem d_Mo_newton_319 : decode prog_9_method_68_code 319 = .ok (.invokevirtual 77, 3) := by decide +kernel
theorem d_Mo_newton_322 : decode prog_9_method_68_code 322 = .ok (.aload_n 0, 1) := by decide +kernel
theorem d_Mo_newton_323 : decode prog_9_method_68_code 323 = .ok (.sipush 166, 3) := by decide +kernel
theorem d_Mo_newton_326 : decode prog_9_method_68_code 326 = .ok (.sipush 168, 3) := by decide +kernel
theorem d_Mo_newton_329 : decode prog_9_method_68_code 329 = .ok (.invokevirtual 61, 3) := by decide +kernel
theorem d_Mo_newton_332 : decode prog_9_method_68_code 332 = .ok (.ifCond .gt 16, 3) := by decide +kernel
theorem d_Mo_newton_335 : decode prog_9_method_68_code 335 = .ok (.aload_n 0, 1) := by decide +kernel
theorem d_Mo_newton_336 : decode prog_9_method_68_code 336 = .ok (.sipush 167, 3) := by decide +kernel
theorem d_Mo_newton_339 : decode prog_9_method_68_code 339 = .ok (.sipush 168, 3) := by decide +kernel
theorem d_Mo_newton_342 : decode prog_9_method_68_code 342 = .ok (.invokevirtual 61, 3) := by decide +kernel
theorem d_Mo_newton_345 : decode prog_9_method_68_code 345 = .ok (.ifCond .le 7, 3) := by decide +kernel
theorem d_Mo_newton_348 : decode prog_9_method_68_code 348 = .ok (.ldc2_w 258, 3) := by decide +kernel
theorem d_Mo_newton_351 : decode prog_9_method_68_code 351 = .ok (.lreturn, 1) := by decide +kernel
theorem d_Mo_newton_352 : decode prog_9_method_68_code 352 = .ok (.aload_n 0, 1) := by decide +kernel
theorem d_Mo_newton_353 : decode prog_9_method_68_code 353 = .ok (.getfield 16, 3) := by decide +kernel
theorem d_Mo_newton_356 : decode prog_9_method_68_code 356 = .ok (.sipush 166, 3) := by decide +kernel
theorem d_Mo_newton_359 : decode prog_9_method_68_code 359 = .ok (.iconst 1, 1) := by decide +kernel
theorem d_Mo_newton_360 : decode prog_9_method_68_code 360 = .ok (.iastore, 1) := by decide +kernel
theorem d_Mo_newton_361 : decode prog_9_method_68_code 361 = .ok (.aload_n 0, 1) := by decide +kernel
theorem d_Mo_newton_362 : decode prog_9_method_68_code 362 = .ok (.getfield 16, 3) := by decide +kernel
theorem d_Mo_newton_365 : decode prog_9_method_68_code 365 = .ok (.sipush 167, 3) := by decide +kernel
theorem d_Mo_newton_368 : decode prog_9_method_68_code 368 = .ok (.iconst 1, 1) := by decide +kernel
theorem d_Mo_newton_369 : decode prog_9_method_68_code 369 = .ok (.iastore, 1) := by decide +kernel
theorem d_Mo_newton_370 : decode prog_9_method_68_code 370 = .ok (.iload 4, 2) := by decide +kernel
theorem d_Mo_newton_372 : decode prog_9_method_68_code 372 = .ok (.ifCond .ne 17, 3) := by decide +kernel
theorem d_Mo_newton_375 : decode prog_9_method_68_code 375 = .ok (.iload 7, 2) := by decide +kernel
theorem d_Mo_newton_377 : decode prog_9_method_68_code 377 = .ok (.i2l, 1) := by decide +kernel
theorem d_Mo_newton_378 : decode prog_9_method_68_code 378 = .ok (.aload_n 0, 1) := by decide +kernel
theorem d_Mo_newton_379 : decode prog_9_method_68_code 379 = .ok (.sipush 166, 3) := by decide +kernel
theorem d_Mo_newton_382 : decode prog_9_method_68_code 382 = .ok (.invokevirtual 139, 3) := by decide +kernel
theorem d_Mo_newton_385 : decode prog_9_method_68_code 385 = .ok (.lmul, 1) := by decide +kernel
theorem d_Mo_newton_386 : decode prog_9_method_68_code 386 = .ok (.goto 10, 3) := by decide +kernel
theorem d_Mo_newton_389 : decode prog_9_method_68_code 389 = .ok (.aload_n 0, 1) := by decide +kernel
theorem d_Mo_newton_390 : decode prog_9_method_68_code 390 = .ok (.sipush 167, 3) := by decide +kernel
theorem d_Mo_newton_393 : decode prog_9_method_68_code 393 = .ok (.invokevirtual 139, 3) := by decide +kernel
theorem d_Mo_newton_396 : decode prog_9_method_68_code 396 = .ok (.lreturn, 1) := by decide +kernel
set_option maxHeartbeats 8000000 in
set_option maxRecDepth 100000 in
theorem c_Mo_newton_u (l : Launch) (D : va_G) (cs : Nat → ClassId) (L : List Nat) (f : Nat → va_E) (sz : Nat) (y m1 m2 m3 m5 m6 m7 m8 m9 m10 m11 m12 m13 m15 : Nat) (th pn rw_ fu fb : Int) (a1 a2 a3 a4 : Int) (hF : Fc L [y]) (ha : f y = .inr (7, [.int (iI th), .ref m1, .ref m2, .ref m3, .int (iI pn), .ref m5, .ref m6, .ref m7, .ref m8, .ref m9, .ref m10, .ref m11, .ref m12, .ref m13, .int (iI rw_), .ref m15, .long (lI fu), .long (lI fb)])) (hpn : 0 ≤ pn ∧ pn ≤ 12) (ha1 : -2147483648 ≤ a1 ∧ a1 < 2147483648) (ha2 : -2147483648 ≤ a2 ∧ a2 < 2147483648) (ha3 : -2147483648 ≤ a3 ∧ a3 < 2147483648) (ha4 : -2147483648 ≤ a4 ∧ a4 < 2147483648) (hun : a1 < 0 ∨ pn ≤ a1) : Met l (⟨"RealRootsModel", "newton", "(IIII)J"⟩ : MethodName) (.code (⟨"RealRootsModel", "newton", "(IIII)J"⟩ : MethodName) prog_9_method_68_code 8 (Option.some Jvm.ClassFile.FieldType.long) :: gw) ({ frames := 2, cells := 0, slots := 0, locals := 55 }) (va_Pc [.ref y, .int (iI a1), .int (iI a2), .int (iI a3), .int (iI a4)] (K0 D vwCl (TY cs) L f sz)) (va_Ql (fun (r : Int64) (g : Nat → va_E) => r = lI (-4000000000000000000) ∧ g = mw f [(y, .inr (7, [.int (iI 0), .ref m1, .ref m2, .ref m3, .int (iI pn), .ref m5, .ref m6, .ref m7, .ref m8, .ref m9, .ref m10, .ref m11, .ref m12, .ref m13, .int (iI rw_), .ref m15, .long (lI fu), .long (lI fb)]))]) (K1 D vwCl (TY cs) (AL L sz) L) (AL L sz)) 0 0 (AL L sz) := by
  refine Met.ofW (cc := prog_9_method_68_code) (maxL := 8) (ret := (Option.some Jvm.ClassFile.FieldType.long)) (by decide) rfl ?_
  intro p e s m args below meth c s₁ Bd hml hv
  obtain ⟨rfl, hk0⟩ := hv
  obtain ⟨hsz, B⟩ := hk0.start
  subst hsz
  have hx := Bd.exec
  have hb := Bd.bytes
  have hr := Bd.returns
  have hlocks := Bd.notSynchronized
  have hts0 := atoms_spec Bd.pre
  have hown : s.vm.findClass RX7 = some m.cls := findClass_of_methodNamed Bd.named
  have hA : ∀ q, s.heap.size ≤ q → AL L s.heap.size q := fun _ h => Or.inr h
  have hl := lv_entry ([.ref y, .int (iI a1), .int (iI a2), .int (iI a3), .int (iI a4)]) (n := 8) (Nat.le_of_ble_eq_true rfl)
  rw [lg_entry_eq]
  generalize (lg_sl ([.ref y, .int (iI a1), .int (iI a2), .int (iI a3), .int (iI a4)]) ++ List.replicate (8 - (lg_sl ([.ref y, .int (iI a1), .int (iI a2), .int (iI a3), .int (iI a4)])).length) Slot.unset).toArray = ls at hl ⊢
  refine absQ (fun Q R av hQ hR hav => ?_)
  have hts : ∀ w ∈ gw, w.before av s = true := by rw [hav]; exact fun w h => hts0 w (List.mem_cons_of_mem _ h)
  have hRf : R.frames = 2 := by rw [hR]; rfl
  have hRl : R.locals = 55 := by rw [hR]; rfl
  have hRc : R.cells = 0 := by rw [hR]; rfl
  have hRs : R.slots = 0 := by rw [hR]; rfl
  clear hR hts0 Bd
  have hl : lv_has ls 8 [(0, .ref y), (1, .int (iI a1)), (2, .int (iI a2)), (3, .int (iI a3)), (4, .int (iI a4))] := hl
  have hfx : ∀ q ∈ ([(y, .inr (7, [.int (iI th), .ref m1, .ref m2, .ref m3, .int (iI pn), .ref m5, .ref m6, .ref m7, .ref m8, .ref m9, .ref m10, .ref m11, .ref m12, .ref m13, .int (iI rw_), .ref m15, .long (lI fu), .long (lI fb)]))] : List (Nat × va_E)), f q.1 = q.2 := fun q hq => by
    simp only [List.mem_cons, List.not_mem_nil, or_false] at hq
    rcases hq with rfl
    · exact ha
  have hmw : mw f [(y, .inr (7, [.int (iI th), .ref m1, .ref m2, .ref m3, .int (iI pn), .ref m5, .ref m6, .ref m7, .ref m8, .ref m9, .ref m10, .ref m11, .ref m12, .ref m13, .int (iI rw_), .ref m15, .long (lI fu), .long (lI fb)]))] = f := mw_self (fun k a e hk => hfx (a, e) (List.mem_of_getElem? hk))
  have B := B.focus [(y, .inr (7, [.int (iI th), .ref m1, .ref m2, .ref m3, .int (iI pn), .ref m5, .ref m6, .ref m7, .ref m8, .ref m9, .ref m10, .ref m11, .ref m12, .ref m13, .int (iI rw_), .ref m15, .long (lI fu), .long (lI fb)]))] hfx
  refine lv_aload_n hx hb d_Mo_newton_0 rfl (lv_at hl 0 rfl) ?_
  refine x_iconst hx hb d_Mo_newton_1 ?_
  refine x_put (C := RX7) (T := TX7) (N := 18) hx hb hts inX7 tyX7 tyX7_ok nmX7 hown B hF 0 rfl rfl 0 (by decide) (hts _ w_677) (fun _ h9 => h9) rfl (tyX7_ok 0 (by decide)) rfl rfl (Nat.le_of_ble_eq_true rfl) d_Mo_newton_2 (fun H locs B => ?_)
  have B : Wb D vwCl (TY cs) L (mw f [(y, .inr (7, [.int (iI 0), .ref m1, .ref m2, .ref m3, .int (iI pn), .ref m5, .ref m6, .ref m7, .ref m8, .ref m9, .ref m10, .ref m11, .ref m12, .ref m13, .int (iI rw_), .ref m15, .long (lI fu), .long (lI fb)]))]) (AL L s.heap.size) s H _ := B
  refine lv_aload_n hx hb d_Mo_newton_5 rfl (lv_at hl 0 rfl) ?_
  refine lv_iload_n hx hb d_Mo_newton_6 rfl (lv_at hl 1 rfl) ?_
  refine x_calli B hA (va_runV (As := [.int (iI a1)]) (rest := []) ⟨hx, hb, hml, hown, hts⟩ (c_Mo_is_f l D cs _ _ _ y m1 m2 m3 m5 m6 m7 m8 m9 m10 m11 m12 m13 m15 0 pn rw_ fu fb a1 hF (mw_get (X := [(y, .inr (7, [.int (iI 0), .ref m1, .ref m2, .ref m3, .int (iI pn), .ref m5, .ref m6, .ref m7, .ref m8, .ref m9, .ref m10, .ref m11, .ref m12, .ref m13, .int (iI rw_), .ref m15, .long (lI fu), .long (lI fb)]))]) hF.1 (k := 0) rfl) hpn (by omega) (by omega)) (cwV 1 hts (gw_V w_745 w_747 s_29 w_8 w_748) rfl rfl rfl (by decide +kernel) ⟨by rw [hRf]; exact Nat.le_of_ble_eq_true rfl, by rw [hRl]; exact Nat.le_of_ble_eq_true rfl⟩) ⟨K0.blind, B.recv (hF.2 _ (mw_key (k := 0) (X := [(y, .inr (7, [.int (iI 0), .ref m1, .ref m2, .ref m3, .int (iI pn), .ref m5, .ref m6, .ref m7, .ref m8, .ref m9, .ref m10, .ref m11, .ref m12, .ref m13, .int (iI rw_), .ref m15, .long (lI fu), .long (lI fb)]))]) rfl)) (mw_get (X := [(y, .inr (7, [.int (iI 0), .ref m1, .ref m2, .ref m3, .int (iI pn), .ref m5, .ref m6, .ref m7, .ref m8, .ref m9, .ref m10, .ref m11, .ref m12, .ref m13, .int (iI rw_), .ref m15, .long (lI fu), .long (lI fb)]))]) hF.1 (k := 0) rfl) rfl, B.pre _⟩ rfl rfl hl.1 rfl (lv_room (Nat.le_of_ble_eq_true rfl)) d_Mo_newton_7 ⟨by rw [hRc]; omega, by rw [hRs]; omega⟩) (fun r7 g7 H locs hw B => ?_)
  obtain ⟨rfl, rfl⟩ := hw
  have B : Wb D vwCl (TY cs) L (mw f [(y, .inr (7, [.int (iI 0), .ref m1, .ref m2, .ref m3, .int (iI pn), .ref m5, .ref m6, .ref m7, .ref m8, .ref m9, .ref m10, .ref m11, .ref m12, .ref m13, .int (iI rw_), .ref m15, .long (lI fu), .long (lI fb)]))]) (AL L s.heap.size) s H _ := B
  refine x_if_ne (tgt := 17) hx hb d_Mo_newton_10 (by decide) (by omega) (fun h10 => ?_) (fun h10 => ?_)
  · exfalso; omega
  · refine x_ldc2 (z := -4000000000000000000) hx hb hown (hts _ w_935) (by decide) d_Mo_newton_13 ?_
    subst hQ hav
    exact x_lret hx hb hr hlocks B d_Mo_newton_16 (⟨rfl, rfl⟩)
theorem d_Mo_times_0 : decode prog_9_method_51_code 0 = .ok (.aload_n 0, 1) := by decide +kernel
theorem d_Mo_times_1 : decode prog_9_method_51_code 1 = .ok (.iconst 0, 1) := by decide +kernel
theorem d_Mo_times_2 : decode prog_9_method_51_code 2 = .ok (.putfield 51, 3) := by decide +kernel
theorem d_Mo_times_5 : decode prog_9_method_51_code 5 = .ok (.aload_n 0, 1) := by decide +kernel
theorem d_Mo_times_6 : decode prog_9_method_51_code 6 = .ok (.iload_n 1, 1) := by decide +kernel
theorem d_Mo_times_7 : decode prog_9_method_51_code 7 = .ok (.iload_n 2, 1) := by decide +kernel
theorem d_Mo_times_8 : decode prog_9_method_51_code 8 = .ok (.invokevirtual 210, 3) := by decide +kernel
theorem d_Mo_times_11 : decode prog_9_method_51_code 11 = .ok (.ifCond .ne 5, 3) := by decide +kernel
theorem d_Mo_times_14 : decode prog_9_method_51_code 14 = .ok (.iconst (-1), 1) := by decide +kernel
theorem d_Mo_times_15 : decode prog_9_method_51_code 15 = .ok (.ireturn, 1) := by decide +kernel
theorem d_Mo_times_16 : decode prog_9_method_51_code 16 = .ok (.iconst 0, 1) := by decide +kernel
theorem d_Mo_times_17 : decode prog_9_method_51_code 17 = .ok (.istore_n 3, 1) := by decide +kernel
theorem d_Mo_times_18 : decode prog_9_method_51_code 18 = .ok (.aload_n 0, 1) := by decide +kernel
theorem d_Mo_times_19 : decode prog_9_method_51_code 19 = .ok (.aload_n 0, 1) := by decide +kernel
theorem d_Mo_times_20 : decode prog_9_method_51_code 20 = .ok (.getfield 48, 3) := by decide +kernel
theorem d_Mo_times_23 : decode prog_9_method_51_code 23 = .ok (.iload_n 1, 1) := by decide +kernel
theorem d_Mo_times_24 : decode prog_9_method_51_code 24 = .ok (.invokevirtual 166, 3) := by decide +kernel
theorem d_Mo_times_27 : decode prog_9_method_51_code 27 = .ok (.iconst 1, 1) := by decide +kernel
theorem d_Mo_times_28 : decode prog_9_method_51_code 28 = .ok (.istore 4, 2) := by decide +kernel
theorem d_Mo_times_30 : decode prog_9_method_51_code 30 = .ok (.iload 4, 2) := by decide +kernel
theorem d_Mo_times_32 : decode prog_9_method_51_code 32 = .ok (.ifCond .eq 144, 3) := by decide +kernel
theorem d_Mo_times_35 : decode prog_9_method_51_code 35 = .ok (.iconst 0, 1) := by decide +kernel
theorem d_Mo_times_36 : decode prog_9_method_51_code 36 = .ok (.istore 5, 2) := by decide +kernel
theorem d_Mo_times_38 : decode prog_9_method_51_code 38 = .ok (.iload 5, 2) := by decide +kernel
theorem d_Mo_times_40 : decode prog_9_method_51_code 40 = .ok (.bipush 6, 2) := by decide +kernel
theorem d_Mo_times_42 : decode prog_9_method_51_code 42 = .ok (.if_icmp .ge 23, 3) := by decide +kernel
theorem d_Mo_times_45 : decode prog_9_method_51_code 45 = .ok (.aload_n 0, 1) := by decide +kernel
theorem d_Mo_times_46 : decode prog_9_method_51_code 46 = .ok (.getfield 39, 3) := by decide +kernel
theorem d_Mo_times_49 : decode prog_9_method_51_code 49 = .ok (.iload 5, 2) := by decide +kernel
theorem d_Mo_times_51 : decode prog_9_method_51_code 51 = .ok (.aload_n 0, 1) := by decide +kernel
theorem d_Mo_times_52 : decode prog_9_method_51_code 52 = .ok (.getfield 48, 3) := by decide +kernel
theorem d_Mo_times_55 : decode prog_9_method_51_code 55 = .ok (.iload 5, 2) := by decide +kernel
theorem d_Mo_times_57 : decode prog_9_method_51_code 57 = .ok (.laload, 1) := by decide +kernel
theorem d_Mo_times_58 : decode prog_9_method_51_code 58 = .ok (.lastore, 1) := by decide +kernel
theorem d_Mo_times_59 : decode prog_9_method_51_code 59 = .ok (.iinc 5 1, 3) := by decide +kernel
theorem d_Mo_times_62 : decode prog_9_method_51_code 62 = .ok (.goto (-24), 3) := by decide +kernel
theorem d_Mo_times_65 : decode prog_9_method_51_code 65 = .ok (.aload_n 0, 1) := by decide +kernel
theorem d_Mo_times_66 : decode prog_9_method_51_code 66 = .ok (.aload_n 0, 1) := by decide +kernel
theorem d_Mo_times_67 : decode prog_9_method_51_code 67 = .ok (.getfield 39, 3) := by decide +kernel
theorem d_Mo_times_70 : decode prog_9_method_51_code 70 = .ok (.invokevirtual 170, 3) := by decide +kernel
theorem d_Mo_times_73 : decode prog_9_method_51_code 73 = .ok (.aload_n 0, 1) := by decide +kernel
theorem d_Mo_times_74 : decode prog_9_method_51_code 74 = .ok (.aload_n 0, 1) := by decide +kernel
theorem d_Mo_times_75 : decode prog_9_method_51_code 75 = .ok (.getfield 36, 3) := by decide +kernel
theorem d_Mo_times_78 : decode prog_9_method_51_code 78 = .ok (.iconst 5, 1) := by decide +kernel
theorem d_Mo_times_79 : decode prog_9_method_51_code 79 = .ok (.iload_n 1, 1) := by decide +kernel
theorem d_Mo_times_80 : decode prog_9_method_51_code 80 = .ok (.imul, 1) := by decide +kernel
theorem d_Mo_times_81 : decode prog_9_method_51_code 81 = .ok (.iload_n 2, 1) := by decide +kernel
theorem d_Mo_times_82 : decode prog_9_method_51_code 82 = .ok (.iadd, 1) := by decide +kernel
theorem d_Mo_times_83 : decode prog_9_method_51_code 83 = .ok (.invokevirtual 214, 3) := by decide +kernel
theorem d_Mo_times_86 : decode prog_9_method_51_code 86 = .ok (.istore 4, 2) := by decide +kernel
theorem d_Mo_times_88 : decode prog_9_method_51_code 88 = .ok (.iload_n 3, 1) := by decide +kernel
theorem d_Mo_times_89 : decode prog_9_method_51_code 89 = .ok (.iload 4, 2) := by decide +kernel
theorem d_Mo_times_91 : decode prog_9_method_51_code 91 = .ok (.ifCond .eq 7, 3) := by decide +kernel
theorem d_Mo_times_94 : decode prog_9_method_51_code 94 = .ok (.iconst 1, 1) := by decide +kernel
theorem d_Mo_times_95 : decode prog_9_method_51_code 95 = .ok (.goto 4, 3) := by decide +kernel
theorem d_Mo_times_98 : decode prog_9_method_51_code 98 = .ok (.iconst 0, 1) := by decide +kernel
theorem d_Mo_times_99 : decode prog_9_method_51_code 99 = .ok (.iadd, 1) := by decide +kernel
theorem d_Mo_times_100 : decode prog_9_method_51_code 100 = .ok (.istore_n 3, 1) := by decide +kernel
theorem d_Mo_times_101 : decode prog_9_method_51_code 101 = .ok (.iconst 0, 1) := by decide +kernel
theorem d_Mo_times_102 : decode prog_9_method_51_code 102 = .ok (.istore 5, 2) := by decide +kernel
theorem d_Mo_times_104 : decode prog_9_method_51_code 104 = .ok (.iload 5, 2) := by decide +kernel
theorem d_Mo_times_106 : decode prog_9_method_51_code 106 = .ok (.bipush 6, 2) := by decide +kernel
theorem d_Mo_times_108 : decode prog_9_method_51_code 108 = .ok (.if_icmp .ge 23, 3) := by decide +kernel
theorem d_Mo_times_111 : decode prog_9_method_51_code 111 = .ok (.aload_n 0, 1) := by decide +kernel
theorem d_Mo_times_112 : decode prog_9_method_51_code 112 = .ok (.getfield 30, 3) := by decide +kernel
theorem d_Mo_times_115 : decode prog_9_method_51_code 115 = .ok (.iload 5, 2) := by decide +kernel
theorem d_Mo_times_117 : decode prog_9_method_51_code 117 = .ok (.aload_n 0, 1) := by decide +kernel
theorem d_Mo_times_118 : decode prog_9_method_51_code 118 = .ok (.getfield 48, 3) := by decide +kernel
theorem d_Mo_times_121 : decode prog_9_method_51_code 121 = .ok (.iload 5, 2) := by decide +kernel
theorem d_Mo_times_123 : decode prog_9_method_51_code 123 = .ok (.laload, 1) := by decide +kernel
theorem d_Mo_times_124 : decode prog_9_method_51_code 124 = .ok (.lastore, 1) := by decide +kernel
theorem d_Mo_times_125 : decode prog_9_method_51_code 125 = .ok (.iinc 5 1, 3) := by decide +kernel
theorem d_Mo_times_128 : decode prog_9_method_51_code 128 = .ok (.goto (-24), 3) := by decide +kernel
theorem d_Mo_times_131 : decode prog_9_method_51_code 131 = .ok (.aload_n 0, 1) := by decide +kernel
theorem d_Mo_times_132 : decode prog_9_method_51_code 132 = .ok (.getfield 30, 3) := by decide +kernel
theorem d_Mo_times_135 : decode prog_9_method_51_code 135 = .ok (.invokestatic 146, 3) := by decide +kernel
theorem d_Mo_times_138 : decode prog_9_method_51_code 138 = .ok (.aload_n 0, 1) := by decide +kernel
theorem d_Mo_times_139 : decode prog_9_method_51_code 139 = .ok (.aload_n 0, 1) := by decide +kernel
theorem d_Mo_times_140 : decode prog_9_method_51_code 140 = .ok (.getfield 48, 3) := by decide +kernel
theorem d_Mo_times_143 : decode prog_9_method_51_code 143 = .ok (.aload_n 0, 1) := by decide +kernel
theorem d_Mo_times_144 : decode prog_9_method_51_code 144 = .ok (.getfield 30, 3) := by decide +kernel
theorem d_Mo_times_147 : decode prog_9_method_51_code 147 = .ok (.invokevirtual 149, 3) := by decide +kernel
theorem d_Mo_times_150 : decode prog_9_method_51_code 150 = .ok (.iload 4, 2) := by decide +kernel
theorem d_Mo_times_152 : decode prog_9_method_51_code 152 = .ok (.ifCond .eq 18, 3) := by decide +kernel
theorem d_Mo_times_155 : decode prog_9_method_51_code 155 = .ok (.aload_n 0, 1) := by decide +kernel
theorem d_Mo_times_156 : decode prog_9_method_51_code 156 = .ok (.getfield 48, 3) := by decide +kernel
theorem d_Mo_times_159 : decode prog_9_method_51_code 159 = .ok (.iconst 5, 1) := by decide +kernel
theorem d_Mo_times_160 : decode prog_9_method_51_code 160 = .ok (.invokestatic 128, 3) := by decide +kernel
theorem d_Mo_times_163 : decode prog_9_method_51_code 163 = .ok (.ifCond .le 7, 3) := by decide +kernel
theorem d_Mo_times_166 : decode prog_9_method_51_code 166 = .ok (.iconst 1, 1) := by decide +kernel
theorem d_Mo_times_167 : decode prog_9_method_51_code 167 = .ok (.goto 4, 3) := by decide +kernel
theorem d_Mo_times_170 : decode prog_9_method_51_code 170 = .ok (.iconst 0, 1) := by decide +kernel
theorem d_Mo_times_171 : decode prog_9_method_51_code 171 = .ok (.istore 4, 2) := by decide +kernel
theorem d_Mo_times_173 : decode prog_9_method_51_code 173 = .ok (.goto (-143), 3) := by decide +kernel
theorem d_Mo_times_176 : decode prog_9_method_51_code 176 = .ok (.iload_n 3, 1) := by decide +kernel
theorem d_Mo_times_177 : decode prog_9_method_51_code 177 = .ok (.ireturn, 1) := by decide +kernel
set_option maxHeartbeats 8000000 in
set_option maxRecDepth 100000 in
theorem c_Mo_times_u (l : Launch) (D : va_G) (cs : Nat → ClassId) (L : List Nat) (f : Nat → va_E) (sz : Nat) (y m1 m2 m3 m5 m6 m7 m8 m9 m10 m11 m12 m13 m15 : Nat) (th pn rw_ fu fb : Int) (a1 a2 : Int) (hF : Fc L [y]) (ha : f y = .inr (7, [.int (iI th), .ref m1, .ref m2, .ref m3, .int (iI pn), .ref m5, .ref m6, .ref m7, .ref m8, .ref m9, .ref m10, .ref m11, .ref m12, .ref m13, .int (iI rw_), .ref m15, .long (lI fu), .long (lI fb)])) (hpn : 0 ≤ pn ∧ pn ≤ 12) (ha1 : -2147483648 ≤ a1 ∧ a1 < 2147483648) (ha2 : -2147483648 ≤ a2 ∧ a2 < 2147483648) (hun : a1 < 0 ∨ pn ≤ a1) : Met l (⟨"RealRootsModel", "times", "(II)I"⟩ : MethodName) (.code (⟨"RealRootsModel", "times", "(II)I"⟩ : MethodName) prog_9_method_51_code 6 (Option.some Jvm.ClassFile.FieldType.int) :: gw) ({ frames := 3, cells := 0, slots := 0, locals := 75 }) (va_Pc [.ref y, .int (iI a1), .int (iI a2)] (K0 D vwCl (TY cs) L f sz)) (va_Qi (fun (r : Int32) (g : Nat → va_E) => r = iI (-1) ∧ g = mw f [(y, .inr (7, [.int (iI 0), .ref m1, .ref m2, .ref m3, .int (iI pn), .ref m5, .ref m6, .ref m7, .ref m8, .ref m9, .ref m10, .ref m11, .ref m12, .ref m13, .int (iI rw_), .ref m15, .long (lI fu), .long (lI fb)]))]) (K1 D vwCl (TY cs) (AL L sz) L) (AL L sz)) 0 0 (AL L sz) := by
  refine Met.ofW (cc := prog_9_method_51_code) (maxL := 6) (ret := (Option.some Jvm.ClassFile.FieldType.int)) (by decide) rfl ?_
  intro p e s m args below meth c s₁ Bd hml hv
  obtain ⟨rfl, hk0⟩ := hv
  obtain ⟨hsz, B⟩ := hk0.start
  subst hsz
  have hx := Bd.exec
  have hb := Bd.bytes
  have hr := Bd.returns
  have hlocks := Bd.notSynchronized
  have hts0 := atoms_spec Bd.pre
  have hown : s.vm.findClass RX7 = some m.cls := findClass_of_methodNamed Bd.named
  have hA : ∀ q, s.heap.size ≤ q → AL L s.heap.size q := fun _ h => Or.inr h
  have hl := lv_entry ([.ref y, .int (iI a1), .int (iI a2)]) (n := 6) (Nat.le_of_ble_eq_true rfl)
  rw [lg_entry_eq]
  generalize (lg_sl ([.ref y, .int (iI a1), .int (iI a2)]) ++ List.replicate (6 - (lg_sl ([.ref y, .int (iI a1), .int (iI a2)])).length) Slot.unset).toArray = ls at hl ⊢
  refine absQ (fun Q R av hQ hR hav => ?_)
  have hts : ∀ w ∈ gw, w.before av s = true := by rw [hav]; exact fun w h => hts0 w (List.mem_cons_of_mem _ h)
  have hRf : R.frames = 3 := by rw [hR]; rfl
  have hRl : R.locals = 75 := by rw [hR]; rfl
  have hRc : R.cells = 0 := by rw [hR]; rfl
  have hRs : R.slots = 0 := by rw [hR]; rfl
  clear hR hts0 Bd
  have hl : lv_has ls 6 [(0, .ref y), (1, .int (iI a1)), (2, .int (iI a2))] := hl
  have hfx : ∀ q ∈ ([(y, .inr (7, [.int (iI th), .ref m1, .ref m2, .ref m3, .int (iI pn), .ref m5, .ref m6, .ref m7, .ref m8, .ref m9, .ref m10, .ref m11, .ref m12, .ref m13, .int (iI rw_), .ref m15, .long (lI fu), .long (lI fb)]))] : List (Nat × va_E)), f q.1 = q.2 := fun q hq => by
    simp only [List.mem_cons, List.not_mem_nil, or_false] at hq
    rcases hq with rfl
    · exact ha
  have hmw : mw f [(y, .inr (7, [.int (iI th), .ref m1, .ref m2, .ref m3, .int (iI pn), .ref m5, .ref m6, .ref m7, .ref m8, .ref m9, .ref m10, .ref m11, .ref m12, .ref m13, .int (iI rw_), .ref m15, .long (lI fu), .long (lI fb)]))] = f := mw_self (fun k a e hk => hfx (a, e) (List.mem_of_getElem? hk))
  have B := B.focus [(y, .inr (7, [.int (iI th), .ref m1, .ref m2, .ref m3, .int (iI pn), .ref m5, .ref m6, .ref m7, .ref m8, .ref m9, .ref m10, .ref m11, .ref m12, .ref m13, .int (iI rw_), .ref m15, .long (lI fu), .long (lI fb)]))] hfx
  refine lv_aload_n hx hb d_Mo_times_0 rfl (lv_at hl 0 rfl) ?_
  refine x_iconst hx hb d_Mo_times_1 ?_
  refine x_put (C := RX7) (T := TX7) (N := 18) hx hb hts inX7 tyX7 tyX7_ok nmX7 hown B hF 0 rfl rfl 0 (by decide) (hts _ w_677) (fun _ h9 => h9) rfl (tyX7_ok 0 (by decide)) rfl rfl (Nat.le_of_ble_eq_true rfl) d_Mo_times_2 (fun H locs B => ?_)
  have B : Wb D vwCl (TY cs) L (mw f [(y, .inr (7, [.int (iI 0), .ref m1, .ref m2, .ref m3, .int (iI pn), .ref m5, .ref m6, .ref m7, .ref m8, .ref m9, .ref m10, .ref m11, .ref m12, .ref m13, .int (iI rw_), .ref m15, .long (lI fu), .long (lI fb)]))]) (AL L s.heap.size) s H _ := B
  refine lv_aload_n hx hb d_Mo_times_5 rfl (lv_at hl 0 rfl) ?_
  refine lv_iload_n hx hb d_Mo_times_6 rfl (lv_at hl 1 rfl) ?_
  refine lv_iload_n hx hb d_Mo_times_7 rfl (lv_at hl 2 rfl) ?_
  refine x_calli B hA (va_runV (As := [.int (iI a1), .int (iI a2)]) (rest := []) ⟨hx, hb, hml, hown, hts⟩ (c_Mo_isRoot_f l D cs _ _ _ y m1 m2 m3 m5 m6 m7 m8 m9 m10 m11 m12 m13 m15 0 pn rw_ fu fb a1 a2 hF (mw_get (X := [(y, .inr (7, [.int (iI 0), .ref m1, .ref m2, .ref m3, .int (iI pn), .ref m5, .ref m6, .ref m7, .ref m8, .ref m9, .ref m10, .ref m11, .ref m12, .ref m13, .int (iI rw_), .ref m15, .long (lI fu), .long (lI fb)]))]) hF.1 (k := 0) rfl) hpn (by omega) (by omega) (by omega)) (cwV 2 hts (gw_V w_923 w_925 s_62 w_8 w_926) rfl rfl rfl (by decide +kernel) ⟨by rw [hRf]; exact Nat.le_of_ble_eq_true rfl, by rw [hRl]; exact Nat.le_of_ble_eq_true rfl⟩) ⟨K0.blind, B.recv (hF.2 _ (mw_key (k := 0) (X := [(y, .inr (7, [.int (iI 0), .ref m1, .ref m2, .ref m3, .int (iI pn), .ref m5, .ref m6, .ref m7, .ref m8, .ref m9, .ref m10, .ref m11, .ref m12, .ref m13, .int (iI rw_), .ref m15, .long (lI fu), .long (lI fb)]))]) rfl)) (mw_get (X := [(y, .inr (7, [.int (iI 0), .ref m1, .ref m2, .ref m3, .int (iI pn), .ref m5, .ref m6, .ref m7, .ref m8, .ref m9, .ref m10, .ref m11, .ref m12, .ref m13, .int (iI rw_), .ref m15, .long (lI fu), .long (lI fb)]))]) hF.1 (k := 0) rfl) rfl, B.pre _⟩ rfl rfl hl.1 rfl (lv_room (Nat.le_of_ble_eq_true rfl)) d_Mo_times_8 ⟨by rw [hRc]; omega, by rw [hRs]; omega⟩) (fun r8 g8 H locs hw B => ?_)
  obtain ⟨rfl, rfl⟩ := hw
  have B : Wb D vwCl (TY cs) L (mw f [(y, .inr (7, [.int (iI 0), .ref m1, .ref m2, .ref m3, .int (iI pn), .ref m5, .ref m6, .ref m7, .ref m8, .ref m9, .ref m10, .ref m11, .ref m12, .ref m13, .int (iI rw_), .ref m15, .long (lI fu), .long (lI fb)]))]) (AL L s.heap.size) s H _ := B
  refine x_if_ne (tgt := 16) hx hb d_Mo_times_11 (by decide) (by omega) (fun h11 => ?_) (fun h11 => ?_)
  · exfalso; omega
  · refine x_iconst hx hb d_Mo_times_14 ?_
    subst hQ hav
    exact x_iret hx hb hr hlocks B d_Mo_times_15 (⟨rfl, rfl⟩)
theorem d_Mo_floor_0 : decode prog_9_method_53_code 0 = .ok (.aload_n 0, 1) := by decide +kernel
theorem d_Mo_floor_1 : decode prog_9_method_53_code 1 = .ok (.iconst 0, 1) := by decide +kernel
theorem d_Mo_floor_2 : decode prog_9_method_53_code 2 = .ok (.putfield 51, 3) := by decide +kernel
theorem d_Mo_floor_5 : decode prog_9_method_53_code 5 = .ok (.aload_n 0, 1) := by decide +kernel
theorem d_Mo_floor_6 : decode prog_9_method_53_code 6 = .ok (.iload_n 1, 1) := by decide +kernel
theorem d_Mo_floor_7 : decode prog_9_method_53_code 7 = .ok (.iload_n 2, 1) := by decide +kernel
theorem d_Mo_floor_8 : decode prog_9_method_53_code 8 = .ok (.invokevirtual 210, 3) := by decide +kernel
theorem d_Mo_floor_11 : decode prog_9_method_53_code 11 = .ok (.ifCond .ne 7, 3) := by decide +kernel
theorem d_Mo_floor_14 : decode prog_9_method_53_code 14 = .ok (.ldc2_w 218, 3) := by decide +kernel
theorem d_Mo_floor_17 : decode prog_9_method_53_code 17 = .ok (.lreturn, 1) := by decide +kernel
theorem d_Mo_floor_18 : decode prog_9_method_53_code 18 = .ok (.iload_n 3, 1) := by decide +kernel
theorem d_Mo_floor_19 : decode prog_9_method_53_code 19 = .ok (.i2l, 1) := by decide +kernel
theorem d_Mo_floor_20 : decode prog_9_method_53_code 20 = .ok (.lconst 0, 1) := by decide +kernel
theorem d_Mo_floor_21 : decode prog_9_method_53_code 21 = .ok (.ldc2_w 220, 3) := by decide +kernel
theorem d_Mo_floor_24 : decode prog_9_method_53_code 24 = .ok (.invokestatic 111, 3) := by decide +kernel
theorem d_Mo_floor_27 : decode prog_9_method_53_code 27 = .ok (.ifCond .eq 20, 3) := by decide +kernel
theorem d_Mo_floor_30 : decode prog_9_method_53_code 30 = .ok (.aload_n 0, 1) := by decide +kernel
theorem d_Mo_floor_31 : decode prog_9_method_53_code 31 = .ok (.iconst 5, 1) := by decide +kernel
theorem d_Mo_floor_32 : decode prog_9_method_53_code 32 = .ok (.iload_n 1, 1) := by decide +kernel
theorem d_Mo_floor_33 : decode prog_9_method_53_code 33 = .ok (.imul, 1) := by decide +kernel
theorem d_Mo_floor_34 : decode prog_9_method_53_code 34 = .ok (.iload_n 2, 1) := by decide +kernel
theorem d_Mo_floor_35 : decode prog_9_method_53_code 35 = .ok (.iadd, 1) := by decide +kernel
theorem d_Mo_floor_36 : decode prog_9_method_53_code 36 = .ok (.sipush 256, 3) := by decide +kernel
theorem d_Mo_floor_39 : decode prog_9_method_53_code 39 = .ok (.iload_n 3, 1) := by decide +kernel
theorem d_Mo_floor_40 : decode prog_9_method_53_code 40 = .ok (.isub, 1) := by decide +kernel
theorem d_Mo_floor_41 : decode prog_9_method_53_code 41 = .ok (.invokevirtual 222, 3) := by decide +kernel
theorem d_Mo_floor_44 : decode prog_9_method_53_code 44 = .ok (.goto 6, 3) := by decide +kernel
theorem d_Mo_floor_47 : decode prog_9_method_53_code 47 = .ok (.ldc2_w 225, 3) := by decide +kernel
theorem d_Mo_floor_50 : decode prog_9_method_53_code 50 = .ok (.lreturn, 1) := by decide +kernel
set_option maxHeartbeats 8000000 in
set_option maxRecDepth 100000 in
theorem c_Mo_floor_u (l : Launch) (D : va_G) (cs : Nat → ClassId) (L : List Nat) (f : Nat → va_E) (sz : Nat) (y m1 m2 m3 m5 m6 m7 m8 m9 m10 m11 m12 m13 m15 : Nat) (th pn rw_ fu fb : Int) (a1 a2 a3 : Int) (hF : Fc L [y]) (ha : f y = .inr (7, [.int (iI th), .ref m1, .ref m2, .ref m3, .int (iI pn), .ref m5, .ref m6, .ref m7, .ref m8, .ref m9, .ref m10, .ref m11, .ref m12, .ref m13, .int (iI rw_), .ref m15, .long (lI fu), .long (lI fb)])) (hpn : 0 ≤ pn ∧ pn ≤ 12) (ha1 : -2147483648 ≤ a1 ∧ a1 < 2147483648) (ha2 : -2147483648 ≤ a2 ∧ a2 < 2147483648) (ha3 : -2147483648 ≤ a3 ∧ a3 < 2147483648) (hun : a1 < 0 ∨ pn ≤ a1) : Met l (⟨"RealRootsModel", "floor", "(III)J"⟩ : MethodName) (.code (⟨"RealRootsModel", "floor", "(III)J"⟩ : MethodName) prog_9_method_53_code 4 (Option.some Jvm.ClassFile.FieldType.long) :: gw) ({ frames := 3, cells := 0, slots := 0, locals := 75 }) (va_Pc [.ref y, .int (iI a1), .int (iI a2), .int (iI a3)] (K0 D vwCl (TY cs) L f sz)) (va_Ql (fun (r : Int64) (g : Nat → va_E) => r = lI (-4000000000000000000) ∧ g = mw f [(y, .inr (7, [.int (iI 0), .ref m1, .ref m2, .ref m3, .int (iI pn), .ref m5, .ref m6, .ref m7, .ref m8, .ref m9, .ref m10, .ref m11, .ref m12, .ref m13, .int (iI rw_), .ref m15, .long (lI fu), .long (lI fb)]))]) (K1 D vwCl (TY cs) (AL L sz) L) (AL L sz)) 0 0 (AL L sz) := by
  refine Met.ofW (cc := prog_9_method_53_code) (maxL := 4) (ret := (Option.some Jvm.ClassFile.FieldType.long)) (by decide) rfl ?_
  intro p e s m args below meth c s₁ Bd hml hv
  obtain ⟨rfl, hk0⟩ := hv
  obtain ⟨hsz, B⟩ := hk0.start
  subst hsz
  have hx := Bd.exec
  have hb := Bd.bytes
  have hr := Bd.returns
  have hlocks := Bd.notSynchronized
  have hts0 := atoms_spec Bd.pre
  have hown : s.vm.findClass RX7 = some m.cls := findClass_of_methodNamed Bd.named
  have hA : ∀ q, s.heap.size ≤ q → AL L s.heap.size q := fun _ h => Or.inr h
  have hl := lv_entry ([.ref y, .int (iI a1), .int (iI a2), .int (iI a3)]) (n := 4) (Nat.le_of_ble_eq_true rfl)
  rw [lg_entry_eq]
  generalize (lg_sl ([.ref y, .int (iI a1), .int (iI a2), .int (iI a3)]) ++ List.replicate (4 - (lg_sl ([.ref y, .int (iI a1), .int (iI a2), .int (iI a3)])).length) Slot.unset).toArray = ls at hl ⊢
  refine absQ (fun Q R av hQ hR hav => ?_)
  have hts : ∀ w ∈ gw, w.before av s = true := by rw [hav]; exact fun w h => hts0 w (List.mem_cons_of_mem _ h)
  have hRf : R.frames = 3 := by rw [hR]; rfl
  have hRl : R.locals = 75 := by rw [hR]; rfl
  have hRc : R.cells = 0 := by rw [hR]; rfl
  have hRs : R.slots = 0 := by rw [hR]; rfl
  clear hR hts0 Bd
  have hl : lv_has ls 4 [(0, .ref y), (1, .int (iI a1)), (2, .int (iI a2)), (3, .int (iI a3))] := hl
  have hfx : ∀ q ∈ ([(y, .inr (7, [.int (iI th), .ref m1, .ref m2, .ref m3, .int (iI pn), .ref m5, .ref m6, .ref m7, .ref m8, .ref m9, .ref m10, .ref m11, .ref m12, .ref m13, .int (iI rw_), .ref m15, .long (lI fu), .long (lI fb)]))] : List (Nat × va_E)), f q.1 = q.2 := fun q hq => by
    simp only [List.mem_cons, List.not_mem_nil, or_false] at hq
    rcases hq with rfl
    · exact ha
  have hmw : mw f [(y, .inr (7, [.int (iI th), .ref m1, .ref m2, .ref m3, .int (iI pn), .ref m5, .ref m6, .ref m7, .ref m8, .ref m9, .ref m10, .ref m11, .ref m12, .ref m13, .int (iI rw_), .ref m15, .long (lI fu), .long (lI fb)]))] = f := mw_self (fun k a e hk => hfx (a, e) (List.mem_of_getElem? hk))
  have B := B.focus [(y, .inr (7, [.int (iI th), .ref m1, .ref m2, .ref m3, .int (iI pn), .ref m5, .ref m6, .ref m7, .ref m8, .ref m9, .ref m10, .ref m11, .ref m12, .ref m13, .int (iI rw_), .ref m15, .long (lI fu), .long (lI fb)]))] hfx
  refine lv_aload_n hx hb d_Mo_floor_0 rfl (lv_at hl 0 rfl) ?_
  refine x_iconst hx hb d_Mo_floor_1 ?_
  refine x_put (C := RX7) (T := TX7) (N := 18) hx hb hts inX7 tyX7 tyX7_ok nmX7 hown B hF 0 rfl rfl 0 (by decide) (hts _ w_677) (fun _ h9 => h9) rfl (tyX7_ok 0 (by decide)) rfl rfl (Nat.le_of_ble_eq_true rfl) d_Mo_floor_2 (fun H locs B => ?_)
  have B : Wb D vwCl (TY cs) L (mw f [(y, .inr (7, [.int (iI 0), .ref m1, .ref m2, .ref m3, .int (iI pn), .ref m5, .ref m6, .ref m7, .ref m8, .ref m9, .ref m10, .ref m11, .ref m12, .ref m13, .int (iI rw_), .ref m15, .long (lI fu), .long (lI fb)]))]) (AL L s.heap.size) s H _ := B
  refine lv_aload_n hx hb d_Mo_floor_5 rfl (lv_at hl 0 rfl) ?_
  refine lv_iload_n hx hb d_Mo_floor_6 rfl (lv_at hl 1 rfl) ?_
  refine lv_iload_n hx hb d_Mo_floor_7 rfl (lv_at hl 2 rfl) ?_
  refine x_calli B hA (va_runV (As := [.int (iI a1), .int (iI a2)]) (rest := []) ⟨hx, hb, hml, hown, hts⟩ (c_Mo_isRoot_f l D cs _ _ _ y m1 m2 m3 m5 m6 m7 m8 m9 m10 m11 m12 m13 m15 0 pn rw_ fu fb a1 a2 hF (mw_get (X := [(y, .inr (7, [.int (iI 0), .ref m1, .ref m2, .ref m3, .int (iI pn), .ref m5, .ref m6, .ref m7, .ref m8, .ref m9, .ref m10, .ref m11, .ref m12, .ref m13, .int (iI rw_), .ref m15, .long (lI fu), .long (lI fb)]))]) hF.1 (k := 0) rfl) hpn (by omega) (by omega) (by omega)) (cwV 2 hts (gw_V w_923 w_925 s_62 w_8 w_926) rfl rfl rfl (by decide +kernel) ⟨by rw [hRf]; exact Nat.le_of_ble_eq_true rfl, by rw [hRl]; exact Nat.le_of_ble_eq_true rfl⟩) ⟨K0.blind, B.recv (hF.2 _ (mw_key (k := 0) (X := [(y, .inr (7, [.int (iI 0), .ref m1, .ref m2, .ref m3, .int (iI pn), .ref m5, .ref m6, .ref m7, .ref m8, .ref m9, .ref m10, .ref m11, .ref m12, .ref m13, .int (iI rw_), .ref m15, .long (lI fu), .long (lI fb)]))]) rfl)) (mw_get (X := [(y, .inr (7, [.int (iI 0), .ref m1, .ref m2, .ref m3, .int (iI pn), .ref m5, .ref m6, .ref m7, .ref m8, .ref m9, .ref m10, .ref m11, .ref m12, .ref m13, .int (iI rw_), .ref m15, .long (lI fu), .long (lI fb)]))]) hF.1 (k := 0) rfl) rfl, B.pre _⟩ rfl rfl hl.1 rfl (lv_room (Nat.le_of_ble_eq_true rfl)) d_Mo_floor_8 ⟨by rw [hRc]; omega, by rw [hRs]; omega⟩) (fun r8 g8 H locs hw B => ?_)
  obtain ⟨rfl, rfl⟩ := hw
  have B : Wb D vwCl (TY cs) L (mw f [(y, .inr (7, [.int (iI 0), .ref m1, .ref m2, .ref m3, .int (iI pn), .ref m5, .ref m6, .ref m7, .ref m8, .ref m9, .ref m10, .ref m11, .ref m12, .ref m13, .int (iI rw_), .ref m15, .long (lI fu), .long (lI fb)]))]) (AL L s.heap.size) s H _ := B
  refine x_if_ne (tgt := 18) hx hb d_Mo_floor_11 (by decide) (by omega) (fun h11 => ?_) (fun h11 => ?_)
  · exfalso; omega
  · refine x_ldc2 (z := -4000000000000000000) hx hb hown (hts _ w_935) (by decide) d_Mo_floor_14 ?_
    subst hQ hav
    exact x_lret hx hb hr hlocks B d_Mo_floor_17 (⟨rfl, rfl⟩)
theorem d_Mo_fraction_0 : decode prog_9_method_55_code 0 = .ok (.aload_n 0, 1) := by decide +kernel
theorem d_Mo_fraction_1 : decode prog_9_method_55_code 1 = .ok (.iconst 0, 1) := by decide +kernel
theorem d_Mo_fraction_2 : decode prog_9_method_55_code 2 = .ok (.putfield 51, 3) := by decide +kernel
theorem d_Mo_fraction_5 : decode prog_9_method_55_code 5 = .ok (.aload_n 0, 1) := by decide +kernel
theorem d_Mo_fraction_6 : decode prog_9_method_55_code 6 = .ok (.iload_n 1, 1) := by decide +kernel
theorem d_Mo_fraction_7 : decode prog_9_method_55_code 7 = .ok (.iload_n 2, 1) := by decide +kernel
theorem d_Mo_fraction_8 : decode prog_9_method_55_code 8 = .ok (.invokevirtual 210, 3) := by decide +kernel
theorem d_Mo_fraction_11 : decode prog_9_method_55_code 11 = .ok (.ifCond .ne 7, 3) := by decide +kernel
theorem d_Mo_fraction_14 : decode prog_9_method_55_code 14 = .ok (.ldc2_w 218, 3) := by decide +kernel
theorem d_Mo_fraction_17 : decode prog_9_method_55_code 17 = .ok (.lreturn, 1) := by decide +kernel
theorem d_Mo_fraction_18 : decode prog_9_method_55_code 18 = .ok (.iload_n 3, 1) := by decide +kernel
theorem d_Mo_fraction_19 : decode prog_9_method_55_code 19 = .ok (.i2l, 1) := by decide +kernel
theorem d_Mo_fraction_20 : decode prog_9_method_55_code 20 = .ok (.lconst 0, 1) := by decide +kernel
theorem d_Mo_fraction_21 : decode prog_9_method_55_code 21 = .ok (.lconst 1, 1) := by decide +kernel
theorem d_Mo_fraction_22 : decode prog_9_method_55_code 22 = .ok (.invokestatic 111, 3) := by decide +kernel
theorem d_Mo_fraction_25 : decode prog_9_method_55_code 25 = .ok (.ifCond .ne 7, 3) := by decide +kernel
theorem d_Mo_fraction_28 : decode prog_9_method_55_code 28 = .ok (.ldc2_w 225, 3) := by decide +kernel
theorem d_Mo_fraction_31 : decode prog_9_method_55_code 31 = .ok (.lreturn, 1) := by decide +kernel
theorem d_Mo_fraction_32 : decode prog_9_method_55_code 32 = .ok (.aload_n 0, 1) := by decide +kernel
theorem d_Mo_fraction_33 : decode prog_9_method_55_code 33 = .ok (.iload_n 1, 1) := by decide +kernel
theorem d_Mo_fraction_34 : decode prog_9_method_55_code 34 = .ok (.iload_n 2, 1) := by decide +kernel
theorem d_Mo_fraction_35 : decode prog_9_method_55_code 35 = .ok (.invokevirtual 237, 3) := by decide +kernel
theorem d_Mo_fraction_38 : decode prog_9_method_55_code 38 = .ok (.ifCond .ne 7, 3) := by decide +kernel
theorem d_Mo_fraction_41 : decode prog_9_method_55_code 41 = .ok (.lconst 0, 1) := by decide +kernel
theorem d_Mo_fraction_42 : decode prog_9_method_55_code 42 = .ok (.goto 18, 3) := by decide +kernel
theorem d_Mo_fraction_45 : decode prog_9_method_55_code 45 = .ok (.iload_n 3, 1) := by decide +kernel
theorem d_Mo_fraction_46 : decode prog_9_method_55_code 46 = .ok (.ifCond .ne 10, 3) := by decide +kernel
theorem d_Mo_fraction_49 : decode prog_9_method_55_code 49 = .ok (.aload_n 0, 1) := by decide +kernel
theorem d_Mo_fraction_50 : decode prog_9_method_55_code 50 = .ok (.getfield 230, 3) := by decide +kernel
theorem d_Mo_fraction_53 : decode prog_9_method_55_code 53 = .ok (.goto 7, 3) := by decide +kernel
theorem d_Mo_fraction_56 : decode prog_9_method_55_code 56 = .ok (.aload_n 0, 1) := by decide +kernel
theorem d_Mo_fraction_57 : decode prog_9_method_55_code 57 = .ok (.getfield 234, 3) := by decide +kernel
theorem d_Mo_fraction_60 : decode prog_9_method_55_code 60 = .ok (.lreturn, 1) := by decide +kernel
set_option maxHeartbeats 8000000 in
set_option maxRecDepth 100000 in
theorem c_Mo_fraction_u (l : Launch) (D : va_G) (cs : Nat → ClassId) (L : List Nat) (f : Nat → va_E) (sz : Nat) (y m1 m2 m3 m5 m6 m7 m8 m9 m10 m11 m12 m13 m15 : Nat) (th pn rw_ fu fb : Int) (a1 a2 a3 : Int) (hF : Fc L [y]) (ha : f y = .inr (7, [.int (iI th), .ref m1, .ref m2, .ref m3, .int (iI pn), .ref m5, .ref m6, .ref m7, .ref m8, .ref m9, .ref m10, .ref m11, .ref m12, .ref m13, .int (iI rw_), .ref m15, .long (lI fu), .long (lI fb)])) (hpn : 0 ≤ pn ∧ pn ≤ 12) (ha1 : -2147483648 ≤ a1 ∧ a1 < 2147483648) (ha2 : -2147483648 ≤ a2 ∧ a2 < 2147483648) (ha3 : -2147483648 ≤ a3 ∧ a3 < 2147483648) (hun : a1 < 0 ∨ pn ≤ a1) : Met l (⟨"RealRootsModel", "fraction", "(III)J"⟩ : MethodName) (.code (⟨"RealRootsModel", "fraction", "(III)J"⟩ : MethodName) prog_9_method_55_code 4 (Option.some Jvm.ClassFile.FieldType.long) :: gw) ({ frames := 3, cells := 0, slots := 0, locals := 75 }) (va_Pc [.ref y, .int (iI a1), .int (iI a2), .int (iI a3)] (K0 D vwCl (TY cs) L f sz)) (va_Ql (fun (r : Int64) (g : Nat → va_E) => r = lI (-4000000000000000000) ∧ g = mw f [(y, .inr (7, [.int (iI 0), .ref m1, .ref m2, .ref m3, .int (iI pn), .ref m5, .ref m6, .ref m7, .ref m8, .ref m9, .ref m10, .ref m11, .ref m12, .ref m13, .int (iI rw_), .ref m15, .long (lI fu), .long (lI fb)]))]) (K1 D vwCl (TY cs) (AL L sz) L) (AL L sz)) 0 0 (AL L sz) := by
  refine Met.ofW (cc := prog_9_method_55_code) (maxL := 4) (ret := (Option.some Jvm.ClassFile.FieldType.long)) (by decide) rfl ?_
  intro p e s m args below meth c s₁ Bd hml hv
  obtain ⟨rfl, hk0⟩ := hv
  obtain ⟨hsz, B⟩ := hk0.start
  subst hsz
  have hx := Bd.exec
  have hb := Bd.bytes
  have hr := Bd.returns
  have hlocks := Bd.notSynchronized
  have hts0 := atoms_spec Bd.pre
  have hown : s.vm.findClass RX7 = some m.cls := findClass_of_methodNamed Bd.named
  have hA : ∀ q, s.heap.size ≤ q → AL L s.heap.size q := fun _ h => Or.inr h
  have hl := lv_entry ([.ref y, .int (iI a1), .int (iI a2), .int (iI a3)]) (n := 4) (Nat.le_of_ble_eq_true rfl)
  rw [lg_entry_eq]
  generalize (lg_sl ([.ref y, .int (iI a1), .int (iI a2), .int (iI a3)]) ++ List.replicate (4 - (lg_sl ([.ref y, .int (iI a1), .int (iI a2), .int (iI a3)])).length) Slot.unset).toArray = ls at hl ⊢
  refine absQ (fun Q R av hQ hR hav => ?_)
  have hts : ∀ w ∈ gw, w.before av s = true := by rw [hav]; exact fun w h => hts0 w (List.mem_cons_of_mem _ h)
  have hRf : R.frames = 3 := by rw [hR]; rfl
  have hRl : R.locals = 75 := by rw [hR]; rfl
  have hRc : R.cells = 0 := by rw [hR]; rfl
  have hRs : R.slots = 0 := by rw [hR]; rfl
  clear hR hts0 Bd
  have hl : lv_has ls 4 [(0, .ref y), (1, .int (iI a1)), (2, .int (iI a2)), (3, .int (iI a3))] := hl
  have hfx : ∀ q ∈ ([(y, .inr (7, [.int (iI th), .ref m1, .ref m2, .ref m3, .int (iI pn), .ref m5, .ref m6, .ref m7, .ref m8, .ref m9, .ref m10, .ref m11, .ref m12, .ref m13, .int (iI rw_), .ref m15, .long (lI fu), .long (lI fb)]))] : List (Nat × va_E)), f q.1 = q.2 := fun q hq => by
    simp only [List.mem_cons, List.not_mem_nil, or_false] at hq
    rcases hq with rfl
    · exact ha
  have hmw : mw f [(y, .inr (7, [.int (iI th), .ref m1, .ref m2, .ref m3, .int (iI pn), .ref m5, .ref m6, .ref m7, .ref m8, .ref m9, .ref m10, .ref m11, .ref m12, .ref m13, .int (iI rw_), .ref m15, .long (lI fu), .long (lI fb)]))] = f := mw_self (fun k a e hk => hfx (a, e) (List.mem_of_getElem? hk))
  have B := B.focus [(y, .inr (7, [.int (iI th), .ref m1, .ref m2, .ref m3, .int (iI pn), .ref m5, .ref m6, .ref m7, .ref m8, .ref m9, .ref m10, .ref m11, .ref m12, .ref m13, .int (iI rw_), .ref m15, .long (lI fu), .long (lI fb)]))] hfx
  refine lv_aload_n hx hb d_Mo_fraction_0 rfl (lv_at hl 0 rfl) ?_
  refine x_iconst hx hb d_Mo_fraction_1 ?_
  refine x_put (C := RX7) (T := TX7) (N := 18) hx hb hts inX7 tyX7 tyX7_ok nmX7 hown B hF 0 rfl rfl 0 (by decide) (hts _ w_677) (fun _ h9 => h9) rfl (tyX7_ok 0 (by decide)) rfl rfl (Nat.le_of_ble_eq_true rfl) d_Mo_fraction_2 (fun H locs B => ?_)
  have B : Wb D vwCl (TY cs) L (mw f [(y, .inr (7, [.int (iI 0), .ref m1, .ref m2, .ref m3, .int (iI pn), .ref m5, .ref m6, .ref m7, .ref m8, .ref m9, .ref m10, .ref m11, .ref m12, .ref m13, .int (iI rw_), .ref m15, .long (lI fu), .long (lI fb)]))]) (AL L s.heap.size) s H _ := B
  refine lv_aload_n hx hb d_Mo_fraction_5 rfl (lv_at hl 0 rfl) ?_
  refine lv_iload_n hx hb d_Mo_fraction_6 rfl (lv_at hl 1 rfl) ?_
  refine lv_iload_n hx hb d_Mo_fraction_7 rfl (lv_at hl 2 rfl) ?_
  refine x_calli B hA (va_runV (As := [.int (iI a1), .int (iI a2)]) (rest := []) ⟨hx, hb, hml, hown, hts⟩ (c_Mo_isRoot_f l D cs _ _ _ y m1 m2 m3 m5 m6 m7 m8 m9 m10 m11 m12 m13 m15 0 pn rw_ fu fb a1 a2 hF (mw_get (X := [(y, .inr (7, [.int (iI 0), .ref m1, .ref m2, .ref m3, .int (iI pn), .ref m5, .ref m6, .ref m7, .ref m8, .ref m9, .ref m10, .ref m11, .ref m12, .ref m13, .int (iI rw_), .ref m15, .long (lI fu), .long (lI fb)]))]) hF.1 (k := 0) rfl) hpn (by omega) (by omega) (by omega)) (cwV 2 hts (gw_V w_923 w_925 s_62 w_8 w_926) rfl rfl rfl (by decide +kernel) ⟨by rw [hRf]; exact Nat.le_of_ble_eq_true rfl, by rw [hRl]; exact Nat.le_of_ble_eq_true rfl⟩) ⟨K0.blind, B.recv (hF.2 _ (mw_key (k := 0) (X := [(y, .inr (7, [.int (iI 0), .ref m1, .ref m2, .ref m3, .int (iI pn), .ref m5, .ref m6, .ref m7, .ref m8, .ref m9, .ref m10, .ref m11, .ref m12, .ref m13, .int (iI rw_), .ref m15, .long (lI fu), .long (lI fb)]))]) rfl)) (mw_get (X := [(y, .inr (7, [.int (iI 0), .ref m1, .ref m2, .ref m3, .int (iI pn), .ref m5, .ref m6, .ref m7, .ref m8, .ref m9, .ref m10, .ref m11, .ref m12, .ref m13, .int (iI rw_), .ref m15, .long (lI fu), .long (lI fb)]))]) hF.1 (k := 0) rfl) rfl, B.pre _⟩ rfl rfl hl.1 rfl (lv_room (Nat.le_of_ble_eq_true rfl)) d_Mo_fraction_8 ⟨by rw [hRc]; omega, by rw [hRs]; omega⟩) (fun r8 g8 H locs hw B => ?_)
  obtain ⟨rfl, rfl⟩ := hw
  have B : Wb D vwCl (TY cs) L (mw f [(y, .inr (7, [.int (iI 0), .ref m1, .ref m2, .ref m3, .int (iI pn), .ref m5, .ref m6, .ref m7, .ref m8, .ref m9, .ref m10, .ref m11, .ref m12, .ref m13, .int (iI rw_), .ref m15, .long (lI fu), .long (lI fb)]))]) (AL L s.heap.size) s H _ := B
  refine x_if_ne (tgt := 18) hx hb d_Mo_fraction_11 (by decide) (by omega) (fun h11 => ?_) (fun h11 => ?_)
  · exfalso; omega
  · refine x_ldc2 (z := -4000000000000000000) hx hb hown (hts _ w_935) (by decide) d_Mo_fraction_14 ?_
    subst hQ hav
    exact x_lret hx hb hr hlocks B d_Mo_fraction_17 (⟨rfl, rfl⟩)
theorem d_Mo_rank_0 : decode prog_9_method_60_code 0 = .ok (.aload_n 0, 1) := by decide +kernel
theorem d_Mo_rank_1 : decode prog_9_method_60_code 1 = .ok (.iconst 0, 1) := by decide +kernel
theorem d_Mo_rank_2 : decode prog_9_method_60_code 2 = .ok (.putfield 51, 3) := by decide +kernel
theorem d_Mo_rank_5 : decode prog_9_method_60_code 5 = .ok (.aload_n 0, 1) := by decide +kernel
theorem d_Mo_rank_6 : decode prog_9_method_60_code 6 = .ok (.iload_n 1, 1) := by decide +kernel
theorem d_Mo_rank_7 : decode prog_9_method_60_code 7 = .ok (.iload_n 2, 1) := by decide +kernel
theorem d_Mo_rank_8 : decode prog_9_method_60_code 8 = .ok (.invokevirtual 210, 3) := by decide +kernel
theorem d_Mo_rank_11 : decode prog_9_method_60_code 11 = .ok (.ifCond .eq 15, 3) := by decide +kernel
theorem d_Mo_rank_14 : decode prog_9_method_60_code 14 = .ok (.aload_n 0, 1) := by decide +kernel
theorem d_Mo_rank_15 : decode prog_9_method_60_code 15 = .ok (.iconst 5, 1) := by decide +kernel
theorem d_Mo_rank_16 : decode prog_9_method_60_code 16 = .ok (.iload_n 1, 1) := by decide +kernel
theorem d_Mo_rank_17 : decode prog_9_method_60_code 17 = .ok (.imul, 1) := by decide +kernel
theorem d_Mo_rank_18 : decode prog_9_method_60_code 18 = .ok (.iload_n 2, 1) := by decide +kernel
theorem d_Mo_rank_19 : decode prog_9_method_60_code 19 = .ok (.iadd, 1) := by decide +kernel
theorem d_Mo_rank_20 : decode prog_9_method_60_code 20 = .ok (.invokevirtual 243, 3) := by decide +kernel
theorem d_Mo_rank_23 : decode prog_9_method_60_code 23 = .ok (.goto 4, 3) := by decide +kernel
theorem d_Mo_rank_26 : decode prog_9_method_60_code 26 = .ok (.iconst (-1), 1) := by decide +kernel
theorem d_Mo_rank_27 : decode prog_9_method_60_code 27 = .ok (.ireturn, 1) := by decide +kernel
set_option maxHeartbeats 8000000 in
set_option maxRecDepth 100000 in
theorem c_Mo_rank_u (l : Launch) (D : va_G) (cs : Nat → ClassId) (L : List Nat) (f : Nat → va_E) (sz : Nat) (y m1 m2 m3 m5 m6 m7 m8 m9 m10 m11 m12 m13 m15 : Nat) (th pn rw_ fu fb : Int) (a1 a2 : Int) (hF : Fc L [y]) (ha : f y = .inr (7, [.int (iI th), .ref m1, .ref m2, .ref m3, .int (iI pn), .ref m5, .ref m6, .ref m7, .ref m8, .ref m9, .ref m10, .ref m11, .ref m12, .ref m13, .int (iI rw_), .ref m15, .long (lI fu), .long (lI fb)])) (hpn : 0 ≤ pn ∧ pn ≤ 12) (ha1 : -2147483648 ≤ a1 ∧ a1 < 2147483648) (ha2 : -2147483648 ≤ a2 ∧ a2 < 2147483648) (hun : a1 < 0 ∨ pn ≤ a1) : Met l (⟨"RealRootsModel", "rank", "(II)I"⟩ : MethodName) (.code (⟨"RealRootsModel", "rank", "(II)I"⟩ : MethodName) prog_9_method_60_code 3 (Option.some Jvm.ClassFile.FieldType.int) :: gw) ({ frames := 3, cells := 0, slots := 0, locals := 75 }) (va_Pc [.ref y, .int (iI a1), .int (iI a2)] (K0 D vwCl (TY cs) L f sz)) (va_Qi (fun (r : Int32) (g : Nat → va_E) => r = iI (-1) ∧ g = mw f [(y, .inr (7, [.int (iI 0), .ref m1, .ref m2, .ref m3, .int (iI pn), .ref m5, .ref m6, .ref m7, .ref m8, .ref m9, .ref m10, .ref m11, .ref m12, .ref m13, .int (iI rw_), .ref m15, .long (lI fu), .long (lI fb)]))]) (K1 D vwCl (TY cs) (AL L sz) L) (AL L sz)) 0 0 (AL L sz) := by
  refine Met.ofW (cc := prog_9_method_60_code) (maxL := 3) (ret := (Option.some Jvm.ClassFile.FieldType.int)) (by decide) rfl ?_
  intro p e s m args below meth c s₁ Bd hml hv
  obtain ⟨rfl, hk0⟩ := hv
  obtain ⟨hsz, B⟩ := hk0.start
  subst hsz
  have hx := Bd.exec
  have hb := Bd.bytes
  have hr := Bd.returns
  have hlocks := Bd.notSynchronized
  have hts0 := atoms_spec Bd.pre
  have hown : s.vm.findClass RX7 = some m.cls := findClass_of_methodNamed Bd.named
  have hA : ∀ q, s.heap.size ≤ q → AL L s.heap.size q := fun _ h => Or.inr h
  have hl := lv_entry ([.ref y, .int (iI a1), .int (iI a2)]) (n := 3) (Nat.le_of_ble_eq_true rfl)
  rw [lg_entry_eq]
  generalize (lg_sl ([.ref y, .int (iI a1), .int (iI a2)]) ++ List.replicate (3 - (lg_sl ([.ref y, .int (iI a1), .int (iI a2)])).length) Slot.unset).toArray = ls at hl ⊢
  refine absQ (fun Q R av hQ hR hav => ?_)
  have hts : ∀ w ∈ gw, w.before av s = true := by rw [hav]; exact fun w h => hts0 w (List.mem_cons_of_mem _ h)
  have hRf : R.frames = 3 := by rw [hR]; rfl
  have hRl : R.locals = 75 := by rw [hR]; rfl
  have hRc : R.cells = 0 := by rw [hR]; rfl
  have hRs : R.slots = 0 := by rw [hR]; rfl
  clear hR hts0 Bd
  have hl : lv_has ls 3 [(0, .ref y), (1, .int (iI a1)), (2, .int (iI a2))] := hl
  have hfx : ∀ q ∈ ([(y, .inr (7, [.int (iI th), .ref m1, .ref m2, .ref m3, .int (iI pn), .ref m5, .ref m6, .ref m7, .ref m8, .ref m9, .ref m10, .ref m11, .ref m12, .ref m13, .int (iI rw_), .ref m15, .long (lI fu), .long (lI fb)]))] : List (Nat × va_E)), f q.1 = q.2 := fun q hq => by
    simp only [List.mem_cons, List.not_mem_nil, or_false] at hq
    rcases hq with rfl
    · exact ha
  have hmw : mw f [(y, .inr (7, [.int (iI th), .ref m1, .ref m2, .ref m3, .int (iI pn), .ref m5, .ref m6, .ref m7, .ref m8, .ref m9, .ref m10, .ref m11, .ref m12, .ref m13, .int (iI rw_), .ref m15, .long (lI fu), .long (lI fb)]))] = f := mw_self (fun k a e hk => hfx (a, e) (List.mem_of_getElem? hk))
  have B := B.focus [(y, .inr (7, [.int (iI th), .ref m1, .ref m2, .ref m3, .int (iI pn), .ref m5, .ref m6, .ref m7, .ref m8, .ref m9, .ref m10, .ref m11, .ref m12, .ref m13, .int (iI rw_), .ref m15, .long (lI fu), .long (lI fb)]))] hfx
  refine lv_aload_n hx hb d_Mo_rank_0 rfl (lv_at hl 0 rfl) ?_
  refine x_iconst hx hb d_Mo_rank_1 ?_
  refine x_put (C := RX7) (T := TX7) (N := 18) hx hb hts inX7 tyX7 tyX7_ok nmX7 hown B hF 0 rfl rfl 0 (by decide) (hts _ w_677) (fun _ h9 => h9) rfl (tyX7_ok 0 (by decide)) rfl rfl (Nat.le_of_ble_eq_true rfl) d_Mo_rank_2 (fun H locs B => ?_)
  have B : Wb D vwCl (TY cs) L (mw f [(y, .inr (7, [.int (iI 0), .ref m1, .ref m2, .ref m3, .int (iI pn), .ref m5, .ref m6, .ref m7, .ref m8, .ref m9, .ref m10, .ref m11, .ref m12, .ref m13, .int (iI rw_), .ref m15, .long (lI fu), .long (lI fb)]))]) (AL L s.heap.size) s H _ := B
  refine lv_aload_n hx hb d_Mo_rank_5 rfl (lv_at hl 0 rfl) ?_
  refine lv_iload_n hx hb d_Mo_rank_6 rfl (lv_at hl 1 rfl) ?_
  refine lv_iload_n hx hb d_Mo_rank_7 rfl (lv_at hl 2 rfl) ?_
  refine x_calli B hA (va_runV (As := [.int (iI a1), .int (iI a2)]) (rest := []) ⟨hx, hb, hml, hown, hts⟩ (c_Mo_isRoot_f l D cs _ _ _ y m1 m2 m3 m5 m6 m7 m8 m9 m10 m11 m12 m13 m15 0 pn rw_ fu fb a1 a2 hF (mw_get (X := [(y, .inr (7, [.int (iI 0), .ref m1, .ref m2, .ref m3, .int (iI pn), .ref m5, .ref m6, .ref m7, .ref m8, .ref m9, .ref m10, .ref m11, .ref m12, .ref m13, .int (iI rw_), .ref m15, .long (lI fu), .long (lI fb)]))]) hF.1 (k := 0) rfl) hpn (by omega) (by omega) (by omega)) (cwV 2 hts (gw_V w_923 w_925 s_62 w_8 w_926) rfl rfl rfl (by decide +kernel) ⟨by rw [hRf]; exact Nat.le_of_ble_eq_true rfl, by rw [hRl]; exact Nat.le_of_ble_eq_true rfl⟩) ⟨K0.blind, B.recv (hF.2 _ (mw_key (k := 0) (X := [(y, .inr (7, [.int (iI 0), .ref m1, .ref m2, .ref m3, .int (iI pn), .ref m5, .ref m6, .ref m7, .ref m8, .ref m9, .ref m10, .ref m11, .ref m12, .ref m13, .int (iI rw_), .ref m15, .long (lI fu), .long (lI fb)]))]) rfl)) (mw_get (X := [(y, .inr (7, [.int (iI 0), .ref m1, .ref m2, .ref m3, .int (iI pn), .ref m5, .ref m6, .ref m7, .ref m8, .ref m9, .ref m10, .ref m11, .ref m12, .ref m13, .int (iI rw_), .ref m15, .long (lI fu), .long (lI fb)]))]) hF.1 (k := 0) rfl) rfl, B.pre _⟩ rfl rfl hl.1 rfl (lv_room (Nat.le_of_ble_eq_true rfl)) d_Mo_rank_8 ⟨by rw [hRc]; omega, by rw [hRs]; omega⟩) (fun r8 g8 H locs hw B => ?_)
  obtain ⟨rfl, rfl⟩ := hw
  have B : Wb D vwCl (TY cs) L (mw f [(y, .inr (7, [.int (iI 0), .ref m1, .ref m2, .ref m3, .int (iI pn), .ref m5, .ref m6, .ref m7, .ref m8, .ref m9, .ref m10, .ref m11, .ref m12, .ref m13, .int (iI rw_), .ref m15, .long (lI fu), .long (lI fb)]))]) (AL L s.heap.size) s H _ := B
  refine x_if_eq (tgt := 26) hx hb d_Mo_rank_11 (by decide) (by omega) (fun h11 => ?_) (fun h11 => ?_)
  · refine x_iconst hx hb d_Mo_rank_26 ?_
    subst hQ hav
    exact x_iret hx hb hr hlocks B d_Mo_rank_27 (⟨rfl, rfl⟩)
  · exfalso; omega
theorem d_Mo_compare_0 : decode prog_9_method_57_code 0 = .ok (.aload_n 0, 1) := by decide +kernel
theorem d_Mo_compare_1 : decode prog_9_method_57_code 1 = .ok (.iconst 0, 1) := by decide +kernel
theorem d_Mo_compare_2 : decode prog_9_method_57_code 2 = .ok (.putfield 51, 3) := by decide +kernel
theorem d_Mo_compare_5 : decode prog_9_method_57_code 5 = .ok (.aload_n 0, 1) := by decide +kernel
theorem d_Mo_compare_6 : decode prog_9_method_57_code 6 = .ok (.iload_n 1, 1) := by decide +kernel
theorem d_Mo_compare_7 : decode prog_9_method_57_code 7 = .ok (.iload_n 2, 1) := by decide +kernel
theorem d_Mo_compare_8 : decode prog_9_method_57_code 8 = .ok (.invokevirtual 210, 3) := by decide +kernel
theorem d_Mo_compare_11 : decode prog_9_method_57_code 11 = .ok (.ifCond .eq 31, 3) := by decide +kernel
theorem d_Mo_compare_14 : decode prog_9_method_57_code 14 = .ok (.aload_n 0, 1) := by decide +kernel
theorem d_Mo_compare_15 : decode prog_9_method_57_code 15 = .ok (.iload_n 3, 1) := by decide +kernel
theorem d_Mo_compare_16 : decode prog_9_method_57_code 16 = .ok (.iload 4, 2) := by decide +kernel
theorem d_Mo_compare_18 : decode prog_9_method_57_code 18 = .ok (.invokevirtual 210, 3) := by decide +kernel
theorem d_Mo_compare_21 : decode prog_9_method_57_code 21 = .ok (.ifCond .eq 21, 3) := by decide +kernel
theorem d_Mo_compare_24 : decode prog_9_method_57_code 24 = .ok (.aload_n 0, 1) := by decide +kernel
theorem d_Mo_compare_25 : decode prog_9_method_57_code 25 = .ok (.iconst 5, 1) := by decide +kernel
theorem d_Mo_compare_26 : decode prog_9_method_57_code 26 = .ok (.iload_n 1, 1) := by decide +kernel
theorem d_Mo_compare_27 : decode prog_9_method_57_code 27 = .ok (.imul, 1) := by decide +kernel
theorem d_Mo_compare_28 : decode prog_9_method_57_code 28 = .ok (.iload_n 2, 1) := by decide +kernel
theorem d_Mo_compare_29 : decode prog_9_method_57_code 29 = .ok (.iadd, 1) := by decide +kernel
theorem d_Mo_compare_30 : decode prog_9_method_57_code 30 = .ok (.iconst 5, 1) := by decide +kernel
theorem d_Mo_compare_31 : decode prog_9_method_57_code 31 = .ok (.iload_n 3, 1) := by decide +kernel
theorem d_Mo_compare_32 : decode prog_9_method_57_code 32 = .ok (.imul, 1) := by decide +kernel
theorem d_Mo_compare_33 : decode prog_9_method_57_code 33 = .ok (.iload 4, 2) := by decide +kernel
theorem d_Mo_compare_35 : decode prog_9_method_57_code 35 = .ok (.iadd, 1) := by decide +kernel
theorem d_Mo_compare_36 : decode prog_9_method_57_code 36 = .ok (.invokevirtual 227, 3) := by decide +kernel
theorem d_Mo_compare_39 : decode prog_9_method_57_code 39 = .ok (.goto 5, 3) := by decide +kernel
theorem d_Mo_compare_42 : decode prog_9_method_57_code 42 = .ok (.bipush (-9), 2) := by decide +kernel
theorem d_Mo_compare_44 : decode prog_9_method_57_code 44 = .ok (.ireturn, 1) := by decide +kernel
set_option maxHeartbeats 8000000 in
set_option maxRecDepth 100000 in
theorem c_Mo_compare_u (l : Launch) (D : va_G) (cs : Nat → ClassId) (L : List Nat) (f : Nat → va_E) (sz : Nat) (y m1 m2 m3 m5 m6 m7 m8 m9 m10 m11 m12 m13 m15 : Nat) (th pn rw_ fu fb : Int) (a1 a2 a3 a4 : Int) (hF : Fc L [y]) (ha : f y = .inr (7, [.int (iI th), .ref m1, .ref m2, .ref m3, .int (iI pn), .ref m5, .ref m6, .ref m7, .ref m8, .ref m9, .ref m10, .ref m11, .ref m12, .ref m13, .int (iI rw_), .ref m15, .long (lI fu), .long (lI fb)])) (hpn : 0 ≤ pn ∧ pn ≤ 12) (ha1 : -2147483648 ≤ a1 ∧ a1 < 2147483648) (ha2 : -2147483648 ≤ a2 ∧ a2 < 2147483648) (ha3 : -2147483648 ≤ a3 ∧ a3 < 2147483648) (ha4 : -2147483648 ≤ a4 ∧ a4 < 2147483648) (hun : a1 < 0 ∨ pn ≤ a1) : Met l (⟨"RealRootsModel", "compare", "(IIII)I"⟩ : MethodName) (.code (⟨"RealRootsModel", "compare", "(IIII)I"⟩ : MethodName) prog_9_method_57_code 5 (Option.some Jvm.ClassFile.FieldType.int) :: gw) ({ frames := 3, cells := 0, slots := 0, locals := 75 }) (va_Pc [.ref y, .int (iI a1), .int (iI a2), .int (iI a3), .int (iI a4)] (K0 D vwCl (TY cs) L f sz)) (va_Qi (fun (r : Int32) (g : Nat → va_E) => r = iI (-9) ∧ g = mw f [(y, .inr (7, [.int (iI 0), .ref m1, .ref m2, .ref m3, .int (iI pn), .ref m5, .ref m6, .ref m7, .ref m8, .ref m9, .ref m10, .ref m11, .ref m12, .ref m13, .int (iI rw_), .ref m15, .long (lI fu), .long (lI fb)]))]) (K1 D vwCl (TY cs) (AL L sz) L) (AL L sz)) 0 0 (AL L sz) := by
  refine Met.ofW (cc := prog_9_method_57_code) (maxL := 5) (ret := (Option.some Jvm.ClassFile.FieldType.int)) (by decide) rfl ?_
  intro p e s m args below meth c s₁ Bd hml hv
  obtain ⟨rfl, hk0⟩ := hv
  obtain ⟨hsz, B⟩ := hk0.start
  subst hsz
  have hx := Bd.exec
  have hb := Bd.bytes
  have hr := Bd.returns
  have hlocks := Bd.notSynchronized
  have hts0 := atoms_spec Bd.pre
  have hown : s.vm.findClass RX7 = some m.cls := findClass_of_methodNamed Bd.named
  have hA : ∀ q, s.heap.size ≤ q → AL L s.heap.size q := fun _ h => Or.inr h
  have hl := lv_entry ([.ref y, .int (iI a1), .int (iI a2), .int (iI a3), .int (iI a4)]) (n := 5) (Nat.le_of_ble_eq_true rfl)
  rw [lg_entry_eq]
  generalize (lg_sl ([.ref y, .int (iI a1), .int (iI a2), .int (iI a3), .int (iI a4)]) ++ List.replicate (5 - (lg_sl ([.ref y, .int (iI a1), .int (iI a2), .int (iI a3), .int (iI a4)])).length) Slot.unset).toArray = ls at hl ⊢
  refine absQ (fun Q R av hQ hR hav => ?_)
  have hts : ∀ w ∈ gw, w.before av s = true := by rw [hav]; exact fun w h => hts0 w (List.mem_cons_of_mem _ h)
  have hRf : R.frames = 3 := by rw [hR]; rfl
  have hRl : R.locals = 75 := by rw [hR]; rfl
  have hRc : R.cells = 0 := by rw [hR]; rfl
  have hRs : R.slots = 0 := by rw [hR]; rfl
  clear hR hts0 Bd
  have hl : lv_has ls 5 [(0, .ref y), (1, .int (iI a1)), (2, .int (iI a2)), (3, .int (iI a3)), (4, .int (iI a4))] := hl
  have hfx : ∀ q ∈ ([(y, .inr (7, [.int (iI th), .ref m1, .ref m2, .ref m3, .int (iI pn), .ref m5, .ref m6, .ref m7, .ref m8, .ref m9, .ref m10, .ref m11, .ref m12, .ref m13, .int (iI rw_), .ref m15, .long (lI fu), .long (lI fb)]))] : List (Nat × va_E)), f q.1 = q.2 := fun q hq => by
    simp only [List.mem_cons, List.not_mem_nil, or_false] at hq
    rcases hq with rfl
    · exact ha
  have hmw : mw f [(y, .inr (7, [.int (iI th), .ref m1, .ref m2, .ref m3, .int (iI pn), .ref m5, .ref m6, .ref m7, .ref m8, .ref m9, .ref m10, .ref m11, .ref m12, .ref m13, .int (iI rw_), .ref m15, .long (lI fu), .long (lI fb)]))] = f := mw_self (fun k a e hk => hfx (a, e) (List.mem_of_getElem? hk))
  have B := B.focus [(y, .inr (7, [.int (iI th), .ref m1, .ref m2, .ref m3, .int (iI pn), .ref m5, .ref m6, .ref m7, .ref m8, .ref m9, .ref m10, .ref m11, .ref m12, .ref m13, .int (iI rw_), .ref m15, .long (lI fu), .long (lI fb)]))] hfx
  refine lv_aload_n hx hb d_Mo_compare_0 rfl (lv_at hl 0 rfl) ?_
  refine x_iconst hx hb d_Mo_compare_1 ?_
  refine x_put (C := RX7) (T := TX7) (N := 18) hx hb hts inX7 tyX7 tyX7_ok nmX7 hown B hF 0 rfl rfl 0 (by decide) (hts _ w_677) (fun _ h9 => h9) rfl (tyX7_ok 0 (by decide)) rfl rfl (Nat.le_of_ble_eq_true rfl) d_Mo_compare_2 (fun H locs B => ?_)
  have B : Wb D vwCl (TY cs) L (mw f [(y, .inr (7, [.int (iI 0), .ref m1, .ref m2, .ref m3, .int (iI pn), .ref m5, .ref m6, .ref m7, .ref m8, .ref m9, .ref m10, .ref m11, .ref m12, .ref m13, .int (iI rw_), .ref m15, .long (lI fu), .long (lI fb)]))]) (AL L s.heap.size) s H _ := B
  refine lv_aload_n hx hb d_Mo_compare_5 rfl (lv_at hl 0 rfl) ?_
  refine lv_iload_n hx hb d_Mo_compare_6 rfl (lv_at hl 1 rfl) ?_
  refine lv_iload_n hx hb d_Mo_compare_7 rfl (lv_at hl 2 rfl) ?_
  refine x_calli B hA (va_runV (As := [.int (iI a1), .int (iI a2)]) (rest := []) ⟨hx, hb, hml, hown, hts⟩ (c_Mo_isRoot_f l D cs _ _ _ y m1 m2 m3 m5 m6 m7 m8 m9 m10 m11 m12 m13 m15 0 pn rw_ fu fb a1 a2 hF (mw_get (X := [(y, .inr (7, [.int (iI 0), .ref m1, .ref m2, .ref m3, .int (iI pn), .ref m5, .ref m6, .ref m7, .ref m8, .ref m9, .ref m10, .ref m11, .ref m12, .ref m13, .int (iI rw_), .ref m15, .long (lI fu), .long (lI fb)]))]) hF.1 (k := 0) rfl) hpn (by omega) (by omega) (by omega)) (cwV 2 hts (gw_V w_923 w_925 s_62 w_8 w_926) rfl rfl rfl (by decide +kernel) ⟨by rw [hRf]; exact Nat.le_of_ble_eq_true rfl, by rw [hRl]; exact Nat.le_of_ble_eq_true rfl⟩) ⟨K0.blind, B.recv (hF.2 _ (mw_key (k := 0) (X := [(y, .inr (7, [.int (iI 0), .ref m1, .ref m2, .ref m3, .int (iI pn), .ref m5, .ref m6, .ref m7, .ref m8, .ref m9, .ref m10, .ref m11, .ref m12, .ref m13, .int (iI rw_), .ref m15, .long (lI fu), .long (lI fb)]))]) rfl)) (mw_get (X := [(y, .inr (7, [.int (iI 0), .ref m1, .ref m2, .ref m3, .int (iI pn), .ref m5, .ref m6, .ref m7, .ref m8, .ref m9, .ref m10, .ref m11, .ref m12, .ref m13, .int (iI rw_), .ref m15, .long (lI fu), .long (lI fb)]))]) hF.1 (k := 0) rfl) rfl, B.pre _⟩ rfl rfl hl.1 rfl (lv_room (Nat.le_of_ble_eq_true rfl)) d_Mo_compare_8 ⟨by rw [hRc]; omega, by rw [hRs]; omega⟩) (fun r8 g8 H locs hw B => ?_)
  obtain ⟨rfl, rfl⟩ := hw
  have B : Wb D vwCl (TY cs) L (mw f [(y, .inr (7, [.int (iI 0), .ref m1, .ref m2, .ref m3, .int (iI pn), .ref m5, .ref m6, .ref m7, .ref m8, .ref m9, .ref m10, .ref m11, .ref m12, .ref m13, .int (iI rw_), .ref m15, .long (lI fu), .long (lI fb)]))]) (AL L s.heap.size) s H _ := B
  refine x_if_eq (tgt := 42) hx hb d_Mo_compare_11 (by decide) (by omega) (fun h11 => ?_) (fun h11 => ?_)
  · refine x_bipush hx hb d_Mo_compare_42 (by decide) ?_
    subst hQ hav
    exact x_iret hx hb hr hlocks B d_Mo_compare_44 (⟨rfl, rfl⟩)
  · exfalso; omega
