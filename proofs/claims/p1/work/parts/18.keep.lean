theorem d_RR_keepWide_0 : decode prog_1_method_25_code 0 = .ok (.aload_n 0, 1) := by decide +kernel
theorem d_RR_keepWide_1 : decode prog_1_method_25_code 1 = .ok (.getfield 15, 3) := by decide +kernel
theorem d_RR_keepWide_4 : decode prog_1_method_25_code 4 = .ok (.bipush 12, 2) := by decide +kernel
theorem d_RR_keepWide_6 : decode prog_1_method_25_code 6 = .ok (.if_icmp .lt 6, 3) := by decide +kernel
theorem d_RR_keepWide_9 : decode prog_1_method_25_code 9 = .ok (.bipush (-4), 2) := by decide +kernel
theorem d_RR_keepWide_11 : decode prog_1_method_25_code 11 = .ok (.ireturn, 1) := by decide +kernel
theorem d_RR_keepWide_12 : decode prog_1_method_25_code 12 = .ok (.iconst 0, 1) := by decide +kernel
theorem d_RR_keepWide_13 : decode prog_1_method_25_code 13 = .ok (.istore_n 1, 1) := by decide +kernel
theorem d_RR_keepWide_14 : decode prog_1_method_25_code 14 = .ok (.iload_n 1, 1) := by decide +kernel
theorem d_RR_keepWide_15 : decode prog_1_method_25_code 15 = .ok (.aload_n 0, 1) := by decide +kernel
theorem d_RR_keepWide_16 : decode prog_1_method_25_code 16 = .ok (.getfield 40, 3) := by decide +kernel
theorem d_RR_keepWide_19 : decode prog_1_method_25_code 19 = .ok (.arraylength, 1) := by decide +kernel
theorem d_RR_keepWide_20 : decode prog_1_method_25_code 20 = .ok (.if_icmp .ge 49, 3) := by decide +kernel
theorem d_RR_keepWide_23 : decode prog_1_method_25_code 23 = .ok (.iload_n 1, 1) := by decide +kernel
theorem d_RR_keepWide_24 : decode prog_1_method_25_code 24 = .ok (.bipush 6, 2) := by decide +kernel
theorem d_RR_keepWide_26 : decode prog_1_method_25_code 26 = .ok (.if_icmp .ge 9, 3) := by decide +kernel
theorem d_RR_keepWide_29 : decode prog_1_method_25_code 29 = .ok (.ldc2_w 244, 3) := by decide +kernel
theorem d_RR_keepWide_32 : decode prog_1_method_25_code 32 = .ok (.goto 4, 3) := by decide +kernel
theorem d_RR_keepWide_35 : decode prog_1_method_25_code 35 = .ok (.lconst 0, 1) := by decide +kernel
theorem d_RR_keepWide_36 : decode prog_1_method_25_code 36 = .ok (.lstore_n 2, 1) := by decide +kernel
theorem d_RR_keepWide_37 : decode prog_1_method_25_code 37 = .ok (.aload_n 0, 1) := by decide +kernel
theorem d_RR_keepWide_38 : decode prog_1_method_25_code 38 = .ok (.getfield 40, 3) := by decide +kernel
theorem d_RR_keepWide_41 : decode prog_1_method_25_code 41 = .ok (.iload_n 1, 1) := by decide +kernel
theorem d_RR_keepWide_42 : decode prog_1_method_25_code 42 = .ok (.laload, 1) := by decide +kernel
theorem d_RR_keepWide_43 : decode prog_1_method_25_code 43 = .ok (.lload_n 2, 1) := by decide +kernel
theorem d_RR_keepWide_44 : decode prog_1_method_25_code 44 = .ok (.lneg, 1) := by decide +kernel
theorem d_RR_keepWide_45 : decode prog_1_method_25_code 45 = .ok (.lcmp, 1) := by decide +kernel
theorem d_RR_keepWide_46 : decode prog_1_method_25_code 46 = .ok (.ifCond .lt 14, 3) := by decide +kernel
theorem d_RR_keepWide_49 : decode prog_1_method_25_code 49 = .ok (.aload_n 0, 1) := by decide +kernel
theorem d_RR_keepWide_50 : decode prog_1_method_25_code 50 = .ok (.getfield 40, 3) := by decide +kernel
theorem d_RR_keepWide_53 : decode prog_1_method_25_code 53 = .ok (.iload_n 1, 1) := by decide +kernel
theorem d_RR_keepWide_54 : decode prog_1_method_25_code 54 = .ok (.laload, 1) := by decide +kernel
theorem d_RR_keepWide_55 : decode prog_1_method_25_code 55 = .ok (.lload_n 2, 1) := by decide +kernel
theorem d_RR_keepWide_56 : decode prog_1_method_25_code 56 = .ok (.lcmp, 1) := by decide +kernel
theorem d_RR_keepWide_57 : decode prog_1_method_25_code 57 = .ok (.ifCond .le 6, 3) := by decide +kernel
theorem d_RR_keepWide_60 : decode prog_1_method_25_code 60 = .ok (.bipush (-4), 2) := by decide +kernel
theorem d_RR_keepWide_62 : decode prog_1_method_25_code 62 = .ok (.ireturn, 1) := by decide +kernel
theorem d_RR_keepWide_63 : decode prog_1_method_25_code 63 = .ok (.iinc 1 1, 3) := by decide +kernel
theorem d_RR_keepWide_66 : decode prog_1_method_25_code 66 = .ok (.goto (-52), 3) := by decide +kernel
theorem d_RR_keepWide_69 : decode prog_1_method_25_code 69 = .ok (.aload_n 0, 1) := by decide +kernel
theorem d_RR_keepWide_70 : decode prog_1_method_25_code 70 = .ok (.getfield 11, 3) := by decide +kernel
theorem d_RR_keepWide_73 : decode prog_1_method_25_code 73 = .ok (.aload_n 0, 1) := by decide +kernel
theorem d_RR_keepWide_74 : decode prog_1_method_25_code 74 = .ok (.getfield 15, 3) := by decide +kernel
theorem d_RR_keepWide_77 : decode prog_1_method_25_code 77 = .ok (.aaload, 1) := by decide +kernel
theorem d_RR_keepWide_78 : decode prog_1_method_25_code 78 = .ok (.astore_n 1, 1) := by decide +kernel
theorem d_RR_keepWide_79 : decode prog_1_method_25_code 79 = .ok (.aload_n 0, 1) := by decide +kernel
theorem d_RR_keepWide_80 : decode prog_1_method_25_code 80 = .ok (.aload_n 1, 1) := by decide +kernel
theorem d_RR_keepWide_81 : decode prog_1_method_25_code 81 = .ok (.getfield 82, 3) := by decide +kernel
theorem d_RR_keepWide_84 : decode prog_1_method_25_code 84 = .ok (.invokevirtual 246, 3) := by decide +kernel
theorem d_RR_keepWide_87 : decode prog_1_method_25_code 87 = .ok (.aload_n 1, 1) := by decide +kernel
theorem d_RR_keepWide_88 : decode prog_1_method_25_code 88 = .ok (.iconst 0, 1) := by decide +kernel
theorem d_RR_keepWide_89 : decode prog_1_method_25_code 89 = .ok (.putfield 85, 3) := by decide +kernel
theorem d_RR_keepWide_92 : decode prog_1_method_25_code 92 = .ok (.aload_n 0, 1) := by decide +kernel
theorem d_RR_keepWide_93 : decode prog_1_method_25_code 93 = .ok (.iconst 0, 1) := by decide +kernel
theorem d_RR_keepWide_94 : decode prog_1_method_25_code 94 = .ok (.putfield 66, 3) := by decide +kernel
theorem d_RR_keepWide_97 : decode prog_1_method_25_code 97 = .ok (.aload_n 0, 1) := by decide +kernel
theorem d_RR_keepWide_98 : decode prog_1_method_25_code 98 = .ok (.dup, 1) := by decide +kernel
theorem d_RR_keepWide_99 : decode prog_1_method_25_code 99 = .ok (.getfield 15, 3) := by decide +kernel
theorem d_RR_keepWide_102 : decode prog_1_method_25_code 102 = .ok (.iconst 1, 1) := by decide +kernel
theorem d_RR_keepWide_103 : decode prog_1_method_25_code 103 = .ok (.iadd, 1) := by decide +kernel
theorem d_RR_keepWide_104 : decode prog_1_method_25_code 104 = .ok (.putfield 15, 3) := by decide +kernel
theorem d_RR_keepWide_107 : decode prog_1_method_25_code 107 = .ok (.aload_n 0, 1) := by decide +kernel
theorem d_RR_keepWide_108 : decode prog_1_method_25_code 108 = .ok (.getfield 15, 3) := by decide +kernel
theorem d_RR_keepWide_111 : decode prog_1_method_25_code 111 = .ok (.iconst 1, 1) := by decide +kernel
theorem d_RR_keepWide_112 : decode prog_1_method_25_code 112 = .ok (.isub, 1) := by decide +kernel
theorem d_RR_keepWide_113 : decode prog_1_method_25_code 113 = .ok (.ireturn, 1) := by decide +kernel
set_option maxHeartbeats 8000000 in
set_option maxRecDepth 100000 in
theorem c_RR_keepWide (l : Launch) (D : va_G) (cs : Nat → ClassId) (L : List Nat) (f : Nat → va_E) (sz : Nat) (x c0 c2 c3 c4 c5 c6 c7 c8 c9 c10 c11 : Nat) (hd ll ln : Int) (cv vv fr pa : Nat) (gc : Nat → Option Nat) (w v : Nat → Int) (se mn : Int) (hF : Fc L [c0, c5, x, cv, vv]) (ha : f x = .inr (6, [.ref c0, .int (iI hd), .ref c2, .ref c3, .ref c4, .ref c5, .ref c6, .ref c7, .ref c8, .ref c9, .ref c10, .ref c11, .int (iI ll), .int (iI ln)])) (hhd : 0 ≤ hd ∧ hd ≤ 12) (hlt : hd < 12) (hc : f c0 = .inl (cs 4, 12, .inr (.inr (.inr (.inr gc))))) (hw : f c5 = .inl (cs 1, 12, .inr (.inl (al w)))) (hwr : ∀ j, -9223372036854775808 ≤ w j ∧ w j < 9223372036854775808) (hcv : f cv = .inr (2, [.ref vv, .ref fr, .ref pa, .int (iI se), .int (iI mn)])) (hgc : gc hd.toNat = some cv) (hv : f vv = .inl (cs 0, 6, .inl (ai v))) : Met l (⟨"RealRoots", "keepWide", "()I"⟩ : MethodName) (.code (⟨"RealRoots", "keepWide", "()I"⟩ : MethodName) prog_1_method_25_code 4 (Option.some Jvm.ClassFile.FieldType.int) :: gw) ({ frames := 1, cells := 0, slots := 0, locals := 22 }) (va_Pc [.ref x] (K0 D vwCl (TY cs) L f sz)) (va_Qi (fun (r : Int32) (g : Nat → va_E) => ((∀ j, j < 12 → inb j (w j)) → r = iI hd ∧ g = mw f [(x, .inr (6, [.ref c0, .int (iI (hd + 1)), .ref c2, .ref c3, .ref c4, .ref c5, .ref c6, .ref c7, .ref c8, .ref c9, .ref c10, .ref c11, .int (iI ll), .int (iI 0)])), (cv, .inr (2, [.ref vv, .ref fr, .ref pa, .int (iI 0), .int (iI mn)])), (vv, .inl (cs 0, 6, .inl (ai (cf 6 w v))))]) ∧ (¬ (∀ j, j < 12 → inb j (w j)) → r = iI (-4) ∧ g = f)) (K1 D vwCl (TY cs) (AL L sz) L) (AL L sz)) 0 0 (AL L sz) := by
  refine Met.ofW (cc := prog_1_method_25_code) (maxL := 4) (ret := (Option.some Jvm.ClassFile.FieldType.int)) (by decide) rfl ?_
  intro p e s m args below meth c s₁ Bd hml hv
  obtain ⟨rfl, hk0⟩ := hv
  obtain ⟨hsz, B⟩ := hk0.start
  subst hsz
  have hx := Bd.exec
  have hb := Bd.bytes
  have hr := Bd.returns
  have hlocks := Bd.notSynchronized
  have hts0 := atoms_spec Bd.pre
  have hown : s.vm.findClass RX6 = some m.cls := findClass_of_methodNamed Bd.named
  have hA : ∀ q, s.heap.size ≤ q → AL L s.heap.size q := fun _ h => Or.inr h
  have hl := lv_entry ([.ref x]) (n := 4) (Nat.le_of_ble_eq_true rfl)
  rw [lg_entry_eq]
  generalize (lg_sl ([.ref x]) ++ List.replicate (4 - (lg_sl ([.ref x])).length) Slot.unset).toArray = ls at hl ⊢
  refine absQ (fun Q R av hQ hR hav => ?_)
  have hts : ∀ w ∈ gw, w.before av s = true := by rw [hav]; exact fun w h => hts0 w (List.mem_cons_of_mem _ h)
  have hRf : R.frames = 1 := by rw [hR]; rfl
  have hRl : R.locals = 22 := by rw [hR]; rfl
  have hRc : R.cells = 0 := by rw [hR]; rfl
  have hRs : R.slots = 0 := by rw [hR]; rfl
  clear hR hts0 Bd
  have hl : lv_has ls 4 [(0, .ref x)] := hl
  have hfx : ∀ q ∈ ([(c0, .inl (cs 4, 12, .inr (.inr (.inr (.inr gc))))), (c5, .inl (cs 1, 12, .inr (.inl (al w)))), (x, .inr (6, [.ref c0, .int (iI hd), .ref c2, .ref c3, .ref c4, .ref c5, .ref c6, .ref c7, .ref c8, .ref c9, .ref c10, .ref c11, .int (iI ll), .int (iI ln)])), (cv, .inr (2, [.ref vv, .ref fr, .ref pa, .int (iI se), .int (iI mn)])), (vv, .inl (cs 0, 6, .inl (ai v)))] : List (Nat × va_E)), f q.1 = q.2 := fun q hq => by
    simp only [List.mem_cons, List.not_mem_nil, or_false] at hq
    rcases hq with rfl | rfl | rfl | rfl | rfl
    · exact hc
    · exact hw
    · exact ha
    · exact hcv
    · exact hv
  have hmw : mw f [(c0, .inl (cs 4, 12, .inr (.inr (.inr (.inr gc))))), (c5, .inl (cs 1, 12, .inr (.inl (al w)))), (x, .inr (6, [.ref c0, .int (iI hd), .ref c2, .ref c3, .ref c4, .ref c5, .ref c6, .ref c7, .ref c8, .ref c9, .ref c10, .ref c11, .int (iI ll), .int (iI ln)])), (cv, .inr (2, [.ref vv, .ref fr, .ref pa, .int (iI se), .int (iI mn)])), (vv, .inl (cs 0, 6, .inl (ai v)))] = f := mw_self (fun k a e hk => hfx (a, e) (List.mem_of_getElem? hk))
  have B := B.focus [(c0, .inl (cs 4, 12, .inr (.inr (.inr (.inr gc))))), (c5, .inl (cs 1, 12, .inr (.inl (al w)))), (x, .inr (6, [.ref c0, .int (iI hd), .ref c2, .ref c3, .ref c4, .ref c5, .ref c6, .ref c7, .ref c8, .ref c9, .ref c10, .ref c11, .int (iI ll), .int (iI ln)])), (cv, .inr (2, [.ref vv, .ref fr, .ref pa, .int (iI se), .int (iI mn)])), (vv, .inl (cs 0, 6, .inl (ai v)))] hfx
  refine lv_aload_n hx hb d_RR_keepWide_0 rfl (lv_at hl 0 rfl) ?_
  refine x_get (C := RX6) (T := TX6) (N := 14) hx hb hts inX6 hown B hF 2 rfl rfl 1 (by decide) (hts _ w_198) (fun _ h9 => h9) rfl d_RR_keepWide_1 ?_
  refine x_bipush hx hb d_RR_keepWide_4 (by decide) ?_
  refine x_icmp_lt (tgt := 12) hx hb d_RR_keepWide_6 (by decide) (by omega) (by omega) (fun h6 => ?_) (fun h6 => ?_)
  · refine x_iconst hx hb d_RR_keepWide_12 ?_
    refine lv_istore_n (lv' := [(1, .int (iI 0)), (0, .ref x)]) hx hb d_RR_keepWide_13 rfl hl (by decide) rfl (fun ls hl => ?_)
    have LOOP : ∀ (n : Nat) (k : Int), 0 ≤ k → k + n = 12 → (∀ j : Nat, (j : Int) < k → inb j (w j)) → ∀ (H : Heap) (locs : List Loc) (ls : Array Slot), Wb D vwCl (TY cs) L (mw f [(c0, .inl (cs 4, 12, .inr (.inr (.inr (.inr gc))))), (c5, .inl (cs 1, 12, .inr (.inl (al w)))), (x, .inr (6, [.ref c0, .int (iI hd), .ref c2, .ref c3, .ref c4, .ref c5, .ref c6, .ref c7, .ref c8, .ref c9, .ref c10, .ref c11, .int (iI ll), .int (iI ln)])), (cv, .inr (2, [.ref vv, .ref fr, .ref pa, .int (iI se), .int (iI mn)])), (vv, .inl (cs 0, 6, .inl (ai v)))]) (AL L s.heap.size) s H locs → lv_has ls 4 [(1, .int (iI k)), (0, .ref x)] → W p l e R s m av below meth c H locs (0) (0) Q (F0 m 14 ls []) := by
      intro n
      induction n with
      | zero =>
        intro k hk0 hkn hin H locs ls B hl
        have hke : k = 12 := by omega
        refine lv_iload_n hx hb d_RR_keepWide_14 rfl (lv_at hl 0 rfl) ?_
        refine lv_aload_n hx hb d_RR_keepWide_15 rfl (lv_at hl 1 rfl) ?_
        refine x_get (C := RX6) (T := TX6) (N := 14) hx hb hts inX6 hown B hF 2 rfl rfl 5 (by decide) (hts _ w_202) (fun _ h9 => h9) rfl d_RR_keepWide_16 ?_
        refine x_alen hx hb B hF 1 1 rfl rfl d_RR_keepWide_19 ?_
        refine x_icmp_ge (tgt := 69) hx hb d_RR_keepWide_20 (by decide) (by omega) (by omega) (fun h20 => ?_) (fun h20 => ?_)
        · refine lv_aload_n hx hb d_RR_keepWide_69 rfl (lv_at hl 1 rfl) ?_
          refine x_get (C := RX6) (T := TX6) (N := 14) hx hb hts inX6 hown B hF 2 rfl rfl 0 (by decide) (hts _ w_197) (fun _ h9 => h9) rfl d_RR_keepWide_70 ?_
          refine lv_aload_n hx hb d_RR_keepWide_73 rfl (lv_at hl 1 rfl) ?_
          refine x_get (C := RX6) (T := TX6) (N := 14) hx hb hts inX6 hown B hF 2 rfl rfl 1 (by decide) (hts _ w_198) (fun _ h9 => h9) rfl d_RR_keepWide_74 ?_
          refine x_aald hx hb B hF 0 4 rfl rfl hd.toNat (by omega) (by omega) (by decide) (hgc) d_RR_keepWide_77 ?_
          refine lv_astore_n (lv' := [(1, .ref cv), (0, .ref x)]) hx hb d_RR_keepWide_78 rfl hl (by decide) rfl (fun ls hl => ?_)
          refine lv_aload_n hx hb d_RR_keepWide_79 rfl (lv_at hl 1 rfl) ?_
          refine lv_aload_n hx hb d_RR_keepWide_80 rfl (lv_at hl 0 rfl) ?_
          refine x_get (C := RX2) (T := TX2) (N := 5) hx hb hts inX2 hown B hF 3 rfl rfl 0 (by decide) (hts _ w_177) (fun _ h9 => h9) rfl d_RR_keepWide_81 ?_
          refine x_callv B hA (va_runV (As := [.ref vv]) (rest := []) ⟨hx, hb, hml, hown, hts⟩ (c_RR_narrow l D cs _ _ _ x c0 c2 c3 c4 c5 c6 c7 c8 c9 c10 c11 hd ll ln vv w v ⟨by have h1 := hF.1; simp only [List.nodup_cons, List.mem_cons, List.not_mem_nil, or_false, not_or, List.nodup_nil, not_false_eq_true, and_true] at h1 ⊢; omega, fun x hx => hF.2 x (by simp only [List.mem_cons, List.not_mem_nil, or_false] at hx ⊢; omega)⟩ (mw_get (X := [(c0, .inl (cs 4, 12, .inr (.inr (.inr (.inr gc))))), (c5, .inl (cs 1, 12, .inr (.inl (al w)))), (x, .inr (6, [.ref c0, .int (iI hd), .ref c2, .ref c3, .ref c4, .ref c5, .ref c6, .ref c7, .ref c8, .ref c9, .ref c10, .ref c11, .int (iI ll), .int (iI ln)])), (cv, .inr (2, [.ref vv, .ref fr, .ref pa, .int (iI se), .int (iI mn)])), (vv, .inl (cs 0, 6, .inl (ai v)))]) hF.1 (k := 2) rfl) hhd (mw_get (X := [(c0, .inl (cs 4, 12, .inr (.inr (.inr (.inr gc))))), (c5, .inl (cs 1, 12, .inr (.inl (al w)))), (x, .inr (6, [.ref c0, .int (iI hd), .ref c2, .ref c3, .ref c4, .ref c5, .ref c6, .ref c7, .ref c8, .ref c9, .ref c10, .ref c11, .int (iI ll), .int (iI ln)])), (cv, .inr (2, [.ref vv, .ref fr, .ref pa, .int (iI se), .int (iI mn)])), (vv, .inl (cs 0, 6, .inl (ai v)))]) hF.1 (k := 1) rfl) (mw_get (X := [(c0, .inl (cs 4, 12, .inr (.inr (.inr (.inr gc))))), (c5, .inl (cs 1, 12, .inr (.inl (al w)))), (x, .inr (6, [.ref c0, .int (iI hd), .ref c2, .ref c3, .ref c4, .ref c5, .ref c6, .ref c7, .ref c8, .ref c9, .ref c10, .ref c11, .int (iI ll), .int (iI ln)])), (cv, .inr (2, [.ref vv, .ref fr, .ref pa, .int (iI se), .int (iI mn)])), (vv, .inl (cs 0, 6, .inl (ai v)))]) hF.1 (k := 4) rfl)) (cwV 1 hts (gw_V w_253 w_255 s_2 w_1 w_256) rfl rfl rfl (by decide +kernel) ⟨by rw [hRf]; exact Nat.le_of_ble_eq_true rfl, by rw [hRl]; exact Nat.le_of_ble_eq_true rfl⟩) ⟨K0.blind, B.recv (hF.2 _ (mw_key (k := 2) (X := [(c0, .inl (cs 4, 12, .inr (.inr (.inr (.inr gc))))), (c5, .inl (cs 1, 12, .inr (.inl (al w)))), (x, .inr (6, [.ref c0, .int (iI hd), .ref c2, .ref c3, .ref c4, .ref c5, .ref c6, .ref c7, .ref c8, .ref c9, .ref c10, .ref c11, .int (iI ll), .int (iI ln)])), (cv, .inr (2, [.ref vv, .ref fr, .ref pa, .int (iI se), .int (iI mn)])), (vv, .inl (cs 0, 6, .inl (ai v)))]) rfl)) (mw_get (X := [(c0, .inl (cs 4, 12, .inr (.inr (.inr (.inr gc))))), (c5, .inl (cs 1, 12, .inr (.inl (al w)))), (x, .inr (6, [.ref c0, .int (iI hd), .ref c2, .ref c3, .ref c4, .ref c5, .ref c6, .ref c7, .ref c8, .ref c9, .ref c10, .ref c11, .int (iI ll), .int (iI ln)])), (cv, .inr (2, [.ref vv, .ref fr, .ref pa, .int (iI se), .int (iI mn)])), (vv, .inl (cs 0, 6, .inl (ai v)))]) hF.1 (k := 2) rfl) rfl, B.pre _⟩ rfl rfl hl.1 rfl (lv_room (Nat.le_of_ble_eq_true rfl)) d_RR_keepWide_84 ⟨by rw [hRc]; omega, by rw [hRs]; omega⟩) (fun g84 H locs hw B => ?_)
          subst hw
          have B := B.of_eq (mw_put (X := [(c0, .inl (cs 4, 12, .inr (.inr (.inr (.inr gc))))), (c5, .inl (cs 1, 12, .inr (.inl (al w)))), (x, .inr (6, [.ref c0, .int (iI hd), .ref c2, .ref c3, .ref c4, .ref c5, .ref c6, .ref c7, .ref c8, .ref c9, .ref c10, .ref c11, .int (iI ll), .int (iI ln)])), (cv, .inr (2, [.ref vv, .ref fr, .ref pa, .int (iI se), .int (iI mn)])), (vv, .inl (cs 0, 6, .inl (ai v)))]) hF.1 (k := 4) rfl)
          have B : Wb D vwCl (TY cs) L (mw f [(c0, .inl (cs 4, 12, .inr (.inr (.inr (.inr gc))))), (c5, .inl (cs 1, 12, .inr (.inl (al w)))), (x, .inr (6, [.ref c0, .int (iI hd), .ref c2, .ref c3, .ref c4, .ref c5, .ref c6, .ref c7, .ref c8, .ref c9, .ref c10, .ref c11, .int (iI ll), .int (iI ln)])), (cv, .inr (2, [.ref vv, .ref fr, .ref pa, .int (iI se), .int (iI mn)])), (vv, .inl (cs 0, 6, .inl (ai (cf 6 w v))))]) (AL L s.heap.size) s H _ := B
          refine lv_aload_n hx hb d_RR_keepWide_87 rfl (lv_at hl 0 rfl) ?_
          refine x_iconst hx hb d_RR_keepWide_88 ?_
          refine x_put (C := RX2) (T := TX2) (N := 5) hx hb hts inX2 tyX2 tyX2_ok nmX2 hown B hF 3 rfl rfl 3 (by decide) (hts _ w_183) (fun _ h9 => h9) rfl (tyX2_ok 3 (by decide)) rfl rfl (Nat.le_of_ble_eq_true rfl) d_RR_keepWide_89 (fun H locs B => ?_)
          have B : Wb D vwCl (TY cs) L (mw f [(c0, .inl (cs 4, 12, .inr (.inr (.inr (.inr gc))))), (c5, .inl (cs 1, 12, .inr (.inl (al w)))), (x, .inr (6, [.ref c0, .int (iI hd), .ref c2, .ref c3, .ref c4, .ref c5, .ref c6, .ref c7, .ref c8, .ref c9, .ref c10, .ref c11, .int (iI ll), .int (iI ln)])), (cv, .inr (2, [.ref vv, .ref fr, .ref pa, .int (iI 0), .int (iI mn)])), (vv, .inl (cs 0, 6, .inl (ai (cf 6 w v))))]) (AL L s.heap.size) s H _ := B
          refine lv_aload_n hx hb d_RR_keepWide_92 rfl (lv_at hl 1 rfl) ?_
          refine x_iconst hx hb d_RR_keepWide_93 ?_
          refine x_put (C := RX6) (T := TX6) (N := 14) hx hb hts inX6 tyX6 tyX6_ok nmX6 hown B hF 2 rfl rfl 13 (by decide) (hts _ w_210) (fun _ h9 => h9) rfl (tyX6_ok 13 (by decide)) rfl rfl (Nat.le_of_ble_eq_true rfl) d_RR_keepWide_94 (fun H locs B => ?_)
          have B : Wb D vwCl (TY cs) L (mw f [(c0, .inl (cs 4, 12, .inr (.inr (.inr (.inr gc))))), (c5, .inl (cs 1, 12, .inr (.inl (al w)))), (x, .inr (6, [.ref c0, .int (iI hd), .ref c2, .ref c3, .ref c4, .ref c5, .ref c6, .ref c7, .ref c8, .ref c9, .ref c10, .ref c11, .int (iI ll), .int (iI 0)])), (cv, .inr (2, [.ref vv, .ref fr, .ref pa, .int (iI 0), .int (iI mn)])), (vv, .inl (cs 0, 6, .inl (ai (cf 6 w v))))]) (AL L s.heap.size) s H _ := B
          refine lv_aload_n hx hb d_RR_keepWide_97 rfl (lv_at hl 1 rfl) ?_
          refine lv_dup hx hb d_RR_keepWide_98 rfl ?_
          refine x_get (C := RX6) (T := TX6) (N := 14) hx hb hts inX6 hown B hF 2 rfl rfl 1 (by decide) (hts _ w_198) (fun _ h9 => h9) rfl d_RR_keepWide_99 ?_
          refine x_iconst hx hb d_RR_keepWide_102 ?_
          refine x_iadd hx hb d_RR_keepWide_103 ?_
          refine x_put (C := RX6) (T := TX6) (N := 14) hx hb hts inX6 tyX6 tyX6_ok nmX6 hown B hF 2 rfl rfl 1 (by decide) (hts _ w_198) (fun _ h9 => h9) rfl (tyX6_ok 1 (by decide)) rfl rfl (Nat.le_of_ble_eq_true rfl) d_RR_keepWide_104 (fun H locs B => ?_)
          have B : Wb D vwCl (TY cs) L (mw f [(c0, .inl (cs 4, 12, .inr (.inr (.inr (.inr gc))))), (c5, .inl (cs 1, 12, .inr (.inl (al w)))), (x, .inr (6, [.ref c0, .int (iI (hd + 1)), .ref c2, .ref c3, .ref c4, .ref c5, .ref c6, .ref c7, .ref c8, .ref c9, .ref c10, .ref c11, .int (iI ll), .int (iI 0)])), (cv, .inr (2, [.ref vv, .ref fr, .ref pa, .int (iI 0), .int (iI mn)])), (vv, .inl (cs 0, 6, .inl (ai (cf 6 w v))))]) (AL L s.heap.size) s H _ := B
          refine lv_aload_n hx hb d_RR_keepWide_107 rfl (lv_at hl 1 rfl) ?_
          refine x_get (C := RX6) (T := TX6) (N := 14) hx hb hts inX6 hown B hF 2 rfl rfl 1 (by decide) (hts _ w_198) (fun _ h9 => h9) rfl d_RR_keepWide_108 ?_
          refine x_iconst hx hb d_RR_keepWide_111 ?_
          refine x_isub hx hb d_RR_keepWide_112 ?_
          subst hQ hav
          exact x_iret hx hb hr hlocks B d_RR_keepWide_113 (⟨fun _ => ⟨by rw [show hd + 1 - 1 = hd by omega], by
        have h1 := List.nodup_cons.mp hF.1
        have h2 := List.nodup_cons.mp h1.2
        refine Eq.trans (mw_drop hc ?_) (mw_drop hw ?_)
        · exact h1.1
        · exact h2.1⟩, fun hn => absurd (fun (j : Nat) (hj : j < 12) => hin j (by omega)) hn⟩)
        · exfalso; omega
      | succ n ih =>
        intro k hk0 hkn hin H locs ls B hl
        refine lv_iload_n hx hb d_RR_keepWide_14 rfl (lv_at hl 0 rfl) ?_
        refine lv_aload_n hx hb d_RR_keepWide_15 rfl (lv_at hl 1 rfl) ?_
        refine x_get (C := RX6) (T := TX6) (N := 14) hx hb hts inX6 hown B hF 2 rfl rfl 5 (by decide) (hts _ w_202) (fun _ h9 => h9) rfl d_RR_keepWide_16 ?_
        refine x_alen hx hb B hF 1 1 rfl rfl d_RR_keepWide_19 ?_
        refine x_icmp_ge (tgt := 69) hx hb d_RR_keepWide_20 (by decide) (by omega) (by omega) (fun h20 => ?_) (fun h20 => ?_)
        · exfalso; omega
        · refine lv_iload_n hx hb d_RR_keepWide_23 rfl (lv_at hl 0 rfl) ?_
          refine x_bipush hx hb d_RR_keepWide_24 (by decide) ?_
          refine x_icmp_ge (tgt := 35) hx hb d_RR_keepWide_26 (by decide) (by omega) (by omega) (fun h26 => ?_) (fun h26 => ?_)
          · refine x_lconst (z := 0) hx hb d_RR_keepWide_35 (by decide) ?_
            refine lv_lstore_n (lv' := [(2, .long (lI 0)), (1, .int (iI k)), (0, .ref x)]) hx hb d_RR_keepWide_36 rfl hl (by decide) rfl (fun ls hl => ?_)
            refine lv_aload_n hx hb d_RR_keepWide_37 rfl (lv_at hl 2 rfl) ?_
            refine x_get (C := RX6) (T := TX6) (N := 14) hx hb hts inX6 hown B hF 2 rfl rfl 5 (by decide) (hts _ w_202) (fun _ h9 => h9) rfl d_RR_keepWide_38 ?_
            refine lv_iload_n hx hb d_RR_keepWide_41 rfl (lv_at hl 1 rfl) ?_
            refine x_lald hx hb B hF 1 1 rfl rfl k.toNat (by omega) (by omega) (by decide) d_RR_keepWide_42 ?_
            refine lv_lload_n hx hb d_RR_keepWide_43 rfl (lv_at hl 0 rfl) ?_
            refine x_lneg hx hb d_RR_keepWide_44 ?_
            refine x_lc_lt (tgt := 60) hx hb d_RR_keepWide_45 rfl d_RR_keepWide_46 (by decide) (by have := hwr k.toNat; omega) (by omega) (fun h46 => ?_) (fun h46 => ?_)
            · refine x_bipush hx hb d_RR_keepWide_60 (by decide) ?_
              have B := B.of_eq hmw
              subst hQ hav
              exact x_iret hx hb hr hlocks B d_RR_keepWide_62 (⟨fun hg => absurd (hg k.toNat (by omega)) (by
          unfold inb
          have := hwr k.toNat
          first | (rw [if_pos (by omega)]; omega) | (rw [if_neg (by omega)]; omega)), fun _ => ⟨rfl, rfl⟩⟩)
            · refine lv_aload_n hx hb d_RR_keepWide_49 rfl (lv_at hl 2 rfl) ?_
              refine x_get (C := RX6) (T := TX6) (N := 14) hx hb hts inX6 hown B hF 2 rfl rfl 5 (by decide) (hts _ w_202) (fun _ h9 => h9) rfl d_RR_keepWide_50 ?_
              refine lv_iload_n hx hb d_RR_keepWide_53 rfl (lv_at hl 1 rfl) ?_
              refine x_lald hx hb B hF 1 1 rfl rfl k.toNat (by omega) (by omega) (by decide) d_RR_keepWide_54 ?_
              refine lv_lload_n hx hb d_RR_keepWide_55 rfl (lv_at hl 0 rfl) ?_
              refine x_lc_le (tgt := 63) hx hb d_RR_keepWide_56 rfl d_RR_keepWide_57 (by decide) (by have := hwr k.toNat; omega) (by omega) (fun h57 => ?_) (fun h57 => ?_)
              · refine x_iinc (lv' := [(1, .int (iI (k + 1))), (2, .long (lI 0)), (0, .ref x)]) hx hb d_RR_keepWide_63 hl (q := 1) rfl rfl (by decide) rfl (fun ls hl => ?_)
                refine lv_goto (tgt := 14) hx hb d_RR_keepWide_66 (by decide) ?_
                exact ih (k + 1) (by omega) (by omega) (fun j hj => by
        by_cases hjk : (j : Int) < k
        · exact hin j hjk
        · have hj2 : j = k.toNat := by omega
          subst hj2
          unfold inb
          first | (rw [if_pos (by omega)]; omega) | (rw [if_neg (by omega)]; omega)) _ _ _ B (lv_sub hl [0, 2] rfl)
              · refine x_bipush hx hb d_RR_keepWide_60 (by decide) ?_
                have B := B.of_eq hmw
                subst hQ hav
                exact x_iret hx hb hr hlocks B d_RR_keepWide_62 (⟨fun hg => absurd (hg k.toNat (by omega)) (by
          unfold inb
          have := hwr k.toNat
          first | (rw [if_pos (by omega)]; omega) | (rw [if_neg (by omega)]; omega)), fun _ => ⟨rfl, rfl⟩⟩)
          · refine x_ldc2 (z := 1000) hx hb hown (hts _ w_252) (by decide) d_RR_keepWide_29 ?_
            refine lv_goto (tgt := 36) hx hb d_RR_keepWide_32 (by decide) ?_
            refine lv_lstore_n (lv' := [(2, .long (lI 1000)), (1, .int (iI k)), (0, .ref x)]) hx hb d_RR_keepWide_36 rfl hl (by decide) rfl (fun ls hl => ?_)
            refine lv_aload_n hx hb d_RR_keepWide_37 rfl (lv_at hl 2 rfl) ?_
            refine x_get (C := RX6) (T := TX6) (N := 14) hx hb hts inX6 hown B hF 2 rfl rfl 5 (by decide) (hts _ w_202) (fun _ h9 => h9) rfl d_RR_keepWide_38 ?_
            refine lv_iload_n hx hb d_RR_keepWide_41 rfl (lv_at hl 1 rfl) ?_
            refine x_lald hx hb B hF 1 1 rfl rfl k.toNat (by omega) (by omega) (by decide) d_RR_keepWide_42 ?_
            refine lv_lload_n hx hb d_RR_keepWide_43 rfl (lv_at hl 0 rfl) ?_
            refine x_lneg hx hb d_RR_keepWide_44 ?_
            refine x_lc_lt (tgt := 60) hx hb d_RR_keepWide_45 rfl d_RR_keepWide_46 (by decide) (by have := hwr k.toNat; omega) (by omega) (fun h46 => ?_) (fun h46 => ?_)
            · refine x_bipush hx hb d_RR_keepWide_60 (by decide) ?_
              have B := B.of_eq hmw
              subst hQ hav
              exact x_iret hx hb hr hlocks B d_RR_keepWide_62 (⟨fun hg => absurd (hg k.toNat (by omega)) (by
          unfold inb
          have := hwr k.toNat
          first | (rw [if_pos (by omega)]; omega) | (rw [if_neg (by omega)]; omega)), fun _ => ⟨rfl, rfl⟩⟩)
            · refine lv_aload_n hx hb d_RR_keepWide_49 rfl (lv_at hl 2 rfl) ?_
              refine x_get (C := RX6) (T := TX6) (N := 14) hx hb hts inX6 hown B hF 2 rfl rfl 5 (by decide) (hts _ w_202) (fun _ h9 => h9) rfl d_RR_keepWide_50 ?_
              refine lv_iload_n hx hb d_RR_keepWide_53 rfl (lv_at hl 1 rfl) ?_
              refine x_lald hx hb B hF 1 1 rfl rfl k.toNat (by omega) (by omega) (by decide) d_RR_keepWide_54 ?_
              refine lv_lload_n hx hb d_RR_keepWide_55 rfl (lv_at hl 0 rfl) ?_
              refine x_lc_le (tgt := 63) hx hb d_RR_keepWide_56 rfl d_RR_keepWide_57 (by decide) (by have := hwr k.toNat; omega) (by omega) (fun h57 => ?_) (fun h57 => ?_)
              · refine x_iinc (lv' := [(1, .int (iI (k + 1))), (2, .long (lI 1000)), (0, .ref x)]) hx hb d_RR_keepWide_63 hl (q := 1) rfl rfl (by decide) rfl (fun ls hl => ?_)
                refine lv_goto (tgt := 14) hx hb d_RR_keepWide_66 (by decide) ?_
                exact ih (k + 1) (by omega) (by omega) (fun j hj => by
        by_cases hjk : (j : Int) < k
        · exact hin j hjk
        · have hj2 : j = k.toNat := by omega
          subst hj2
          unfold inb
          first | (rw [if_pos (by omega)]; omega) | (rw [if_neg (by omega)]; omega)) _ _ _ B (lv_sub hl [0, 2] rfl)
              · refine x_bipush hx hb d_RR_keepWide_60 (by decide) ?_
                have B := B.of_eq hmw
                subst hQ hav
                exact x_iret hx hb hr hlocks B d_RR_keepWide_62 (⟨fun hg => absurd (hg k.toNat (by omega)) (by
          unfold inb
          have := hwr k.toNat
          first | (rw [if_pos (by omega)]; omega) | (rw [if_neg (by omega)]; omega)), fun _ => ⟨rfl, rfl⟩⟩)
    have B := B.of_eq (show mw f [(c0, .inl (cs 4, 12, .inr (.inr (.inr (.inr gc))))), (c5, .inl (cs 1, 12, .inr (.inl (al w)))), (x, .inr (6, [.ref c0, .int (iI hd), .ref c2, .ref c3, .ref c4, .ref c5, .ref c6, .ref c7, .ref c8, .ref c9, .ref c10, .ref c11, .int (iI ll), .int (iI ln)])), (cv, .inr (2, [.ref vv, .ref fr, .ref pa, .int (iI se), .int (iI mn)])), (vv, .inl (cs 0, 6, .inl (ai v)))] = mw f [(c0, .inl (cs 4, 12, .inr (.inr (.inr (.inr gc))))), (c5, .inl (cs 1, 12, .inr (.inl (al w)))), (x, .inr (6, [.ref c0, .int (iI hd), .ref c2, .ref c3, .ref c4, .ref c5, .ref c6, .ref c7, .ref c8, .ref c9, .ref c10, .ref c11, .int (iI ll), .int (iI ln)])), (cv, .inr (2, [.ref vv, .ref fr, .ref pa, .int (iI se), .int (iI mn)])), (vv, .inl (cs 0, 6, .inl (ai v)))] by rfl)
    exact LOOP 12 0 (by omega) (by omega) (fun j hj => absurd hj (by omega)) _ _ _ B (lv_sub hl [0, 1] rfl)
  · exfalso; omega
