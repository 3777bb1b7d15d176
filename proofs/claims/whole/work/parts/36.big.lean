theorem d_Big_shiftDown_0 : decode prog_2_method_9_code 0 = .ok (.iload_n 1, 1) := by decide +kernel
theorem d_Big_shiftDown_1 : decode prog_2_method_9_code 1 = .ok (.ifCond .ge 7, 3) := by decide +kernel
theorem d_Big_shiftDown_4 : decode prog_2_method_9_code 4 = .ok (.iconst 0, 1) := by decide +kernel
theorem d_Big_shiftDown_5 : decode prog_2_method_9_code 5 = .ok (.goto 7, 3) := by decide +kernel
theorem d_Big_shiftDown_8 : decode prog_2_method_9_code 8 = .ok (.iload_n 1, 1) := by decide +kernel
theorem d_Big_shiftDown_9 : decode prog_2_method_9_code 9 = .ok (.bipush 31, 2) := by decide +kernel
theorem d_Big_shiftDown_11 : decode prog_2_method_9_code 11 = .ok (.idiv, 1) := by decide +kernel
theorem d_Big_shiftDown_12 : decode prog_2_method_9_code 12 = .ok (.istore_n 2, 1) := by decide +kernel
theorem d_Big_shiftDown_13 : decode prog_2_method_9_code 13 = .ok (.iload_n 1, 1) := by decide +kernel
theorem d_Big_shiftDown_14 : decode prog_2_method_9_code 14 = .ok (.ifCond .ge 7, 3) := by decide +kernel
theorem d_Big_shiftDown_17 : decode prog_2_method_9_code 17 = .ok (.iconst 0, 1) := by decide +kernel
theorem d_Big_shiftDown_18 : decode prog_2_method_9_code 18 = .ok (.goto 7, 3) := by decide +kernel
theorem d_Big_shiftDown_21 : decode prog_2_method_9_code 21 = .ok (.iload_n 1, 1) := by decide +kernel
theorem d_Big_shiftDown_22 : decode prog_2_method_9_code 22 = .ok (.bipush 31, 2) := by decide +kernel
theorem d_Big_shiftDown_24 : decode prog_2_method_9_code 24 = .ok (.irem, 1) := by decide +kernel
theorem d_Big_shiftDown_25 : decode prog_2_method_9_code 25 = .ok (.istore_n 3, 1) := by decide +kernel
theorem d_Big_shiftDown_26 : decode prog_2_method_9_code 26 = .ok (.aload_n 0, 1) := by decide +kernel
theorem d_Big_shiftDown_27 : decode prog_2_method_9_code 27 = .ok (.getfield 13, 3) := by decide +kernel
theorem d_Big_shiftDown_30 : decode prog_2_method_9_code 30 = .ok (.iload_n 2, 1) := by decide +kernel
theorem d_Big_shiftDown_31 : decode prog_2_method_9_code 31 = .ok (.if_icmp .le 12, 3) := by decide +kernel
theorem d_Big_shiftDown_34 : decode prog_2_method_9_code 34 = .ok (.aload_n 0, 1) := by decide +kernel
theorem d_Big_shiftDown_35 : decode prog_2_method_9_code 35 = .ok (.getfield 13, 3) := by decide +kernel
theorem d_Big_shiftDown_38 : decode prog_2_method_9_code 38 = .ok (.iload_n 2, 1) := by decide +kernel
theorem d_Big_shiftDown_39 : decode prog_2_method_9_code 39 = .ok (.isub, 1) := by decide +kernel
theorem d_Big_shiftDown_40 : decode prog_2_method_9_code 40 = .ok (.goto 4, 3) := by decide +kernel
theorem d_Big_shiftDown_43 : decode prog_2_method_9_code 43 = .ok (.iconst 0, 1) := by decide +kernel
theorem d_Big_shiftDown_44 : decode prog_2_method_9_code 44 = .ok (.istore 4, 2) := by decide +kernel
theorem d_Big_shiftDown_46 : decode prog_2_method_9_code 46 = .ok (.iconst 0, 1) := by decide +kernel
theorem d_Big_shiftDown_47 : decode prog_2_method_9_code 47 = .ok (.istore 5, 2) := by decide +kernel
theorem d_Big_shiftDown_49 : decode prog_2_method_9_code 49 = .ok (.iload 5, 2) := by decide +kernel
theorem d_Big_shiftDown_51 : decode prog_2_method_9_code 51 = .ok (.iload 4, 2) := by decide +kernel
theorem d_Big_shiftDown_53 : decode prog_2_method_9_code 53 = .ok (.if_icmp .ge 70, 3) := by decide +kernel
theorem d_Big_shiftDown_56 : decode prog_2_method_9_code 56 = .ok (.iload 5, 2) := by decide +kernel
theorem d_Big_shiftDown_58 : decode prog_2_method_9_code 58 = .ok (.iload_n 2, 1) := by decide +kernel
theorem d_Big_shiftDown_59 : decode prog_2_method_9_code 59 = .ok (.iadd, 1) := by decide +kernel
theorem d_Big_shiftDown_60 : decode prog_2_method_9_code 60 = .ok (.iconst 1, 1) := by decide +kernel
theorem d_Big_shiftDown_61 : decode prog_2_method_9_code 61 = .ok (.iadd, 1) := by decide +kernel
theorem d_Big_shiftDown_62 : decode prog_2_method_9_code 62 = .ok (.aload_n 0, 1) := by decide +kernel
theorem d_Big_shiftDown_63 : decode prog_2_method_9_code 63 = .ok (.getfield 13, 3) := by decide +kernel
theorem d_Big_shiftDown_66 : decode prog_2_method_9_code 66 = .ok (.if_icmp .ge 18, 3) := by decide +kernel
theorem d_Big_shiftDown_69 : decode prog_2_method_9_code 69 = .ok (.aload_n 0, 1) := by decide +kernel
theorem d_Big_shiftDown_70 : decode prog_2_method_9_code 70 = .ok (.getfield 16, 3) := by decide +kernel
theorem d_Big_shiftDown_73 : decode prog_2_method_9_code 73 = .ok (.iload 5, 2) := by decide +kernel
theorem d_Big_shiftDown_75 : decode prog_2_method_9_code 75 = .ok (.iload_n 2, 1) := by decide +kernel
theorem d_Big_shiftDown_76 : decode prog_2_method_9_code 76 = .ok (.iadd, 1) := by decide +kernel
theorem d_Big_shiftDown_77 : decode prog_2_method_9_code 77 = .ok (.iconst 1, 1) := by decide +kernel
theorem d_Big_shiftDown_78 : decode prog_2_method_9_code 78 = .ok (.iadd, 1) := by decide +kernel
theorem d_Big_shiftDown_79 : decode prog_2_method_9_code 79 = .ok (.iaload, 1) := by decide +kernel
theorem d_Big_shiftDown_80 : decode prog_2_method_9_code 80 = .ok (.i2l, 1) := by decide +kernel
theorem d_Big_shiftDown_81 : decode prog_2_method_9_code 81 = .ok (.goto 4, 3) := by decide +kernel
theorem d_Big_shiftDown_84 : decode prog_2_method_9_code 84 = .ok (.lconst 0, 1) := by decide +kernel
theorem d_Big_shiftDown_85 : decode prog_2_method_9_code 85 = .ok (.lstore 6, 2) := by decide +kernel
theorem d_Big_shiftDown_87 : decode prog_2_method_9_code 87 = .ok (.aload_n 0, 1) := by decide +kernel
theorem d_Big_shiftDown_88 : decode prog_2_method_9_code 88 = .ok (.getfield 16, 3) := by decide +kernel
theorem d_Big_shiftDown_91 : decode prog_2_method_9_code 91 = .ok (.iload 5, 2) := by decide +kernel
theorem d_Big_shiftDown_93 : decode prog_2_method_9_code 93 = .ok (.lload 6, 2) := by decide +kernel
theorem d_Big_shiftDown_95 : decode prog_2_method_9_code 95 = .ok (.bipush 31, 2) := by decide +kernel
theorem d_Big_shiftDown_97 : decode prog_2_method_9_code 97 = .ok (.lshl, 1) := by decide +kernel
theorem d_Big_shiftDown_98 : decode prog_2_method_9_code 98 = .ok (.aload_n 0, 1) := by decide +kernel
theorem d_Big_shiftDown_99 : decode prog_2_method_9_code 99 = .ok (.getfield 16, 3) := by decide +kernel
theorem d_Big_shiftDown_102 : decode prog_2_method_9_code 102 = .ok (.iload 5, 2) := by decide +kernel
theorem d_Big_shiftDown_104 : decode prog_2_method_9_code 104 = .ok (.iload_n 2, 1) := by decide +kernel
theorem d_Big_shiftDown_105 : decode prog_2_method_9_code 105 = .ok (.iadd, 1) := by decide +kernel
theorem d_Big_shiftDown_106 : decode prog_2_method_9_code 106 = .ok (.iaload, 1) := by decide +kernel
theorem d_Big_shiftDown_107 : decode prog_2_method_9_code 107 = .ok (.i2l, 1) := by decide +kernel
theorem d_Big_shiftDown_108 : decode prog_2_method_9_code 108 = .ok (.lor, 1) := by decide +kernel
theorem d_Big_shiftDown_109 : decode prog_2_method_9_code 109 = .ok (.iload_n 3, 1) := by decide +kernel
theorem d_Big_shiftDown_110 : decode prog_2_method_9_code 110 = .ok (.lshr, 1) := by decide +kernel
theorem d_Big_shiftDown_111 : decode prog_2_method_9_code 111 = .ok (.ldc2_w 20, 3) := by decide +kernel
theorem d_Big_shiftDown_114 : decode prog_2_method_9_code 114 = .ok (.land, 1) := by decide +kernel
theorem d_Big_shiftDown_115 : decode prog_2_method_9_code 115 = .ok (.l2i, 1) := by decide +kernel
theorem d_Big_shiftDown_116 : decode prog_2_method_9_code 116 = .ok (.iastore, 1) := by decide +kernel
theorem d_Big_shiftDown_117 : decode prog_2_method_9_code 117 = .ok (.iinc 5 1, 3) := by decide +kernel
theorem d_Big_shiftDown_120 : decode prog_2_method_9_code 120 = .ok (.goto (-71), 3) := by decide +kernel
theorem d_Big_shiftDown_123 : decode prog_2_method_9_code 123 = .ok (.aload_n 0, 1) := by decide +kernel
theorem d_Big_shiftDown_124 : decode prog_2_method_9_code 124 = .ok (.iload 4, 2) := by decide +kernel
theorem d_Big_shiftDown_126 : decode prog_2_method_9_code 126 = .ok (.putfield 13, 3) := by decide +kernel
theorem d_Big_shiftDown_129 : decode prog_2_method_9_code 129 = .ok (.aload_n 0, 1) := by decide +kernel
theorem d_Big_shiftDown_130 : decode prog_2_method_9_code 130 = .ok (.getfield 13, 3) := by decide +kernel
theorem d_Big_shiftDown_133 : decode prog_2_method_9_code 133 = .ok (.ifCond .le 30, 3) := by decide +kernel
theorem d_Big_shiftDown_136 : decode prog_2_method_9_code 136 = .ok (.aload_n 0, 1) := by decide +kernel
theorem d_Big_shiftDown_137 : decode prog_2_method_9_code 137 = .ok (.getfield 16, 3) := by decide +kernel
theorem d_Big_shiftDown_140 : decode prog_2_method_9_code 140 = .ok (.aload_n 0, 1) := by decide +kernel
theorem d_Big_shiftDown_141 : decode prog_2_method_9_code 141 = .ok (.getfield 13, 3) := by decide +kernel
theorem d_Big_shiftDown_144 : decode prog_2_method_9_code 144 = .ok (.iconst 1, 1) := by decide +kernel
theorem d_Big_shiftDown_145 : decode prog_2_method_9_code 145 = .ok (.isub, 1) := by decide +kernel
theorem d_Big_shiftDown_146 : decode prog_2_method_9_code 146 = .ok (.iaload, 1) := by decide +kernel
theorem d_Big_shiftDown_147 : decode prog_2_method_9_code 147 = .ok (.ifCond .ne 16, 3) := by decide +kernel
theorem d_Big_shiftDown_150 : decode prog_2_method_9_code 150 = .ok (.aload_n 0, 1) := by decide +kernel
theorem d_Big_shiftDown_151 : decode prog_2_method_9_code 151 = .ok (.dup, 1) := by decide +kernel
theorem d_Big_shiftDown_152 : decode prog_2_method_9_code 152 = .ok (.getfield 13, 3) := by decide +kernel
theorem d_Big_shiftDown_155 : decode prog_2_method_9_code 155 = .ok (.iconst 1, 1) := by decide +kernel
theorem d_Big_shiftDown_156 : decode prog_2_method_9_code 156 = .ok (.isub, 1) := by decide +kernel
theorem d_Big_shiftDown_157 : decode prog_2_method_9_code 157 = .ok (.putfield 13, 3) := by decide +kernel
theorem d_Big_shiftDown_160 : decode prog_2_method_9_code 160 = .ok (.goto (-31), 3) := by decide +kernel
theorem d_Big_shiftDown_163 : decode prog_2_method_9_code 163 = .ok (.aload_n 0, 1) := by decide +kernel
theorem d_Big_shiftDown_164 : decode prog_2_method_9_code 164 = .ok (.aload_n 0, 1) := by decide +kernel
theorem d_Big_shiftDown_165 : decode prog_2_method_9_code 165 = .ok (.getfield 13, 3) := by decide +kernel
theorem d_Big_shiftDown_168 : decode prog_2_method_9_code 168 = .ok (.ifCond .ne 7, 3) := by decide +kernel
theorem d_Big_shiftDown_171 : decode prog_2_method_9_code 171 = .ok (.iconst 0, 1) := by decide +kernel
theorem d_Big_shiftDown_172 : decode prog_2_method_9_code 172 = .ok (.goto 7, 3) := by decide +kernel
theorem d_Big_shiftDown_175 : decode prog_2_method_9_code 175 = .ok (.aload_n 0, 1) := by decide +kernel
theorem d_Big_shiftDown_176 : decode prog_2_method_9_code 176 = .ok (.getfield 9, 3) := by decide +kernel
theorem d_Big_shiftDown_179 : decode prog_2_method_9_code 179 = .ok (.putfield 9, 3) := by decide +kernel
theorem d_Big_shiftDown_182 : decode prog_2_method_9_code 182 = .ok (.return_, 1) := by decide +kernel
set_option maxHeartbeats 8000000 in
set_option maxRecDepth 100000 in
theorem c_Big_shiftDown (l : Launch) (D : va_G) (cs : Nat → ClassId) (L : List Nat) (f : Nat → va_E) (sz : Nat) (a qa : Nat) (sa : Int) (na : Nat) (la : Nat → Int) (za : Int) (bt : Nat) (hF : Fc L [a, qa]) (ha : f a = .inr (0, [.int (iI sa), .int (iI ((na : Int))), .ref qa])) (hq : f qa = .inl (cs 0, 48, .inl (ai la))) (hBa : BV sa (na : Int) la za) (hbt : bt ≤ 1517) : Met l (⟨"RealRoots$Big", "shiftDown", "(I)V"⟩ : MethodName) (.code (⟨"RealRoots$Big", "shiftDown", "(I)V"⟩ : MethodName) prog_2_method_9_code 8 (Option.none : Option Jvm.ClassFile.FieldType) :: gw) ({ frames := 0, cells := 0, slots := 0, locals := 0 }) (va_Pc [.ref a, .int (iI ((bt : Int)))] (K0 D vwCl (TY cs) L f sz)) (va_Qv (fun (g : Nat → va_E) => ∃ (sd' : Int) (n' : Nat) (lm' : Nat → Int), BV sd' (n' : Int) lm' (za.tdiv (2 ^ bt)) ∧ g = mw f [(a, .inr (0, [.int (iI (sd')), .int (iI ((n' : Int))), .ref qa])), (qa, .inl (cs 0, 48, .inl (ai (lm'))))]) (K1 D vwCl (TY cs) (AL L sz) L) (AL L sz)) 0 0 (AL L sz) := by
  refine Met.ofW (cc := prog_2_method_9_code) (maxL := 8) (ret := (Option.none : Option Jvm.ClassFile.FieldType)) (by decide) rfl ?_
  intro p e s m args below meth c s₁ Bd hml hv
  obtain ⟨rfl, hk0⟩ := hv
  obtain ⟨hsz, B⟩ := hk0.start
  subst hsz
  have hx := Bd.exec
  have hb := Bd.bytes
  have hr := Bd.returns
  have hlocks := Bd.notSynchronized
  have hts0 := atoms_spec Bd.pre
  have hown : s.vm.findClass RX0 = some m.cls := findClass_of_methodNamed Bd.named
  have hA : ∀ q, s.heap.size ≤ q → AL L s.heap.size q := fun _ h => Or.inr h
  have hl := lv_entry ([.ref a, .int (iI ((bt : Int)))]) (n := 8) (Nat.le_of_ble_eq_true rfl)
  rw [lg_entry_eq]
  generalize (lg_sl ([.ref a, .int (iI ((bt : Int)))]) ++ List.replicate (8 - (lg_sl ([.ref a, .int (iI ((bt : Int)))])).length) Slot.unset).toArray = ls at hl ⊢
  refine absQ (fun Q R av hQ hR hav => ?_)
  have hts : ∀ w ∈ gw, w.before av s = true := by rw [hav]; exact fun w h => hts0 w (List.mem_cons_of_mem _ h)
  have hRf : R.frames = 0 := by rw [hR]; rfl
  have hRl : R.locals = 0 := by rw [hR]; rfl
  have hRc : R.cells = 0 := by rw [hR]; rfl
  have hRs : R.slots = 0 := by rw [hR]; rfl
  clear hR hts0 Bd
  have hl : lv_has ls 8 [(0, .ref a), (1, .int (iI ((bt : Int))))] := hl
  have hLa : Lb la na := by have := hBa.2.2.1; rwa [Int.toNat_natCast] at this
  have hna48 := hBa.2.1
  have hva : Bs la na = (za.natAbs : Int) := by have := hBa.2.2.2.2.2; rwa [Int.toNat_natCast] at this
  have hsa := hBa.2.2.2.2.1
  have htop : 0 < na → la (na - 1) ≠ 0 := fun h => by have := hBa.2.2.2.1 (by omega); rwa [Int.toNat_natCast] at this
  have hsd1 := hBa.side
  have hfx : ∀ q ∈ ([(a, .inr (0, [.int (iI sa), .int (iI ((na : Int))), .ref qa])), (qa, .inl (cs 0, 48, .inl (ai la)))] : List (Nat × va_E)), f q.1 = q.2 := fun q hq => by
    simp only [List.mem_cons, List.not_mem_nil, or_false] at hq
    rcases hq with rfl | rfl
    · exact ha
    · exact hq
  have hmw : mw f [(a, .inr (0, [.int (iI sa), .int (iI ((na : Int))), .ref qa])), (qa, .inl (cs 0, 48, .inl (ai la)))] = f := mw_self (fun k a e hk => hfx (a, e) (List.mem_of_getElem? hk))
  have B := B.focus [(a, .inr (0, [.int (iI sa), .int (iI ((na : Int))), .ref qa])), (qa, .inl (cs 0, 48, .inl (ai la)))] hfx
  have J1 : ∀ (sk : Nat), (sk = bt / 31) → ∀ (H : Heap) (locs : List Loc) (ls : Array Slot), Wb D vwCl (TY cs) L (mw f [(a, .inr (0, [.int (iI sa), .int (iI ((na : Int))), .ref qa])), (qa, .inl (cs 0, 48, .inl (ai la)))]) (AL L s.heap.size) s H locs → lv_has ls 8 [(0, .ref a), (1, .int (iI ((bt : Int))))] → W p l e R s m av below meth c H locs (0) (0) Q (F0 m 12 ls [.int (iI ((sk : Int)))]) := by
    intro sk hsk H locs ls B hl
    refine lv_istore_n (lv' := [(2, .int (iI ((sk : Int)))), (0, .ref a), (1, .int (iI ((bt : Int))))]) hx hb d_Big_shiftDown_12 rfl hl (by decide) rfl (fun ls hl => ?_)
    have J2 : ∀ (dp : Nat), (dp = bt % 31) → ∀ (H : Heap) (locs : List Loc) (ls : Array Slot), Wb D vwCl (TY cs) L (mw f [(a, .inr (0, [.int (iI sa), .int (iI ((na : Int))), .ref qa])), (qa, .inl (cs 0, 48, .inl (ai la)))]) (AL L s.heap.size) s H locs → lv_has ls 8 [(2, .int (iI ((sk : Int)))), (0, .ref a), (1, .int (iI ((bt : Int))))] → W p l e R s m av below meth c H locs (0) (0) Q (F0 m 25 ls [.int (iI ((dp : Int)))]) := by
      intro dp hdp H locs ls B hl
      refine lv_istore_n (lv' := [(3, .int (iI ((dp : Int)))), (2, .int (iI ((sk : Int)))), (0, .ref a), (1, .int (iI ((bt : Int))))]) hx hb d_Big_shiftDown_25 rfl hl (by decide) rfl (fun ls hl => ?_)
      have J3 : ∀ (kp : Nat), (kp = na - sk) → ∀ (H : Heap) (locs : List Loc) (ls : Array Slot), Wb D vwCl (TY cs) L (mw f [(a, .inr (0, [.int (iI sa), .int (iI ((na : Int))), .ref qa])), (qa, .inl (cs 0, 48, .inl (ai la)))]) (AL L s.heap.size) s H locs → lv_has ls 8 [(3, .int (iI ((dp : Int)))), (2, .int (iI ((sk : Int)))), (0, .ref a), (1, .int (iI ((bt : Int))))] → W p l e R s m av below meth c H locs (0) (0) Q (F0 m 44 ls [.int (iI ((kp : Int)))]) := by
        intro kp hkp H locs ls B hl
        refine lv_istore (lv' := [(4, .int (iI ((kp : Int)))), (3, .int (iI ((dp : Int)))), (2, .int (iI ((sk : Int)))), (0, .ref a), (1, .int (iI ((bt : Int))))]) hx hb d_Big_shiftDown_44 hl (by decide) rfl (fun ls hl => ?_)
        refine x_iconst hx hb d_Big_shiftDown_46 ?_
        refine lv_istore (lv' := [(5, .int (iI 0)), (4, .int (iI ((kp : Int)))), (3, .int (iI ((dp : Int)))), (2, .int (iI ((sk : Int)))), (0, .ref a), (1, .int (iI ((bt : Int))))]) hx hb d_Big_shiftDown_47 hl (by decide) rfl (fun ls hl => ?_)
        have L1 : ∀ (fuel : Nat) (k : Nat) (x : Nat → Int), kp - k < fuel → (k ≤ kp) → (ShI la na sk dp k x) → ∀ (H : Heap) (locs : List Loc) (ls : Array Slot), Wb D vwCl (TY cs) L (mw f [(a, .inr (0, [.int (iI sa), .int (iI ((na : Int))), .ref qa])), (qa, .inl (cs 0, 48, .inl (ai x)))]) (AL L s.heap.size) s H locs → lv_has ls 8 [(5, .int (iI ((k : Int)))), (4, .int (iI ((kp : Int)))), (3, .int (iI ((dp : Int)))), (2, .int (iI ((sk : Int)))), (0, .ref a), (1, .int (iI ((bt : Int))))] → W p l e R s m av below meth c H locs (0) (0) Q (F0 m 49 ls []) := by
          intro fuel
          induction fuel with
          | zero => intro k x hfu; exact absurd hfu (Nat.not_lt_zero _)
          | succ fuel ih_L1 =>
            intro k x hfu_L1 hk hI H locs ls B hl
            refine lv_iload hx hb d_Big_shiftDown_49 (lv_at hl 0 rfl) ?_
            refine lv_iload hx hb d_Big_shiftDown_51 (lv_at hl 1 rfl) ?_
            refine x_icmp_ge (tgt := 123) hx hb d_Big_shiftDown_53 (by decide) (by omega) (by omega) (fun h53 => ?_) (fun h53 => ?_)
            · refine lv_aload_n hx hb d_Big_shiftDown_123 rfl (lv_at hl 4 rfl) ?_
              refine lv_iload hx hb d_Big_shiftDown_124 (lv_at hl 1 rfl) ?_
              refine x_put (C := RX0) (T := TX0) (N := 3) hx hb hts inX0 tyX0 tyX0_ok nmX0 hown B hF 0 rfl rfl 1 (by decide) (hts _ w_42) (fun _ h9 => h9) rfl (tyX0_ok 1 (by decide)) rfl rfl (Nat.le_of_ble_eq_true rfl) d_Big_shiftDown_126 (fun H locs B => ?_)
              have B : Wb D vwCl (TY cs) L (mw f [(a, .inr (0, [.int (iI sa), .int (iI ((kp : Int))), .ref qa])), (qa, .inl (cs 0, 48, .inl (ai x)))]) (AL L s.heap.size) s H _ := B
              have L4 : ∀ (fuel : Nat) (t2 : Nat), t2 < fuel → (TrimI t2 x ((za.natAbs : Int) / 2 ^ bt)) → ∀ (H : Heap) (locs : List Loc) (ls : Array Slot), Wb D vwCl (TY cs) L (mw f [(a, .inr (0, [.int (iI sa), .int (iI ((t2 : Int))), .ref qa])), (qa, .inl (cs 0, 48, .inl (ai x)))]) (AL L s.heap.size) s H locs → lv_has ls 8 [(0, .ref a)] → W p l e R s m av below meth c H locs (0) (0) Q (F0 m 129 ls []) := by
                intro fuel
                induction fuel with
                | zero => intro t2 hfu; exact absurd hfu (Nat.not_lt_zero _)
                | succ fuel ih_L4 =>
                  intro t2 hfu_L4 hT H locs ls B hl
                  have ht48 := hT.1
                  have htl : 0 < t2 → 0 ≤ x (t2 - 1) ∧ x (t2 - 1) < 2147483648 := fun h => hT.2.1 (t2 - 1) (by omega)
                  refine lv_aload_n hx hb d_Big_shiftDown_129 rfl (lv_at hl 0 rfl) ?_
                  refine x_get (C := RX0) (T := TX0) (N := 3) hx hb hts inX0 hown B hF 0 rfl rfl 1 (by decide) (hts _ w_42) (fun _ h9 => h9) rfl d_Big_shiftDown_130 ?_
                  refine x_if_le (tgt := 163) hx hb d_Big_shiftDown_133 (by decide) (by omega) (fun h133 => ?_) (fun h133 => ?_)
                  · refine lv_aload_n hx hb d_Big_shiftDown_163 rfl (lv_at hl 0 rfl) ?_
                    refine lv_aload_n hx hb d_Big_shiftDown_164 rfl (lv_at hl 0 rfl) ?_
                    refine x_get (C := RX0) (T := TX0) (N := 3) hx hb hts inX0 hown B hF 0 rfl rfl 1 (by decide) (hts _ w_42) (fun _ h9 => h9) rfl d_Big_shiftDown_165 ?_
                    refine x_if_ne (tgt := 175) hx hb d_Big_shiftDown_168 (by decide) (by omega) (fun h168 => ?_) (fun h168 => ?_)
                    · refine lv_aload_n hx hb d_Big_shiftDown_175 rfl (lv_at hl 0 rfl) ?_
                      refine x_get (C := RX0) (T := TX0) (N := 3) hx hb hts inX0 hown B hF 0 rfl rfl 0 (by decide) (hts _ w_38) (fun _ h9 => h9) rfl d_Big_shiftDown_176 ?_
                      refine x_put (C := RX0) (T := TX0) (N := 3) hx hb hts inX0 tyX0 tyX0_ok nmX0 hown B hF 0 rfl rfl 0 (by decide) (hts _ w_38) (fun _ h9 => h9) rfl (tyX0_ok 0 (by decide)) rfl rfl (Nat.le_of_ble_eq_true rfl) d_Big_shiftDown_179 (fun H locs B => ?_)
                      have B : Wb D vwCl (TY cs) L (mw f [(a, .inr (0, [.int (iI sa), .int (iI ((t2 : Int))), .ref qa])), (qa, .inl (cs 0, 48, .inl (ai x)))]) (AL L s.heap.size) s H _ := B
                      subst hQ hav
                      exact x_vret hx hb hr hlocks B d_Big_shiftDown_182 (by
      have hb9 := shift_fin hT (fun h0 => by first | exact h147 | (exfalso; omega)) hsa
      rw [if_neg (by omega)] at hb9
      exact ⟨_, _, _, hb9, rfl⟩)
                    · refine x_iconst hx hb d_Big_shiftDown_171 ?_
                      refine lv_goto (tgt := 179) hx hb d_Big_shiftDown_172 (by decide) ?_
                      refine x_put (C := RX0) (T := TX0) (N := 3) hx hb hts inX0 tyX0 tyX0_ok nmX0 hown B hF 0 rfl rfl 0 (by decide) (hts _ w_38) (fun _ h9 => h9) rfl (tyX0_ok 0 (by decide)) rfl rfl (Nat.le_of_ble_eq_true rfl) d_Big_shiftDown_179 (fun H locs B => ?_)
                      have B : Wb D vwCl (TY cs) L (mw f [(a, .inr (0, [.int (iI 0), .int (iI ((t2 : Int))), .ref qa])), (qa, .inl (cs 0, 48, .inl (ai x)))]) (AL L s.heap.size) s H _ := B
                      subst hQ hav
                      exact x_vret hx hb hr hlocks B d_Big_shiftDown_182 (by
      have hb9 := shift_fin hT (fun h0 => by first | exact h147 | (exfalso; omega)) hsa
      rw [if_pos (by omega)] at hb9
      exact ⟨_, _, _, hb9, rfl⟩)
                  · refine lv_aload_n hx hb d_Big_shiftDown_136 rfl (lv_at hl 0 rfl) ?_
                    refine x_get (C := RX0) (T := TX0) (N := 3) hx hb hts inX0 hown B hF 0 rfl rfl 2 (by decide) (hts _ w_43) (fun _ h9 => h9) rfl d_Big_shiftDown_137 ?_
                    refine lv_aload_n hx hb d_Big_shiftDown_140 rfl (lv_at hl 0 rfl) ?_
                    refine x_get (C := RX0) (T := TX0) (N := 3) hx hb hts inX0 hown B hF 0 rfl rfl 1 (by decide) (hts _ w_42) (fun _ h9 => h9) rfl d_Big_shiftDown_141 ?_
                    refine x_iconst hx hb d_Big_shiftDown_144 ?_
                    refine x_isub hx hb d_Big_shiftDown_145 ?_
                    refine x_iald hx hb B hF 1 0 rfl rfl (t2 - 1) (by omega) (by omega) (by decide) d_Big_shiftDown_146 ?_
                    have htl2 := htl (by omega)
                    refine x_if_ne (tgt := 163) hx hb d_Big_shiftDown_147 (by decide) (by omega) (fun h147 => ?_) (fun h147 => ?_)
                    · refine lv_aload_n hx hb d_Big_shiftDown_163 rfl (lv_at hl 0 rfl) ?_
                      refine lv_aload_n hx hb d_Big_shiftDown_164 rfl (lv_at hl 0 rfl) ?_
                      refine x_get (C := RX0) (T := TX0) (N := 3) hx hb hts inX0 hown B hF 0 rfl rfl 1 (by decide) (hts _ w_42) (fun _ h9 => h9) rfl d_Big_shiftDown_165 ?_
                      refine x_if_ne (tgt := 175) hx hb d_Big_shiftDown_168 (by decide) (by omega) (fun h168 => ?_) (fun h168 => ?_)
                      · refine lv_aload_n hx hb d_Big_shiftDown_175 rfl (lv_at hl 0 rfl) ?_
                        refine x_get (C := RX0) (T := TX0) (N := 3) hx hb hts inX0 hown B hF 0 rfl rfl 0 (by decide) (hts _ w_38) (fun _ h9 => h9) rfl d_Big_shiftDown_176 ?_
                        refine x_put (C := RX0) (T := TX0) (N := 3) hx hb hts inX0 tyX0 tyX0_ok nmX0 hown B hF 0 rfl rfl 0 (by decide) (hts _ w_38) (fun _ h9 => h9) rfl (tyX0_ok 0 (by decide)) rfl rfl (Nat.le_of_ble_eq_true rfl) d_Big_shiftDown_179 (fun H locs B => ?_)
                        have B : Wb D vwCl (TY cs) L (mw f [(a, .inr (0, [.int (iI sa), .int (iI ((t2 : Int))), .ref qa])), (qa, .inl (cs 0, 48, .inl (ai x)))]) (AL L s.heap.size) s H _ := B
                        subst hQ hav
                        exact x_vret hx hb hr hlocks B d_Big_shiftDown_182 (by
      have hb9 := shift_fin hT (fun h0 => by first | exact h147 | (exfalso; omega)) hsa
      rw [if_neg (by omega)] at hb9
      exact ⟨_, _, _, hb9, rfl⟩)
                      · refine x_iconst hx hb d_Big_shiftDown_171 ?_
                        refine lv_goto (tgt := 179) hx hb d_Big_shiftDown_172 (by decide) ?_
                        refine x_put (C := RX0) (T := TX0) (N := 3) hx hb hts inX0 tyX0 tyX0_ok nmX0 hown B hF 0 rfl rfl 0 (by decide) (hts _ w_38) (fun _ h9 => h9) rfl (tyX0_ok 0 (by decide)) rfl rfl (Nat.le_of_ble_eq_true rfl) d_Big_shiftDown_179 (fun H locs B => ?_)
                        have B : Wb D vwCl (TY cs) L (mw f [(a, .inr (0, [.int (iI 0), .int (iI ((t2 : Int))), .ref qa])), (qa, .inl (cs 0, 48, .inl (ai x)))]) (AL L s.heap.size) s H _ := B
                        subst hQ hav
                        exact x_vret hx hb hr hlocks B d_Big_shiftDown_182 (by
      have hb9 := shift_fin hT (fun h0 => by first | exact h147 | (exfalso; omega)) hsa
      rw [if_pos (by omega)] at hb9
      exact ⟨_, _, _, hb9, rfl⟩)
                    · refine lv_aload_n hx hb d_Big_shiftDown_150 rfl (lv_at hl 0 rfl) ?_
                      refine lv_dup hx hb d_Big_shiftDown_151 rfl ?_
                      refine x_get (C := RX0) (T := TX0) (N := 3) hx hb hts inX0 hown B hF 0 rfl rfl 1 (by decide) (hts _ w_42) (fun _ h9 => h9) rfl d_Big_shiftDown_152 ?_
                      refine x_iconst hx hb d_Big_shiftDown_155 ?_
                      refine x_isub hx hb d_Big_shiftDown_156 ?_
                      refine x_put (C := RX0) (T := TX0) (N := 3) hx hb hts inX0 tyX0 tyX0_ok nmX0 hown B hF 0 rfl rfl 1 (by decide) (hts _ w_42) (fun _ h9 => h9) rfl (tyX0_ok 1 (by decide)) rfl rfl (Nat.le_of_ble_eq_true rfl) d_Big_shiftDown_157 (fun H locs B => ?_)
                      have B : Wb D vwCl (TY cs) L (mw f [(a, .inr (0, [.int (iI sa), .int (iI (((t2 : Int)) - 1)), .ref qa])), (qa, .inl (cs 0, 48, .inl (ai x)))]) (AL L s.heap.size) s H _ := B
                      refine lv_goto (tgt := 129) hx hb d_Big_shiftDown_160 (by decide) ?_
                      rw [show (t2 : Int) - 1 = ((t2 - 1 : Nat) : Int) by omega] at B
                      exact ih_L4 (t2 - 1) (by omega) (hT.step (by omega) h147) _ _ _ B (lv_sub hl [0] rfl)
              exact L4 _ kp (Nat.lt_succ_self _) (shift_trim (show ShI la na sk dp kp x by rw [show kp = k by omega]; exact hI) hkp (by omega) hLa hva (by omega)) _ _ _ B (lv_sub hl [4] rfl)
            · have J4 : ∀ (nx : Int), (nx = if k + sk + 1 < na then x (k + sk + 1) else 0) → (0 ≤ nx ∧ nx < 2147483648) → ∀ (H : Heap) (locs : List Loc) (ls : Array Slot), Wb D vwCl (TY cs) L (mw f [(a, .inr (0, [.int (iI sa), .int (iI ((na : Int))), .ref qa])), (qa, .inl (cs 0, 48, .inl (ai x)))]) (AL L s.heap.size) s H locs → lv_has ls 8 [(5, .int (iI ((k : Int)))), (4, .int (iI ((kp : Int)))), (3, .int (iI ((dp : Int)))), (2, .int (iI ((sk : Int)))), (0, .ref a), (1, .int (iI ((bt : Int))))] → W p l e R s m av below meth c H locs (0) (0) Q (F0 m 85 ls [.long (lI nx)]) := by
                intro nx hnx hnr H locs ls B hl
                refine lv_lstore (lv' := [(6, .long (lI nx)), (5, .int (iI ((k : Int)))), (4, .int (iI ((kp : Int)))), (3, .int (iI ((dp : Int)))), (2, .int (iI ((sk : Int)))), (0, .ref a), (1, .int (iI ((bt : Int))))]) hx hb d_Big_shiftDown_85 hl (by decide) rfl (fun ls hl => ?_)
                have hxc : 0 ≤ x (k + sk) ∧ x (k + sk) < 2147483648 := by rw [hI.2.1 _ (by omega)]; exact hLa _ (by omega)
                refine lv_aload_n hx hb d_Big_shiftDown_87 rfl (lv_at hl 5 rfl) ?_
                refine x_get (C := RX0) (T := TX0) (N := 3) hx hb hts inX0 hown B hF 0 rfl rfl 2 (by decide) (hts _ w_43) (fun _ h9 => h9) rfl d_Big_shiftDown_88 ?_
                refine lv_iload hx hb d_Big_shiftDown_91 (lv_at hl 1 rfl) ?_
                refine lv_lload hx hb d_Big_shiftDown_93 (lv_at hl 0 rfl) ?_
                refine x_bipush hx hb d_Big_shiftDown_95 (by decide) ?_
                refine x_lshl31 hx hb d_Big_shiftDown_97 ?_
                refine lv_aload_n hx hb d_Big_shiftDown_98 rfl (lv_at hl 5 rfl) ?_
                refine x_get (C := RX0) (T := TX0) (N := 3) hx hb hts inX0 hown B hF 0 rfl rfl 2 (by decide) (hts _ w_43) (fun _ h9 => h9) rfl d_Big_shiftDown_99 ?_
                refine lv_iload hx hb d_Big_shiftDown_102 (lv_at hl 1 rfl) ?_
                refine lv_iload_n hx hb d_Big_shiftDown_104 rfl (lv_at hl 4 rfl) ?_
                refine x_iadd hx hb d_Big_shiftDown_105 ?_
                refine x_iald hx hb B hF 1 0 rfl rfl (k + sk) (by omega) (by omega) (by decide) d_Big_shiftDown_106 ?_
                refine x_i2l hx hb d_Big_shiftDown_107 (by omega) ?_
                refine x_lor31 hx hb d_Big_shiftDown_108 (by omega) (by omega) ?_
                refine lv_iload_n hx hb d_Big_shiftDown_109 rfl (lv_at hl 3 rfl) ?_
                refine x_lshrv hx hb dp (rfl) (by omega) d_Big_shiftDown_110 (by omega) ?_
                refine x_ldc2 (z := 2147483647) hx hb hown (hts _ w_297) (by decide) d_Big_shiftDown_111 ?_
                refine x_land31 hx hb d_Big_shiftDown_114 ?_
                refine x_l2i hx hb d_Big_shiftDown_115 ?_
                refine x_iast hx hb B hF 1 0 rfl rfl k (by omega) (by omega) (by decide) d_Big_shiftDown_116 (fun H locs B => ?_)
                have B : Wb D vwCl (TY cs) L (mw f [(a, .inr (0, [.int (iI sa), .int (iI ((na : Int))), .ref qa])), (qa, .inl (cs 0, 48, .inl (ai (up x k (((nx * 2147483648 + (x (k + sk))) / 2 ^ dp) % 2147483648)))))]) (AL L s.heap.size) s H _ := B
                refine x_iinc (lv' := [(5, .int (iI (((k : Int)) + 1))), (6, .long (lI nx)), (4, .int (iI ((kp : Int)))), (3, .int (iI ((dp : Int)))), (2, .int (iI ((sk : Int)))), (0, .ref a), (1, .int (iI ((bt : Int))))]) hx hb d_Big_shiftDown_117 hl (q := 1) rfl rfl (by decide) rfl (fun ls hl => ?_)
                refine lv_goto (tgt := 49) hx hb d_Big_shiftDown_120 (by decide) ?_
                exact ih_L1 (k + 1) (up x k (((nx * 2147483648 + (x (k + sk))) / 2 ^ dp) % 2147483648)) (by omega) (by omega) (hI.step hLa (by omega) (by omega) hnx rfl) _ _ _ B (lv_sub hl [0, 2, 3, 4, 5, 6] rfl)
              refine lv_iload hx hb d_Big_shiftDown_56 (lv_at hl 0 rfl) ?_
              refine lv_iload_n hx hb d_Big_shiftDown_58 rfl (lv_at hl 3 rfl) ?_
              refine x_iadd hx hb d_Big_shiftDown_59 ?_
              refine x_iconst hx hb d_Big_shiftDown_60 ?_
              refine x_iadd hx hb d_Big_shiftDown_61 ?_
              refine lv_aload_n hx hb d_Big_shiftDown_62 rfl (lv_at hl 4 rfl) ?_
              refine x_get (C := RX0) (T := TX0) (N := 3) hx hb hts inX0 hown B hF 0 rfl rfl 1 (by decide) (hts _ w_42) (fun _ h9 => h9) rfl d_Big_shiftDown_63 ?_
              refine x_icmp_ge (tgt := 84) hx hb d_Big_shiftDown_66 (by decide) (by omega) (by omega) (fun h66 => ?_) (fun h66 => ?_)
              · refine x_lconst (z := 0) hx hb d_Big_shiftDown_84 (by decide) ?_
                exact J4 0 (by rw [if_neg (by omega)]) (by omega) _ _ _ B (lv_sub hl [0, 1, 2, 3, 4, 5] rfl)
              · have hxn : 0 ≤ x (k + sk + 1) ∧ x (k + sk + 1) < 2147483648 := by rw [hI.2.1 _ (by omega)]; exact hLa _ (by omega)
                refine lv_aload_n hx hb d_Big_shiftDown_69 rfl (lv_at hl 4 rfl) ?_
                refine x_get (C := RX0) (T := TX0) (N := 3) hx hb hts inX0 hown B hF 0 rfl rfl 2 (by decide) (hts _ w_43) (fun _ h9 => h9) rfl d_Big_shiftDown_70 ?_
                refine lv_iload hx hb d_Big_shiftDown_73 (lv_at hl 0 rfl) ?_
                refine lv_iload_n hx hb d_Big_shiftDown_75 rfl (lv_at hl 3 rfl) ?_
                refine x_iadd hx hb d_Big_shiftDown_76 ?_
                refine x_iconst hx hb d_Big_shiftDown_77 ?_
                refine x_iadd hx hb d_Big_shiftDown_78 ?_
                refine x_iald hx hb B hF 1 0 rfl rfl (k + sk + 1) (by omega) (by omega) (by decide) d_Big_shiftDown_79 ?_
                refine x_i2l hx hb d_Big_shiftDown_80 (by omega) ?_
                refine lv_goto (tgt := 85) hx hb d_Big_shiftDown_81 (by decide) ?_
                exact J4 (x (k + sk + 1)) (by rw [if_pos (by omega)]) (by omega) _ _ _ B (lv_sub hl [0, 1, 2, 3, 4, 5] rfl)
        exact L1 _ 0 la (Nat.lt_succ_self _) (by omega) ShI.first _ _ _ B (lv_sub hl [0, 1, 2, 3, 4, 5] rfl)
      refine lv_aload_n hx hb d_Big_shiftDown_26 rfl (lv_at hl 2 rfl) ?_
      refine x_get (C := RX0) (T := TX0) (N := 3) hx hb hts inX0 hown B hF 0 rfl rfl 1 (by decide) (hts _ w_42) (fun _ h9 => h9) rfl d_Big_shiftDown_27 ?_
      refine lv_iload_n hx hb d_Big_shiftDown_30 rfl (lv_at hl 1 rfl) ?_
      refine x_icmp_le (tgt := 43) hx hb d_Big_shiftDown_31 (by decide) (by omega) (by omega) (fun h31 => ?_) (fun h31 => ?_)
      · refine x_iconst hx hb d_Big_shiftDown_43 ?_
        exact J3 0 (by omega) _ _ _ B (lv_sub hl [0, 1, 2, 3] rfl)
      · refine lv_aload_n hx hb d_Big_shiftDown_34 rfl (lv_at hl 2 rfl) ?_
        refine x_get (C := RX0) (T := TX0) (N := 3) hx hb hts inX0 hown B hF 0 rfl rfl 1 (by decide) (hts _ w_42) (fun _ h9 => h9) rfl d_Big_shiftDown_35 ?_
        refine lv_iload_n hx hb d_Big_shiftDown_38 rfl (lv_at hl 1 rfl) ?_
        refine x_isub hx hb d_Big_shiftDown_39 ?_
        refine lv_goto (tgt := 44) hx hb d_Big_shiftDown_40 (by decide) ?_
        rw [show (na : Int) - (sk : Int) = ((na - sk : Nat) : Int) by omega]
        exact J3 (na - sk) rfl _ _ _ B (lv_sub hl [0, 1, 2, 3] rfl)
    refine lv_iload_n hx hb d_Big_shiftDown_13 rfl (lv_at hl 2 rfl) ?_
    refine x_if_ge (tgt := 21) hx hb d_Big_shiftDown_14 (by decide) (by omega) (fun h14 => ?_) (fun h14 => ?_)
    · refine lv_iload_n hx hb d_Big_shiftDown_21 rfl (lv_at hl 2 rfl) ?_
      refine x_bipush hx hb d_Big_shiftDown_22 (by decide) ?_
      refine x_irem hx hb d_Big_shiftDown_24 (by omega) (by omega) (by omega) ?_
      exact J2 (bt % 31) rfl _ _ _ B (lv_sub hl [0, 1, 2] rfl)
    · exfalso; omega
  refine lv_iload_n hx hb d_Big_shiftDown_0 rfl (lv_at hl 1 rfl) ?_
  refine x_if_ge (tgt := 8) hx hb d_Big_shiftDown_1 (by decide) (by omega) (fun h1 => ?_) (fun h1 => ?_)
  · refine lv_iload_n hx hb d_Big_shiftDown_8 rfl (lv_at hl 1 rfl) ?_
    refine x_bipush hx hb d_Big_shiftDown_9 (by decide) ?_
    refine x_idiv hx hb d_Big_shiftDown_11 (by omega) (by omega) (by omega) ?_
    exact J1 (bt / 31) rfl _ _ _ B (lv_sub hl [0, 1] rfl)
  · exfalso; omega
