theorem shl_none {g : Nat → Int} {m b i : Nat} (hg : Mb g m) (h : i = 0 ∨ b = 0) : (0 : Int) = if i = 0 then 0 else (mAt g m (i - 1) * 2 ^ b) / 4294967296 := by
  by_cases h0 : i = 0
  · rw [if_pos h0]
  · have hb : b = 0 := by omega
    subst hb
    have hr9 := mAt_range hg (i - 1)
    rw [if_neg h0, Int.pow_zero, Int.mul_one, Int.ediv_eq_zero_of_lt hr9.1 hr9.2]
theorem d_Mo_shift_0 : decode prog_9_method_13_code 0 = .ok (.iload_n 2, 1) := by decide +kernel
theorem d_Mo_shift_1 : decode prog_9_method_13_code 1 = .ok (.bipush 32, 2) := by decide +kernel
theorem d_Mo_shift_3 : decode prog_9_method_13_code 3 = .ok (.idiv, 1) := by decide +kernel
theorem d_Mo_shift_4 : decode prog_9_method_13_code 4 = .ok (.istore_n 3, 1) := by decide +kernel
theorem d_Mo_shift_5 : decode prog_9_method_13_code 5 = .ok (.iload_n 2, 1) := by decide +kernel
theorem d_Mo_shift_6 : decode prog_9_method_13_code 6 = .ok (.bipush 32, 2) := by decide +kernel
theorem d_Mo_shift_8 : decode prog_9_method_13_code 8 = .ok (.irem, 1) := by decide +kernel
theorem d_Mo_shift_9 : decode prog_9_method_13_code 9 = .ok (.istore 4, 2) := by decide +kernel
theorem d_Mo_shift_11 : decode prog_9_method_13_code 11 = .ok (.aload_n 0, 1) := by decide +kernel
theorem d_Mo_shift_12 : decode prog_9_method_13_code 12 = .ok (.getfield 16, 3) := by decide +kernel
theorem d_Mo_shift_15 : decode prog_9_method_13_code 15 = .ok (.iload_n 1, 1) := by decide +kernel
theorem d_Mo_shift_16 : decode prog_9_method_13_code 16 = .ok (.iaload, 1) := by decide +kernel
theorem d_Mo_shift_17 : decode prog_9_method_13_code 17 = .ok (.ifCond .ne 4, 3) := by decide +kernel
theorem d_Mo_shift_20 : decode prog_9_method_13_code 20 = .ok (.return_, 1) := by decide +kernel
theorem d_Mo_shift_21 : decode prog_9_method_13_code 21 = .ok (.aload_n 0, 1) := by decide +kernel
theorem d_Mo_shift_22 : decode prog_9_method_13_code 22 = .ok (.getfield 13, 3) := by decide +kernel
theorem d_Mo_shift_25 : decode prog_9_method_13_code 25 = .ok (.iload_n 1, 1) := by decide +kernel
theorem d_Mo_shift_26 : decode prog_9_method_13_code 26 = .ok (.iaload, 1) := by decide +kernel
theorem d_Mo_shift_27 : decode prog_9_method_13_code 27 = .ok (.istore 5, 2) := by decide +kernel
theorem d_Mo_shift_29 : decode prog_9_method_13_code 29 = .ok (.aload_n 0, 1) := by decide +kernel
theorem d_Mo_shift_30 : decode prog_9_method_13_code 30 = .ok (.getfield 7, 3) := by decide +kernel
theorem d_Mo_shift_33 : decode prog_9_method_13_code 33 = .ok (.bipush 64, 2) := by decide +kernel
theorem d_Mo_shift_35 : decode prog_9_method_13_code 35 = .ok (.iload_n 1, 1) := by decide +kernel
theorem d_Mo_shift_36 : decode prog_9_method_13_code 36 = .ok (.imul, 1) := by decide +kernel
theorem d_Mo_shift_37 : decode prog_9_method_13_code 37 = .ok (.iload 5, 2) := by decide +kernel
theorem d_Mo_shift_39 : decode prog_9_method_13_code 39 = .ok (.iadd, 1) := by decide +kernel
theorem d_Mo_shift_40 : decode prog_9_method_13_code 40 = .ok (.iconst 0, 1) := by decide +kernel
theorem d_Mo_shift_41 : decode prog_9_method_13_code 41 = .ok (.iastore, 1) := by decide +kernel
theorem d_Mo_shift_42 : decode prog_9_method_13_code 42 = .ok (.iload 5, 2) := by decide +kernel
theorem d_Mo_shift_44 : decode prog_9_method_13_code 44 = .ok (.iload_n 3, 1) := by decide +kernel
theorem d_Mo_shift_45 : decode prog_9_method_13_code 45 = .ok (.iadd, 1) := by decide +kernel
theorem d_Mo_shift_46 : decode prog_9_method_13_code 46 = .ok (.istore 6, 2) := by decide +kernel
theorem d_Mo_shift_48 : decode prog_9_method_13_code 48 = .ok (.iload 6, 2) := by decide +kernel
theorem d_Mo_shift_50 : decode prog_9_method_13_code 50 = .ok (.ifCond .lt 117, 3) := by decide +kernel
theorem d_Mo_shift_53 : decode prog_9_method_13_code 53 = .ok (.lconst 0, 1) := by decide +kernel
theorem d_Mo_shift_54 : decode prog_9_method_13_code 54 = .ok (.lstore 7, 2) := by decide +kernel
theorem d_Mo_shift_56 : decode prog_9_method_13_code 56 = .ok (.iload 6, 2) := by decide +kernel
theorem d_Mo_shift_58 : decode prog_9_method_13_code 58 = .ok (.iload_n 3, 1) := by decide +kernel
theorem d_Mo_shift_59 : decode prog_9_method_13_code 59 = .ok (.isub, 1) := by decide +kernel
theorem d_Mo_shift_60 : decode prog_9_method_13_code 60 = .ok (.ifCond .lt 86, 3) := by decide +kernel
theorem d_Mo_shift_63 : decode prog_9_method_13_code 63 = .ok (.iload 6, 2) := by decide +kernel
theorem d_Mo_shift_65 : decode prog_9_method_13_code 65 = .ok (.iload_n 3, 1) := by decide +kernel
theorem d_Mo_shift_66 : decode prog_9_method_13_code 66 = .ok (.isub, 1) := by decide +kernel
theorem d_Mo_shift_67 : decode prog_9_method_13_code 67 = .ok (.iload 5, 2) := by decide +kernel
theorem d_Mo_shift_69 : decode prog_9_method_13_code 69 = .ok (.iconst 1, 1) := by decide +kernel
theorem d_Mo_shift_70 : decode prog_9_method_13_code 70 = .ok (.isub, 1) := by decide +kernel
theorem d_Mo_shift_71 : decode prog_9_method_13_code 71 = .ok (.if_icmp .gt 23, 3) := by decide +kernel
theorem d_Mo_shift_74 : decode prog_9_method_13_code 74 = .ok (.aload_n 0, 1) := by decide +kernel
theorem d_Mo_shift_75 : decode prog_9_method_13_code 75 = .ok (.getfield 7, 3) := by decide +kernel
theorem d_Mo_shift_78 : decode prog_9_method_13_code 78 = .ok (.bipush 64, 2) := by decide +kernel
theorem d_Mo_shift_80 : decode prog_9_method_13_code 80 = .ok (.iload_n 1, 1) := by decide +kernel
theorem d_Mo_shift_81 : decode prog_9_method_13_code 81 = .ok (.imul, 1) := by decide +kernel
theorem d_Mo_shift_82 : decode prog_9_method_13_code 82 = .ok (.iload 6, 2) := by decide +kernel
theorem d_Mo_shift_84 : decode prog_9_method_13_code 84 = .ok (.iadd, 1) := by decide +kernel
theorem d_Mo_shift_85 : decode prog_9_method_13_code 85 = .ok (.iload_n 3, 1) := by decide +kernel
theorem d_Mo_shift_86 : decode prog_9_method_13_code 86 = .ok (.isub, 1) := by decide +kernel
theorem d_Mo_shift_87 : decode prog_9_method_13_code 87 = .ok (.iaload, 1) := by decide +kernel
theorem d_Mo_shift_88 : decode prog_9_method_13_code 88 = .ok (.invokestatic 57, 3) := by decide +kernel
theorem d_Mo_shift_91 : decode prog_9_method_13_code 91 = .ok (.goto 4, 3) := by decide +kernel
theorem d_Mo_shift_94 : decode prog_9_method_13_code 94 = .ok (.lconst 0, 1) := by decide +kernel
theorem d_Mo_shift_95 : decode prog_9_method_13_code 95 = .ok (.iload 4, 2) := by decide +kernel
theorem d_Mo_shift_97 : decode prog_9_method_13_code 97 = .ok (.lshl, 1) := by decide +kernel
theorem d_Mo_shift_98 : decode prog_9_method_13_code 98 = .ok (.lstore 7, 2) := by decide +kernel
theorem d_Mo_shift_100 : decode prog_9_method_13_code 100 = .ok (.lload 7, 2) := by decide +kernel
theorem d_Mo_shift_102 : decode prog_9_method_13_code 102 = .ok (.iload 4, 2) := by decide +kernel
theorem d_Mo_shift_104 : decode prog_9_method_13_code 104 = .ok (.ifCond .le 38, 3) := by decide +kernel
theorem d_Mo_shift_107 : decode prog_9_method_13_code 107 = .ok (.iload 6, 2) := by decide +kernel
theorem d_Mo_shift_109 : decode prog_9_method_13_code 109 = .ok (.iload_n 3, 1) := by decide +kernel
theorem d_Mo_shift_110 : decode prog_9_method_13_code 110 = .ok (.isub, 1) := by decide +kernel
theorem d_Mo_shift_111 : decode prog_9_method_13_code 111 = .ok (.ifCond .le 31, 3) := by decide +kernel
theorem d_Mo_shift_114 : decode prog_9_method_13_code 114 = .ok (.aload_n 0, 1) := by decide +kernel
theorem d_Mo_shift_115 : decode prog_9_method_13_code 115 = .ok (.getfield 7, 3) := by decide +kernel
theorem d_Mo_shift_118 : decode prog_9_method_13_code 118 = .ok (.bipush 64, 2) := by decide +kernel
theorem d_Mo_shift_120 : decode prog_9_method_13_code 120 = .ok (.iload_n 1, 1) := by decide +kernel
theorem d_Mo_shift_121 : decode prog_9_method_13_code 121 = .ok (.imul, 1) := by decide +kernel
theorem d_Mo_shift_122 : decode prog_9_method_13_code 122 = .ok (.iload 6, 2) := by decide +kernel
theorem d_Mo_shift_124 : decode prog_9_method_13_code 124 = .ok (.iadd, 1) := by decide +kernel
theorem d_Mo_shift_125 : decode prog_9_method_13_code 125 = .ok (.iload_n 3, 1) := by decide +kernel
theorem d_Mo_shift_126 : decode prog_9_method_13_code 126 = .ok (.isub, 1) := by decide +kernel
theorem d_Mo_shift_127 : decode prog_9_method_13_code 127 = .ok (.iconst 1, 1) := by decide +kernel
theorem d_Mo_shift_128 : decode prog_9_method_13_code 128 = .ok (.isub, 1) := by decide +kernel
theorem d_Mo_shift_129 : decode prog_9_method_13_code 129 = .ok (.iaload, 1) := by decide +kernel
theorem d_Mo_shift_130 : decode prog_9_method_13_code 130 = .ok (.invokestatic 57, 3) := by decide +kernel
theorem d_Mo_shift_133 : decode prog_9_method_13_code 133 = .ok (.bipush 32, 2) := by decide +kernel
theorem d_Mo_shift_135 : decode prog_9_method_13_code 135 = .ok (.iload 4, 2) := by decide +kernel
theorem d_Mo_shift_137 : decode prog_9_method_13_code 137 = .ok (.isub, 1) := by decide +kernel
theorem d_Mo_shift_138 : decode prog_9_method_13_code 138 = .ok (.lushr, 1) := by decide +kernel
theorem d_Mo_shift_139 : decode prog_9_method_13_code 139 = .ok (.goto 4, 3) := by decide +kernel
theorem d_Mo_shift_142 : decode prog_9_method_13_code 142 = .ok (.lconst 0, 1) := by decide +kernel
theorem d_Mo_shift_143 : decode prog_9_method_13_code 143 = .ok (.lor, 1) := by decide +kernel
theorem d_Mo_shift_144 : decode prog_9_method_13_code 144 = .ok (.lstore 7, 2) := by decide +kernel
theorem d_Mo_shift_146 : decode prog_9_method_13_code 146 = .ok (.aload_n 0, 1) := by decide +kernel
theorem d_Mo_shift_147 : decode prog_9_method_13_code 147 = .ok (.getfield 7, 3) := by decide +kernel
theorem d_Mo_shift_150 : decode prog_9_method_13_code 150 = .ok (.bipush 64, 2) := by decide +kernel
theorem d_Mo_shift_152 : decode prog_9_method_13_code 152 = .ok (.iload_n 1, 1) := by decide +kernel
theorem d_Mo_shift_153 : decode prog_9_method_13_code 153 = .ok (.imul, 1) := by decide +kernel
theorem d_Mo_shift_154 : decode prog_9_method_13_code 154 = .ok (.iload 6, 2) := by decide +kernel
theorem d_Mo_shift_156 : decode prog_9_method_13_code 156 = .ok (.iadd, 1) := by decide +kernel
theorem d_Mo_shift_157 : decode prog_9_method_13_code 157 = .ok (.lload 7, 2) := by decide +kernel
theorem d_Mo_shift_159 : decode prog_9_method_13_code 159 = .ok (.l2i, 1) := by decide +kernel
theorem d_Mo_shift_160 : decode prog_9_method_13_code 160 = .ok (.iastore, 1) := by decide +kernel
theorem d_Mo_shift_161 : decode prog_9_method_13_code 161 = .ok (.iinc 6 (-1), 3) := by decide +kernel
theorem d_Mo_shift_164 : decode prog_9_method_13_code 164 = .ok (.goto (-116), 3) := by decide +kernel
theorem d_Mo_shift_167 : decode prog_9_method_13_code 167 = .ok (.aload_n 0, 1) := by decide +kernel
theorem d_Mo_shift_168 : decode prog_9_method_13_code 168 = .ok (.getfield 13, 3) := by decide +kernel
theorem d_Mo_shift_171 : decode prog_9_method_13_code 171 = .ok (.iload_n 1, 1) := by decide +kernel
theorem d_Mo_shift_172 : decode prog_9_method_13_code 172 = .ok (.iload 5, 2) := by decide +kernel
theorem d_Mo_shift_174 : decode prog_9_method_13_code 174 = .ok (.iload_n 3, 1) := by decide +kernel
theorem d_Mo_shift_175 : decode prog_9_method_13_code 175 = .ok (.iadd, 1) := by decide +kernel
theorem d_Mo_shift_176 : decode prog_9_method_13_code 176 = .ok (.iconst 1, 1) := by decide +kernel
theorem d_Mo_shift_177 : decode prog_9_method_13_code 177 = .ok (.iadd, 1) := by decide +kernel
theorem d_Mo_shift_178 : decode prog_9_method_13_code 178 = .ok (.iastore, 1) := by decide +kernel
theorem d_Mo_shift_179 : decode prog_9_method_13_code 179 = .ok (.aload_n 0, 1) := by decide +kernel
theorem d_Mo_shift_180 : decode prog_9_method_13_code 180 = .ok (.iload_n 1, 1) := by decide +kernel
theorem d_Mo_shift_181 : decode prog_9_method_13_code 181 = .ok (.invokevirtual 73, 3) := by decide +kernel
theorem d_Mo_shift_184 : decode prog_9_method_13_code 184 = .ok (.return_, 1) := by decide +kernel
set_option maxHeartbeats 8000000 in
set_option maxRecDepth 100000 in
theorem c_Mo_shift (l : Launch) (D : va_G) (cs : Nat → ClassId) (L : List Nat) (f : Nat → va_E) (sz : Nat) (y m1 m2 m3 m5 m6 m7 m8 m9 m10 m11 m12 m13 m15 : Nat) (th pn rw_ fu fb : Int) (lm mn sn Z : Nat → Int) (x sh : Nat) (hF : Fc L [y, m1, m2, m3]) (ha : f y = .inr (7, [.int (iI th), .ref m1, .ref m2, .ref m3, .int (iI pn), .ref m5, .ref m6, .ref m7, .ref m8, .ref m9, .ref m10, .ref m11, .ref m12, .ref m13, .int (iI rw_), .ref m15, .long (lI fu), .long (lI fb)])) (hm1 : f m1 = .inl (cs 0, 11520, .inl (ai lm))) (hm2 : f m2 = .inl (cs 0, 180, .inl (ai mn))) (hm3 : f m3 = .inl (cs 0, 180, .inl (ai sn))) (hRS : RS lm mn sn Z) (hx8 : x < 180) (hs4 : sh ≤ 4096) (hlt : ((Z x).natAbs : Int) * 2 ^ sh < Mp 63) : Met l (⟨"RealRootsModel", "shift", "(II)V"⟩ : MethodName) (.code (⟨"RealRootsModel", "shift", "(II)V"⟩ : MethodName) prog_9_method_13_code 9 (Option.none : Option Jvm.ClassFile.FieldType) :: gw) ({ frames := 1, cells := 0, slots := 0, locals := 40 }) (va_Pc [.ref y, .int (iI ((x : Int))), .int (iI ((sh : Int)))] (K0 D vwCl (TY cs) L f sz)) (va_Qv (fun (g : Nat → va_E) => ∃ lm' mn' sn' : Nat → Int, RS lm' mn' sn' (up Z x (Z x * 2 ^ sh)) ∧ g = mw f [(m1, .inl (cs 0, 11520, .inl (ai (lm')))), (m2, .inl (cs 0, 180, .inl (ai (mn')))), (m3, .inl (cs 0, 180, .inl (ai (sn'))))]) (K1 D vwCl (TY cs) (AL L sz) L) (AL L sz)) 0 0 (AL L sz) := by
  refine Met.ofW (cc := prog_9_method_13_code) (maxL := 9) (ret := (Option.none : Option Jvm.ClassFile.FieldType)) (by decide) rfl ?_
  intro p e s m args below meth c s₁ Bd hml hv
  obtain ⟨rfl, hk0⟩ := hv
  obtain ⟨hsz, B⟩ := hk0.start
  subst hsz
  have hx := Bd.exec
  have hb := Bd.bytes
  have hr := Bd.returns
  have hlocks := Bd.notSynchronized
  have hts0 := atoms_spec Bd.pre
  have hown : s.vm.findClass RX7 = some m.cls := findClass_of_methodNamed Bd.named
  have hA : ∀ q, s.heap.size ≤ q → AL L s.heap.size q := fun _ h => Or.inr h
  have hl := lv_entry ([.ref y, .int (iI ((x : Int))), .int (iI ((sh : Int)))]) (n := 9) (Nat.le_of_ble_eq_true rfl)
  rw [lg_entry_eq]
  generalize (lg_sl ([.ref y, .int (iI ((x : Int))), .int (iI ((sh : Int)))]) ++ List.replicate (9 - (lg_sl ([.ref y, .int (iI ((x : Int))), .int (iI ((sh : Int)))])).length) Slot.unset).toArray = ls at hl ⊢
  refine absQ (fun Q R av hQ hR hav => ?_)
  have hts : ∀ w ∈ gw, w.before av s = true := by rw [hav]; exact fun w h => hts0 w (List.mem_cons_of_mem _ h)
  have hRf : R.frames = 1 := by rw [hR]; rfl
  have hRl : R.locals = 40 := by rw [hR]; rfl
  have hRc : R.cells = 0 := by rw [hR]; rfl
  have hRs : R.slots = 0 := by rw [hR]; rfl
  clear hR hts0 Bd
  have hl : lv_has ls 9 [(0, .ref y), (1, .int (iI ((x : Int)))), (2, .int (iI ((sh : Int))))] := hl
  obtain ⟨nx, hnx, hn8, hMx, htx, hvx⟩ := (hRS x hx8).nat
  have hsx := (hRS x hx8).side
  have hfx : ∀ q ∈ ([(y, .inr (7, [.int (iI th), .ref m1, .ref m2, .ref m3, .int (iI pn), .ref m5, .ref m6, .ref m7, .ref m8, .ref m9, .ref m10, .ref m11, .ref m12, .ref m13, .int (iI rw_), .ref m15, .long (lI fu), .long (lI fb)])), (m1, .inl (cs 0, 11520, .inl (ai lm))), (m2, .inl (cs 0, 180, .inl (ai mn))), (m3, .inl (cs 0, 180, .inl (ai sn)))] : List (Nat × va_E)), f q.1 = q.2 := fun q hq => by
    simp only [List.mem_cons, List.not_mem_nil, or_false] at hq
    rcases hq with rfl | rfl | rfl | rfl
    · exact ha
    · exact hm1
    · exact hm2
    · exact hm3
  have hmw : mw f [(y, .inr (7, [.int (iI th), .ref m1, .ref m2, .ref m3, .int (iI pn), .ref m5, .ref m6, .ref m7, .ref m8, .ref m9, .ref m10, .ref m11, .ref m12, .ref m13, .int (iI rw_), .ref m15, .long (lI fu), .long (lI fb)])), (m1, .inl (cs 0, 11520, .inl (ai lm))), (m2, .inl (cs 0, 180, .inl (ai mn))), (m3, .inl (cs 0, 180, .inl (ai sn)))] = f := mw_self (fun k a e hk => hfx (a, e) (List.mem_of_getElem? hk))
  have B := B.focus [(y, .inr (7, [.int (iI th), .ref m1, .ref m2, .ref m3, .int (iI pn), .ref m5, .ref m6, .ref m7, .ref m8, .ref m9, .ref m10, .ref m11, .ref m12, .ref m13, .int (iI rw_), .ref m15, .long (lI fu), .long (lI fb)])), (m1, .inl (cs 0, 11520, .inl (ai lm))), (m2, .inl (cs 0, 180, .inl (ai mn))), (m3, .inl (cs 0, 180, .inl (ai sn)))] hfx
  refine lv_iload_n hx hb d_Mo_shift_0 rfl (lv_at hl 2 rfl) ?_
  refine x_bipush hx hb d_Mo_shift_1 (by decide) ?_
  refine x_idiv hx hb d_Mo_shift_3 (by omega) (by omega) (by omega) ?_
  refine lv_istore_n (lv' := [(3, .int (iI (((sh : Int)).tdiv 32))), (0, .ref y), (1, .int (iI ((x : Int)))), (2, .int (iI ((sh : Int))))]) hx hb d_Mo_shift_4 rfl hl (by decide) rfl (fun ls hl => ?_)
  refine lv_iload_n hx hb d_Mo_shift_5 rfl (lv_at hl 3 rfl) ?_
  refine x_bipush hx hb d_Mo_shift_6 (by decide) ?_
  refine x_irem hx hb d_Mo_shift_8 (by omega) (by omega) (by omega) ?_
  refine lv_istore (lv' := [(4, .int (iI (((sh : Int)).tmod 32))), (3, .int (iI (((sh : Int)).tdiv 32))), (0, .ref y), (1, .int (iI ((x : Int)))), (2, .int (iI ((sh : Int))))]) hx hb d_Mo_shift_9 hl (by decide) rfl (fun ls hl => ?_)
  have hl : lv_has ls 9 [(4, .int (iI (((sh % 32 : Nat) : Int)))), (3, .int (iI (((sh / 32 : Nat) : Int)))), (0, .ref y), (1, .int (iI ((x : Int)))), (2, .int (iI ((sh : Int))))] := hl
  refine lv_aload_n hx hb d_Mo_shift_11 rfl (lv_at hl 2 rfl) ?_
  refine x_get (C := RX7) (T := TX7) (N := 18) hx hb hts inX7 hown B hF 0 rfl rfl 3 (by decide) (hts _ w_680) (fun _ h9 => h9) rfl d_Mo_shift_12 ?_
  refine lv_iload_n hx hb d_Mo_shift_15 rfl (lv_at hl 3 rfl) ?_
  refine x_iald hx hb B hF 3 0 rfl rfl x (by omega) (by omega) (by decide) d_Mo_shift_16 ?_
  refine x_if_ne (tgt := 21) hx hb d_Mo_shift_17 (by decide) (by omega) (fun h17 => ?_) (fun h17 => ?_)
  · have hn0 : 0 < nx := by rcases Nat.eq_zero_or_pos nx with h | h; exfalso; rw [h, Ms_zero] at hvx; omega; exact h
    have hroom := shift_room hMx htx hvx hn0 hlt
    refine lv_aload_n hx hb d_Mo_shift_21 rfl (lv_at hl 2 rfl) ?_
    refine x_get (C := RX7) (T := TX7) (N := 18) hx hb hts inX7 hown B hF 0 rfl rfl 2 (by decide) (hts _ w_679) (fun _ h9 => h9) rfl d_Mo_shift_22 ?_
    refine lv_iload_n hx hb d_Mo_shift_25 rfl (lv_at hl 3 rfl) ?_
    refine x_iald hx hb B hF 2 0 rfl rfl x (by omega) (by omega) (by decide) d_Mo_shift_26 ?_
    refine lv_istore (lv' := [(5, .int (iI (mn x))), (4, .int (iI (((sh % 32 : Nat) : Int)))), (3, .int (iI (((sh / 32 : Nat) : Int)))), (0, .ref y), (1, .int (iI ((x : Int)))), (2, .int (iI ((sh : Int))))]) hx hb d_Mo_shift_27 hl (by decide) rfl (fun ls hl => ?_)
    refine lv_aload_n hx hb d_Mo_shift_29 rfl (lv_at hl 3 rfl) ?_
    refine x_get (C := RX7) (T := TX7) (N := 18) hx hb hts inX7 hown B hF 0 rfl rfl 1 (by decide) (hts _ w_678) (fun _ h9 => h9) rfl d_Mo_shift_30 ?_
    refine x_bipush hx hb d_Mo_shift_33 (by decide) ?_
    refine lv_iload_n hx hb d_Mo_shift_35 rfl (lv_at hl 4 rfl) ?_
    refine x_imul hx hb d_Mo_shift_36 ?_
    refine lv_iload hx hb d_Mo_shift_37 (lv_at hl 0 rfl) ?_
    refine x_iadd hx hb d_Mo_shift_39 ?_
    refine x_iconst hx hb d_Mo_shift_40 ?_
    refine x_iast hx hb B hF 1 0 rfl rfl (64 * x + nx) (by omega) (by omega) (by decide) d_Mo_shift_41 (fun H locs B => ?_)
    have B : Wb D vwCl (TY cs) L (mw f [(y, .inr (7, [.int (iI th), .ref m1, .ref m2, .ref m3, .int (iI pn), .ref m5, .ref m6, .ref m7, .ref m8, .ref m9, .ref m10, .ref m11, .ref m12, .ref m13, .int (iI rw_), .ref m15, .long (lI fu), .long (lI fb)])), (m1, .inl (cs 0, 11520, .inl (ai (up lm (64 * x + nx) 0)))), (m2, .inl (cs 0, 180, .inl (ai mn))), (m3, .inl (cs 0, 180, .inl (ai sn)))]) (AL L s.heap.size) s H _ := B
    refine lv_iload hx hb d_Mo_shift_42 (lv_at hl 0 rfl) ?_
    refine lv_iload_n hx hb d_Mo_shift_44 rfl (lv_at hl 2 rfl) ?_
    refine x_iadd hx hb d_Mo_shift_45 ?_
    refine lv_istore (lv' := [(6, .int (iI ((mn x) + (((sh / 32 : Nat) : Int))))), (5, .int (iI (mn x))), (4, .int (iI (((sh % 32 : Nat) : Int)))), (3, .int (iI (((sh / 32 : Nat) : Int)))), (0, .ref y), (1, .int (iI ((x : Int)))), (2, .int (iI ((sh : Int))))]) hx hb d_Mo_shift_46 hl (by decide) rfl (fun ls hl => ?_)
    have LP : ∀ (fuel : Nat) (k : Nat) (lm2 : Nat → Int), k < fuel → (k ≤ nx + sh / 32 + 1) → (Off x lm mn sn lm2 mn sn) → (∀ j, k ≤ j → j < nx + sh / 32 + 1 → fl lm2 x j = shl (fl lm x) nx (sh / 32) (sh % 32) j) → (∀ j, j < k → j ≤ nx → fl lm2 x j = mAt (fl lm x) nx j) → ∀ (H : Heap) (locs : List Loc) (ls : Array Slot), Wb D vwCl (TY cs) L (mw f [(y, .inr (7, [.int (iI th), .ref m1, .ref m2, .ref m3, .int (iI pn), .ref m5, .ref m6, .ref m7, .ref m8, .ref m9, .ref m10, .ref m11, .ref m12, .ref m13, .int (iI rw_), .ref m15, .long (lI fu), .long (lI fb)])), (m1, .inl (cs 0, 11520, .inl (ai lm2))), (m2, .inl (cs 0, 180, .inl (ai mn))), (m3, .inl (cs 0, 180, .inl (ai sn)))]) (AL L s.heap.size) s H locs → lv_has ls 9 [(6, .int (iI ((k : Int) - 1))), (5, .int (iI ((nx : Int)))), (4, .int (iI (((sh % 32 : Nat) : Int)))), (3, .int (iI (((sh / 32 : Nat) : Int)))), (0, .ref y), (1, .int (iI ((x : Int)))), (2, .int (iI ((sh : Int))))] → W p l e R s m av below meth c H locs (0) (0) Q (F0 m 48 ls []) := by
      intro fuel
      induction fuel with
      | zero => intro k lm2 hfu; exact absurd hfu (Nat.not_lt_zero _)
      | succ fuel ih_LP =>
        intro k lm2 hfu_LP hk hO hI hJ H locs ls B hl
        refine lv_iload hx hb d_Mo_shift_48 (lv_at hl 0 rfl) ?_
        refine x_if_lt (tgt := 167) hx hb d_Mo_shift_50 (by decide) (by omega) (fun h50 => ?_) (fun h50 => ?_)
        · refine lv_aload_n hx hb d_Mo_shift_167 rfl (lv_at hl 4 rfl) ?_
          refine x_get (C := RX7) (T := TX7) (N := 18) hx hb hts inX7 hown B hF 0 rfl rfl 2 (by decide) (hts _ w_679) (fun _ h9 => h9) rfl d_Mo_shift_168 ?_
          refine lv_iload_n hx hb d_Mo_shift_171 rfl (lv_at hl 5 rfl) ?_
          refine lv_iload hx hb d_Mo_shift_172 (lv_at hl 1 rfl) ?_
          refine lv_iload_n hx hb d_Mo_shift_174 rfl (lv_at hl 3 rfl) ?_
          refine x_iadd hx hb d_Mo_shift_175 ?_
          refine x_iconst hx hb d_Mo_shift_176 ?_
          refine x_iadd hx hb d_Mo_shift_177 ?_
          refine x_iast hx hb B hF 2 0 rfl rfl x (by omega) (by omega) (by decide) d_Mo_shift_178 (fun H locs B => ?_)
          have B : Wb D vwCl (TY cs) L (mw f [(y, .inr (7, [.int (iI th), .ref m1, .ref m2, .ref m3, .int (iI pn), .ref m5, .ref m6, .ref m7, .ref m8, .ref m9, .ref m10, .ref m11, .ref m12, .ref m13, .int (iI rw_), .ref m15, .long (lI fu), .long (lI fb)])), (m1, .inl (cs 0, 11520, .inl (ai lm2))), (m2, .inl (cs 0, 180, .inl (ai (up mn x ((((nx : Int)) + (((sh / 32 : Nat) : Int))) + 1))))), (m3, .inl (cs 0, 180, .inl (ai sn)))]) (AL L s.heap.size) s H _ := B
          refine lv_aload_n hx hb d_Mo_shift_179 rfl (lv_at hl 4 rfl) ?_
          refine lv_iload_n hx hb d_Mo_shift_180 rfl (lv_at hl 5 rfl) ?_
          refine x_callv B hA (va_runV (As := [.int (iI ((x : Int)))]) (rest := []) ⟨hx, hb, hml, hown, hts⟩ (c_Mo_trim l D cs _ _ _ y m1 m2 m3 m5 m6 m7 m8 m9 m10 m11 m12 m13 m15 th pn rw_ fu fb lm2 (up mn x ((((nx : Int)) + (((sh / 32 : Nat) : Int))) + 1)) sn Z x (nx + sh / 32 + 1) (Z x * 2 ^ sh) hF (mw_get (X := [(y, .inr (7, [.int (iI th), .ref m1, .ref m2, .ref m3, .int (iI pn), .ref m5, .ref m6, .ref m7, .ref m8, .ref m9, .ref m10, .ref m11, .ref m12, .ref m13, .int (iI rw_), .ref m15, .long (lI fu), .long (lI fb)])), (m1, .inl (cs 0, 11520, .inl (ai lm2))), (m2, .inl (cs 0, 180, .inl (ai (up mn x ((((nx : Int)) + (((sh / 32 : Nat) : Int))) + 1))))), (m3, .inl (cs 0, 180, .inl (ai sn)))]) hF.1 (k := 0) rfl) (mw_get (X := [(y, .inr (7, [.int (iI th), .ref m1, .ref m2, .ref m3, .int (iI pn), .ref m5, .ref m6, .ref m7, .ref m8, .ref m9, .ref m10, .ref m11, .ref m12, .ref m13, .int (iI rw_), .ref m15, .long (lI fu), .long (lI fb)])), (m1, .inl (cs 0, 11520, .inl (ai lm2))), (m2, .inl (cs 0, 180, .inl (ai (up mn x ((((nx : Int)) + (((sh / 32 : Nat) : Int))) + 1))))), (m3, .inl (cs 0, 180, .inl (ai sn)))]) hF.1 (k := 1) rfl) (mw_get (X := [(y, .inr (7, [.int (iI th), .ref m1, .ref m2, .ref m3, .int (iI pn), .ref m5, .ref m6, .ref m7, .ref m8, .ref m9, .ref m10, .ref m11, .ref m12, .ref m13, .int (iI rw_), .ref m15, .long (lI fu), .long (lI fb)])), (m1, .inl (cs 0, 11520, .inl (ai lm2))), (m2, .inl (cs 0, 180, .inl (ai (up mn x ((((nx : Int)) + (((sh / 32 : Nat) : Int))) + 1))))), (m3, .inl (cs 0, 180, .inl (ai sn)))]) hF.1 (k := 2) rfl) (mw_get (X := [(y, .inr (7, [.int (iI th), .ref m1, .ref m2, .ref m3, .int (iI pn), .ref m5, .ref m6, .ref m7, .ref m8, .ref m9, .ref m10, .ref m11, .ref m12, .ref m13, .int (iI rw_), .ref m15, .long (lI fu), .long (lI fb)])), (m1, .inl (cs 0, 11520, .inl (ai lm2))), (m2, .inl (cs 0, 180, .inl (ai (up mn x ((((nx : Int)) + (((sh / 32 : Nat) : Int))) + 1))))), (m3, .inl (cs 0, 180, .inl (ai sn)))]) hF.1 (k := 3) rfl)  (hRS.get (hO.many _)) hx8 (by rw [up_self]; omega) hroom ⟨fun j hj => by rw [hI j (by omega) hj]; exact shl_range (by omega) hMx j, by
        rw [Ms_congr (fun j hj => hI j (by omega) hj), Ms_shl, hvx, show 32 * (sh / 32) + sh % 32 = sh by omega, Int.natAbs_mul, Int.natCast_mul, Int.natAbs_pow]
        simp⟩ (fun _ => by rw [Int.sign_mul, Int.sign_eq_one_of_pos (pw2 sh), Int.mul_one]; exact (hRS x hx8).2.2.2.2.1)) (cwV 1 hts (gw_V w_816 w_818 s_40 w_8 w_819) rfl rfl rfl (by decide +kernel) ⟨by rw [hRf]; exact Nat.le_of_ble_eq_true rfl, by rw [hRl]; exact Nat.le_of_ble_eq_true rfl⟩) ⟨K0.blind, B.recv (hF.2 _ (mw_key (k := 0) (X := [(y, .inr (7, [.int (iI th), .ref m1, .ref m2, .ref m3, .int (iI pn), .ref m5, .ref m6, .ref m7, .ref m8, .ref m9, .ref m10, .ref m11, .ref m12, .ref m13, .int (iI rw_), .ref m15, .long (lI fu), .long (lI fb)])), (m1, .inl (cs 0, 11520, .inl (ai lm2))), (m2, .inl (cs 0, 180, .inl (ai (up mn x ((((nx : Int)) + (((sh / 32 : Nat) : Int))) + 1))))), (m3, .inl (cs 0, 180, .inl (ai sn)))]) rfl)) (mw_get (X := [(y, .inr (7, [.int (iI th), .ref m1, .ref m2, .ref m3, .int (iI pn), .ref m5, .ref m6, .ref m7, .ref m8, .ref m9, .ref m10, .ref m11, .ref m12, .ref m13, .int (iI rw_), .ref m15, .long (lI fu), .long (lI fb)])), (m1, .inl (cs 0, 11520, .inl (ai lm2))), (m2, .inl (cs 0, 180, .inl (ai (up mn x ((((nx : Int)) + (((sh / 32 : Nat) : Int))) + 1))))), (m3, .inl (cs 0, 180, .inl (ai sn)))]) hF.1 (k := 0) rfl) rfl, B.pre _⟩ rfl rfl hl.1 rfl (lv_room (Nat.le_of_ble_eq_true rfl)) d_Mo_shift_181 ⟨by rw [hRc]; omega, by rw [hRs]; omega⟩) (fun g181 H locs hw B => ?_)
          obtain ⟨lm181, mn181, sn181, hR1, rfl⟩ := hw
          have B := B.of_eq (mw_put3 (X := [(y, .inr (7, [.int (iI th), .ref m1, .ref m2, .ref m3, .int (iI pn), .ref m5, .ref m6, .ref m7, .ref m8, .ref m9, .ref m10, .ref m11, .ref m12, .ref m13, .int (iI rw_), .ref m15, .long (lI fu), .long (lI fb)])), (m1, .inl (cs 0, 11520, .inl (ai lm2))), (m2, .inl (cs 0, 180, .inl (ai (up mn x ((((nx : Int)) + (((sh / 32 : Nat) : Int))) + 1))))), (m3, .inl (cs 0, 180, .inl (ai sn)))]) hF.1 (k1 := 1) (k2 := 2) (k3 := 3) rfl rfl rfl)
          have B : Wb D vwCl (TY cs) L (mw f [(y, .inr (7, [.int (iI th), .ref m1, .ref m2, .ref m3, .int (iI pn), .ref m5, .ref m6, .ref m7, .ref m8, .ref m9, .ref m10, .ref m11, .ref m12, .ref m13, .int (iI rw_), .ref m15, .long (lI fu), .long (lI fb)])), (m1, .inl (cs 0, 11520, .inl (ai lm181))), (m2, .inl (cs 0, 180, .inl (ai mn181))), (m3, .inl (cs 0, 180, .inl (ai sn181)))]) (AL L s.heap.size) s H _ := B
          subst hQ hav
          exact x_vret hx hb hr hlocks B d_Mo_shift_184 (⟨_, _, _, hR1, mw_drop (f := f) (X := [(m1, .inl (cs 0, 11520, .inl (ai lm181))), (m2, .inl (cs 0, 180, .inl (ai mn181))), (m3, .inl (cs 0, 180, .inl (ai sn181)))]) ha (List.nodup_cons.mp hF.1).1⟩)
        · have JC : ∀ (vv : Int), (vv % 4294967296 = shl (fl lm x) nx (sh / 32) (sh % 32) (k - 1)) → ∀ (H : Heap) (locs : List Loc) (ls : Array Slot), Wb D vwCl (TY cs) L (mw f [(y, .inr (7, [.int (iI th), .ref m1, .ref m2, .ref m3, .int (iI pn), .ref m5, .ref m6, .ref m7, .ref m8, .ref m9, .ref m10, .ref m11, .ref m12, .ref m13, .int (iI rw_), .ref m15, .long (lI fu), .long (lI fb)])), (m1, .inl (cs 0, 11520, .inl (ai lm2))), (m2, .inl (cs 0, 180, .inl (ai mn))), (m3, .inl (cs 0, 180, .inl (ai sn)))]) (AL L s.heap.size) s H locs → lv_has ls 9 [(7, .long (lI vv)), (6, .int (iI ((k : Int) - 1))), (5, .int (iI ((nx : Int)))), (4, .int (iI (((sh % 32 : Nat) : Int)))), (3, .int (iI (((sh / 32 : Nat) : Int)))), (0, .ref y), (1, .int (iI ((x : Int)))), (2, .int (iI ((sh : Int))))] → W p l e R s m av below meth c H locs (0) (0) Q (F0 m 146 ls []) := by
            intro vv hvv H locs ls B hl
            refine lv_aload_n hx hb d_Mo_shift_146 rfl (lv_at hl 5 rfl) ?_
            refine x_get (C := RX7) (T := TX7) (N := 18) hx hb hts inX7 hown B hF 0 rfl rfl 1 (by decide) (hts _ w_678) (fun _ h9 => h9) rfl d_Mo_shift_147 ?_
            refine x_bipush hx hb d_Mo_shift_150 (by decide) ?_
            refine lv_iload_n hx hb d_Mo_shift_152 rfl (lv_at hl 6 rfl) ?_
            refine x_imul hx hb d_Mo_shift_153 ?_
            refine lv_iload hx hb d_Mo_shift_154 (lv_at hl 1 rfl) ?_
            refine x_iadd hx hb d_Mo_shift_156 ?_
            refine lv_lload hx hb d_Mo_shift_157 (lv_at hl 0 rfl) ?_
            refine x_l2iw hx hb d_Mo_shift_159 ?_
            refine x_iast hx hb B hF 1 0 rfl rfl (64 * x + (k - 1)) (by omega) (by omega) (by decide) d_Mo_shift_160 (fun H locs B => ?_)
            have B : Wb D vwCl (TY cs) L (mw f [(y, .inr (7, [.int (iI th), .ref m1, .ref m2, .ref m3, .int (iI pn), .ref m5, .ref m6, .ref m7, .ref m8, .ref m9, .ref m10, .ref m11, .ref m12, .ref m13, .int (iI rw_), .ref m15, .long (lI fu), .long (lI fb)])), (m1, .inl (cs 0, 11520, .inl (ai (up lm2 (64 * x + (k - 1)) (vv % 4294967296))))), (m2, .inl (cs 0, 180, .inl (ai mn))), (m3, .inl (cs 0, 180, .inl (ai sn)))]) (AL L s.heap.size) s H _ := B
            refine x_iinc (lv' := [(6, .int (iI (((k : Int) - 1) + (-1)))), (7, .long (lI vv)), (5, .int (iI ((nx : Int)))), (4, .int (iI (((sh % 32 : Nat) : Int)))), (3, .int (iI (((sh / 32 : Nat) : Int)))), (0, .ref y), (1, .int (iI ((x : Int)))), (2, .int (iI ((sh : Int))))]) hx hb d_Mo_shift_161 hl (q := 1) rfl rfl (by decide) rfl (fun ls hl => ?_)
            refine lv_goto (tgt := 48) hx hb d_Mo_shift_164 (by decide) ?_
            rw [show (k : Int) - 1 + (-1) = ((k - 1 : Nat) : Int) - 1 by omega] at hl
            exact ih_LP (k - 1) (up lm2 (64 * x + (k - 1)) (vv % 4294967296)) (by omega) (by omega) (hO.limb (by omega) _) (fun j h1 h2 => by
          rw [fl_up]
          by_cases hjk : j = k - 1
          · rw [hjk, up_self]; exact hvv
          · rw [up_ne _ _ hjk]; exact hI j (by omega) h2) (fun j h1 h2 => by
          rw [fl_up, up_ne _ _ (by omega)]; exact hJ j (by omega) h2) _ _ _ B (lv_sub hl [0, 2, 3, 4, 5, 6, 7] rfl)
          refine x_lconst (z := 0) hx hb d_Mo_shift_53 (by decide) ?_
          refine lv_lstore (lv' := [(7, .long (lI 0)), (6, .int (iI ((k : Int) - 1))), (5, .int (iI ((nx : Int)))), (4, .int (iI (((sh % 32 : Nat) : Int)))), (3, .int (iI (((sh / 32 : Nat) : Int)))), (0, .ref y), (1, .int (iI ((x : Int)))), (2, .int (iI ((sh : Int))))]) hx hb d_Mo_shift_54 hl (by decide) rfl (fun ls hl => ?_)
          refine lv_iload hx hb d_Mo_shift_56 (lv_at hl 1 rfl) ?_
          refine lv_iload_n hx hb d_Mo_shift_58 rfl (lv_at hl 4 rfl) ?_
          refine x_isub hx hb d_Mo_shift_59 ?_
          refine x_if_lt (tgt := 146) hx hb d_Mo_shift_60 (by decide) (by omega) (fun h60 => ?_) (fun h60 => ?_)
          · exact JC 0 (by rw [shl, if_pos (by omega)]; rfl) _ _ _ B (lv_sub hl [0, 1, 2, 3, 4, 5, 6, 7] rfl)
          · have JA : ∀ (u : Int), (u = mAt (fl lm x) nx (k - 1 - sh / 32)) → (0 ≤ u ∧ u < 4294967296) → ∀ (H : Heap) (locs : List Loc) (ls : Array Slot), Wb D vwCl (TY cs) L (mw f [(y, .inr (7, [.int (iI th), .ref m1, .ref m2, .ref m3, .int (iI pn), .ref m5, .ref m6, .ref m7, .ref m8, .ref m9, .ref m10, .ref m11, .ref m12, .ref m13, .int (iI rw_), .ref m15, .long (lI fu), .long (lI fb)])), (m1, .inl (cs 0, 11520, .inl (ai lm2))), (m2, .inl (cs 0, 180, .inl (ai mn))), (m3, .inl (cs 0, 180, .inl (ai sn)))]) (AL L s.heap.size) s H locs → lv_has ls 9 [(7, .long (lI 0)), (6, .int (iI ((k : Int) - 1))), (5, .int (iI ((nx : Int)))), (4, .int (iI (((sh % 32 : Nat) : Int)))), (3, .int (iI (((sh / 32 : Nat) : Int)))), (0, .ref y), (1, .int (iI ((x : Int)))), (2, .int (iI ((sh : Int))))] → W p l e R s m av below meth c H locs (0) (0) Q (F0 m 95 ls [.long (lI u)]) := by
              intro u hu hur H locs ls B hl
              have hub := mul_pow_lt (b := sh % 32) (by omega) hur
              refine lv_iload hx hb d_Mo_shift_95 (lv_at hl 3 rfl) ?_
              refine x_lshlv hx hb (sh % 32) (rfl) (by omega) d_Mo_shift_97 ?_
              refine lv_lstore (lv' := [(7, .long (lI (u * 2 ^ (sh % 32)))), (6, .int (iI ((k : Int) - 1))), (5, .int (iI ((nx : Int)))), (4, .int (iI (((sh % 32 : Nat) : Int)))), (3, .int (iI (((sh / 32 : Nat) : Int)))), (0, .ref y), (1, .int (iI ((x : Int)))), (2, .int (iI ((sh : Int))))]) hx hb d_Mo_shift_98 hl (by decide) rfl (fun ls hl => ?_)
              have JB : ∀ (v2 : Int), (v2 = if (k - 1 - sh / 32) = 0 then 0 else (mAt (fl lm x) nx ((k - 1 - sh / 32) - 1) * 2 ^ (sh % 32)) / 4294967296) → (0 ≤ v2 ∧ v2 < 2 ^ (sh % 32)) → ∀ (H : Heap) (locs : List Loc) (ls : Array Slot), Wb D vwCl (TY cs) L (mw f [(y, .inr (7, [.int (iI th), .ref m1, .ref m2, .ref m3, .int (iI pn), .ref m5, .ref m6, .ref m7, .ref m8, .ref m9, .ref m10, .ref m11, .ref m12, .ref m13, .int (iI rw_), .ref m15, .long (lI fu), .long (lI fb)])), (m1, .inl (cs 0, 11520, .inl (ai lm2))), (m2, .inl (cs 0, 180, .inl (ai mn))), (m3, .inl (cs 0, 180, .inl (ai sn)))]) (AL L s.heap.size) s H locs → lv_has ls 9 [(7, .long (lI (u * 2 ^ (sh % 32)))), (6, .int (iI ((k : Int) - 1))), (5, .int (iI ((nx : Int)))), (4, .int (iI (((sh % 32 : Nat) : Int)))), (3, .int (iI (((sh / 32 : Nat) : Int)))), (0, .ref y), (1, .int (iI ((x : Int)))), (2, .int (iI ((sh : Int))))] → W p l e R s m av below meth c H locs (0) (0) Q (F0 m 143 ls [.long (lI v2), .long (lI (u * 2 ^ (sh % 32)))]) := by
                intro v2 hv2 hv2r H locs ls B hl
                have hvb : (2 : Int) ^ (sh % 32) ≤ 2147483648 := by have h9 := pow_big (show sh % 32 ≤ 31 by omega); exact h9
                refine x_lorv hx hb (sh % 32) d_Mo_shift_143 (hv2r) (hub.1) (by omega) ?_
                refine lv_lstore (lv' := [(7, .long (lI (u * 2 ^ (sh % 32) + v2))), (6, .int (iI ((k : Int) - 1))), (5, .int (iI ((nx : Int)))), (4, .int (iI (((sh % 32 : Nat) : Int)))), (3, .int (iI (((sh / 32 : Nat) : Int)))), (0, .ref y), (1, .int (iI ((x : Int)))), (2, .int (iI ((sh : Int))))]) hx hb d_Mo_shift_144 hl (by decide) rfl (fun ls hl => ?_)
                exact JC (u * 2 ^ (sh % 32) + v2) (shl_put hMx (by omega) (by omega) hu hv2) _ _ _ B (lv_sub hl [0, 1, 2, 3, 4, 5, 6, 7] rfl)
              refine lv_lload hx hb d_Mo_shift_100 (lv_at hl 0 rfl) ?_
              refine lv_iload hx hb d_Mo_shift_102 (lv_at hl 3 rfl) ?_
              refine x_if_le (tgt := 142) hx hb d_Mo_shift_104 (by decide) (by omega) (fun h104 => ?_) (fun h104 => ?_)
              · refine x_lconst (z := 0) hx hb d_Mo_shift_142 (by decide) ?_
                exact JB 0 (shl_none hMx (by omega)) (⟨Int.le_refl _, pw2 _⟩) _ _ _ B (lv_sub hl [0, 1, 2, 3, 4, 5, 6, 7] rfl)
              · refine lv_iload hx hb d_Mo_shift_107 (lv_at hl 1 rfl) ?_
                refine lv_iload_n hx hb d_Mo_shift_109 rfl (lv_at hl 4 rfl) ?_
                refine x_isub hx hb d_Mo_shift_110 ?_
                refine x_if_le (tgt := 142) hx hb d_Mo_shift_111 (by decide) (by omega) (fun h111 => ?_) (fun h111 => ?_)
                · refine x_lconst (z := 0) hx hb d_Mo_shift_142 (by decide) ?_
                  exact JB 0 (shl_none hMx (by omega)) (⟨Int.le_refl _, pw2 _⟩) _ _ _ B (lv_sub hl [0, 1, 2, 3, 4, 5, 6, 7] rfl)
                · refine lv_aload_n hx hb d_Mo_shift_114 rfl (lv_at hl 5 rfl) ?_
                  refine x_get (C := RX7) (T := TX7) (N := 18) hx hb hts inX7 hown B hF 0 rfl rfl 1 (by decide) (hts _ w_678) (fun _ h9 => h9) rfl d_Mo_shift_115 ?_
                  refine x_bipush hx hb d_Mo_shift_118 (by decide) ?_
                  refine lv_iload_n hx hb d_Mo_shift_120 rfl (lv_at hl 6 rfl) ?_
                  refine x_imul hx hb d_Mo_shift_121 ?_
                  refine lv_iload hx hb d_Mo_shift_122 (lv_at hl 1 rfl) ?_
                  refine x_iadd hx hb d_Mo_shift_124 ?_
                  refine lv_iload_n hx hb d_Mo_shift_125 rfl (lv_at hl 4 rfl) ?_
                  refine x_isub hx hb d_Mo_shift_126 ?_
                  refine x_iconst hx hb d_Mo_shift_127 ?_
                  refine x_isub hx hb d_Mo_shift_128 ?_
                  refine x_iald hx hb B hF 1 0 rfl rfl (64 * x + ((k - 1 - sh / 32) - 1)) (by omega) (by omega) (by decide) d_Mo_shift_129 ?_
                  refine x_calll B hA (va_runS (As := [.int (iI (lm2 (64 * x + ((k - 1 - sh / 32) - 1))))]) (rest := [.long (lI (u * 2 ^ (sh % 32)))]) ⟨hx, hb, hml, hown, hts⟩ (c_Mo_low l D cs _ _ _ (lm2 (64 * x + ((k - 1 - sh / 32) - 1)))) (va_cwS 1 hts (gw_S w_812 w_813 w_8 w_814) rfl rfl rfl (by decide +kernel) ⟨by rw [hRf]; exact Nat.le_of_ble_eq_true rfl, by rw [hRl]; exact Nat.le_of_ble_eq_true rfl⟩) ⟨K0.blind, B.pre _⟩ rfl rfl hl.1 rfl (lv_room (Nat.le_of_ble_eq_true rfl)) d_Mo_shift_130 ⟨by rw [hRc]; omega, by rw [hRs]; omega⟩) (fun r130 g130 H locs hw B => ?_)
                  obtain ⟨rfl, rfl⟩ := hw
                  rw [show (lm2 (64 * x + ((k - 1 - sh / 32) - 1))) % 4294967296 = mAt (fl lm x) nx ((k - 1 - sh / 32) - 1) from low_of (hJ ((k - 1 - sh / 32) - 1) (by omega) (by omega)) (mAt_range hMx _)]
                  have B : Wb D vwCl (TY cs) L (mw f [(y, .inr (7, [.int (iI th), .ref m1, .ref m2, .ref m3, .int (iI pn), .ref m5, .ref m6, .ref m7, .ref m8, .ref m9, .ref m10, .ref m11, .ref m12, .ref m13, .int (iI rw_), .ref m15, .long (lI fu), .long (lI fb)])), (m1, .inl (cs 0, 11520, .inl (ai lm2))), (m2, .inl (cs 0, 180, .inl (ai mn))), (m3, .inl (cs 0, 180, .inl (ai sn)))]) (AL L s.heap.size) s H _ := B
                  refine x_bipush hx hb d_Mo_shift_133 (by decide) ?_
                  refine lv_iload hx hb d_Mo_shift_135 (lv_at hl 3 rfl) ?_
                  refine x_isub hx hb d_Mo_shift_137 ?_
                  refine x_lushrv hx hb (32 - sh % 32) (by omega) (by omega) d_Mo_shift_138 (by have hr9 := mAt_range hMx ((k - 1 - sh / 32) - 1); omega) ?_
                  refine lv_goto (tgt := 143) hx hb d_Mo_shift_139 (by decide) ?_
                  exact JB ((mAt (fl lm x) nx ((k - 1 - sh / 32) - 1)) / 2 ^ (32 - sh % 32)) (by rw [if_neg (show ¬ (k - 1 - sh / 32) = 0 by omega), shr_eq (by omega)]) (shr_lt (by omega) (mAt_range hMx _)) _ _ _ B (lv_sub hl [0, 1, 2, 3, 4, 5, 6, 7] rfl)
            refine lv_iload hx hb d_Mo_shift_63 (lv_at hl 1 rfl) ?_
            refine lv_iload_n hx hb d_Mo_shift_65 rfl (lv_at hl 4 rfl) ?_
            refine x_isub hx hb d_Mo_shift_66 ?_
            refine lv_iload hx hb d_Mo_shift_67 (lv_at hl 2 rfl) ?_
            refine x_iconst hx hb d_Mo_shift_69 ?_
            refine x_isub hx hb d_Mo_shift_70 ?_
            refine x_icmp_gt (tgt := 94) hx hb d_Mo_shift_71 (by decide) (by omega) (by omega) (fun h71 => ?_) (fun h71 => ?_)
            · refine x_lconst (z := 0) hx hb d_Mo_shift_94 (by decide) ?_
              exact JA 0 (by rw [mAt, if_neg (by omega)]) (by omega) _ _ _ B (lv_sub hl [0, 1, 2, 3, 4, 5, 6, 7] rfl)
            · refine lv_aload_n hx hb d_Mo_shift_74 rfl (lv_at hl 5 rfl) ?_
              refine x_get (C := RX7) (T := TX7) (N := 18) hx hb hts inX7 hown B hF 0 rfl rfl 1 (by decide) (hts _ w_678) (fun _ h9 => h9) rfl d_Mo_shift_75 ?_
              refine x_bipush hx hb d_Mo_shift_78 (by decide) ?_
              refine lv_iload_n hx hb d_Mo_shift_80 rfl (lv_at hl 6 rfl) ?_
              refine x_imul hx hb d_Mo_shift_81 ?_
              refine lv_iload hx hb d_Mo_shift_82 (lv_at hl 1 rfl) ?_
              refine x_iadd hx hb d_Mo_shift_84 ?_
              refine lv_iload_n hx hb d_Mo_shift_85 rfl (lv_at hl 4 rfl) ?_
              refine x_isub hx hb d_Mo_shift_86 ?_
              refine x_iald hx hb B hF 1 0 rfl rfl (64 * x + (k - 1 - sh / 32)) (by omega) (by omega) (by decide) d_Mo_shift_87 ?_
              refine x_calll B hA (va_runS (As := [.int (iI (lm2 (64 * x + (k - 1 - sh / 32))))]) (rest := []) ⟨hx, hb, hml, hown, hts⟩ (c_Mo_low l D cs _ _ _ (lm2 (64 * x + (k - 1 - sh / 32)))) (va_cwS 1 hts (gw_S w_812 w_813 w_8 w_814) rfl rfl rfl (by decide +kernel) ⟨by rw [hRf]; exact Nat.le_of_ble_eq_true rfl, by rw [hRl]; exact Nat.le_of_ble_eq_true rfl⟩) ⟨K0.blind, B.pre _⟩ rfl rfl hl.1 rfl (lv_room (Nat.le_of_ble_eq_true rfl)) d_Mo_shift_88 ⟨by rw [hRc]; omega, by rw [hRs]; omega⟩) (fun r88 g88 H locs hw B => ?_)
              obtain ⟨rfl, rfl⟩ := hw
              rw [show (lm2 (64 * x + (k - 1 - sh / 32))) % 4294967296 = mAt (fl lm x) nx (k - 1 - sh / 32) from low_of (hJ (k - 1 - sh / 32) (by omega) (by omega)) (mAt_range hMx _)]
              have B : Wb D vwCl (TY cs) L (mw f [(y, .inr (7, [.int (iI th), .ref m1, .ref m2, .ref m3, .int (iI pn), .ref m5, .ref m6, .ref m7, .ref m8, .ref m9, .ref m10, .ref m11, .ref m12, .ref m13, .int (iI rw_), .ref m15, .long (lI fu), .long (lI fb)])), (m1, .inl (cs 0, 11520, .inl (ai lm2))), (m2, .inl (cs 0, 180, .inl (ai mn))), (m3, .inl (cs 0, 180, .inl (ai sn)))]) (AL L s.heap.size) s H _ := B
              refine lv_goto (tgt := 95) hx hb d_Mo_shift_91 (by decide) ?_
              exact JA (mAt (fl lm x) nx (k - 1 - sh / 32)) rfl (mAt_range hMx _) _ _ _ B (lv_sub hl [0, 1, 2, 3, 4, 5, 6, 7] rfl)
    rw [hnx] at hl
    rw [show (nx : Int) + ((sh / 32 : Nat) : Int) = ((nx + sh / 32 + 1 : Nat) : Int) - 1 by omega] at hl
    exact LP _ (nx + sh / 32 + 1) (up lm (64 * x + nx) 0) (Nat.lt_succ_self _) (by omega) ((Off.refl x lm mn sn).limb (by omega) _) (fun j h1 h2 => by omega) (fun j h1 h2 => by
          rw [fl_up]
          by_cases hjn : j = nx
          · rw [hjn, up_self, mAt, if_neg (by omega)]
          · rw [up_ne _ _ hjn, mAt, if_pos (by omega)]) _ _ _ B (lv_sub hl [0, 1, 2, 3, 4, 5, 6] rfl)
  · have hz0 : Z x = 0 := by omega
    have B := B.of_eq hmw
    subst hQ hav
    exact x_vret hx hb hr hlocks B d_Mo_shift_20 (⟨lm, mn, sn, RS.set (hRS.off x) (Off.refl x lm mn sn) (by rw [hz0, Int.zero_mul, ← hz0]; exact hRS x hx8), (mw_self (X := [(m1, .inl (cs 0, 11520, .inl (ai lm))), (m2, .inl (cs 0, 180, .inl (ai mn))), (m3, .inl (cs 0, 180, .inl (ai sn)))]) (fun k a e hk => hfx (a, e) (List.mem_cons_of_mem _ (List.mem_of_getElem? hk)))).symm⟩)
