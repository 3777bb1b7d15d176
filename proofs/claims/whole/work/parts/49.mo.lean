theorem mpro_room {n m : Nat} {g h : Nat → Int} {a b : Int} (hg : Mb g n) (hh : Mb h m) (tg : 0 < n → g (n - 1) ≠ 0) (th : 0 < m → h (m - 1) ≠ 0) (eg : Ms g n = (a.natAbs : Int)) (eh : Ms h m = (b.natAbs : Int)) (hn : n ≤ 64) (hm : m ≤ 64) (hlt : ((a * b).natAbs : Int) < Mp 63) : n + m ≤ 64 := by
  rcases Nat.eq_zero_or_pos n with h0 | h0
  · omega
  rcases Nat.eq_zero_or_pos m with h1 | h1
  · omega
  have h7 := Ms_top (g := g) (n := n - 1) (by rw [show n - 1 + 1 = n by omega]; exact hg) (tg h0)
  rw [show n - 1 + 1 = n by omega] at h7
  have h8 := Ms_top (g := h) (n := m - 1) (by rw [show m - 1 + 1 = m by omega]; exact hh) (th h1)
  rw [show m - 1 + 1 = m by omega] at h8
  have h9 := Int.mul_le_mul h7 h8 (Int.le_of_lt (Mp_pos _)) (by omega)
  rw [eg, eh, ← Int.natCast_mul, ← Int.natAbs_mul, ← Mp_add] at h9
  have := Mp_lt (show Mp (n - 1 + (m - 1)) < Mp 63 by omega)
  omega
theorem Off.at {x : Nat} {lm mn sn lm' mn' sn' : Nat → Int} (h : Off x lm mn sn lm' mn' sn') {w j : Nat} (hw : w < 180) (hwx : w ≠ x) (hj : j < 64) : lm' (64 * w + j) = lm (64 * w + j) := (h w hw hwx).1 j hj
theorem low_of {a b : Int} (h : a = b) (hb : 0 ≤ b ∧ b < 4294967296) : a % 4294967296 = b := by
  rw [h]
  exact Int.emod_eq_of_lt hb.1 hb.2
theorem d_Mo_multiply_0 : decode prog_9_method_12_code 0 = .ok (.sipush 11392, 3) := by decide +kernel
theorem d_Mo_multiply_3 : decode prog_9_method_12_code 3 = .ok (.istore 4, 2) := by decide +kernel
theorem d_Mo_multiply_5 : decode prog_9_method_12_code 5 = .ok (.aload_n 0, 1) := by decide +kernel
theorem d_Mo_multiply_6 : decode prog_9_method_12_code 6 = .ok (.getfield 13, 3) := by decide +kernel
theorem d_Mo_multiply_9 : decode prog_9_method_12_code 9 = .ok (.iload_n 2, 1) := by decide +kernel
theorem d_Mo_multiply_10 : decode prog_9_method_12_code 10 = .ok (.iaload, 1) := by decide +kernel
theorem d_Mo_multiply_11 : decode prog_9_method_12_code 11 = .ok (.aload_n 0, 1) := by decide +kernel
theorem d_Mo_multiply_12 : decode prog_9_method_12_code 12 = .ok (.getfield 13, 3) := by decide +kernel
theorem d_Mo_multiply_15 : decode prog_9_method_12_code 15 = .ok (.iload_n 3, 1) := by decide +kernel
theorem d_Mo_multiply_16 : decode prog_9_method_12_code 16 = .ok (.iaload, 1) := by decide +kernel
theorem d_Mo_multiply_17 : decode prog_9_method_12_code 17 = .ok (.iadd, 1) := by decide +kernel
theorem d_Mo_multiply_18 : decode prog_9_method_12_code 18 = .ok (.istore 5, 2) := by decide +kernel
theorem d_Mo_multiply_20 : decode prog_9_method_12_code 20 = .ok (.iconst 0, 1) := by decide +kernel
theorem d_Mo_multiply_21 : decode prog_9_method_12_code 21 = .ok (.istore 6, 2) := by decide +kernel
theorem d_Mo_multiply_23 : decode prog_9_method_12_code 23 = .ok (.iload 6, 2) := by decide +kernel
theorem d_Mo_multiply_25 : decode prog_9_method_12_code 25 = .ok (.iload 5, 2) := by decide +kernel
theorem d_Mo_multiply_27 : decode prog_9_method_12_code 27 = .ok (.if_icmp .ge 20, 3) := by decide +kernel
theorem d_Mo_multiply_30 : decode prog_9_method_12_code 30 = .ok (.aload_n 0, 1) := by decide +kernel
theorem d_Mo_multiply_31 : decode prog_9_method_12_code 31 = .ok (.getfield 7, 3) := by decide +kernel
theorem d_Mo_multiply_34 : decode prog_9_method_12_code 34 = .ok (.iload 4, 2) := by decide +kernel
theorem d_Mo_multiply_36 : decode prog_9_method_12_code 36 = .ok (.iload 6, 2) := by decide +kernel
theorem d_Mo_multiply_38 : decode prog_9_method_12_code 38 = .ok (.iadd, 1) := by decide +kernel
theorem d_Mo_multiply_39 : decode prog_9_method_12_code 39 = .ok (.iconst 0, 1) := by decide +kernel
theorem d_Mo_multiply_40 : decode prog_9_method_12_code 40 = .ok (.iastore, 1) := by decide +kernel
theorem d_Mo_multiply_41 : decode prog_9_method_12_code 41 = .ok (.iinc 6 1, 3) := by decide +kernel
theorem d_Mo_multiply_44 : decode prog_9_method_12_code 44 = .ok (.goto (-21), 3) := by decide +kernel
theorem d_Mo_multiply_47 : decode prog_9_method_12_code 47 = .ok (.iconst 0, 1) := by decide +kernel
theorem d_Mo_multiply_48 : decode prog_9_method_12_code 48 = .ok (.istore 6, 2) := by decide +kernel
theorem d_Mo_multiply_50 : decode prog_9_method_12_code 50 = .ok (.iload 6, 2) := by decide +kernel
theorem d_Mo_multiply_52 : decode prog_9_method_12_code 52 = .ok (.aload_n 0, 1) := by decide +kernel
theorem d_Mo_multiply_53 : decode prog_9_method_12_code 53 = .ok (.getfield 13, 3) := by decide +kernel
theorem d_Mo_multiply_56 : decode prog_9_method_12_code 56 = .ok (.iload_n 2, 1) := by decide +kernel
theorem d_Mo_multiply_57 : decode prog_9_method_12_code 57 = .ok (.iaload, 1) := by decide +kernel
theorem d_Mo_multiply_58 : decode prog_9_method_12_code 58 = .ok (.if_icmp .ge 132, 3) := by decide +kernel
theorem d_Mo_multiply_61 : decode prog_9_method_12_code 61 = .ok (.aload_n 0, 1) := by decide +kernel
theorem d_Mo_multiply_62 : decode prog_9_method_12_code 62 = .ok (.getfield 7, 3) := by decide +kernel
theorem d_Mo_multiply_65 : decode prog_9_method_12_code 65 = .ok (.bipush 64, 2) := by decide +kernel
theorem d_Mo_multiply_67 : decode prog_9_method_12_code 67 = .ok (.iload_n 2, 1) := by decide +kernel
theorem d_Mo_multiply_68 : decode prog_9_method_12_code 68 = .ok (.imul, 1) := by decide +kernel
theorem d_Mo_multiply_69 : decode prog_9_method_12_code 69 = .ok (.iload 6, 2) := by decide +kernel
theorem d_Mo_multiply_71 : decode prog_9_method_12_code 71 = .ok (.iadd, 1) := by decide +kernel
theorem d_Mo_multiply_72 : decode prog_9_method_12_code 72 = .ok (.iaload, 1) := by decide +kernel
theorem d_Mo_multiply_73 : decode prog_9_method_12_code 73 = .ok (.invokestatic 57, 3) := by decide +kernel
theorem d_Mo_multiply_76 : decode prog_9_method_12_code 76 = .ok (.lstore 7, 2) := by decide +kernel
theorem d_Mo_multiply_78 : decode prog_9_method_12_code 78 = .ok (.lconst 0, 1) := by decide +kernel
theorem d_Mo_multiply_79 : decode prog_9_method_12_code 79 = .ok (.lstore 9, 2) := by decide +kernel
theorem d_Mo_multiply_81 : decode prog_9_method_12_code 81 = .ok (.iconst 0, 1) := by decide +kernel
theorem d_Mo_multiply_82 : decode prog_9_method_12_code 82 = .ok (.istore 11, 2) := by decide +kernel
theorem d_Mo_multiply_84 : decode prog_9_method_12_code 84 = .ok (.iload 11, 2) := by decide +kernel
theorem d_Mo_multiply_86 : decode prog_9_method_12_code 86 = .ok (.aload_n 0, 1) := by decide +kernel
theorem d_Mo_multiply_87 : decode prog_9_method_12_code 87 = .ok (.getfield 13, 3) := by decide +kernel
theorem d_Mo_multiply_90 : decode prog_9_method_12_code 90 = .ok (.iload_n 3, 1) := by decide +kernel
theorem d_Mo_multiply_91 : decode prog_9_method_12_code 91 = .ok (.iaload, 1) := by decide +kernel
theorem d_Mo_multiply_92 : decode prog_9_method_12_code 92 = .ok (.if_icmp .ge 72, 3) := by decide +kernel
theorem d_Mo_multiply_95 : decode prog_9_method_12_code 95 = .ok (.lload 9, 2) := by decide +kernel
theorem d_Mo_multiply_97 : decode prog_9_method_12_code 97 = .ok (.lload 7, 2) := by decide +kernel
theorem d_Mo_multiply_99 : decode prog_9_method_12_code 99 = .ok (.aload_n 0, 1) := by decide +kernel
theorem d_Mo_multiply_100 : decode prog_9_method_12_code 100 = .ok (.getfield 7, 3) := by decide +kernel
theorem d_Mo_multiply_103 : decode prog_9_method_12_code 103 = .ok (.bipush 64, 2) := by decide +kernel
theorem d_Mo_multiply_105 : decode prog_9_method_12_code 105 = .ok (.iload_n 3, 1) := by decide +kernel
theorem d_Mo_multiply_106 : decode prog_9_method_12_code 106 = .ok (.imul, 1) := by decide +kernel
theorem d_Mo_multiply_107 : decode prog_9_method_12_code 107 = .ok (.iload 11, 2) := by decide +kernel
theorem d_Mo_multiply_109 : decode prog_9_method_12_code 109 = .ok (.iadd, 1) := by decide +kernel
theorem d_Mo_multiply_110 : decode prog_9_method_12_code 110 = .ok (.iaload, 1) := by decide +kernel
theorem d_Mo_multiply_111 : decode prog_9_method_12_code 111 = .ok (.invokestatic 57, 3) := by decide +kernel
theorem d_Mo_multiply_114 : decode prog_9_method_12_code 114 = .ok (.lmul, 1) := by decide +kernel
theorem d_Mo_multiply_115 : decode prog_9_method_12_code 115 = .ok (.aload_n 0, 1) := by decide +kernel
theorem d_Mo_multiply_116 : decode prog_9_method_12_code 116 = .ok (.getfield 7, 3) := by decide +kernel
theorem d_Mo_multiply_119 : decode prog_9_method_12_code 119 = .ok (.iload 4, 2) := by decide +kernel
theorem d_Mo_multiply_121 : decode prog_9_method_12_code 121 = .ok (.iload 6, 2) := by decide +kernel
theorem d_Mo_multiply_123 : decode prog_9_method_12_code 123 = .ok (.iadd, 1) := by decide +kernel
theorem d_Mo_multiply_124 : decode prog_9_method_12_code 124 = .ok (.iload 11, 2) := by decide +kernel
theorem d_Mo_multiply_126 : decode prog_9_method_12_code 126 = .ok (.iadd, 1) := by decide +kernel
theorem d_Mo_multiply_127 : decode prog_9_method_12_code 127 = .ok (.iaload, 1) := by decide +kernel
theorem d_Mo_multiply_128 : decode prog_9_method_12_code 128 = .ok (.invokestatic 57, 3) := by decide +kernel
theorem d_Mo_multiply_131 : decode prog_9_method_12_code 131 = .ok (.ladd, 1) := by decide +kernel
theorem d_Mo_multiply_132 : decode prog_9_method_12_code 132 = .ok (.ladd, 1) := by decide +kernel
theorem d_Mo_multiply_133 : decode prog_9_method_12_code 133 = .ok (.lstore 9, 2) := by decide +kernel
theorem d_Mo_multiply_135 : decode prog_9_method_12_code 135 = .ok (.aload_n 0, 1) := by decide +kernel
theorem d_Mo_multiply_136 : decode prog_9_method_12_code 136 = .ok (.getfield 7, 3) := by decide +kernel
theorem d_Mo_multiply_139 : decode prog_9_method_12_code 139 = .ok (.iload 4, 2) := by decide +kernel
theorem d_Mo_multiply_141 : decode prog_9_method_12_code 141 = .ok (.iload 6, 2) := by decide +kernel
theorem d_Mo_multiply_143 : decode prog_9_method_12_code 143 = .ok (.iadd, 1) := by decide +kernel
theorem d_Mo_multiply_144 : decode prog_9_method_12_code 144 = .ok (.iload 11, 2) := by decide +kernel
theorem d_Mo_multiply_146 : decode prog_9_method_12_code 146 = .ok (.iadd, 1) := by decide +kernel
theorem d_Mo_multiply_147 : decode prog_9_method_12_code 147 = .ok (.lload 9, 2) := by decide +kernel
theorem d_Mo_multiply_149 : decode prog_9_method_12_code 149 = .ok (.l2i, 1) := by decide +kernel
theorem d_Mo_multiply_150 : decode prog_9_method_12_code 150 = .ok (.iastore, 1) := by decide +kernel
theorem d_Mo_multiply_151 : decode prog_9_method_12_code 151 = .ok (.lload 9, 2) := by decide +kernel
theorem d_Mo_multiply_153 : decode prog_9_method_12_code 153 = .ok (.bipush 32, 2) := by decide +kernel
theorem d_Mo_multiply_155 : decode prog_9_method_12_code 155 = .ok (.lushr, 1) := by decide +kernel
theorem d_Mo_multiply_156 : decode prog_9_method_12_code 156 = .ok (.lstore 9, 2) := by decide +kernel
theorem d_Mo_multiply_158 : decode prog_9_method_12_code 158 = .ok (.iinc 11 1, 3) := by decide +kernel
theorem d_Mo_multiply_161 : decode prog_9_method_12_code 161 = .ok (.goto (-77), 3) := by decide +kernel
theorem d_Mo_multiply_164 : decode prog_9_method_12_code 164 = .ok (.aload_n 0, 1) := by decide +kernel
theorem d_Mo_multiply_165 : decode prog_9_method_12_code 165 = .ok (.getfield 7, 3) := by decide +kernel
theorem d_Mo_multiply_168 : decode prog_9_method_12_code 168 = .ok (.iload 4, 2) := by decide +kernel
theorem d_Mo_multiply_170 : decode prog_9_method_12_code 170 = .ok (.iload 6, 2) := by decide +kernel
theorem d_Mo_multiply_172 : decode prog_9_method_12_code 172 = .ok (.iadd, 1) := by decide +kernel
theorem d_Mo_multiply_173 : decode prog_9_method_12_code 173 = .ok (.aload_n 0, 1) := by decide +kernel
theorem d_Mo_multiply_174 : decode prog_9_method_12_code 174 = .ok (.getfield 13, 3) := by decide +kernel
theorem d_Mo_multiply_177 : decode prog_9_method_12_code 177 = .ok (.iload_n 3, 1) := by decide +kernel
theorem d_Mo_multiply_178 : decode prog_9_method_12_code 178 = .ok (.iaload, 1) := by decide +kernel
theorem d_Mo_multiply_179 : decode prog_9_method_12_code 179 = .ok (.iadd, 1) := by decide +kernel
theorem d_Mo_multiply_180 : decode prog_9_method_12_code 180 = .ok (.lload 9, 2) := by decide +kernel
theorem d_Mo_multiply_182 : decode prog_9_method_12_code 182 = .ok (.l2i, 1) := by decide +kernel
theorem d_Mo_multiply_183 : decode prog_9_method_12_code 183 = .ok (.iastore, 1) := by decide +kernel
theorem d_Mo_multiply_184 : decode prog_9_method_12_code 184 = .ok (.iinc 6 1, 3) := by decide +kernel
theorem d_Mo_multiply_187 : decode prog_9_method_12_code 187 = .ok (.goto (-137), 3) := by decide +kernel
theorem d_Mo_multiply_190 : decode prog_9_method_12_code 190 = .ok (.aload_n 0, 1) := by decide +kernel
theorem d_Mo_multiply_191 : decode prog_9_method_12_code 191 = .ok (.getfield 16, 3) := by decide +kernel
theorem d_Mo_multiply_194 : decode prog_9_method_12_code 194 = .ok (.sipush 178, 3) := by decide +kernel
theorem d_Mo_multiply_197 : decode prog_9_method_12_code 197 = .ok (.aload_n 0, 1) := by decide +kernel
theorem d_Mo_multiply_198 : decode prog_9_method_12_code 198 = .ok (.getfield 16, 3) := by decide +kernel
theorem d_Mo_multiply_201 : decode prog_9_method_12_code 201 = .ok (.iload_n 2, 1) := by decide +kernel
theorem d_Mo_multiply_202 : decode prog_9_method_12_code 202 = .ok (.iaload, 1) := by decide +kernel
theorem d_Mo_multiply_203 : decode prog_9_method_12_code 203 = .ok (.aload_n 0, 1) := by decide +kernel
theorem d_Mo_multiply_204 : decode prog_9_method_12_code 204 = .ok (.getfield 16, 3) := by decide +kernel
theorem d_Mo_multiply_207 : decode prog_9_method_12_code 207 = .ok (.iload_n 3, 1) := by decide +kernel
theorem d_Mo_multiply_208 : decode prog_9_method_12_code 208 = .ok (.iaload, 1) := by decide +kernel
theorem d_Mo_multiply_209 : decode prog_9_method_12_code 209 = .ok (.imul, 1) := by decide +kernel
theorem d_Mo_multiply_210 : decode prog_9_method_12_code 210 = .ok (.iastore, 1) := by decide +kernel
theorem d_Mo_multiply_211 : decode prog_9_method_12_code 211 = .ok (.aload_n 0, 1) := by decide +kernel
theorem d_Mo_multiply_212 : decode prog_9_method_12_code 212 = .ok (.getfield 13, 3) := by decide +kernel
theorem d_Mo_multiply_215 : decode prog_9_method_12_code 215 = .ok (.sipush 178, 3) := by decide +kernel
theorem d_Mo_multiply_218 : decode prog_9_method_12_code 218 = .ok (.iload 5, 2) := by decide +kernel
theorem d_Mo_multiply_220 : decode prog_9_method_12_code 220 = .ok (.iastore, 1) := by decide +kernel
theorem d_Mo_multiply_221 : decode prog_9_method_12_code 221 = .ok (.aload_n 0, 1) := by decide +kernel
theorem d_Mo_multiply_222 : decode prog_9_method_12_code 222 = .ok (.sipush 178, 3) := by decide +kernel
theorem d_Mo_multiply_225 : decode prog_9_method_12_code 225 = .ok (.invokevirtual 73, 3) := by decide +kernel
theorem d_Mo_multiply_228 : decode prog_9_method_12_code 228 = .ok (.aload_n 0, 1) := by decide +kernel
theorem d_Mo_multiply_229 : decode prog_9_method_12_code 229 = .ok (.iload_n 1, 1) := by decide +kernel
theorem d_Mo_multiply_230 : decode prog_9_method_12_code 230 = .ok (.sipush 178, 3) := by decide +kernel
theorem d_Mo_multiply_233 : decode prog_9_method_12_code 233 = .ok (.invokevirtual 65, 3) := by decide +kernel
theorem d_Mo_multiply_236 : decode prog_9_method_12_code 236 = .ok (.return_, 1) := by decide +kernel
set_option maxHeartbeats 8000000 in
set_option maxRecDepth 100000 in
theorem c_Mo_multiply (l : Launch) (D : va_G) (cs : Nat → ClassId) (L : List Nat) (f : Nat → va_E) (sz : Nat) (y m1 m2 m3 m5 m6 m7 m8 m9 m10 m11 m12 m13 m15 : Nat) (th pn rw_ fu fb : Int) (lm mn sn Z : Nat → Int) (t x w : Nat) (hF : Fc L [y, m1, m2, m3]) (ha : f y = .inr (7, [.int (iI th), .ref m1, .ref m2, .ref m3, .int (iI pn), .ref m5, .ref m6, .ref m7, .ref m8, .ref m9, .ref m10, .ref m11, .ref m12, .ref m13, .int (iI rw_), .ref m15, .long (lI fu), .long (lI fb)])) (hm1 : f m1 = .inl (cs 0, 11520, .inl (ai lm))) (hm2 : f m2 = .inl (cs 0, 180, .inl (ai mn))) (hm3 : f m3 = .inl (cs 0, 180, .inl (ai sn))) (hRS : RS lm mn sn Z) (ht8 : t < 180) (hx8 : x < 180) (hw8 : w < 180) (hx178 : x ≠ 178) (hw178 : w ≠ 178) (hlt : ((Z x * Z w).natAbs : Int) < Mp 63) : Met l (⟨"RealRootsModel", "multiply", "(III)V"⟩ : MethodName) (.code (⟨"RealRootsModel", "multiply", "(III)V"⟩ : MethodName) prog_9_method_12_code 12 (Option.none : Option Jvm.ClassFile.FieldType) :: gw) ({ frames := 1, cells := 0, slots := 0, locals := 40 }) (va_Pc [.ref y, .int (iI ((t : Int))), .int (iI ((x : Int))), .int (iI ((w : Int)))] (K0 D vwCl (TY cs) L f sz)) (va_Qv (fun (g : Nat → va_E) => ∃ lm' mn' sn' : Nat → Int, RS lm' mn' sn' (up (up Z 178 (Z x * Z w)) t (Z x * Z w)) ∧ g = mw f [(m1, .inl (cs 0, 11520, .inl (ai (lm')))), (m2, .inl (cs 0, 180, .inl (ai (mn')))), (m3, .inl (cs 0, 180, .inl (ai (sn'))))]) (K1 D vwCl (TY cs) (AL L sz) L) (AL L sz)) 0 0 (AL L sz) := by
  refine Met.ofW (cc := prog_9_method_12_code) (maxL := 12) (ret := (Option.none : Option Jvm.ClassFile.FieldType)) (by decide) rfl ?_
  intro p e s m args below meth c s₁ Bd hml hv
  obtain ⟨rfl, hk0⟩ := hv
  obtain ⟨hsz, B⟩ := hk0.start
  subst hsz
  have hx := Bd.exec
  have hb := Bd.bytes
  have hr := Bd.returns
  have hlocks := Bd.notSynchronized
  have hts0 := atoms_spec Bd.pre
  have hown : s.vm.findClass RX7 = some m.cls := findClass_of_methodNamed Bd.named
  have hA : ∀ q, s.heap.size ≤ q → AL L s.heap.size q := fun _ h => Or.inr h
  have hl := lv_entry ([.ref y, .int (iI ((t : Int))), .int (iI ((x : Int))), .int (iI ((w : Int)))]) (n := 12) (Nat.le_of_ble_eq_true rfl)
  rw [lg_entry_eq]
  generalize (lg_sl ([.ref y, .int (iI ((t : Int))), .int (iI ((x : Int))), .int (iI ((w : Int)))]) ++ List.replicate (12 - (lg_sl ([.ref y, .int (iI ((t : Int))), .int (iI ((x : Int))), .int (iI ((w : Int)))])).length) Slot.unset).toArray = ls at hl ⊢
  refine absQ (fun Q R av hQ hR hav => ?_)
  have hts : ∀ w ∈ gw, w.before av s = true := by rw [hav]; exact fun w h => hts0 w (List.mem_cons_of_mem _ h)
  have hRf : R.frames = 1 := by rw [hR]; rfl
  have hRl : R.locals = 40 := by rw [hR]; rfl
  have hRc : R.cells = 0 := by rw [hR]; rfl
  have hRs : R.slots = 0 := by rw [hR]; rfl
  clear hR hts0 Bd
  have hl : lv_has ls 12 [(0, .ref y), (1, .int (iI ((t : Int)))), (2, .int (iI ((x : Int)))), (3, .int (iI ((w : Int))))] := hl
  obtain ⟨nx, hnx, hn8, hMx, htx, hvx⟩ := (hRS x hx8).nat
  obtain ⟨nw, hnw, hw64, hMw, htw, hvw⟩ := (hRS w hw8).nat
  have hroom := mpro_room hMx hMw htx htw hvx hvw hn8 hw64 hlt
  have hsx := (hRS x hx8).side
  have hsw := (hRS w hw8).side
  have hfx : ∀ q ∈ ([(y, .inr (7, [.int (iI th), .ref m1, .ref m2, .ref m3, .int (iI pn), .ref m5, .ref m6, .ref m7, .ref m8, .ref m9, .ref m10, .ref m11, .ref m12, .ref m13, .int (iI rw_), .ref m15, .long (lI fu), .long (lI fb)])), (m1, .inl (cs 0, 11520, .inl (ai lm))), (m2, .inl (cs 0, 180, .inl (ai mn))), (m3, .inl (cs 0, 180, .inl (ai sn)))] : List (Nat × va_E)), f q.1 = q.2 := fun q hq => by
    simp only [List.mem_cons, List.not_mem_nil, or_false] at hq
    rcases hq with rfl | rfl | rfl | rfl
    · exact ha
    · exact hm1
    · exact hm2
    · exact hm3
  have hmw : mw f [(y, .inr (7, [.int (iI th), .ref m1, .ref m2, .ref m3, .int (iI pn), .ref m5, .ref m6, .ref m7, .ref m8, .ref m9, .ref m10, .ref m11, .ref m12, .ref m13, .int (iI rw_), .ref m15, .long (lI fu), .long (lI fb)])), (m1, .inl (cs 0, 11520, .inl (ai lm))), (m2, .inl (cs 0, 180, .inl (ai mn))), (m3, .inl (cs 0, 180, .inl (ai sn)))] = f := mw_self (fun k a e hk => hfx (a, e) (List.mem_of_getElem? hk))
  have B := B.focus [(y, .inr (7, [.int (iI th), .ref m1, .ref m2, .ref m3, .int (iI pn), .ref m5, .ref m6, .ref m7, .ref m8, .ref m9, .ref m10, .ref m11, .ref m12, .ref m13, .int (iI rw_), .ref m15, .long (lI fu), .long (lI fb)])), (m1, .inl (cs 0, 11520, .inl (ai lm))), (m2, .inl (cs 0, 180, .inl (ai mn))), (m3, .inl (cs 0, 180, .inl (ai sn)))] hfx
  refine x_sipush hx hb d_Mo_multiply_0 (by decide) ?_
  refine lv_istore (lv' := [(4, .int (iI 11392)), (0, .ref y), (1, .int (iI ((t : Int)))), (2, .int (iI ((x : Int)))), (3, .int (iI ((w : Int))))]) hx hb d_Mo_multiply_3 hl (by decide) rfl (fun ls hl => ?_)
  refine lv_aload_n hx hb d_Mo_multiply_5 rfl (lv_at hl 1 rfl) ?_
  refine x_get (C := RX7) (T := TX7) (N := 18) hx hb hts inX7 hown B hF 0 rfl rfl 2 (by decide) (hts _ w_679) (fun _ h9 => h9) rfl d_Mo_multiply_6 ?_
  refine lv_iload_n hx hb d_Mo_multiply_9 rfl (lv_at hl 3 rfl) ?_
  refine x_iald hx hb B hF 2 0 rfl rfl x (by omega) (by omega) (by decide) d_Mo_multiply_10 ?_
  refine lv_aload_n hx hb d_Mo_multiply_11 rfl (lv_at hl 1 rfl) ?_
  refine x_get (C := RX7) (T := TX7) (N := 18) hx hb hts inX7 hown B hF 0 rfl rfl 2 (by decide) (hts _ w_679) (fun _ h9 => h9) rfl d_Mo_multiply_12 ?_
  refine lv_iload_n hx hb d_Mo_multiply_15 rfl (lv_at hl 4 rfl) ?_
  refine x_iald hx hb B hF 2 0 rfl rfl w (by omega) (by omega) (by decide) d_Mo_multiply_16 ?_
  refine x_iadd hx hb d_Mo_multiply_17 ?_
  refine lv_istore (lv' := [(5, .int (iI ((mn x) + (mn w)))), (4, .int (iI 11392)), (0, .ref y), (1, .int (iI ((t : Int)))), (2, .int (iI ((x : Int)))), (3, .int (iI ((w : Int))))]) hx hb d_Mo_multiply_18 hl (by decide) rfl (fun ls hl => ?_)
  refine x_iconst hx hb d_Mo_multiply_20 ?_
  refine lv_istore (lv' := [(6, .int (iI 0)), (5, .int (iI ((mn x) + (mn w)))), (4, .int (iI 11392)), (0, .ref y), (1, .int (iI ((t : Int)))), (2, .int (iI ((x : Int)))), (3, .int (iI ((w : Int))))]) hx hb d_Mo_multiply_21 hl (by decide) rfl (fun ls hl => ?_)
  have L1 : ∀ (fuel : Nat) (k : Nat) (lm2 : Nat → Int), nx + nw - k < fuel → (k ≤ nx + nw) → (∀ j, j < k → fl lm2 178 j = 0) → (Off 178 lm mn sn lm2 mn sn) → ∀ (H : Heap) (locs : List Loc) (ls : Array Slot), Wb D vwCl (TY cs) L (mw f [(y, .inr (7, [.int (iI th), .ref m1, .ref m2, .ref m3, .int (iI pn), .ref m5, .ref m6, .ref m7, .ref m8, .ref m9, .ref m10, .ref m11, .ref m12, .ref m13, .int (iI rw_), .ref m15, .long (lI fu), .long (lI fb)])), (m1, .inl (cs 0, 11520, .inl (ai lm2))), (m2, .inl (cs 0, 180, .inl (ai mn))), (m3, .inl (cs 0, 180, .inl (ai sn)))]) (AL L s.heap.size) s H locs → lv_has ls 12 [(6, .int (iI ((k : Int)))), (4, .int (iI 11392)), (5, .int (iI ((nx : Int) + (nw : Int)))), (0, .ref y), (1, .int (iI ((t : Int)))), (2, .int (iI ((x : Int)))), (3, .int (iI ((w : Int))))] → W p l e R s m av below meth c H locs (0) (0) Q (F0 m 23 ls []) := by
    intro fuel
    induction fuel with
    | zero => intro k lm2 hfu; exact absurd hfu (Nat.not_lt_zero _)
    | succ fuel ih_L1 =>
      intro k lm2 hfu_L1 hk hz hO H locs ls B hl
      refine lv_iload hx hb d_Mo_multiply_23 (lv_at hl 0 rfl) ?_
      refine lv_iload hx hb d_Mo_multiply_25 (lv_at hl 2 rfl) ?_
      refine x_icmp_ge (tgt := 47) hx hb d_Mo_multiply_27 (by decide) (by omega) (by omega) (fun h27 => ?_) (fun h27 => ?_)
      · refine x_iconst hx hb d_Mo_multiply_47 ?_
        refine lv_istore (lv' := [(6, .int (iI 0)), (4, .int (iI 11392)), (5, .int (iI ((nx : Int) + (nw : Int)))), (0, .ref y), (1, .int (iI ((t : Int)))), (2, .int (iI ((x : Int)))), (3, .int (iI ((w : Int))))]) hx hb d_Mo_multiply_48 hl (by decide) rfl (fun ls hl => ?_)
        have L2 : ∀ (fuel : Nat) (i : Nat) (lm3 : Nat → Int), nx - i < fuel → (MPro (fl lm x) (fl lm w) nx nw i (fl lm3 178)) → (Off 178 lm mn sn lm3 mn sn) → ∀ (H : Heap) (locs : List Loc) (ls : Array Slot), Wb D vwCl (TY cs) L (mw f [(y, .inr (7, [.int (iI th), .ref m1, .ref m2, .ref m3, .int (iI pn), .ref m5, .ref m6, .ref m7, .ref m8, .ref m9, .ref m10, .ref m11, .ref m12, .ref m13, .int (iI rw_), .ref m15, .long (lI fu), .long (lI fb)])), (m1, .inl (cs 0, 11520, .inl (ai lm3))), (m2, .inl (cs 0, 180, .inl (ai mn))), (m3, .inl (cs 0, 180, .inl (ai sn)))]) (AL L s.heap.size) s H locs → lv_has ls 12 [(6, .int (iI ((i : Int)))), (4, .int (iI 11392)), (5, .int (iI ((nx : Int) + (nw : Int)))), (0, .ref y), (1, .int (iI ((t : Int)))), (2, .int (iI ((x : Int)))), (3, .int (iI ((w : Int))))] → W p l e R s m av below meth c H locs (0) (0) Q (F0 m 50 ls []) := by
          intro fuel
          induction fuel with
          | zero => intro i lm3 hfu; exact absurd hfu (Nat.not_lt_zero _)
          | succ fuel ih_L2 =>
            intro i lm3 hfu_L2 hP hO3 H locs ls B hl
            have hin := hP.1
            refine lv_iload hx hb d_Mo_multiply_50 (lv_at hl 0 rfl) ?_
            refine lv_aload_n hx hb d_Mo_multiply_52 rfl (lv_at hl 3 rfl) ?_
            refine x_get (C := RX7) (T := TX7) (N := 18) hx hb hts inX7 hown B hF 0 rfl rfl 2 (by decide) (hts _ w_679) (fun _ h9 => h9) rfl d_Mo_multiply_53 ?_
            refine lv_iload_n hx hb d_Mo_multiply_56 rfl (lv_at hl 5 rfl) ?_
            refine x_iald hx hb B hF 2 0 rfl rfl x (by omega) (by omega) (by decide) d_Mo_multiply_57 ?_
            refine x_icmp_ge (tgt := 190) hx hb d_Mo_multiply_58 (by decide) (by omega) (by omega) (fun h58 => ?_) (fun h58 => ?_)
            · have e9 : i = nx := by omega
              have hP9 := hP
              rw [e9] at hP9
              refine lv_aload_n hx hb d_Mo_multiply_190 rfl (lv_at hl 3 rfl) ?_
              refine x_get (C := RX7) (T := TX7) (N := 18) hx hb hts inX7 hown B hF 0 rfl rfl 3 (by decide) (hts _ w_680) (fun _ h9 => h9) rfl d_Mo_multiply_191 ?_
              refine x_sipush hx hb d_Mo_multiply_194 (by decide) ?_
              refine lv_aload_n hx hb d_Mo_multiply_197 rfl (lv_at hl 3 rfl) ?_
              refine x_get (C := RX7) (T := TX7) (N := 18) hx hb hts inX7 hown B hF 0 rfl rfl 3 (by decide) (hts _ w_680) (fun _ h9 => h9) rfl d_Mo_multiply_198 ?_
              refine lv_iload_n hx hb d_Mo_multiply_201 rfl (lv_at hl 5 rfl) ?_
              refine x_iald hx hb B hF 3 0 rfl rfl x (by omega) (by omega) (by decide) d_Mo_multiply_202 ?_
              refine lv_aload_n hx hb d_Mo_multiply_203 rfl (lv_at hl 3 rfl) ?_
              refine x_get (C := RX7) (T := TX7) (N := 18) hx hb hts inX7 hown B hF 0 rfl rfl 3 (by decide) (hts _ w_680) (fun _ h9 => h9) rfl d_Mo_multiply_204 ?_
              refine lv_iload_n hx hb d_Mo_multiply_207 rfl (lv_at hl 6 rfl) ?_
              refine x_iald hx hb B hF 3 0 rfl rfl w (by omega) (by omega) (by decide) d_Mo_multiply_208 ?_
              refine x_imul hx hb d_Mo_multiply_209 ?_
              refine x_iast hx hb B hF 3 0 rfl rfl 178 (by omega) (by omega) (by decide) d_Mo_multiply_210 (fun H locs B => ?_)
              have B : Wb D vwCl (TY cs) L (mw f [(y, .inr (7, [.int (iI th), .ref m1, .ref m2, .ref m3, .int (iI pn), .ref m5, .ref m6, .ref m7, .ref m8, .ref m9, .ref m10, .ref m11, .ref m12, .ref m13, .int (iI rw_), .ref m15, .long (lI fu), .long (lI fb)])), (m1, .inl (cs 0, 11520, .inl (ai lm3))), (m2, .inl (cs 0, 180, .inl (ai mn))), (m3, .inl (cs 0, 180, .inl (ai (up sn 178 ((sn x) * (sn w))))))]) (AL L s.heap.size) s H _ := B
              refine lv_aload_n hx hb d_Mo_multiply_211 rfl (lv_at hl 3 rfl) ?_
              refine x_get (C := RX7) (T := TX7) (N := 18) hx hb hts inX7 hown B hF 0 rfl rfl 2 (by decide) (hts _ w_679) (fun _ h9 => h9) rfl d_Mo_multiply_212 ?_
              refine x_sipush hx hb d_Mo_multiply_215 (by decide) ?_
              refine lv_iload hx hb d_Mo_multiply_218 (lv_at hl 2 rfl) ?_
              refine x_iast hx hb B hF 2 0 rfl rfl 178 (by omega) (by omega) (by decide) d_Mo_multiply_220 (fun H locs B => ?_)
              have B : Wb D vwCl (TY cs) L (mw f [(y, .inr (7, [.int (iI th), .ref m1, .ref m2, .ref m3, .int (iI pn), .ref m5, .ref m6, .ref m7, .ref m8, .ref m9, .ref m10, .ref m11, .ref m12, .ref m13, .int (iI rw_), .ref m15, .long (lI fu), .long (lI fb)])), (m1, .inl (cs 0, 11520, .inl (ai lm3))), (m2, .inl (cs 0, 180, .inl (ai (up mn 178 ((nx : Int) + (nw : Int)))))), (m3, .inl (cs 0, 180, .inl (ai (up sn 178 ((sn x) * (sn w))))))]) (AL L s.heap.size) s H _ := B
              refine lv_aload_n hx hb d_Mo_multiply_221 rfl (lv_at hl 3 rfl) ?_
              refine x_sipush hx hb d_Mo_multiply_222 (by decide) ?_
              refine x_callv B hA (va_runV (As := [.int (iI 178)]) (rest := []) ⟨hx, hb, hml, hown, hts⟩ (c_Mo_trim l D cs _ _ _ y m1 m2 m3 m5 m6 m7 m8 m9 m10 m11 m12 m13 m15 th pn rw_ fu fb lm3 (up mn 178 ((nx : Int) + (nw : Int))) (up sn 178 ((sn x) * (sn w))) Z 178 (nx + nw) (Z x * Z w) hF (mw_get (X := [(y, .inr (7, [.int (iI th), .ref m1, .ref m2, .ref m3, .int (iI pn), .ref m5, .ref m6, .ref m7, .ref m8, .ref m9, .ref m10, .ref m11, .ref m12, .ref m13, .int (iI rw_), .ref m15, .long (lI fu), .long (lI fb)])), (m1, .inl (cs 0, 11520, .inl (ai lm3))), (m2, .inl (cs 0, 180, .inl (ai (up mn 178 ((nx : Int) + (nw : Int)))))), (m3, .inl (cs 0, 180, .inl (ai (up sn 178 ((sn x) * (sn w))))))]) hF.1 (k := 0) rfl) (mw_get (X := [(y, .inr (7, [.int (iI th), .ref m1, .ref m2, .ref m3, .int (iI pn), .ref m5, .ref m6, .ref m7, .ref m8, .ref m9, .ref m10, .ref m11, .ref m12, .ref m13, .int (iI rw_), .ref m15, .long (lI fu), .long (lI fb)])), (m1, .inl (cs 0, 11520, .inl (ai lm3))), (m2, .inl (cs 0, 180, .inl (ai (up mn 178 ((nx : Int) + (nw : Int)))))), (m3, .inl (cs 0, 180, .inl (ai (up sn 178 ((sn x) * (sn w))))))]) hF.1 (k := 1) rfl) (mw_get (X := [(y, .inr (7, [.int (iI th), .ref m1, .ref m2, .ref m3, .int (iI pn), .ref m5, .ref m6, .ref m7, .ref m8, .ref m9, .ref m10, .ref m11, .ref m12, .ref m13, .int (iI rw_), .ref m15, .long (lI fu), .long (lI fb)])), (m1, .inl (cs 0, 11520, .inl (ai lm3))), (m2, .inl (cs 0, 180, .inl (ai (up mn 178 ((nx : Int) + (nw : Int)))))), (m3, .inl (cs 0, 180, .inl (ai (up sn 178 ((sn x) * (sn w))))))]) hF.1 (k := 2) rfl) (mw_get (X := [(y, .inr (7, [.int (iI th), .ref m1, .ref m2, .ref m3, .int (iI pn), .ref m5, .ref m6, .ref m7, .ref m8, .ref m9, .ref m10, .ref m11, .ref m12, .ref m13, .int (iI rw_), .ref m15, .long (lI fu), .long (lI fb)])), (m1, .inl (cs 0, 11520, .inl (ai lm3))), (m2, .inl (cs 0, 180, .inl (ai (up mn 178 ((nx : Int) + (nw : Int)))))), (m3, .inl (cs 0, 180, .inl (ai (up sn 178 ((sn x) * (sn w))))))]) hF.1 (k := 3) rfl)  (hRS.get ((hO3.sign _).many _)) (by decide) (by rw [up_self]; omega) hroom ⟨hP9.2.1, by rw [hP9.2.2.1, hvx, hvw, Int.natAbs_mul, Int.natCast_mul]⟩ (fun _ => by rw [up_self, Int.sign_mul, (hRS x hx8).2.2.2.2.1, (hRS w hw8).2.2.2.2.1])) (cwV 1 hts (gw_V w_816 w_818 s_40 w_8 w_819) rfl rfl rfl (by decide +kernel) ⟨by rw [hRf]; exact Nat.le_of_ble_eq_true rfl, by rw [hRl]; exact Nat.le_of_ble_eq_true rfl⟩) ⟨K0.blind, B.recv (hF.2 _ (mw_key (k := 0) (X := [(y, .inr (7, [.int (iI th), .ref m1, .ref m2, .ref m3, .int (iI pn), .ref m5, .ref m6, .ref m7, .ref m8, .ref m9, .ref m10, .ref m11, .ref m12, .ref m13, .int (iI rw_), .ref m15, .long (lI fu), .long (lI fb)])), (m1, .inl (cs 0, 11520, .inl (ai lm3))), (m2, .inl (cs 0, 180, .inl (ai (up mn 178 ((nx : Int) + (nw : Int)))))), (m3, .inl (cs 0, 180, .inl (ai (up sn 178 ((sn x) * (sn w))))))]) rfl)) (mw_get (X := [(y, .inr (7, [.int (iI th), .ref m1, .ref m2, .ref m3, .int (iI pn), .ref m5, .ref m6, .ref m7, .ref m8, .ref m9, .ref m10, .ref m11, .ref m12, .ref m13, .int (iI rw_), .ref m15, .long (lI fu), .long (lI fb)])), (m1, .inl (cs 0, 11520, .inl (ai lm3))), (m2, .inl (cs 0, 180, .inl (ai (up mn 178 ((nx : Int) + (nw : Int)))))), (m3, .inl (cs 0, 180, .inl (ai (up sn 178 ((sn x) * (sn w))))))]) hF.1 (k := 0) rfl) rfl, B.pre _⟩ rfl rfl hl.1 rfl (lv_room (Nat.le_of_ble_eq_true rfl)) d_Mo_multiply_225 ⟨by rw [hRc]; omega, by rw [hRs]; omega⟩) (fun g225 H locs hw B => ?_)
              obtain ⟨lm225, mn225, sn225, hR1, rfl⟩ := hw
              have B := B.of_eq (mw_put3 (X := [(y, .inr (7, [.int (iI th), .ref m1, .ref m2, .ref m3, .int (iI pn), .ref m5, .ref m6, .ref m7, .ref m8, .ref m9, .ref m10, .ref m11, .ref m12, .ref m13, .int (iI rw_), .ref m15, .long (lI fu), .long (lI fb)])), (m1, .inl (cs 0, 11520, .inl (ai lm3))), (m2, .inl (cs 0, 180, .inl (ai (up mn 178 ((nx : Int) + (nw : Int)))))), (m3, .inl (cs 0, 180, .inl (ai (up sn 178 ((sn x) * (sn w))))))]) hF.1 (k1 := 1) (k2 := 2) (k3 := 3) rfl rfl rfl)
              have B : Wb D vwCl (TY cs) L (mw f [(y, .inr (7, [.int (iI th), .ref m1, .ref m2, .ref m3, .int (iI pn), .ref m5, .ref m6, .ref m7, .ref m8, .ref m9, .ref m10, .ref m11, .ref m12, .ref m13, .int (iI rw_), .ref m15, .long (lI fu), .long (lI fb)])), (m1, .inl (cs 0, 11520, .inl (ai lm225))), (m2, .inl (cs 0, 180, .inl (ai mn225))), (m3, .inl (cs 0, 180, .inl (ai sn225)))]) (AL L s.heap.size) s H _ := B
              refine lv_aload_n hx hb d_Mo_multiply_228 rfl (lv_at hl 3 rfl) ?_
              refine lv_iload_n hx hb d_Mo_multiply_229 rfl (lv_at hl 4 rfl) ?_
              refine x_sipush hx hb d_Mo_multiply_230 (by decide) ?_
              refine x_callv B hA (va_runV (As := [.int (iI ((t : Int))), .int (iI 178)]) (rest := []) ⟨hx, hb, hml, hown, hts⟩ (c_Mo_copy l D cs _ _ _ y m1 m2 m3 m5 m6 m7 m8 m9 m10 m11 m12 m13 m15 th pn rw_ fu fb lm225 mn225 sn225 (up Z 178 (Z x * Z w)) t 178 hF (mw_get (X := [(y, .inr (7, [.int (iI th), .ref m1, .ref m2, .ref m3, .int (iI pn), .ref m5, .ref m6, .ref m7, .ref m8, .ref m9, .ref m10, .ref m11, .ref m12, .ref m13, .int (iI rw_), .ref m15, .long (lI fu), .long (lI fb)])), (m1, .inl (cs 0, 11520, .inl (ai lm225))), (m2, .inl (cs 0, 180, .inl (ai mn225))), (m3, .inl (cs 0, 180, .inl (ai sn225)))]) hF.1 (k := 0) rfl) (mw_get (X := [(y, .inr (7, [.int (iI th), .ref m1, .ref m2, .ref m3, .int (iI pn), .ref m5, .ref m6, .ref m7, .ref m8, .ref m9, .ref m10, .ref m11, .ref m12, .ref m13, .int (iI rw_), .ref m15, .long (lI fu), .long (lI fb)])), (m1, .inl (cs 0, 11520, .inl (ai lm225))), (m2, .inl (cs 0, 180, .inl (ai mn225))), (m3, .inl (cs 0, 180, .inl (ai sn225)))]) hF.1 (k := 1) rfl) (mw_get (X := [(y, .inr (7, [.int (iI th), .ref m1, .ref m2, .ref m3, .int (iI pn), .ref m5, .ref m6, .ref m7, .ref m8, .ref m9, .ref m10, .ref m11, .ref m12, .ref m13, .int (iI rw_), .ref m15, .long (lI fu), .long (lI fb)])), (m1, .inl (cs 0, 11520, .inl (ai lm225))), (m2, .inl (cs 0, 180, .inl (ai mn225))), (m3, .inl (cs 0, 180, .inl (ai sn225)))]) hF.1 (k := 2) rfl) (mw_get (X := [(y, .inr (7, [.int (iI th), .ref m1, .ref m2, .ref m3, .int (iI pn), .ref m5, .ref m6, .ref m7, .ref m8, .ref m9, .ref m10, .ref m11, .ref m12, .ref m13, .int (iI rw_), .ref m15, .long (lI fu), .long (lI fb)])), (m1, .inl (cs 0, 11520, .inl (ai lm225))), (m2, .inl (cs 0, 180, .inl (ai mn225))), (m3, .inl (cs 0, 180, .inl (ai sn225)))]) hF.1 (k := 3) rfl) hR1 ht8 (by decide)) (cwV 2 hts (gw_V w_804 w_806 s_38 w_8 w_807) rfl rfl rfl (by decide +kernel) ⟨by rw [hRf]; exact Nat.le_of_ble_eq_true rfl, by rw [hRl]; exact Nat.le_of_ble_eq_true rfl⟩) ⟨K0.blind, B.recv (hF.2 _ (mw_key (k := 0) (X := [(y, .inr (7, [.int (iI th), .ref m1, .ref m2, .ref m3, .int (iI pn), .ref m5, .ref m6, .ref m7, .ref m8, .ref m9, .ref m10, .ref m11, .ref m12, .ref m13, .int (iI rw_), .ref m15, .long (lI fu), .long (lI fb)])), (m1, .inl (cs 0, 11520, .inl (ai lm225))), (m2, .inl (cs 0, 180, .inl (ai mn225))), (m3, .inl (cs 0, 180, .inl (ai sn225)))]) rfl)) (mw_get (X := [(y, .inr (7, [.int (iI th), .ref m1, .ref m2, .ref m3, .int (iI pn), .ref m5, .ref m6, .ref m7, .ref m8, .ref m9, .ref m10, .ref m11, .ref m12, .ref m13, .int (iI rw_), .ref m15, .long (lI fu), .long (lI fb)])), (m1, .inl (cs 0, 11520, .inl (ai lm225))), (m2, .inl (cs 0, 180, .inl (ai mn225))), (m3, .inl (cs 0, 180, .inl (ai sn225)))]) hF.1 (k := 0) rfl) rfl, B.pre _⟩ rfl rfl hl.1 rfl (lv_room (Nat.le_of_ble_eq_true rfl)) d_Mo_multiply_233 ⟨by rw [hRc]; omega, by rw [hRs]; omega⟩) (fun g233 H locs hw B => ?_)
              obtain ⟨lm233, mn233, sn233, hR2, rfl⟩ := hw
              have B := B.of_eq (mw_put3 (X := [(y, .inr (7, [.int (iI th), .ref m1, .ref m2, .ref m3, .int (iI pn), .ref m5, .ref m6, .ref m7, .ref m8, .ref m9, .ref m10, .ref m11, .ref m12, .ref m13, .int (iI rw_), .ref m15, .long (lI fu), .long (lI fb)])), (m1, .inl (cs 0, 11520, .inl (ai lm225))), (m2, .inl (cs 0, 180, .inl (ai mn225))), (m3, .inl (cs 0, 180, .inl (ai sn225)))]) hF.1 (k1 := 1) (k2 := 2) (k3 := 3) rfl rfl rfl)
              have B : Wb D vwCl (TY cs) L (mw f [(y, .inr (7, [.int (iI th), .ref m1, .ref m2, .ref m3, .int (iI pn), .ref m5, .ref m6, .ref m7, .ref m8, .ref m9, .ref m10, .ref m11, .ref m12, .ref m13, .int (iI rw_), .ref m15, .long (lI fu), .long (lI fb)])), (m1, .inl (cs 0, 11520, .inl (ai lm233))), (m2, .inl (cs 0, 180, .inl (ai mn233))), (m3, .inl (cs 0, 180, .inl (ai sn233)))]) (AL L s.heap.size) s H _ := B
              subst hQ hav
              exact x_vret hx hb hr hlocks B d_Mo_multiply_236 (⟨_, _, _, by rw [up_self] at hR2; exact hR2, mw_drop (f := f) (X := [(m1, .inl (cs 0, 11520, .inl (ai lm233))), (m2, .inl (cs 0, 180, .inl (ai mn233))), (m3, .inl (cs 0, 180, .inl (ai sn233)))]) ha (List.nodup_cons.mp hF.1).1⟩)
            · have hxi := hMx i (by omega)
              refine lv_aload_n hx hb d_Mo_multiply_61 rfl (lv_at hl 3 rfl) ?_
              refine x_get (C := RX7) (T := TX7) (N := 18) hx hb hts inX7 hown B hF 0 rfl rfl 1 (by decide) (hts _ w_678) (fun _ h9 => h9) rfl d_Mo_multiply_62 ?_
              refine x_bipush hx hb d_Mo_multiply_65 (by decide) ?_
              refine lv_iload_n hx hb d_Mo_multiply_67 rfl (lv_at hl 5 rfl) ?_
              refine x_imul hx hb d_Mo_multiply_68 ?_
              refine lv_iload hx hb d_Mo_multiply_69 (lv_at hl 0 rfl) ?_
              refine x_iadd hx hb d_Mo_multiply_71 ?_
              refine x_iald hx hb B hF 1 0 rfl rfl (64 * x + i) (by omega) (by omega) (by decide) d_Mo_multiply_72 ?_
              refine x_calll B hA (va_runS (As := [.int (iI (lm3 (64 * x + i)))]) (rest := []) ⟨hx, hb, hml, hown, hts⟩ (c_Mo_low l D cs _ _ _ (lm3 (64 * x + i))) (va_cwS 1 hts (gw_S w_812 w_813 w_8 w_814) rfl rfl rfl (by decide +kernel) ⟨by rw [hRf]; exact Nat.le_of_ble_eq_true rfl, by rw [hRl]; exact Nat.le_of_ble_eq_true rfl⟩) ⟨K0.blind, B.pre _⟩ rfl rfl hl.1 rfl (lv_room (Nat.le_of_ble_eq_true rfl)) d_Mo_multiply_73 ⟨by rw [hRc]; omega, by rw [hRs]; omega⟩) (fun r73 g73 H locs hw B => ?_)
              obtain ⟨rfl, rfl⟩ := hw
              rw [show (lm3 (64 * x + i)) % 4294967296 = fl lm x i from low_of (hO3.at hx8 hx178 (by omega)) hxi]
              have B : Wb D vwCl (TY cs) L (mw f [(y, .inr (7, [.int (iI th), .ref m1, .ref m2, .ref m3, .int (iI pn), .ref m5, .ref m6, .ref m7, .ref m8, .ref m9, .ref m10, .ref m11, .ref m12, .ref m13, .int (iI rw_), .ref m15, .long (lI fu), .long (lI fb)])), (m1, .inl (cs 0, 11520, .inl (ai lm3))), (m2, .inl (cs 0, 180, .inl (ai mn))), (m3, .inl (cs 0, 180, .inl (ai sn)))]) (AL L s.heap.size) s H _ := B
              refine lv_lstore (lv' := [(7, .long (lI (fl lm x i))), (6, .int (iI ((i : Int)))), (4, .int (iI 11392)), (5, .int (iI ((nx : Int) + (nw : Int)))), (0, .ref y), (1, .int (iI ((t : Int)))), (2, .int (iI ((x : Int)))), (3, .int (iI ((w : Int))))]) hx hb d_Mo_multiply_76 hl (by decide) rfl (fun ls hl => ?_)
              refine x_lconst (z := 0) hx hb d_Mo_multiply_78 (by decide) ?_
              refine lv_lstore (lv' := [(9, .long (lI 0)), (7, .long (lI (fl lm x i))), (6, .int (iI ((i : Int)))), (4, .int (iI 11392)), (5, .int (iI ((nx : Int) + (nw : Int)))), (0, .ref y), (1, .int (iI ((t : Int)))), (2, .int (iI ((x : Int)))), (3, .int (iI ((w : Int))))]) hx hb d_Mo_multiply_79 hl (by decide) rfl (fun ls hl => ?_)
              refine x_iconst hx hb d_Mo_multiply_81 ?_
              refine lv_istore (lv' := [(11, .int (iI 0)), (9, .long (lI 0)), (7, .long (lI (fl lm x i))), (6, .int (iI ((i : Int)))), (4, .int (iI 11392)), (5, .int (iI ((nx : Int) + (nw : Int)))), (0, .ref y), (1, .int (iI ((t : Int)))), (2, .int (iI ((x : Int)))), (3, .int (iI ((w : Int))))]) hx hb d_Mo_multiply_82 hl (by decide) rfl (fun ls hl => ?_)
              have L3 : ∀ (fuel : Nat) (j : Nat) (cy : Int) (lm4 : Nat → Int), nw - j < fuel → (MIn (fl lm w) nx nw i j (Ms (fl lm x) i * Ms (fl lm w) nw) (fl lm x i) cy (fl lm4 178)) → (Off 178 lm mn sn lm4 mn sn) → ∀ (H : Heap) (locs : List Loc) (ls : Array Slot), Wb D vwCl (TY cs) L (mw f [(y, .inr (7, [.int (iI th), .ref m1, .ref m2, .ref m3, .int (iI pn), .ref m5, .ref m6, .ref m7, .ref m8, .ref m9, .ref m10, .ref m11, .ref m12, .ref m13, .int (iI rw_), .ref m15, .long (lI fu), .long (lI fb)])), (m1, .inl (cs 0, 11520, .inl (ai lm4))), (m2, .inl (cs 0, 180, .inl (ai mn))), (m3, .inl (cs 0, 180, .inl (ai sn)))]) (AL L s.heap.size) s H locs → lv_has ls 12 [(11, .int (iI ((j : Int)))), (9, .long (lI cy)), (7, .long (lI (fl lm x i))), (6, .int (iI ((i : Int)))), (4, .int (iI 11392)), (5, .int (iI ((nx : Int) + (nw : Int)))), (0, .ref y), (1, .int (iI ((t : Int)))), (2, .int (iI ((x : Int)))), (3, .int (iI ((w : Int))))] → W p l e R s m av below meth c H locs (0) (0) Q (F0 m 84 ls []) := by
                intro fuel
                induction fuel with
                | zero => intro j cy lm4 hfu; exact absurd hfu (Nat.not_lt_zero _)
                | succ fuel ih_L3 =>
                  intro j cy lm4 hfu_L3 hJ hO4 H locs ls B hl
                  have hj1 := hJ.1
                  have hj2 := hJ.2.1
                  have hj3 := hJ.2.2.1
                  refine lv_iload hx hb d_Mo_multiply_84 (lv_at hl 0 rfl) ?_
                  refine lv_aload_n hx hb d_Mo_multiply_86 rfl (lv_at hl 6 rfl) ?_
                  refine x_get (C := RX7) (T := TX7) (N := 18) hx hb hts inX7 hown B hF 0 rfl rfl 2 (by decide) (hts _ w_679) (fun _ h9 => h9) rfl d_Mo_multiply_87 ?_
                  refine lv_iload_n hx hb d_Mo_multiply_90 rfl (lv_at hl 9 rfl) ?_
                  refine x_iald hx hb B hF 2 0 rfl rfl w (by omega) (by omega) (by decide) d_Mo_multiply_91 ?_
                  refine x_icmp_ge (tgt := 164) hx hb d_Mo_multiply_92 (by decide) (by omega) (by omega) (fun h92 => ?_) (fun h92 => ?_)
                  · have e8 : j = nw := by omega
                    have hJ9 := hJ
                    rw [e8] at hJ9
                    refine lv_aload_n hx hb d_Mo_multiply_164 rfl (lv_at hl 6 rfl) ?_
                    refine x_get (C := RX7) (T := TX7) (N := 18) hx hb hts inX7 hown B hF 0 rfl rfl 1 (by decide) (hts _ w_678) (fun _ h9 => h9) rfl d_Mo_multiply_165 ?_
                    refine lv_iload hx hb d_Mo_multiply_168 (lv_at hl 4 rfl) ?_
                    refine lv_iload hx hb d_Mo_multiply_170 (lv_at hl 3 rfl) ?_
                    refine x_iadd hx hb d_Mo_multiply_172 ?_
                    refine lv_aload_n hx hb d_Mo_multiply_173 rfl (lv_at hl 6 rfl) ?_
                    refine x_get (C := RX7) (T := TX7) (N := 18) hx hb hts inX7 hown B hF 0 rfl rfl 2 (by decide) (hts _ w_679) (fun _ h9 => h9) rfl d_Mo_multiply_174 ?_
                    refine lv_iload_n hx hb d_Mo_multiply_177 rfl (lv_at hl 9 rfl) ?_
                    refine x_iald hx hb B hF 2 0 rfl rfl w (by omega) (by omega) (by decide) d_Mo_multiply_178 ?_
                    refine x_iadd hx hb d_Mo_multiply_179 ?_
                    refine lv_lload hx hb d_Mo_multiply_180 (lv_at hl 1 rfl) ?_
                    refine x_l2iw hx hb d_Mo_multiply_182 ?_
                    refine x_iast hx hb B hF 1 0 rfl rfl (64 * 178 + (i + nw)) (by omega) (by omega) (by decide) d_Mo_multiply_183 (fun H locs B => ?_)
                    have B : Wb D vwCl (TY cs) L (mw f [(y, .inr (7, [.int (iI th), .ref m1, .ref m2, .ref m3, .int (iI pn), .ref m5, .ref m6, .ref m7, .ref m8, .ref m9, .ref m10, .ref m11, .ref m12, .ref m13, .int (iI rw_), .ref m15, .long (lI fu), .long (lI fb)])), (m1, .inl (cs 0, 11520, .inl (ai (up lm4 (64 * 178 + (i + nw)) (cy % 4294967296))))), (m2, .inl (cs 0, 180, .inl (ai mn))), (m3, .inl (cs 0, 180, .inl (ai sn)))]) (AL L s.heap.size) s H _ := B
                    refine x_iinc (lv' := [(6, .int (iI (((i : Int)) + 1))), (11, .int (iI ((j : Int)))), (9, .long (lI cy)), (7, .long (lI (fl lm x i))), (4, .int (iI 11392)), (5, .int (iI ((nx : Int) + (nw : Int)))), (0, .ref y), (1, .int (iI ((t : Int)))), (2, .int (iI ((x : Int)))), (3, .int (iI ((w : Int))))]) hx hb d_Mo_multiply_184 hl (q := 3) rfl rfl (by decide) rfl (fun ls hl => ?_)
                    refine lv_goto (tgt := 50) hx hb d_Mo_multiply_187 (by decide) ?_
                    exact ih_L2 (i + 1) (up lm4 (64 * 178 + (i + nw)) (cy % 4294967296)) (by omega) (by rw [fl_up, Int.emod_eq_of_lt hj2 hj3]; exact MIn.last hJ9 (by omega) rfl) (hO4.limb (by omega) _) _ _ _ B (lv_sub hl [0, 4, 5, 6, 7, 8, 9] rfl)
                  · have hwj := hMw j (by omega)
                    have hpj := hJ.2.2.2.1 (i + j) (by omega)
                    have hstep := hJ.step (w := cy + (fl lm x i * fl lm w j + fl lm4 178 (i + j))) hMw hxi (by omega) (by omega) rfl
                    have hs8 := hstep.2.1
                    have hs9 := hstep.2.2
                    refine lv_lload hx hb d_Mo_multiply_95 (lv_at hl 1 rfl) ?_
                    refine lv_lload hx hb d_Mo_multiply_97 (lv_at hl 2 rfl) ?_
                    refine lv_aload_n hx hb d_Mo_multiply_99 rfl (lv_at hl 6 rfl) ?_
                    refine x_get (C := RX7) (T := TX7) (N := 18) hx hb hts inX7 hown B hF 0 rfl rfl 1 (by decide) (hts _ w_678) (fun _ h9 => h9) rfl d_Mo_multiply_100 ?_
                    refine x_bipush hx hb d_Mo_multiply_103 (by decide) ?_
                    refine lv_iload_n hx hb d_Mo_multiply_105 rfl (lv_at hl 9 rfl) ?_
                    refine x_imul hx hb d_Mo_multiply_106 ?_
                    refine lv_iload hx hb d_Mo_multiply_107 (lv_at hl 0 rfl) ?_
                    refine x_iadd hx hb d_Mo_multiply_109 ?_
                    refine x_iald hx hb B hF 1 0 rfl rfl (64 * w + j) (by omega) (by omega) (by decide) d_Mo_multiply_110 ?_
                    refine x_calll B hA (va_runS (As := [.int (iI (lm4 (64 * w + j)))]) (rest := [.long (lI (fl lm x i)), .long (lI cy)]) ⟨hx, hb, hml, hown, hts⟩ (c_Mo_low l D cs _ _ _ (lm4 (64 * w + j))) (va_cwS 1 hts (gw_S w_812 w_813 w_8 w_814) rfl rfl rfl (by decide +kernel) ⟨by rw [hRf]; exact Nat.le_of_ble_eq_true rfl, by rw [hRl]; exact Nat.le_of_ble_eq_true rfl⟩) ⟨K0.blind, B.pre _⟩ rfl rfl hl.1 rfl (lv_room (Nat.le_of_ble_eq_true rfl)) d_Mo_multiply_111 ⟨by rw [hRc]; omega, by rw [hRs]; omega⟩) (fun r111 g111 H locs hw B => ?_)
                    obtain ⟨rfl, rfl⟩ := hw
                    rw [show (lm4 (64 * w + j)) % 4294967296 = fl lm w j from low_of (hO4.at hw8 hw178 (by omega)) hwj]
                    have B : Wb D vwCl (TY cs) L (mw f [(y, .inr (7, [.int (iI th), .ref m1, .ref m2, .ref m3, .int (iI pn), .ref m5, .ref m6, .ref m7, .ref m8, .ref m9, .ref m10, .ref m11, .ref m12, .ref m13, .int (iI rw_), .ref m15, .long (lI fu), .long (lI fb)])), (m1, .inl (cs 0, 11520, .inl (ai lm4))), (m2, .inl (cs 0, 180, .inl (ai mn))), (m3, .inl (cs 0, 180, .inl (ai sn)))]) (AL L s.heap.size) s H _ := B
                    refine x_lmul hx hb d_Mo_multiply_114 ?_
                    refine lv_aload_n hx hb d_Mo_multiply_115 rfl (lv_at hl 6 rfl) ?_
                    refine x_get (C := RX7) (T := TX7) (N := 18) hx hb hts inX7 hown B hF 0 rfl rfl 1 (by decide) (hts _ w_678) (fun _ h9 => h9) rfl d_Mo_multiply_116 ?_
                    refine lv_iload hx hb d_Mo_multiply_119 (lv_at hl 4 rfl) ?_
                    refine lv_iload hx hb d_Mo_multiply_121 (lv_at hl 3 rfl) ?_
                    refine x_iadd hx hb d_Mo_multiply_123 ?_
                    refine lv_iload hx hb d_Mo_multiply_124 (lv_at hl 0 rfl) ?_
                    refine x_iadd hx hb d_Mo_multiply_126 ?_
                    refine x_iald hx hb B hF 1 0 rfl rfl (64 * 178 + (i + j)) (by omega) (by omega) (by decide) d_Mo_multiply_127 ?_
                    refine x_calll B hA (va_runS (As := [.int (iI (lm4 (64 * 178 + (i + j))))]) (rest := [.long (lI ((fl lm x i) * (fl lm w j))), .long (lI cy)]) ⟨hx, hb, hml, hown, hts⟩ (c_Mo_low l D cs _ _ _ (lm4 (64 * 178 + (i + j)))) (va_cwS 1 hts (gw_S w_812 w_813 w_8 w_814) rfl rfl rfl (by decide +kernel) ⟨by rw [hRf]; exact Nat.le_of_ble_eq_true rfl, by rw [hRl]; exact Nat.le_of_ble_eq_true rfl⟩) ⟨K0.blind, B.pre _⟩ rfl rfl hl.1 rfl (lv_room (Nat.le_of_ble_eq_true rfl)) d_Mo_multiply_128 ⟨by rw [hRc]; omega, by rw [hRs]; omega⟩) (fun r128 g128 H locs hw B => ?_)
                    obtain ⟨rfl, rfl⟩ := hw
                    rw [show (lm4 (64 * 178 + (i + j))) % 4294967296 = fl lm4 178 (i + j) from low_of rfl hpj]
                    have B : Wb D vwCl (TY cs) L (mw f [(y, .inr (7, [.int (iI th), .ref m1, .ref m2, .ref m3, .int (iI pn), .ref m5, .ref m6, .ref m7, .ref m8, .ref m9, .ref m10, .ref m11, .ref m12, .ref m13, .int (iI rw_), .ref m15, .long (lI fu), .long (lI fb)])), (m1, .inl (cs 0, 11520, .inl (ai lm4))), (m2, .inl (cs 0, 180, .inl (ai mn))), (m3, .inl (cs 0, 180, .inl (ai sn)))]) (AL L s.heap.size) s H _ := B
                    refine x_ladd hx hb d_Mo_multiply_131 ?_
                    refine x_ladd hx hb d_Mo_multiply_132 ?_
                    refine lv_lstore (lv' := [(9, .long (lI (cy + (((fl lm x i) * (fl lm w j)) + (fl lm4 178 (i + j)))))), (11, .int (iI ((j : Int)))), (7, .long (lI (fl lm x i))), (6, .int (iI ((i : Int)))), (4, .int (iI 11392)), (5, .int (iI ((nx : Int) + (nw : Int)))), (0, .ref y), (1, .int (iI ((t : Int)))), (2, .int (iI ((x : Int)))), (3, .int (iI ((w : Int))))]) hx hb d_Mo_multiply_133 hl (by decide) rfl (fun ls hl => ?_)
                    refine lv_aload_n hx hb d_Mo_multiply_135 rfl (lv_at hl 6 rfl) ?_
                    refine x_get (C := RX7) (T := TX7) (N := 18) hx hb hts inX7 hown B hF 0 rfl rfl 1 (by decide) (hts _ w_678) (fun _ h9 => h9) rfl d_Mo_multiply_136 ?_
                    refine lv_iload hx hb d_Mo_multiply_139 (lv_at hl 4 rfl) ?_
                    refine lv_iload hx hb d_Mo_multiply_141 (lv_at hl 3 rfl) ?_
                    refine x_iadd hx hb d_Mo_multiply_143 ?_
                    refine lv_iload hx hb d_Mo_multiply_144 (lv_at hl 1 rfl) ?_
                    refine x_iadd hx hb d_Mo_multiply_146 ?_
                    refine lv_lload hx hb d_Mo_multiply_147 (lv_at hl 0 rfl) ?_
                    refine x_l2iw hx hb d_Mo_multiply_149 ?_
                    refine x_iast hx hb B hF 1 0 rfl rfl (64 * 178 + (i + j)) (by omega) (by omega) (by decide) d_Mo_multiply_150 (fun H locs B => ?_)
                    have B : Wb D vwCl (TY cs) L (mw f [(y, .inr (7, [.int (iI th), .ref m1, .ref m2, .ref m3, .int (iI pn), .ref m5, .ref m6, .ref m7, .ref m8, .ref m9, .ref m10, .ref m11, .ref m12, .ref m13, .int (iI rw_), .ref m15, .long (lI fu), .long (lI fb)])), (m1, .inl (cs 0, 11520, .inl (ai (up lm4 (64 * 178 + (i + j)) ((cy + (((fl lm x i) * (fl lm w j)) + (fl lm4 178 (i + j)))) % 4294967296))))), (m2, .inl (cs 0, 180, .inl (ai mn))), (m3, .inl (cs 0, 180, .inl (ai sn)))]) (AL L s.heap.size) s H _ := B
                    refine lv_lload hx hb d_Mo_multiply_151 (lv_at hl 0 rfl) ?_
                    refine x_bipush hx hb d_Mo_multiply_153 (by decide) ?_
                    refine x_lushr32 hx hb d_Mo_multiply_155 (by omega) ?_
                    refine lv_lstore (lv' := [(9, .long (lI ((cy + (((fl lm x i) * (fl lm w j)) + (fl lm4 178 (i + j)))) / 4294967296))), (11, .int (iI ((j : Int)))), (7, .long (lI (fl lm x i))), (6, .int (iI ((i : Int)))), (4, .int (iI 11392)), (5, .int (iI ((nx : Int) + (nw : Int)))), (0, .ref y), (1, .int (iI ((t : Int)))), (2, .int (iI ((x : Int)))), (3, .int (iI ((w : Int))))]) hx hb d_Mo_multiply_156 hl (by decide) rfl (fun ls hl => ?_)
                    refine x_iinc (lv' := [(11, .int (iI (((j : Int)) + 1))), (9, .long (lI ((cy + (((fl lm x i) * (fl lm w j)) + (fl lm4 178 (i + j)))) / 4294967296))), (7, .long (lI (fl lm x i))), (6, .int (iI ((i : Int)))), (4, .int (iI 11392)), (5, .int (iI ((nx : Int) + (nw : Int)))), (0, .ref y), (1, .int (iI ((t : Int)))), (2, .int (iI ((x : Int)))), (3, .int (iI ((w : Int))))]) hx hb d_Mo_multiply_158 hl (q := 1) rfl rfl (by decide) rfl (fun ls hl => ?_)
                    refine lv_goto (tgt := 84) hx hb d_Mo_multiply_161 (by decide) ?_
                    exact ih_L3 (j + 1) ((cy + (((fl lm x i) * (fl lm w j)) + (fl lm4 178 (i + j)))) / 4294967296) (up lm4 (64 * 178 + (i + j)) ((cy + (((fl lm x i) * (fl lm w j)) + (fl lm4 178 (i + j)))) % 4294967296)) (by omega) (by rw [fl_up]; exact hstep.1) (hO4.limb (by omega) _) _ _ _ B (lv_sub hl [0, 1, 2, 3, 4, 5, 6, 7, 8, 9] rfl)
              exact L3 _ 0 0 lm3 (Nat.lt_succ_self _) (MIn.first hP) hO3 _ _ _ B (lv_sub hl [0, 1, 2, 3, 4, 5, 6, 7, 8, 9] rfl)
        exact L2 _ 0 lm2 (Nat.lt_succ_self _) (MPro.first (fun j hj => hz j (by omega))) hO _ _ _ B (lv_sub hl [0, 1, 2, 3, 4, 5, 6] rfl)
      · refine lv_aload_n hx hb d_Mo_multiply_30 rfl (lv_at hl 3 rfl) ?_
        refine x_get (C := RX7) (T := TX7) (N := 18) hx hb hts inX7 hown B hF 0 rfl rfl 1 (by decide) (hts _ w_678) (fun _ h9 => h9) rfl d_Mo_multiply_31 ?_
        refine lv_iload hx hb d_Mo_multiply_34 (lv_at hl 1 rfl) ?_
        refine lv_iload hx hb d_Mo_multiply_36 (lv_at hl 0 rfl) ?_
        refine x_iadd hx hb d_Mo_multiply_38 ?_
        refine x_iconst hx hb d_Mo_multiply_39 ?_
        refine x_iast hx hb B hF 1 0 rfl rfl (64 * 178 + k) (by omega) (by omega) (by decide) d_Mo_multiply_40 (fun H locs B => ?_)
        have B : Wb D vwCl (TY cs) L (mw f [(y, .inr (7, [.int (iI th), .ref m1, .ref m2, .ref m3, .int (iI pn), .ref m5, .ref m6, .ref m7, .ref m8, .ref m9, .ref m10, .ref m11, .ref m12, .ref m13, .int (iI rw_), .ref m15, .long (lI fu), .long (lI fb)])), (m1, .inl (cs 0, 11520, .inl (ai (up lm2 (64 * 178 + k) 0)))), (m2, .inl (cs 0, 180, .inl (ai mn))), (m3, .inl (cs 0, 180, .inl (ai sn)))]) (AL L s.heap.size) s H _ := B
        refine x_iinc (lv' := [(6, .int (iI (((k : Int)) + 1))), (4, .int (iI 11392)), (5, .int (iI ((nx : Int) + (nw : Int)))), (0, .ref y), (1, .int (iI ((t : Int)))), (2, .int (iI ((x : Int)))), (3, .int (iI ((w : Int))))]) hx hb d_Mo_multiply_41 hl (q := 0) rfl rfl (by decide) rfl (fun ls hl => ?_)
        refine lv_goto (tgt := 23) hx hb d_Mo_multiply_44 (by decide) ?_
        exact ih_L1 (k + 1) (up lm2 (64 * 178 + k) 0) (by omega) (by omega) (fun j hj => by
          rw [fl_up]
          by_cases hjk : j = k
          · rw [hjk, up_self]
          · rw [up_ne _ _ hjk]; exact hz j (by omega)) (hO.limb (by omega) _) _ _ _ B (lv_sub hl [0, 1, 2, 3, 4, 5, 6] rfl)
  rw [hnx, hnw] at hl
  exact L1 _ 0 lm (Nat.lt_succ_self _) (by omega) (fun j hj => by omega) (Off.refl 178 lm mn sn) _ _ _ B (lv_sub hl [0, 2, 1, 3, 4, 5, 6] rfl)
