theorem RV.abs {sd n : Int} {g : Nat → Int} {z : Int} (h : RV sd n g z) : RV (if sd = 0 then 0 else 1) n g (z.natAbs : Int) := by
  have hs := h.side
  obtain ⟨h1, h2, h3, h4, h5, h6⟩ := h
  refine ⟨h1, h2, h3, h4, ?_, by rw [h6]; omega⟩
  split
  · rename_i h0
    rw [show (z.natAbs : Int) = 0 by omega]; rfl
  · rename_i h0
    rw [Int.sign_eq_one_of_pos (by omega)]
theorem div_first {X Y : Int} {a b : Nat} (hX : X < 2 ^ a) (hY : 2 ^ (b - 1) ≤ Y) (hb : 0 < b) : X < Y * 2 ^ ((a : Int) - (b : Int) + 1).toNat := by
  rcases Nat.lt_or_ge a b with h | h
  · rw [show ((a : Int) - (b : Int) + 1).toNat = 0 by omega, Int.pow_zero, Int.mul_one]
    have : (2 : Int) ^ a ≤ 2 ^ (b - 1) := by
      have : (2 : Nat) ^ a ≤ 2 ^ (b - 1) := Nat.pow_le_pow_right (by decide) (by omega)
      exact_mod_cast this
    omega
  · rw [show ((a : Int) - (b : Int) + 1).toNat = a - b + 1 by omega]
    have h1 := Int.mul_le_mul_of_nonneg_right hY (show (0 : Int) ≤ 2 ^ (a - b + 1) from Int.le_of_lt (pw2 _))
    rw [← Int.pow_add, show b - 1 + (a - b + 1) = a by omega] at h1
    omega
theorem div_take {q x X Y : Int} {k : Nat} (heq : q * Y + x = X) (hlt : x < Y * 2 ^ (k + 1)) : (q + 2 ^ k) * Y + (x - Y * 2 ^ k) = X ∧ x - Y * 2 ^ k < Y * 2 ^ k := by
  rw [Int.pow_succ] at hlt
  constructor <;> grind
theorem div_last {q x X Y : Int} (heq : q * Y + x = X) (h0 : 0 ≤ x) (hlt : x < Y) : q = X / Y ∧ x = X % Y := by
  have hY : Y ≠ 0 := by omega
  have h1 : X = x + Y * q := by rw [← heq, Int.mul_comm]; omega
  constructor
  · rw [h1, Int.add_mul_ediv_left _ _ hY, Int.ediv_eq_zero_of_lt h0 hlt, Int.zero_add]
  · rw [h1, Int.add_mul_emod_self_left, Int.emod_eq_of_lt h0 hlt]
theorem div_room {X Y : Int} {a b k : Nat} (hX : a = 0 ∨ 2 ^ (a - 1) ≤ X) (hY : Y < 2 ^ b) (hY0 : 0 < Y) (hk : (k : Int) ≤ (a : Int) - (b : Int)) (hXr : X < Mp 62) : Y * 2 ^ k < Mp 63 ∧ 1 * 2 ^ k < Mp 63 := by
  have p := pw2 k
  have hb : b ≠ 0 := fun h => by rw [h, Int.pow_zero] at hY; omega
  have ha : a ≠ 0 := by omega
  have hX := hX.resolve_left ha
  have h1 : Y * 2 ^ k < 2 ^ b * 2 ^ k := Int.mul_lt_mul_of_pos_right hY p
  rw [← Int.pow_add] at h1
  have h2 : (2 : Int) ^ (b + k) ≤ 2 ^ a := by
    have : (2 : Nat) ^ (b + k) ≤ 2 ^ a := Nat.pow_le_pow_right (by decide) (by omega)
    exact_mod_cast this
  have h3 : (2 : Int) ^ a = 2 * 2 ^ (a - 1) := by rw [show a = (a - 1) + 1 by omega, Int.pow_succ]; simp; omega
  have h4 : Mp 63 = 4294967296 * Mp 62 := Mp_succ 62
  have h5 := Mp_pos 62
  have h6 := Int.mul_le_mul_of_nonneg_right (show 1 ≤ Y by omega) (Int.le_of_lt p)
  omega
theorem q_le {q x X Y : Int} (heq : q * Y + x = X) (h0 : 0 ≤ x) (hq : 0 ≤ q) (hY : 0 < Y) : q ≤ X ∧ x ≤ X := by
  have h1 := Int.mul_nonneg hq (Int.le_of_lt hY)
  have h2 := Int.mul_le_mul_of_nonneg_left (show 1 ≤ Y by omega) hq
  omega
theorem up_up (g : Nat → Int) (k : Nat) (a b : Int) : up (up g k a) k b = up g k b := by
  funext j
  simp only [up]
  split <;> rfl
theorem cmq_lt {a b : Int} : cmq a b < 0 → a < b := by
  unfold cmq
  split
  · intro _; assumption
  · split <;> intro h <;> omega
theorem cmq_ge {a b : Int} : 0 ≤ cmq a b → b ≤ a := by
  unfold cmq
  split
  · intro h; omega
  · split <;> intro h <;> omega
theorem cmq_range (a b : Int) : -1 ≤ cmq a b ∧ cmq a b ≤ 1 := by
  unfold cmq
  split
  · omega
  · split <;> omega
theorem d_Mo_divide_0 : decode prog_9_method_15_code 0 = .ok (.aload_n 0, 1) := by decide +kernel
theorem d_Mo_divide_1 : decode prog_9_method_15_code 1 = .ok (.getfield 16, 3) := by decide +kernel
theorem d_Mo_divide_4 : decode prog_9_method_15_code 4 = .ok (.iload_n 2, 1) := by decide +kernel
theorem d_Mo_divide_5 : decode prog_9_method_15_code 5 = .ok (.iaload, 1) := by decide +kernel
theorem d_Mo_divide_6 : decode prog_9_method_15_code 6 = .ok (.istore 4, 2) := by decide +kernel
theorem d_Mo_divide_8 : decode prog_9_method_15_code 8 = .ok (.aload_n 0, 1) := by decide +kernel
theorem d_Mo_divide_9 : decode prog_9_method_15_code 9 = .ok (.iload_n 1, 1) := by decide +kernel
theorem d_Mo_divide_10 : decode prog_9_method_15_code 10 = .ok (.lconst 0, 1) := by decide +kernel
theorem d_Mo_divide_11 : decode prog_9_method_15_code 11 = .ok (.invokevirtual 77, 3) := by decide +kernel
theorem d_Mo_divide_14 : decode prog_9_method_15_code 14 = .ok (.aload_n 0, 1) := by decide +kernel
theorem d_Mo_divide_15 : decode prog_9_method_15_code 15 = .ok (.iload_n 2, 1) := by decide +kernel
theorem d_Mo_divide_16 : decode prog_9_method_15_code 16 = .ok (.invokevirtual 81, 3) := by decide +kernel
theorem d_Mo_divide_19 : decode prog_9_method_15_code 19 = .ok (.aload_n 0, 1) := by decide +kernel
theorem d_Mo_divide_20 : decode prog_9_method_15_code 20 = .ok (.iload_n 3, 1) := by decide +kernel
theorem d_Mo_divide_21 : decode prog_9_method_15_code 21 = .ok (.invokevirtual 81, 3) := by decide +kernel
theorem d_Mo_divide_24 : decode prog_9_method_15_code 24 = .ok (.isub, 1) := by decide +kernel
theorem d_Mo_divide_25 : decode prog_9_method_15_code 25 = .ok (.istore 5, 2) := by decide +kernel
theorem d_Mo_divide_27 : decode prog_9_method_15_code 27 = .ok (.aload_n 0, 1) := by decide +kernel
theorem d_Mo_divide_28 : decode prog_9_method_15_code 28 = .ok (.getfield 16, 3) := by decide +kernel
theorem d_Mo_divide_31 : decode prog_9_method_15_code 31 = .ok (.iload_n 2, 1) := by decide +kernel
theorem d_Mo_divide_32 : decode prog_9_method_15_code 32 = .ok (.iload 4, 2) := by decide +kernel
theorem d_Mo_divide_34 : decode prog_9_method_15_code 34 = .ok (.ifCond .ne 7, 3) := by decide +kernel
theorem d_Mo_divide_37 : decode prog_9_method_15_code 37 = .ok (.iconst 0, 1) := by decide +kernel
theorem d_Mo_divide_38 : decode prog_9_method_15_code 38 = .ok (.goto 4, 3) := by decide +kernel
theorem d_Mo_divide_41 : decode prog_9_method_15_code 41 = .ok (.iconst 1, 1) := by decide +kernel
theorem d_Mo_divide_42 : decode prog_9_method_15_code 42 = .ok (.iastore, 1) := by decide +kernel
theorem d_Mo_divide_43 : decode prog_9_method_15_code 43 = .ok (.sipush 176, 3) := by decide +kernel
theorem d_Mo_divide_46 : decode prog_9_method_15_code 46 = .ok (.istore 6, 2) := by decide +kernel
theorem d_Mo_divide_48 : decode prog_9_method_15_code 48 = .ok (.iload 5, 2) := by decide +kernel
theorem d_Mo_divide_50 : decode prog_9_method_15_code 50 = .ok (.istore 7, 2) := by decide +kernel
theorem d_Mo_divide_52 : decode prog_9_method_15_code 52 = .ok (.iload 7, 2) := by decide +kernel
theorem d_Mo_divide_54 : decode prog_9_method_15_code 54 = .ok (.ifCond .lt 78, 3) := by decide +kernel
theorem d_Mo_divide_57 : decode prog_9_method_15_code 57 = .ok (.aload_n 0, 1) := by decide +kernel
theorem d_Mo_divide_58 : decode prog_9_method_15_code 58 = .ok (.iload 6, 2) := by decide +kernel
theorem d_Mo_divide_60 : decode prog_9_method_15_code 60 = .ok (.iload_n 3, 1) := by decide +kernel
theorem d_Mo_divide_61 : decode prog_9_method_15_code 61 = .ok (.invokevirtual 65, 3) := by decide +kernel
theorem d_Mo_divide_64 : decode prog_9_method_15_code 64 = .ok (.aload_n 0, 1) := by decide +kernel
theorem d_Mo_divide_65 : decode prog_9_method_15_code 65 = .ok (.getfield 16, 3) := by decide +kernel
theorem d_Mo_divide_68 : decode prog_9_method_15_code 68 = .ok (.iload 6, 2) := by decide +kernel
theorem d_Mo_divide_70 : decode prog_9_method_15_code 70 = .ok (.iconst 1, 1) := by decide +kernel
theorem d_Mo_divide_71 : decode prog_9_method_15_code 71 = .ok (.iastore, 1) := by decide +kernel
theorem d_Mo_divide_72 : decode prog_9_method_15_code 72 = .ok (.aload_n 0, 1) := by decide +kernel
theorem d_Mo_divide_73 : decode prog_9_method_15_code 73 = .ok (.iload 6, 2) := by decide +kernel
theorem d_Mo_divide_75 : decode prog_9_method_15_code 75 = .ok (.iload 7, 2) := by decide +kernel
theorem d_Mo_divide_77 : decode prog_9_method_15_code 77 = .ok (.invokevirtual 85, 3) := by decide +kernel
theorem d_Mo_divide_80 : decode prog_9_method_15_code 80 = .ok (.aload_n 0, 1) := by decide +kernel
theorem d_Mo_divide_81 : decode prog_9_method_15_code 81 = .ok (.iload_n 2, 1) := by decide +kernel
theorem d_Mo_divide_82 : decode prog_9_method_15_code 82 = .ok (.iload 6, 2) := by decide +kernel
theorem d_Mo_divide_84 : decode prog_9_method_15_code 84 = .ok (.invokevirtual 61, 3) := by decide +kernel
theorem d_Mo_divide_87 : decode prog_9_method_15_code 87 = .ok (.ifCond .lt 39, 3) := by decide +kernel
theorem d_Mo_divide_90 : decode prog_9_method_15_code 90 = .ok (.aload_n 0, 1) := by decide +kernel
theorem d_Mo_divide_91 : decode prog_9_method_15_code 91 = .ok (.iload_n 2, 1) := by decide +kernel
theorem d_Mo_divide_92 : decode prog_9_method_15_code 92 = .ok (.iload_n 2, 1) := by decide +kernel
theorem d_Mo_divide_93 : decode prog_9_method_15_code 93 = .ok (.iload 6, 2) := by decide +kernel
theorem d_Mo_divide_95 : decode prog_9_method_15_code 95 = .ok (.iconst (-1), 1) := by decide +kernel
theorem d_Mo_divide_96 : decode prog_9_method_15_code 96 = .ok (.invokevirtual 88, 3) := by decide +kernel
theorem d_Mo_divide_99 : decode prog_9_method_15_code 99 = .ok (.aload_n 0, 1) := by decide +kernel
theorem d_Mo_divide_100 : decode prog_9_method_15_code 100 = .ok (.sipush 177, 3) := by decide +kernel
theorem d_Mo_divide_103 : decode prog_9_method_15_code 103 = .ok (.lconst 1, 1) := by decide +kernel
theorem d_Mo_divide_104 : decode prog_9_method_15_code 104 = .ok (.invokevirtual 77, 3) := by decide +kernel
theorem d_Mo_divide_107 : decode prog_9_method_15_code 107 = .ok (.aload_n 0, 1) := by decide +kernel
theorem d_Mo_divide_108 : decode prog_9_method_15_code 108 = .ok (.sipush 177, 3) := by decide +kernel
theorem d_Mo_divide_111 : decode prog_9_method_15_code 111 = .ok (.iload 7, 2) := by decide +kernel
theorem d_Mo_divide_113 : decode prog_9_method_15_code 113 = .ok (.invokevirtual 85, 3) := by decide +kernel
theorem d_Mo_divide_116 : decode prog_9_method_15_code 116 = .ok (.aload_n 0, 1) := by decide +kernel
theorem d_Mo_divide_117 : decode prog_9_method_15_code 117 = .ok (.iload_n 1, 1) := by decide +kernel
theorem d_Mo_divide_118 : decode prog_9_method_15_code 118 = .ok (.iload_n 1, 1) := by decide +kernel
theorem d_Mo_divide_119 : decode prog_9_method_15_code 119 = .ok (.sipush 177, 3) := by decide +kernel
theorem d_Mo_divide_122 : decode prog_9_method_15_code 122 = .ok (.iconst 1, 1) := by decide +kernel
theorem d_Mo_divide_123 : decode prog_9_method_15_code 123 = .ok (.invokevirtual 88, 3) := by decide +kernel
theorem d_Mo_divide_126 : decode prog_9_method_15_code 126 = .ok (.iinc 7 (-1), 3) := by decide +kernel
theorem d_Mo_divide_129 : decode prog_9_method_15_code 129 = .ok (.goto (-77), 3) := by decide +kernel
theorem d_Mo_divide_132 : decode prog_9_method_15_code 132 = .ok (.return_, 1) := by decide +kernel
set_option maxHeartbeats 8000000 in
set_option maxRecDepth 100000 in
theorem c_Mo_divide (l : Launch) (D : va_G) (cs : Nat → ClassId) (L : List Nat) (f : Nat → va_E) (sz : Nat) (y m1 m2 m3 m5 m6 m7 m8 m9 m10 m11 m12 m13 m15 : Nat) (th pn rw_ fu fb : Int) (lm mn sn Z : Nat → Int) (t x w : Nat) (hF : Fc L [y, m1, m2, m3]) (ha : f y = .inr (7, [.int (iI th), .ref m1, .ref m2, .ref m3, .int (iI pn), .ref m5, .ref m6, .ref m7, .ref m8, .ref m9, .ref m10, .ref m11, .ref m12, .ref m13, .int (iI rw_), .ref m15, .long (lI fu), .long (lI fb)])) (hm1 : f m1 = .inl (cs 0, 11520, .inl (ai lm))) (hm2 : f m2 = .inl (cs 0, 180, .inl (ai mn))) (hm3 : f m3 = .inl (cs 0, 180, .inl (ai sn))) (hRS : RS lm mn sn Z) (ht8 : t < 180) (hx8 : x < 180) (hw8 : w < 180) (htx : t ≠ x) (htw : t ≠ w) (hxw : x ≠ w) (ht6 : t ≠ 176 ∧ t ≠ 177) (hx6 : x ≠ 176 ∧ x ≠ 177) (hw6 : w ≠ 176 ∧ w ≠ 177) (hw0 : Z w ≠ 0) (hxr : ((Z x).natAbs : Int) < Mp 62) : Met l (⟨"RealRootsModel", "divide", "(III)V"⟩ : MethodName) (.code (⟨"RealRootsModel", "divide", "(III)V"⟩ : MethodName) prog_9_method_15_code 8 (Option.none : Option Jvm.ClassFile.FieldType) :: gw) ({ frames := 3, cells := 0, slots := 0, locals := 100 }) (va_Pc [.ref y, .int (iI ((t : Int))), .int (iI ((x : Int))), .int (iI ((w : Int)))] (K0 D vwCl (TY cs) L f sz)) (va_Qv (fun (g : Nat → va_E) => ∃ lm' mn' sn' Z' : Nat → Int, RS lm' mn' sn' Z' ∧ Z' t = ((Z x).natAbs : Int) / ((Z w).natAbs : Int) ∧ Z' x = ((Z x).natAbs : Int) % ((Z w).natAbs : Int) ∧ (∀ v, v ≠ t → v ≠ x → v ≠ 176 → v ≠ 177 → Z' v = Z v) ∧ g = mw f [(m1, .inl (cs 0, 11520, .inl (ai (lm')))), (m2, .inl (cs 0, 180, .inl (ai (mn')))), (m3, .inl (cs 0, 180, .inl (ai (sn'))))]) (K1 D vwCl (TY cs) (AL L sz) L) (AL L sz)) 0 0 (AL L sz) := by
  refine Met.ofW (cc := prog_9_method_15_code) (maxL := 8) (ret := (Option.none : Option Jvm.ClassFile.FieldType)) (by decide) rfl ?_
  intro p e s m args below meth c s₁ Bd hml hv
  obtain ⟨rfl, hk0⟩ := hv
  obtain ⟨hsz, B⟩ := hk0.start
  subst hsz
  have hx := Bd.exec
  have hb := Bd.bytes
  have hr := Bd.returns
  have hlocks := Bd.notSynchronized
  have hts0 := atoms_spec Bd.pre
  have hown : s.vm.findClass RX7 = some m.cls := findClass_of_methodNamed Bd.named
  have hA : ∀ q, s.heap.size ≤ q → AL L s.heap.size q := fun _ h => Or.inr h
  have hl := lv_entry ([.ref y, .int (iI ((t : Int))), .int (iI ((x : Int))), .int (iI ((w : Int)))]) (n := 8) (Nat.le_of_ble_eq_true rfl)
  rw [lg_entry_eq]
  generalize (lg_sl ([.ref y, .int (iI ((t : Int))), .int (iI ((x : Int))), .int (iI ((w : Int)))]) ++ List.replicate (8 - (lg_sl ([.ref y, .int (iI ((t : Int))), .int (iI ((x : Int))), .int (iI ((w : Int)))])).length) Slot.unset).toArray = ls at hl ⊢
  refine absQ (fun Q R av hQ hR hav => ?_)
  have hts : ∀ w ∈ gw, w.before av s = true := by rw [hav]; exact fun w h => hts0 w (List.mem_cons_of_mem _ h)
  have hRf : R.frames = 3 := by rw [hR]; rfl
  have hRl : R.locals = 100 := by rw [hR]; rfl
  have hRc : R.cells = 0 := by rw [hR]; rfl
  have hRs : R.slots = 0 := by rw [hR]; rfl
  clear hR hts0 Bd
  have hl : lv_has ls 8 [(0, .ref y), (1, .int (iI ((t : Int)))), (2, .int (iI ((x : Int)))), (3, .int (iI ((w : Int))))] := hl
  have hY0 : 0 < ((Z w).natAbs : Int) := by omega
  have hnxs := (hRS x hx8).side
  have hfx : ∀ q ∈ ([(y, .inr (7, [.int (iI th), .ref m1, .ref m2, .ref m3, .int (iI pn), .ref m5, .ref m6, .ref m7, .ref m8, .ref m9, .ref m10, .ref m11, .ref m12, .ref m13, .int (iI rw_), .ref m15, .long (lI fu), .long (lI fb)])), (m1, .inl (cs 0, 11520, .inl (ai lm))), (m2, .inl (cs 0, 180, .inl (ai mn))), (m3, .inl (cs 0, 180, .inl (ai sn)))] : List (Nat × va_E)), f q.1 = q.2 := fun q hq => by
    simp only [List.mem_cons, List.not_mem_nil, or_false] at hq
    rcases hq with rfl | rfl | rfl | rfl
    · exact ha
    · exact hm1
    · exact hm2
    · exact hm3
  have hmw : mw f [(y, .inr (7, [.int (iI th), .ref m1, .ref m2, .ref m3, .int (iI pn), .ref m5, .ref m6, .ref m7, .ref m8, .ref m9, .ref m10, .ref m11, .ref m12, .ref m13, .int (iI rw_), .ref m15, .long (lI fu), .long (lI fb)])), (m1, .inl (cs 0, 11520, .inl (ai lm))), (m2, .inl (cs 0, 180, .inl (ai mn))), (m3, .inl (cs 0, 180, .inl (ai sn)))] = f := mw_self (fun k a e hk => hfx (a, e) (List.mem_of_getElem? hk))
  have B := B.focus [(y, .inr (7, [.int (iI th), .ref m1, .ref m2, .ref m3, .int (iI pn), .ref m5, .ref m6, .ref m7, .ref m8, .ref m9, .ref m10, .ref m11, .ref m12, .ref m13, .int (iI rw_), .ref m15, .long (lI fu), .long (lI fb)])), (m1, .inl (cs 0, 11520, .inl (ai lm))), (m2, .inl (cs 0, 180, .inl (ai mn))), (m3, .inl (cs 0, 180, .inl (ai sn)))] hfx
  refine lv_aload_n hx hb d_Mo_divide_0 rfl (lv_at hl 0 rfl) ?_
  refine x_get (C := RX7) (T := TX7) (N := 18) hx hb hts inX7 hown B hF 0 rfl rfl 3 (by decide) (hts _ w_680) (fun _ h9 => h9) rfl d_Mo_divide_1 ?_
  refine lv_iload_n hx hb d_Mo_divide_4 rfl (lv_at hl 2 rfl) ?_
  refine x_iald hx hb B hF 3 0 rfl rfl x (by omega) (by omega) (by decide) d_Mo_divide_5 ?_
  refine lv_istore (lv' := [(4, .int (iI (sn x))), (0, .ref y), (1, .int (iI ((t : Int)))), (2, .int (iI ((x : Int)))), (3, .int (iI ((w : Int))))]) hx hb d_Mo_divide_6 hl (by decide) rfl (fun ls hl => ?_)
  refine lv_aload_n hx hb d_Mo_divide_8 rfl (lv_at hl 1 rfl) ?_
  refine lv_iload_n hx hb d_Mo_divide_9 rfl (lv_at hl 2 rfl) ?_
  refine x_lconst (z := 0) hx hb d_Mo_divide_10 (by decide) ?_
  refine x_callv B hA (va_runV (As := [.int (iI ((t : Int))), .long (lI 0)]) (rest := []) ⟨hx, hb, hml, hown, hts⟩ (c_Mo_lay0 l D cs _ _ _ y m1 m2 m3 m5 m6 m7 m8 m9 m10 m11 m12 m13 m15 th pn rw_ fu fb lm mn sn Z t 0 hF (mw_get (X := [(y, .inr (7, [.int (iI th), .ref m1, .ref m2, .ref m3, .int (iI pn), .ref m5, .ref m6, .ref m7, .ref m8, .ref m9, .ref m10, .ref m11, .ref m12, .ref m13, .int (iI rw_), .ref m15, .long (lI fu), .long (lI fb)])), (m1, .inl (cs 0, 11520, .inl (ai lm))), (m2, .inl (cs 0, 180, .inl (ai mn))), (m3, .inl (cs 0, 180, .inl (ai sn)))]) hF.1 (k := 0) rfl) (mw_get (X := [(y, .inr (7, [.int (iI th), .ref m1, .ref m2, .ref m3, .int (iI pn), .ref m5, .ref m6, .ref m7, .ref m8, .ref m9, .ref m10, .ref m11, .ref m12, .ref m13, .int (iI rw_), .ref m15, .long (lI fu), .long (lI fb)])), (m1, .inl (cs 0, 11520, .inl (ai lm))), (m2, .inl (cs 0, 180, .inl (ai mn))), (m3, .inl (cs 0, 180, .inl (ai sn)))]) hF.1 (k := 1) rfl) (mw_get (X := [(y, .inr (7, [.int (iI th), .ref m1, .ref m2, .ref m3, .int (iI pn), .ref m5, .ref m6, .ref m7, .ref m8, .ref m9, .ref m10, .ref m11, .ref m12, .ref m13, .int (iI rw_), .ref m15, .long (lI fu), .long (lI fb)])), (m1, .inl (cs 0, 11520, .inl (ai lm))), (m2, .inl (cs 0, 180, .inl (ai mn))), (m3, .inl (cs 0, 180, .inl (ai sn)))]) hF.1 (k := 2) rfl) (mw_get (X := [(y, .inr (7, [.int (iI th), .ref m1, .ref m2, .ref m3, .int (iI pn), .ref m5, .ref m6, .ref m7, .ref m8, .ref m9, .ref m10, .ref m11, .ref m12, .ref m13, .int (iI rw_), .ref m15, .long (lI fu), .long (lI fb)])), (m1, .inl (cs 0, 11520, .inl (ai lm))), (m2, .inl (cs 0, 180, .inl (ai mn))), (m3, .inl (cs 0, 180, .inl (ai sn)))]) hF.1 (k := 3) rfl) hRS ht8 (by omega)) (cwV 2 hts (gw_V w_792 w_794 s_35 w_8 w_795) rfl rfl rfl (by decide +kernel) ⟨by rw [hRf]; exact Nat.le_of_ble_eq_true rfl, by rw [hRl]; exact Nat.le_of_ble_eq_true rfl⟩) ⟨K0.blind, B.recv (hF.2 _ (mw_key (k := 0) (X := [(y, .inr (7, [.int (iI th), .ref m1, .ref m2, .ref m3, .int (iI pn), .ref m5, .ref m6, .ref m7, .ref m8, .ref m9, .ref m10, .ref m11, .ref m12, .ref m13, .int (iI rw_), .ref m15, .long (lI fu), .long (lI fb)])), (m1, .inl (cs 0, 11520, .inl (ai lm))), (m2, .inl (cs 0, 180, .inl (ai mn))), (m3, .inl (cs 0, 180, .inl (ai sn)))]) rfl)) (mw_get (X := [(y, .inr (7, [.int (iI th), .ref m1, .ref m2, .ref m3, .int (iI pn), .ref m5, .ref m6, .ref m7, .ref m8, .ref m9, .ref m10, .ref m11, .ref m12, .ref m13, .int (iI rw_), .ref m15, .long (lI fu), .long (lI fb)])), (m1, .inl (cs 0, 11520, .inl (ai lm))), (m2, .inl (cs 0, 180, .inl (ai mn))), (m3, .inl (cs 0, 180, .inl (ai sn)))]) hF.1 (k := 0) rfl) rfl, B.pre _⟩ rfl rfl hl.1 rfl (lv_room (Nat.le_of_ble_eq_true rfl)) d_Mo_divide_11 ⟨by rw [hRc]; omega, by rw [hRs]; omega⟩) (fun g11 H locs hw B => ?_)
  obtain ⟨lm11, mn11, sn11, hR1, rfl⟩ := hw
  have B := B.of_eq (mw_put3 (X := [(y, .inr (7, [.int (iI th), .ref m1, .ref m2, .ref m3, .int (iI pn), .ref m5, .ref m6, .ref m7, .ref m8, .ref m9, .ref m10, .ref m11, .ref m12, .ref m13, .int (iI rw_), .ref m15, .long (lI fu), .long (lI fb)])), (m1, .inl (cs 0, 11520, .inl (ai lm))), (m2, .inl (cs 0, 180, .inl (ai mn))), (m3, .inl (cs 0, 180, .inl (ai sn)))]) hF.1 (k1 := 1) (k2 := 2) (k3 := 3) rfl rfl rfl)
  have B : Wb D vwCl (TY cs) L (mw f [(y, .inr (7, [.int (iI th), .ref m1, .ref m2, .ref m3, .int (iI pn), .ref m5, .ref m6, .ref m7, .ref m8, .ref m9, .ref m10, .ref m11, .ref m12, .ref m13, .int (iI rw_), .ref m15, .long (lI fu), .long (lI fb)])), (m1, .inl (cs 0, 11520, .inl (ai lm11))), (m2, .inl (cs 0, 180, .inl (ai mn11))), (m3, .inl (cs 0, 180, .inl (ai sn11)))]) (AL L s.heap.size) s H _ := B
  refine lv_aload_n hx hb d_Mo_divide_14 rfl (lv_at hl 1 rfl) ?_
  refine lv_iload_n hx hb d_Mo_divide_15 rfl (lv_at hl 3 rfl) ?_
  refine x_calli B hA (va_runV (As := [.int (iI ((x : Int)))]) (rest := []) ⟨hx, hb, hml, hown, hts⟩ (c_Mo_bitsOf l D cs _ _ _ y m1 m2 m3 m5 m6 m7 m8 m9 m10 m11 m12 m13 m15 th pn rw_ fu fb lm11 mn11 sn11 (up Z t 0) x hF (mw_get (X := [(y, .inr (7, [.int (iI th), .ref m1, .ref m2, .ref m3, .int (iI pn), .ref m5, .ref m6, .ref m7, .ref m8, .ref m9, .ref m10, .ref m11, .ref m12, .ref m13, .int (iI rw_), .ref m15, .long (lI fu), .long (lI fb)])), (m1, .inl (cs 0, 11520, .inl (ai lm11))), (m2, .inl (cs 0, 180, .inl (ai mn11))), (m3, .inl (cs 0, 180, .inl (ai sn11)))]) hF.1 (k := 0) rfl) (mw_get (X := [(y, .inr (7, [.int (iI th), .ref m1, .ref m2, .ref m3, .int (iI pn), .ref m5, .ref m6, .ref m7, .ref m8, .ref m9, .ref m10, .ref m11, .ref m12, .ref m13, .int (iI rw_), .ref m15, .long (lI fu), .long (lI fb)])), (m1, .inl (cs 0, 11520, .inl (ai lm11))), (m2, .inl (cs 0, 180, .inl (ai mn11))), (m3, .inl (cs 0, 180, .inl (ai sn11)))]) hF.1 (k := 1) rfl) (mw_get (X := [(y, .inr (7, [.int (iI th), .ref m1, .ref m2, .ref m3, .int (iI pn), .ref m5, .ref m6, .ref m7, .ref m8, .ref m9, .ref m10, .ref m11, .ref m12, .ref m13, .int (iI rw_), .ref m15, .long (lI fu), .long (lI fb)])), (m1, .inl (cs 0, 11520, .inl (ai lm11))), (m2, .inl (cs 0, 180, .inl (ai mn11))), (m3, .inl (cs 0, 180, .inl (ai sn11)))]) hF.1 (k := 2) rfl) (mw_get (X := [(y, .inr (7, [.int (iI th), .ref m1, .ref m2, .ref m3, .int (iI pn), .ref m5, .ref m6, .ref m7, .ref m8, .ref m9, .ref m10, .ref m11, .ref m12, .ref m13, .int (iI rw_), .ref m15, .long (lI fu), .long (lI fb)])), (m1, .inl (cs 0, 11520, .inl (ai lm11))), (m2, .inl (cs 0, 180, .inl (ai mn11))), (m3, .inl (cs 0, 180, .inl (ai sn11)))]) hF.1 (k := 3) rfl) hR1 hx8) (cwV 1 hts (gw_V w_844 w_846 s_47 w_8 w_847) rfl rfl rfl (by decide +kernel) ⟨by rw [hRf]; exact Nat.le_of_ble_eq_true rfl, by rw [hRl]; exact Nat.le_of_ble_eq_true rfl⟩) ⟨K0.blind, B.recv (hF.2 _ (mw_key (k := 0) (X := [(y, .inr (7, [.int (iI th), .ref m1, .ref m2, .ref m3, .int (iI pn), .ref m5, .ref m6, .ref m7, .ref m8, .ref m9, .ref m10, .ref m11, .ref m12, .ref m13, .int (iI rw_), .ref m15, .long (lI fu), .long (lI fb)])), (m1, .inl (cs 0, 11520, .inl (ai lm11))), (m2, .inl (cs 0, 180, .inl (ai mn11))), (m3, .inl (cs 0, 180, .inl (ai sn11)))]) rfl)) (mw_get (X := [(y, .inr (7, [.int (iI th), .ref m1, .ref m2, .ref m3, .int (iI pn), .ref m5, .ref m6, .ref m7, .ref m8, .ref m9, .ref m10, .ref m11, .ref m12, .ref m13, .int (iI rw_), .ref m15, .long (lI fu), .long (lI fb)])), (m1, .inl (cs 0, 11520, .inl (ai lm11))), (m2, .inl (cs 0, 180, .inl (ai mn11))), (m3, .inl (cs 0, 180, .inl (ai sn11)))]) hF.1 (k := 0) rfl) rfl, B.pre _⟩ rfl rfl hl.1 rfl (lv_room (Nat.le_of_ble_eq_true rfl)) d_Mo_divide_16 ⟨by rw [hRc]; omega, by rw [hRs]; omega⟩) (fun r16 g16 H locs hw B => ?_)
  obtain ⟨nbx, rfl, hnbx1, hnbx2, hnbx3, rfl⟩ := hw
  rw [up_ne _ _ (show x ≠ t by omega)] at hnbx2 hnbx3
  have B : Wb D vwCl (TY cs) L (mw f [(y, .inr (7, [.int (iI th), .ref m1, .ref m2, .ref m3, .int (iI pn), .ref m5, .ref m6, .ref m7, .ref m8, .ref m9, .ref m10, .ref m11, .ref m12, .ref m13, .int (iI rw_), .ref m15, .long (lI fu), .long (lI fb)])), (m1, .inl (cs 0, 11520, .inl (ai lm11))), (m2, .inl (cs 0, 180, .inl (ai mn11))), (m3, .inl (cs 0, 180, .inl (ai sn11)))]) (AL L s.heap.size) s H _ := B
  refine lv_aload_n hx hb d_Mo_divide_19 rfl (lv_at hl 1 rfl) ?_
  refine lv_iload_n hx hb d_Mo_divide_20 rfl (lv_at hl 4 rfl) ?_
  refine x_calli B hA (va_runV (As := [.int (iI ((w : Int)))]) (rest := [.int (iI ((nbx : Int)))]) ⟨hx, hb, hml, hown, hts⟩ (c_Mo_bitsOf l D cs _ _ _ y m1 m2 m3 m5 m6 m7 m8 m9 m10 m11 m12 m13 m15 th pn rw_ fu fb lm11 mn11 sn11 (up Z t 0) w hF (mw_get (X := [(y, .inr (7, [.int (iI th), .ref m1, .ref m2, .ref m3, .int (iI pn), .ref m5, .ref m6, .ref m7, .ref m8, .ref m9, .ref m10, .ref m11, .ref m12, .ref m13, .int (iI rw_), .ref m15, .long (lI fu), .long (lI fb)])), (m1, .inl (cs 0, 11520, .inl (ai lm11))), (m2, .inl (cs 0, 180, .inl (ai mn11))), (m3, .inl (cs 0, 180, .inl (ai sn11)))]) hF.1 (k := 0) rfl) (mw_get (X := [(y, .inr (7, [.int (iI th), .ref m1, .ref m2, .ref m3, .int (iI pn), .ref m5, .ref m6, .ref m7, .ref m8, .ref m9, .ref m10, .ref m11, .ref m12, .ref m13, .int (iI rw_), .ref m15, .long (lI fu), .long (lI fb)])), (m1, .inl (cs 0, 11520, .inl (ai lm11))), (m2, .inl (cs 0, 180, .inl (ai mn11))), (m3, .inl (cs 0, 180, .inl (ai sn11)))]) hF.1 (k := 1) rfl) (mw_get (X := [(y, .inr (7, [.int (iI th), .ref m1, .ref m2, .ref m3, .int (iI pn), .ref m5, .ref m6, .ref m7, .ref m8, .ref m9, .ref m10, .ref m11, .ref m12, .ref m13, .int (iI rw_), .ref m15, .long (lI fu), .long (lI fb)])), (m1, .inl (cs 0, 11520, .inl (ai lm11))), (m2, .inl (cs 0, 180, .inl (ai mn11))), (m3, .inl (cs 0, 180, .inl (ai sn11)))]) hF.1 (k := 2) rfl) (mw_get (X := [(y, .inr (7, [.int (iI th), .ref m1, .ref m2, .ref m3, .int (iI pn), .ref m5, .ref m6, .ref m7, .ref m8, .ref m9, .ref m10, .ref m11, .ref m12, .ref m13, .int (iI rw_), .ref m15, .long (lI fu), .long (lI fb)])), (m1, .inl (cs 0, 11520, .inl (ai lm11))), (m2, .inl (cs 0, 180, .inl (ai mn11))), (m3, .inl (cs 0, 180, .inl (ai sn11)))]) hF.1 (k := 3) rfl) hR1 hw8) (cwV 1 hts (gw_V w_844 w_846 s_47 w_8 w_847) rfl rfl rfl (by decide +kernel) ⟨by rw [hRf]; exact Nat.le_of_ble_eq_true rfl, by rw [hRl]; exact Nat.le_of_ble_eq_true rfl⟩) ⟨K0.blind, B.recv (hF.2 _ (mw_key (k := 0) (X := [(y, .inr (7, [.int (iI th), .ref m1, .ref m2, .ref m3, .int (iI pn), .ref m5, .ref m6, .ref m7, .ref m8, .ref m9, .ref m10, .ref m11, .ref m12, .ref m13, .int (iI rw_), .ref m15, .long (lI fu), .long (lI fb)])), (m1, .inl (cs 0, 11520, .inl (ai lm11))), (m2, .inl (cs 0, 180, .inl (ai mn11))), (m3, .inl (cs 0, 180, .inl (ai sn11)))]) rfl)) (mw_get (X := [(y, .inr (7, [.int (iI th), .ref m1, .ref m2, .ref m3, .int (iI pn), .ref m5, .ref m6, .ref m7, .ref m8, .ref m9, .ref m10, .ref m11, .ref m12, .ref m13, .int (iI rw_), .ref m15, .long (lI fu), .long (lI fb)])), (m1, .inl (cs 0, 11520, .inl (ai lm11))), (m2, .inl (cs 0, 180, .inl (ai mn11))), (m3, .inl (cs 0, 180, .inl (ai sn11)))]) hF.1 (k := 0) rfl) rfl, B.pre _⟩ rfl rfl hl.1 rfl (lv_room (Nat.le_of_ble_eq_true rfl)) d_Mo_divide_21 ⟨by rw [hRc]; omega, by rw [hRs]; omega⟩) (fun r21 g21 H locs hw B => ?_)
  obtain ⟨nbw, rfl, hnbw1, hnbw2, hnbw3, rfl⟩ := hw
  rw [up_ne _ _ (show w ≠ t by omega)] at hnbw2 hnbw3
  have B : Wb D vwCl (TY cs) L (mw f [(y, .inr (7, [.int (iI th), .ref m1, .ref m2, .ref m3, .int (iI pn), .ref m5, .ref m6, .ref m7, .ref m8, .ref m9, .ref m10, .ref m11, .ref m12, .ref m13, .int (iI rw_), .ref m15, .long (lI fu), .long (lI fb)])), (m1, .inl (cs 0, 11520, .inl (ai lm11))), (m2, .inl (cs 0, 180, .inl (ai mn11))), (m3, .inl (cs 0, 180, .inl (ai sn11)))]) (AL L s.heap.size) s H _ := B
  refine x_isub hx hb d_Mo_divide_24 ?_
  refine lv_istore (lv' := [(5, .int (iI (((nbx : Int)) - ((nbw : Int))))), (4, .int (iI (sn x))), (0, .ref y), (1, .int (iI ((t : Int)))), (2, .int (iI ((x : Int)))), (3, .int (iI ((w : Int))))]) hx hb d_Mo_divide_25 hl (by decide) rfl (fun ls hl => ?_)
  have hs11 : sn11 x = sn x := by have h8 := (hR1 x hx8).2.2.2.2.1; rw [up_ne _ _ (show x ≠ t by omega)] at h8; rw [h8]; exact ((hRS x hx8).2.2.2.2.1).symm
  have hsx := (hRS x hx8).side
  have J42 : ∀ (v1 : Int), (v1 = if sn11 x = 0 then 0 else 1) → ∀ (H : Heap) (locs : List Loc) (ls : Array Slot), Wb D vwCl (TY cs) L (mw f [(y, .inr (7, [.int (iI th), .ref m1, .ref m2, .ref m3, .int (iI pn), .ref m5, .ref m6, .ref m7, .ref m8, .ref m9, .ref m10, .ref m11, .ref m12, .ref m13, .int (iI rw_), .ref m15, .long (lI fu), .long (lI fb)])), (m1, .inl (cs 0, 11520, .inl (ai lm11))), (m2, .inl (cs 0, 180, .inl (ai mn11))), (m3, .inl (cs 0, 180, .inl (ai sn11)))]) (AL L s.heap.size) s H locs → lv_has ls 8 [(5, .int (iI (((nbx : Int)) - ((nbw : Int))))), (4, .int (iI (sn x))), (0, .ref y), (1, .int (iI ((t : Int)))), (2, .int (iI ((x : Int)))), (3, .int (iI ((w : Int))))] → W p l e R s m av below meth c H locs (0) (0) Q (F0 m 42 ls [.int (iI v1), .int (iI ((x : Int))), .ref m3]) := by
    intro v1 hv1 H locs ls B hl
    refine x_iast hx hb B hF 3 0 rfl rfl x (by omega) (by omega) (by decide) d_Mo_divide_42 (fun H locs B => ?_)
    have B : Wb D vwCl (TY cs) L (mw f [(y, .inr (7, [.int (iI th), .ref m1, .ref m2, .ref m3, .int (iI pn), .ref m5, .ref m6, .ref m7, .ref m8, .ref m9, .ref m10, .ref m11, .ref m12, .ref m13, .int (iI rw_), .ref m15, .long (lI fu), .long (lI fb)])), (m1, .inl (cs 0, 11520, .inl (ai lm11))), (m2, .inl (cs 0, 180, .inl (ai mn11))), (m3, .inl (cs 0, 180, .inl (ai (up sn11 x v1))))]) (AL L s.heap.size) s H _ := B
    have hR2 : RS lm11 mn11 (up sn11 x v1) (up (up Z t 0) x ((Z x).natAbs : Int)) := RS.set (hR1.off x) ((Off.refl x lm11 mn11 sn11).sign v1) (by
      have h9 := (hR1 x hx8).abs
      rw [up_ne _ _ (show x ≠ t by omega)] at h9
      rw [up_self, hv1]
      exact h9)
    have hnbw0 : ¬ nbw = 0 := fun h => by rw [h, Int.pow_zero] at hnbw2; omega
    refine x_sipush hx hb d_Mo_divide_43 (by decide) ?_
    refine lv_istore (lv' := [(6, .int (iI 176)), (5, .int (iI (((nbx : Int)) - ((nbw : Int))))), (4, .int (iI (sn x))), (0, .ref y), (1, .int (iI ((t : Int)))), (2, .int (iI ((x : Int)))), (3, .int (iI ((w : Int))))]) hx hb d_Mo_divide_46 hl (by decide) rfl (fun ls hl => ?_)
    refine lv_iload hx hb d_Mo_divide_48 (lv_at hl 1 rfl) ?_
    refine lv_istore (lv' := [(7, .int (iI (((nbx : Int)) - ((nbw : Int))))), (6, .int (iI 176)), (5, .int (iI (((nbx : Int)) - ((nbw : Int))))), (4, .int (iI (sn x))), (0, .ref y), (1, .int (iI ((t : Int)))), (2, .int (iI ((x : Int)))), (3, .int (iI ((w : Int))))]) hx hb d_Mo_divide_50 hl (by decide) rfl (fun ls hl => ?_)
    have LP : ∀ (fuel : Nat) (kk : Int) (q : Int) (xv : Int) (lm2 : Nat → Int) (mn2 : Nat → Int) (sn2 : Nat → Int) (Z2 : Nat → Int), (kk + 1).toNat < fuel → (-3000 ≤ kk) → (kk ≤ (nbx : Int) - (nbw : Int)) → (RS lm2 mn2 sn2 Z2) → (Z2 t = q) → (Z2 x = xv) → (Z2 w = Z w) → (∀ v, v ≠ t → v ≠ x → v ≠ 176 → v ≠ 177 → Z2 v = Z v) → (0 ≤ q) → (0 ≤ xv) → (q * ((Z w).natAbs : Int) + xv = ((Z x).natAbs : Int)) → (xv < ((Z w).natAbs : Int) * 2 ^ (kk + 1).toNat) → ∀ (H : Heap) (locs : List Loc) (ls : Array Slot), Wb D vwCl (TY cs) L (mw f [(y, .inr (7, [.int (iI th), .ref m1, .ref m2, .ref m3, .int (iI pn), .ref m5, .ref m6, .ref m7, .ref m8, .ref m9, .ref m10, .ref m11, .ref m12, .ref m13, .int (iI rw_), .ref m15, .long (lI fu), .long (lI fb)])), (m1, .inl (cs 0, 11520, .inl (ai lm2))), (m2, .inl (cs 0, 180, .inl (ai mn2))), (m3, .inl (cs 0, 180, .inl (ai sn2)))]) (AL L s.heap.size) s H locs → lv_has ls 8 [(7, .int (iI kk)), (6, .int (iI 176)), (0, .ref y), (1, .int (iI ((t : Int)))), (2, .int (iI ((x : Int)))), (3, .int (iI ((w : Int))))] → W p l e R s m av below meth c H locs (0) (0) Q (F0 m 52 ls []) := by
      intro fuel
      induction fuel with
      | zero => intro kk q xv lm2 mn2 sn2 Z2 hfu; exact absurd hfu (Nat.not_lt_zero _)
      | succ fuel ih_LP =>
        intro kk q xv lm2 mn2 sn2 Z2 hfu_LP hkl hkk hR hZt hZx hZw hZo hq0 hx0 heq hltk H locs ls B hl
        refine lv_iload hx hb d_Mo_divide_52 (lv_at hl 0 rfl) ?_
        refine x_if_lt (tgt := 132) hx hb d_Mo_divide_54 (by decide) (by omega) (fun h54 => ?_) (fun h54 => ?_)
        · subst hQ hav
          exact x_vret hx hb hr hlocks B d_Mo_divide_132 (by
      have h0 : (kk + 1).toNat = 0 := by omega
      rw [h0, Int.pow_zero, Int.mul_one] at hltk
      have h9 := div_last heq hx0 hltk
      exact ⟨_, _, _, Z2, hR, by rw [hZt]; exact h9.1, by rw [hZx]; exact h9.2, hZo, mw_drop (f := f) (X := [(m1, .inl (cs 0, 11520, .inl (ai lm2))), (m2, .inl (cs 0, 180, .inl (ai mn2))), (m3, .inl (cs 0, 180, .inl (ai sn2)))]) ha (List.nodup_cons.mp hF.1).1⟩)
        · obtain ⟨kn, rfl⟩ : ∃ kn : Nat, kk = (kn : Int) := ⟨kk.toNat, by omega⟩
          rw [show ((kn : Int) + 1).toNat = kn + 1 by omega] at hltk
          have hroom := div_room (k := kn) hnbx3 hnbw2 hY0 hkk hxr
          have hqx := q_le heq hx0 hq0 hY0
          have hV0 : 0 ≤ (((Z w).natAbs : Int) * 2 ^ kn) := Int.mul_nonneg (Int.le_of_lt hY0) (Int.le_of_lt (pw2 kn))
          refine lv_aload_n hx hb d_Mo_divide_57 rfl (lv_at hl 2 rfl) ?_
          refine lv_iload hx hb d_Mo_divide_58 (lv_at hl 1 rfl) ?_
          refine lv_iload_n hx hb d_Mo_divide_60 rfl (lv_at hl 5 rfl) ?_
          refine x_callv B hA (va_runV (As := [.int (iI 176), .int (iI ((w : Int)))]) (rest := []) ⟨hx, hb, hml, hown, hts⟩ (c_Mo_copy l D cs _ _ _ y m1 m2 m3 m5 m6 m7 m8 m9 m10 m11 m12 m13 m15 th pn rw_ fu fb lm2 mn2 sn2 Z2 176 w hF (mw_get (X := [(y, .inr (7, [.int (iI th), .ref m1, .ref m2, .ref m3, .int (iI pn), .ref m5, .ref m6, .ref m7, .ref m8, .ref m9, .ref m10, .ref m11, .ref m12, .ref m13, .int (iI rw_), .ref m15, .long (lI fu), .long (lI fb)])), (m1, .inl (cs 0, 11520, .inl (ai lm2))), (m2, .inl (cs 0, 180, .inl (ai mn2))), (m3, .inl (cs 0, 180, .inl (ai sn2)))]) hF.1 (k := 0) rfl) (mw_get (X := [(y, .inr (7, [.int (iI th), .ref m1, .ref m2, .ref m3, .int (iI pn), .ref m5, .ref m6, .ref m7, .ref m8, .ref m9, .ref m10, .ref m11, .ref m12, .ref m13, .int (iI rw_), .ref m15, .long (lI fu), .long (lI fb)])), (m1, .inl (cs 0, 11520, .inl (ai lm2))), (m2, .inl (cs 0, 180, .inl (ai mn2))), (m3, .inl (cs 0, 180, .inl (ai sn2)))]) hF.1 (k := 1) rfl) (mw_get (X := [(y, .inr (7, [.int (iI th), .ref m1, .ref m2, .ref m3, .int (iI pn), .ref m5, .ref m6, .ref m7, .ref m8, .ref m9, .ref m10, .ref m11, .ref m12, .ref m13, .int (iI rw_), .ref m15, .long (lI fu), .long (lI fb)])), (m1, .inl (cs 0, 11520, .inl (ai lm2))), (m2, .inl (cs 0, 180, .inl (ai mn2))), (m3, .inl (cs 0, 180, .inl (ai sn2)))]) hF.1 (k := 2) rfl) (mw_get (X := [(y, .inr (7, [.int (iI th), .ref m1, .ref m2, .ref m3, .int (iI pn), .ref m5, .ref m6, .ref m7, .ref m8, .ref m9, .ref m10, .ref m11, .ref m12, .ref m13, .int (iI rw_), .ref m15, .long (lI fu), .long (lI fb)])), (m1, .inl (cs 0, 11520, .inl (ai lm2))), (m2, .inl (cs 0, 180, .inl (ai mn2))), (m3, .inl (cs 0, 180, .inl (ai sn2)))]) hF.1 (k := 3) rfl) hR (by decide) hw8) (cwV 2 hts (gw_V w_804 w_806 s_38 w_8 w_807) rfl rfl rfl (by decide +kernel) ⟨by rw [hRf]; exact Nat.le_of_ble_eq_true rfl, by rw [hRl]; exact Nat.le_of_ble_eq_true rfl⟩) ⟨K0.blind, B.recv (hF.2 _ (mw_key (k := 0) (X := [(y, .inr (7, [.int (iI th), .ref m1, .ref m2, .ref m3, .int (iI pn), .ref m5, .ref m6, .ref m7, .ref m8, .ref m9, .ref m10, .ref m11, .ref m12, .ref m13, .int (iI rw_), .ref m15, .long (lI fu), .long (lI fb)])), (m1, .inl (cs 0, 11520, .inl (ai lm2))), (m2, .inl (cs 0, 180, .inl (ai mn2))), (m3, .inl (cs 0, 180, .inl (ai sn2)))]) rfl)) (mw_get (X := [(y, .inr (7, [.int (iI th), .ref m1, .ref m2, .ref m3, .int (iI pn), .ref m5, .ref m6, .ref m7, .ref m8, .ref m9, .ref m10, .ref m11, .ref m12, .ref m13, .int (iI rw_), .ref m15, .long (lI fu), .long (lI fb)])), (m1, .inl (cs 0, 11520, .inl (ai lm2))), (m2, .inl (cs 0, 180, .inl (ai mn2))), (m3, .inl (cs 0, 180, .inl (ai sn2)))]) hF.1 (k := 0) rfl) rfl, B.pre _⟩ rfl rfl hl.1 rfl (lv_room (Nat.le_of_ble_eq_true rfl)) d_Mo_divide_61 ⟨by rw [hRc]; omega, by rw [hRs]; omega⟩) (fun g61 H locs hw B => ?_)
          obtain ⟨lm61, mn61, sn61, hRa, rfl⟩ := hw
          have B := B.of_eq (mw_put3 (X := [(y, .inr (7, [.int (iI th), .ref m1, .ref m2, .ref m3, .int (iI pn), .ref m5, .ref m6, .ref m7, .ref m8, .ref m9, .ref m10, .ref m11, .ref m12, .ref m13, .int (iI rw_), .ref m15, .long (lI fu), .long (lI fb)])), (m1, .inl (cs 0, 11520, .inl (ai lm2))), (m2, .inl (cs 0, 180, .inl (ai mn2))), (m3, .inl (cs 0, 180, .inl (ai sn2)))]) hF.1 (k1 := 1) (k2 := 2) (k3 := 3) rfl rfl rfl)
          have B : Wb D vwCl (TY cs) L (mw f [(y, .inr (7, [.int (iI th), .ref m1, .ref m2, .ref m3, .int (iI pn), .ref m5, .ref m6, .ref m7, .ref m8, .ref m9, .ref m10, .ref m11, .ref m12, .ref m13, .int (iI rw_), .ref m15, .long (lI fu), .long (lI fb)])), (m1, .inl (cs 0, 11520, .inl (ai lm61))), (m2, .inl (cs 0, 180, .inl (ai mn61))), (m3, .inl (cs 0, 180, .inl (ai sn61)))]) (AL L s.heap.size) s H _ := B
          refine lv_aload_n hx hb d_Mo_divide_64 rfl (lv_at hl 2 rfl) ?_
          refine x_get (C := RX7) (T := TX7) (N := 18) hx hb hts inX7 hown B hF 0 rfl rfl 3 (by decide) (hts _ w_680) (fun _ h9 => h9) rfl d_Mo_divide_65 ?_
          refine lv_iload hx hb d_Mo_divide_68 (lv_at hl 1 rfl) ?_
          refine x_iconst hx hb d_Mo_divide_70 ?_
          refine x_iast hx hb B hF 3 0 rfl rfl 176 (by omega) (by omega) (by decide) d_Mo_divide_71 (fun H locs B => ?_)
          have B : Wb D vwCl (TY cs) L (mw f [(y, .inr (7, [.int (iI th), .ref m1, .ref m2, .ref m3, .int (iI pn), .ref m5, .ref m6, .ref m7, .ref m8, .ref m9, .ref m10, .ref m11, .ref m12, .ref m13, .int (iI rw_), .ref m15, .long (lI fu), .long (lI fb)])), (m1, .inl (cs 0, 11520, .inl (ai lm61))), (m2, .inl (cs 0, 180, .inl (ai mn61))), (m3, .inl (cs 0, 180, .inl (ai (up sn61 176 1))))]) (AL L s.heap.size) s H _ := B
          have hRb : RS lm61 mn61 (up sn61 176 1) (up Z2 176 ((Z w).natAbs : Int)) := by
            have h8 := RS.set (z := ((Z w).natAbs : Int)) (hRa.off 176) ((Off.refl 176 lm61 mn61 sn61).sign 1) (by
              have h9 := (hRa 176 (by decide)).abs
              have h7 := (hRa 176 (by decide)).side
              rw [up_self, hZw] at h9 h7
              rw [if_neg (by omega)] at h9
              rw [up_self]
              exact h9)
            rw [up_up] at h8
            exact h8
          refine lv_aload_n hx hb d_Mo_divide_72 rfl (lv_at hl 2 rfl) ?_
          refine lv_iload hx hb d_Mo_divide_73 (lv_at hl 1 rfl) ?_
          refine lv_iload hx hb d_Mo_divide_75 (lv_at hl 0 rfl) ?_
          refine x_callv B hA (va_runV (As := [.int (iI 176), .int (iI ((kn : Int)))]) (rest := []) ⟨hx, hb, hml, hown, hts⟩ (c_Mo_shift l D cs _ _ _ y m1 m2 m3 m5 m6 m7 m8 m9 m10 m11 m12 m13 m15 th pn rw_ fu fb lm61 mn61 (up sn61 176 1) (up Z2 176 ((Z w).natAbs : Int)) 176 kn hF (mw_get (X := [(y, .inr (7, [.int (iI th), .ref m1, .ref m2, .ref m3, .int (iI pn), .ref m5, .ref m6, .ref m7, .ref m8, .ref m9, .ref m10, .ref m11, .ref m12, .ref m13, .int (iI rw_), .ref m15, .long (lI fu), .long (lI fb)])), (m1, .inl (cs 0, 11520, .inl (ai lm61))), (m2, .inl (cs 0, 180, .inl (ai mn61))), (m3, .inl (cs 0, 180, .inl (ai (up sn61 176 1))))]) hF.1 (k := 0) rfl) (mw_get (X := [(y, .inr (7, [.int (iI th), .ref m1, .ref m2, .ref m3, .int (iI pn), .ref m5, .ref m6, .ref m7, .ref m8, .ref m9, .ref m10, .ref m11, .ref m12, .ref m13, .int (iI rw_), .ref m15, .long (lI fu), .long (lI fb)])), (m1, .inl (cs 0, 11520, .inl (ai lm61))), (m2, .inl (cs 0, 180, .inl (ai mn61))), (m3, .inl (cs 0, 180, .inl (ai (up sn61 176 1))))]) hF.1 (k := 1) rfl) (mw_get (X := [(y, .inr (7, [.int (iI th), .ref m1, .ref m2, .ref m3, .int (iI pn), .ref m5, .ref m6, .ref m7, .ref m8, .ref m9, .ref m10, .ref m11, .ref m12, .ref m13, .int (iI rw_), .ref m15, .long (lI fu), .long (lI fb)])), (m1, .inl (cs 0, 11520, .inl (ai lm61))), (m2, .inl (cs 0, 180, .inl (ai mn61))), (m3, .inl (cs 0, 180, .inl (ai (up sn61 176 1))))]) hF.1 (k := 2) rfl) (mw_get (X := [(y, .inr (7, [.int (iI th), .ref m1, .ref m2, .ref m3, .int (iI pn), .ref m5, .ref m6, .ref m7, .ref m8, .ref m9, .ref m10, .ref m11, .ref m12, .ref m13, .int (iI rw_), .ref m15, .long (lI fu), .long (lI fb)])), (m1, .inl (cs 0, 11520, .inl (ai lm61))), (m2, .inl (cs 0, 180, .inl (ai mn61))), (m3, .inl (cs 0, 180, .inl (ai (up sn61 176 1))))]) hF.1 (k := 3) rfl) hRb (by decide) (by omega) (by rw [up_self, show (((((Z w).natAbs : Int)).natAbs : Nat) : Int) = ((Z w).natAbs : Int) by omega]; exact hroom.1)) (cwV 2 hts (gw_V w_848 w_850 s_48 w_8 w_851) rfl rfl rfl (by decide +kernel) ⟨by rw [hRf]; exact Nat.le_of_ble_eq_true rfl, by rw [hRl]; exact Nat.le_of_ble_eq_true rfl⟩) ⟨K0.blind, B.recv (hF.2 _ (mw_key (k := 0) (X := [(y, .inr (7, [.int (iI th), .ref m1, .ref m2, .ref m3, .int (iI pn), .ref m5, .ref m6, .ref m7, .ref m8, .ref m9, .ref m10, .ref m11, .ref m12, .ref m13, .int (iI rw_), .ref m15, .long (lI fu), .long (lI fb)])), (m1, .inl (cs 0, 11520, .inl (ai lm61))), (m2, .inl (cs 0, 180, .inl (ai mn61))), (m3, .inl (cs 0, 180, .inl (ai (up sn61 176 1))))]) rfl)) (mw_get (X := [(y, .inr (7, [.int (iI th), .ref m1, .ref m2, .ref m3, .int (iI pn), .ref m5, .ref m6, .ref m7, .ref m8, .ref m9, .ref m10, .ref m11, .ref m12, .ref m13, .int (iI rw_), .ref m15, .long (lI fu), .long (lI fb)])), (m1, .inl (cs 0, 11520, .inl (ai lm61))), (m2, .inl (cs 0, 180, .inl (ai mn61))), (m3, .inl (cs 0, 180, .inl (ai (up sn61 176 1))))]) hF.1 (k := 0) rfl) rfl, B.pre _⟩ rfl rfl hl.1 rfl (lv_room (Nat.le_of_ble_eq_true rfl)) d_Mo_divide_77 ⟨by rw [hRc]; omega, by rw [hRs]; omega⟩) (fun g77 H locs hw B => ?_)
          obtain ⟨lm77, mn77, sn77, hRk, rfl⟩ := hw
          have B := B.of_eq (mw_put3 (X := [(y, .inr (7, [.int (iI th), .ref m1, .ref m2, .ref m3, .int (iI pn), .ref m5, .ref m6, .ref m7, .ref m8, .ref m9, .ref m10, .ref m11, .ref m12, .ref m13, .int (iI rw_), .ref m15, .long (lI fu), .long (lI fb)])), (m1, .inl (cs 0, 11520, .inl (ai lm61))), (m2, .inl (cs 0, 180, .inl (ai mn61))), (m3, .inl (cs 0, 180, .inl (ai (up sn61 176 1))))]) hF.1 (k1 := 1) (k2 := 2) (k3 := 3) rfl rfl rfl)
          have B : Wb D vwCl (TY cs) L (mw f [(y, .inr (7, [.int (iI th), .ref m1, .ref m2, .ref m3, .int (iI pn), .ref m5, .ref m6, .ref m7, .ref m8, .ref m9, .ref m10, .ref m11, .ref m12, .ref m13, .int (iI rw_), .ref m15, .long (lI fu), .long (lI fb)])), (m1, .inl (cs 0, 11520, .inl (ai lm77))), (m2, .inl (cs 0, 180, .inl (ai mn77))), (m3, .inl (cs 0, 180, .inl (ai sn77)))]) (AL L s.heap.size) s H _ := B
          rw [up_self, up_up] at hRk
          refine lv_aload_n hx hb d_Mo_divide_80 rfl (lv_at hl 2 rfl) ?_
          refine lv_iload_n hx hb d_Mo_divide_81 rfl (lv_at hl 4 rfl) ?_
          refine lv_iload hx hb d_Mo_divide_82 (lv_at hl 1 rfl) ?_
          refine x_calli B hA (va_runV (As := [.int (iI ((x : Int))), .int (iI 176)]) (rest := []) ⟨hx, hb, hml, hown, hts⟩ (c_Mo_sizes l D cs _ _ _ y m1 m2 m3 m5 m6 m7 m8 m9 m10 m11 m12 m13 m15 th pn rw_ fu fb lm77 mn77 sn77 (up Z2 176 (((Z w).natAbs : Int) * 2 ^ kn)) x 176 hF (mw_get (X := [(y, .inr (7, [.int (iI th), .ref m1, .ref m2, .ref m3, .int (iI pn), .ref m5, .ref m6, .ref m7, .ref m8, .ref m9, .ref m10, .ref m11, .ref m12, .ref m13, .int (iI rw_), .ref m15, .long (lI fu), .long (lI fb)])), (m1, .inl (cs 0, 11520, .inl (ai lm77))), (m2, .inl (cs 0, 180, .inl (ai mn77))), (m3, .inl (cs 0, 180, .inl (ai sn77)))]) hF.1 (k := 0) rfl) (mw_get (X := [(y, .inr (7, [.int (iI th), .ref m1, .ref m2, .ref m3, .int (iI pn), .ref m5, .ref m6, .ref m7, .ref m8, .ref m9, .ref m10, .ref m11, .ref m12, .ref m13, .int (iI rw_), .ref m15, .long (lI fu), .long (lI fb)])), (m1, .inl (cs 0, 11520, .inl (ai lm77))), (m2, .inl (cs 0, 180, .inl (ai mn77))), (m3, .inl (cs 0, 180, .inl (ai sn77)))]) hF.1 (k := 1) rfl) (mw_get (X := [(y, .inr (7, [.int (iI th), .ref m1, .ref m2, .ref m3, .int (iI pn), .ref m5, .ref m6, .ref m7, .ref m8, .ref m9, .ref m10, .ref m11, .ref m12, .ref m13, .int (iI rw_), .ref m15, .long (lI fu), .long (lI fb)])), (m1, .inl (cs 0, 11520, .inl (ai lm77))), (m2, .inl (cs 0, 180, .inl (ai mn77))), (m3, .inl (cs 0, 180, .inl (ai sn77)))]) hF.1 (k := 2) rfl) (mw_get (X := [(y, .inr (7, [.int (iI th), .ref m1, .ref m2, .ref m3, .int (iI pn), .ref m5, .ref m6, .ref m7, .ref m8, .ref m9, .ref m10, .ref m11, .ref m12, .ref m13, .int (iI rw_), .ref m15, .long (lI fu), .long (lI fb)])), (m1, .inl (cs 0, 11520, .inl (ai lm77))), (m2, .inl (cs 0, 180, .inl (ai mn77))), (m3, .inl (cs 0, 180, .inl (ai sn77)))]) hF.1 (k := 3) rfl) hRk hx8 (by decide)) (cwV 2 hts (gw_V w_828 w_830 s_43 w_8 w_831) rfl rfl rfl (by decide +kernel) ⟨by rw [hRf]; exact Nat.le_of_ble_eq_true rfl, by rw [hRl]; exact Nat.le_of_ble_eq_true rfl⟩) ⟨K0.blind, B.recv (hF.2 _ (mw_key (k := 0) (X := [(y, .inr (7, [.int (iI th), .ref m1, .ref m2, .ref m3, .int (iI pn), .ref m5, .ref m6, .ref m7, .ref m8, .ref m9, .ref m10, .ref m11, .ref m12, .ref m13, .int (iI rw_), .ref m15, .long (lI fu), .long (lI fb)])), (m1, .inl (cs 0, 11520, .inl (ai lm77))), (m2, .inl (cs 0, 180, .inl (ai mn77))), (m3, .inl (cs 0, 180, .inl (ai sn77)))]) rfl)) (mw_get (X := [(y, .inr (7, [.int (iI th), .ref m1, .ref m2, .ref m3, .int (iI pn), .ref m5, .ref m6, .ref m7, .ref m8, .ref m9, .ref m10, .ref m11, .ref m12, .ref m13, .int (iI rw_), .ref m15, .long (lI fu), .long (lI fb)])), (m1, .inl (cs 0, 11520, .inl (ai lm77))), (m2, .inl (cs 0, 180, .inl (ai mn77))), (m3, .inl (cs 0, 180, .inl (ai sn77)))]) hF.1 (k := 0) rfl) rfl, B.pre _⟩ rfl rfl hl.1 rfl (lv_room (Nat.le_of_ble_eq_true rfl)) d_Mo_divide_84 ⟨by rw [hRc]; omega, by rw [hRs]; omega⟩) (fun r84 g84 H locs hw B => ?_)
          obtain ⟨rfl, rfl⟩ := hw
          have B : Wb D vwCl (TY cs) L (mw f [(y, .inr (7, [.int (iI th), .ref m1, .ref m2, .ref m3, .int (iI pn), .ref m5, .ref m6, .ref m7, .ref m8, .ref m9, .ref m10, .ref m11, .ref m12, .ref m13, .int (iI rw_), .ref m15, .long (lI fu), .long (lI fb)])), (m1, .inl (cs 0, 11520, .inl (ai lm77))), (m2, .inl (cs 0, 180, .inl (ai mn77))), (m3, .inl (cs 0, 180, .inl (ai sn77)))]) (AL L s.heap.size) s H _ := B
          rw [up_ne _ _ (show x ≠ 176 by omega), up_self, hZx, show ((xv.natAbs : Nat) : Int) = xv by omega, show ((((((Z w).natAbs : Int) * 2 ^ kn)).natAbs : Nat) : Int) = (((Z w).natAbs : Int) * 2 ^ kn) by omega]
          have hcr := cmq_range xv (((Z w).natAbs : Int) * 2 ^ kn)
          have hclt := cmq_lt (a := xv) (b := (((Z w).natAbs : Int) * 2 ^ kn))
          have hcge := cmq_ge (a := xv) (b := (((Z w).natAbs : Int) * 2 ^ kn))
          generalize cmq xv (((Z w).natAbs : Int) * 2 ^ kn) = cc9 at *
          refine x_if_lt (tgt := 126) hx hb d_Mo_divide_87 (by decide) (by omega) (fun h87 => ?_) (fun h87 => ?_)
          · refine x_iinc (lv' := [(7, .int (iI (((kn : Int)) + (-1)))), (6, .int (iI 176)), (0, .ref y), (1, .int (iI ((t : Int)))), (2, .int (iI ((x : Int)))), (3, .int (iI ((w : Int))))]) hx hb d_Mo_divide_126 hl (q := 0) rfl rfl (by decide) rfl (fun ls hl => ?_)
            refine lv_goto (tgt := 52) hx hb d_Mo_divide_129 (by decide) ?_
            exact ih_LP (((kn : Int)) + (-1)) q xv lm77 mn77 sn77 (up Z2 176 (((Z w).natAbs : Int) * 2 ^ kn)) (by omega) (by omega) (by omega) hRk (by rw [up_ne _ _ (show t ≠ 176 by omega)]; exact hZt) (by rw [up_ne _ _ (show x ≠ 176 by omega)]; exact hZx) (by rw [up_ne _ _ (show w ≠ 176 by omega)]; exact hZw) (fun v h1 h2 h3 h4 => by rw [up_ne _ _ h3]; exact hZo v h1 h2 h3 h4) hq0 hx0 heq (by rw [show ((kn : Int) + (-1) + 1).toNat = kn by omega]; exact hclt (by omega)) _ _ _ B (lv_sub hl [0, 1, 2, 3, 4, 5] rfl)
          · have hge := hcge (by omega)
            have htk := div_take heq hltk
            have hM63 : Mp 62 ≤ Mp 63 := Mp_le (by decide)
            refine lv_aload_n hx hb d_Mo_divide_90 rfl (lv_at hl 2 rfl) ?_
            refine lv_iload_n hx hb d_Mo_divide_91 rfl (lv_at hl 4 rfl) ?_
            refine lv_iload_n hx hb d_Mo_divide_92 rfl (lv_at hl 4 rfl) ?_
            refine lv_iload hx hb d_Mo_divide_93 (lv_at hl 1 rfl) ?_
            refine x_iconst hx hb d_Mo_divide_95 ?_
            refine x_callv B hA (va_runV (As := [.int (iI ((x : Int))), .int (iI ((x : Int))), .int (iI 176), .int (iI (-1))]) (rest := []) ⟨hx, hb, hml, hown, hts⟩ (c_Mo_add l D cs _ _ _ y m1 m2 m3 m5 m6 m7 m8 m9 m10 m11 m12 m13 m15 th pn rw_ fu fb lm77 mn77 sn77 (up Z2 176 (((Z w).natAbs : Int) * 2 ^ kn)) x x 176 (-1) hF (mw_get (X := [(y, .inr (7, [.int (iI th), .ref m1, .ref m2, .ref m3, .int (iI pn), .ref m5, .ref m6, .ref m7, .ref m8, .ref m9, .ref m10, .ref m11, .ref m12, .ref m13, .int (iI rw_), .ref m15, .long (lI fu), .long (lI fb)])), (m1, .inl (cs 0, 11520, .inl (ai lm77))), (m2, .inl (cs 0, 180, .inl (ai mn77))), (m3, .inl (cs 0, 180, .inl (ai sn77)))]) hF.1 (k := 0) rfl) (mw_get (X := [(y, .inr (7, [.int (iI th), .ref m1, .ref m2, .ref m3, .int (iI pn), .ref m5, .ref m6, .ref m7, .ref m8, .ref m9, .ref m10, .ref m11, .ref m12, .ref m13, .int (iI rw_), .ref m15, .long (lI fu), .long (lI fb)])), (m1, .inl (cs 0, 11520, .inl (ai lm77))), (m2, .inl (cs 0, 180, .inl (ai mn77))), (m3, .inl (cs 0, 180, .inl (ai sn77)))]) hF.1 (k := 1) rfl) (mw_get (X := [(y, .inr (7, [.int (iI th), .ref m1, .ref m2, .ref m3, .int (iI pn), .ref m5, .ref m6, .ref m7, .ref m8, .ref m9, .ref m10, .ref m11, .ref m12, .ref m13, .int (iI rw_), .ref m15, .long (lI fu), .long (lI fb)])), (m1, .inl (cs 0, 11520, .inl (ai lm77))), (m2, .inl (cs 0, 180, .inl (ai mn77))), (m3, .inl (cs 0, 180, .inl (ai sn77)))]) hF.1 (k := 2) rfl) (mw_get (X := [(y, .inr (7, [.int (iI th), .ref m1, .ref m2, .ref m3, .int (iI pn), .ref m5, .ref m6, .ref m7, .ref m8, .ref m9, .ref m10, .ref m11, .ref m12, .ref m13, .int (iI rw_), .ref m15, .long (lI fu), .long (lI fb)])), (m1, .inl (cs 0, 11520, .inl (ai lm77))), (m2, .inl (cs 0, 180, .inl (ai mn77))), (m3, .inl (cs 0, 180, .inl (ai sn77)))]) hF.1 (k := 3) rfl) hRk hx8 hx8 (by decide) (Or.inr rfl) (by rw [up_ne _ _ (show x ≠ 176 by omega), hZx]; omega) (by rw [up_self, show ((((((Z w).natAbs : Int) * 2 ^ kn)).natAbs : Nat) : Int) = (((Z w).natAbs : Int) * 2 ^ kn) by omega]; exact hroom.1)) (cwV 4 hts (gw_V w_820 w_822 s_41 w_8 w_823) rfl rfl rfl (by decide +kernel) ⟨by rw [hRf]; exact Nat.le_of_ble_eq_true rfl, by rw [hRl]; exact Nat.le_of_ble_eq_true rfl⟩) ⟨K0.blind, B.recv (hF.2 _ (mw_key (k := 0) (X := [(y, .inr (7, [.int (iI th), .ref m1, .ref m2, .ref m3, .int (iI pn), .ref m5, .ref m6, .ref m7, .ref m8, .ref m9, .ref m10, .ref m11, .ref m12, .ref m13, .int (iI rw_), .ref m15, .long (lI fu), .long (lI fb)])), (m1, .inl (cs 0, 11520, .inl (ai lm77))), (m2, .inl (cs 0, 180, .inl (ai mn77))), (m3, .inl (cs 0, 180, .inl (ai sn77)))]) rfl)) (mw_get (X := [(y, .inr (7, [.int (iI th), .ref m1, .ref m2, .ref m3, .int (iI pn), .ref m5, .ref m6, .ref m7, .ref m8, .ref m9, .ref m10, .ref m11, .ref m12, .ref m13, .int (iI rw_), .ref m15, .long (lI fu), .long (lI fb)])), (m1, .inl (cs 0, 11520, .inl (ai lm77))), (m2, .inl (cs 0, 180, .inl (ai mn77))), (m3, .inl (cs 0, 180, .inl (ai sn77)))]) hF.1 (k := 0) rfl) rfl, B.pre _⟩ rfl rfl hl.1 rfl (lv_room (Nat.le_of_ble_eq_true rfl)) d_Mo_divide_96 ⟨by rw [hRc]; omega, by rw [hRs]; omega⟩) (fun g96 H locs hw B => ?_)
            obtain ⟨lm96, mn96, sn96, hRd, rfl⟩ := hw
            have B := B.of_eq (mw_put3 (X := [(y, .inr (7, [.int (iI th), .ref m1, .ref m2, .ref m3, .int (iI pn), .ref m5, .ref m6, .ref m7, .ref m8, .ref m9, .ref m10, .ref m11, .ref m12, .ref m13, .int (iI rw_), .ref m15, .long (lI fu), .long (lI fb)])), (m1, .inl (cs 0, 11520, .inl (ai lm77))), (m2, .inl (cs 0, 180, .inl (ai mn77))), (m3, .inl (cs 0, 180, .inl (ai sn77)))]) hF.1 (k1 := 1) (k2 := 2) (k3 := 3) rfl rfl rfl)
            have B : Wb D vwCl (TY cs) L (mw f [(y, .inr (7, [.int (iI th), .ref m1, .ref m2, .ref m3, .int (iI pn), .ref m5, .ref m6, .ref m7, .ref m8, .ref m9, .ref m10, .ref m11, .ref m12, .ref m13, .int (iI rw_), .ref m15, .long (lI fu), .long (lI fb)])), (m1, .inl (cs 0, 11520, .inl (ai lm96))), (m2, .inl (cs 0, 180, .inl (ai mn96))), (m3, .inl (cs 0, 180, .inl (ai sn96)))]) (AL L s.heap.size) s H _ := B
            rw [up_ne Z2 _ (show x ≠ 176 by omega), up_self, hZx] at hRd
            refine lv_aload_n hx hb d_Mo_divide_99 rfl (lv_at hl 2 rfl) ?_
            refine x_sipush hx hb d_Mo_divide_100 (by decide) ?_
            refine x_lconst (z := 1) hx hb d_Mo_divide_103 (by decide) ?_
            refine x_callv B hA (va_runV (As := [.int (iI 177), .long (lI 1)]) (rest := []) ⟨hx, hb, hml, hown, hts⟩ (c_Mo_lay0 l D cs _ _ _ y m1 m2 m3 m5 m6 m7 m8 m9 m10 m11 m12 m13 m15 th pn rw_ fu fb lm96 mn96 sn96 (up (up Z2 176 (((Z w).natAbs : Int) * 2 ^ kn)) x (xv + -1 * (((Z w).natAbs : Int) * 2 ^ kn))) 177 1 hF (mw_get (X := [(y, .inr (7, [.int (iI th), .ref m1, .ref m2, .ref m3, .int (iI pn), .ref m5, .ref m6, .ref m7, .ref m8, .ref m9, .ref m10, .ref m11, .ref m12, .ref m13, .int (iI rw_), .ref m15, .long (lI fu), .long (lI fb)])), (m1, .inl (cs 0, 11520, .inl (ai lm96))), (m2, .inl (cs 0, 180, .inl (ai mn96))), (m3, .inl (cs 0, 180, .inl (ai sn96)))]) hF.1 (k := 0) rfl) (mw_get (X := [(y, .inr (7, [.int (iI th), .ref m1, .ref m2, .ref m3, .int (iI pn), .ref m5, .ref m6, .ref m7, .ref m8, .ref m9, .ref m10, .ref m11, .ref m12, .ref m13, .int (iI rw_), .ref m15, .long (lI fu), .long (lI fb)])), (m1, .inl (cs 0, 11520, .inl (ai lm96))), (m2, .inl (cs 0, 180, .inl (ai mn96))), (m3, .inl (cs 0, 180, .inl (ai sn96)))]) hF.1 (k := 1) rfl) (mw_get (X := [(y, .inr (7, [.int (iI th), .ref m1, .ref m2, .ref m3, .int (iI pn), .ref m5, .ref m6, .ref m7, .ref m8, .ref m9, .ref m10, .ref m11, .ref m12, .ref m13, .int (iI rw_), .ref m15, .long (lI fu), .long (lI fb)])), (m1, .inl (cs 0, 11520, .inl (ai lm96))), (m2, .inl (cs 0, 180, .inl (ai mn96))), (m3, .inl (cs 0, 180, .inl (ai sn96)))]) hF.1 (k := 2) rfl) (mw_get (X := [(y, .inr (7, [.int (iI th), .ref m1, .ref m2, .ref m3, .int (iI pn), .ref m5, .ref m6, .ref m7, .ref m8, .ref m9, .ref m10, .ref m11, .ref m12, .ref m13, .int (iI rw_), .ref m15, .long (lI fu), .long (lI fb)])), (m1, .inl (cs 0, 11520, .inl (ai lm96))), (m2, .inl (cs 0, 180, .inl (ai mn96))), (m3, .inl (cs 0, 180, .inl (ai sn96)))]) hF.1 (k := 3) rfl) hRd (by decide) (by omega)) (cwV 2 hts (gw_V w_792 w_794 s_35 w_8 w_795) rfl rfl rfl (by decide +kernel) ⟨by rw [hRf]; exact Nat.le_of_ble_eq_true rfl, by rw [hRl]; exact Nat.le_of_ble_eq_true rfl⟩) ⟨K0.blind, B.recv (hF.2 _ (mw_key (k := 0) (X := [(y, .inr (7, [.int (iI th), .ref m1, .ref m2, .ref m3, .int (iI pn), .ref m5, .ref m6, .ref m7, .ref m8, .ref m9, .ref m10, .ref m11, .ref m12, .ref m13, .int (iI rw_), .ref m15, .long (lI fu), .long (lI fb)])), (m1, .inl (cs 0, 11520, .inl (ai lm96))), (m2, .inl (cs 0, 180, .inl (ai mn96))), (m3, .inl (cs 0, 180, .inl (ai sn96)))]) rfl)) (mw_get (X := [(y, .inr (7, [.int (iI th), .ref m1, .ref m2, .ref m3, .int (iI pn), .ref m5, .ref m6, .ref m7, .ref m8, .ref m9, .ref m10, .ref m11, .ref m12, .ref m13, .int (iI rw_), .ref m15, .long (lI fu), .long (lI fb)])), (m1, .inl (cs 0, 11520, .inl (ai lm96))), (m2, .inl (cs 0, 180, .inl (ai mn96))), (m3, .inl (cs 0, 180, .inl (ai sn96)))]) hF.1 (k := 0) rfl) rfl, B.pre _⟩ rfl rfl hl.1 rfl (lv_room (Nat.le_of_ble_eq_true rfl)) d_Mo_divide_104 ⟨by rw [hRc]; omega, by rw [hRs]; omega⟩) (fun g104 H locs hw B => ?_)
            obtain ⟨lm104, mn104, sn104, hRe, rfl⟩ := hw
            have B := B.of_eq (mw_put3 (X := [(y, .inr (7, [.int (iI th), .ref m1, .ref m2, .ref m3, .int (iI pn), .ref m5, .ref m6, .ref m7, .ref m8, .ref m9, .ref m10, .ref m11, .ref m12, .ref m13, .int (iI rw_), .ref m15, .long (lI fu), .long (lI fb)])), (m1, .inl (cs 0, 11520, .inl (ai lm96))), (m2, .inl (cs 0, 180, .inl (ai mn96))), (m3, .inl (cs 0, 180, .inl (ai sn96)))]) hF.1 (k1 := 1) (k2 := 2) (k3 := 3) rfl rfl rfl)
            have B : Wb D vwCl (TY cs) L (mw f [(y, .inr (7, [.int (iI th), .ref m1, .ref m2, .ref m3, .int (iI pn), .ref m5, .ref m6, .ref m7, .ref m8, .ref m9, .ref m10, .ref m11, .ref m12, .ref m13, .int (iI rw_), .ref m15, .long (lI fu), .long (lI fb)])), (m1, .inl (cs 0, 11520, .inl (ai lm104))), (m2, .inl (cs 0, 180, .inl (ai mn104))), (m3, .inl (cs 0, 180, .inl (ai sn104)))]) (AL L s.heap.size) s H _ := B
            refine lv_aload_n hx hb d_Mo_divide_107 rfl (lv_at hl 2 rfl) ?_
            refine x_sipush hx hb d_Mo_divide_108 (by decide) ?_
            refine lv_iload hx hb d_Mo_divide_111 (lv_at hl 0 rfl) ?_
            refine x_callv B hA (va_runV (As := [.int (iI 177), .int (iI ((kn : Int)))]) (rest := []) ⟨hx, hb, hml, hown, hts⟩ (c_Mo_shift l D cs _ _ _ y m1 m2 m3 m5 m6 m7 m8 m9 m10 m11 m12 m13 m15 th pn rw_ fu fb lm104 mn104 sn104 (up (up (up Z2 176 (((Z w).natAbs : Int) * 2 ^ kn)) x (xv + -1 * (((Z w).natAbs : Int) * 2 ^ kn))) 177 1) 177 kn hF (mw_get (X := [(y, .inr (7, [.int (iI th), .ref m1, .ref m2, .ref m3, .int (iI pn), .ref m5, .ref m6, .ref m7, .ref m8, .ref m9, .ref m10, .ref m11, .ref m12, .ref m13, .int (iI rw_), .ref m15, .long (lI fu), .long (lI fb)])), (m1, .inl (cs 0, 11520, .inl (ai lm104))), (m2, .inl (cs 0, 180, .inl (ai mn104))), (m3, .inl (cs 0, 180, .inl (ai sn104)))]) hF.1 (k := 0) rfl) (mw_get (X := [(y, .inr (7, [.int (iI th), .ref m1, .ref m2, .ref m3, .int (iI pn), .ref m5, .ref m6, .ref m7, .ref m8, .ref m9, .ref m10, .ref m11, .ref m12, .ref m13, .int (iI rw_), .ref m15, .long (lI fu), .long (lI fb)])), (m1, .inl (cs 0, 11520, .inl (ai lm104))), (m2, .inl (cs 0, 180, .inl (ai mn104))), (m3, .inl (cs 0, 180, .inl (ai sn104)))]) hF.1 (k := 1) rfl) (mw_get (X := [(y, .inr (7, [.int (iI th), .ref m1, .ref m2, .ref m3, .int (iI pn), .ref m5, .ref m6, .ref m7, .ref m8, .ref m9, .ref m10, .ref m11, .ref m12, .ref m13, .int (iI rw_), .ref m15, .long (lI fu), .long (lI fb)])), (m1, .inl (cs 0, 11520, .inl (ai lm104))), (m2, .inl (cs 0, 180, .inl (ai mn104))), (m3, .inl (cs 0, 180, .inl (ai sn104)))]) hF.1 (k := 2) rfl) (mw_get (X := [(y, .inr (7, [.int (iI th), .ref m1, .ref m2, .ref m3, .int (iI pn), .ref m5, .ref m6, .ref m7, .ref m8, .ref m9, .ref m10, .ref m11, .ref m12, .ref m13, .int (iI rw_), .ref m15, .long (lI fu), .long (lI fb)])), (m1, .inl (cs 0, 11520, .inl (ai lm104))), (m2, .inl (cs 0, 180, .inl (ai mn104))), (m3, .inl (cs 0, 180, .inl (ai sn104)))]) hF.1 (k := 3) rfl) hRe (by decide) (by omega) (by rw [up_self]; exact hroom.2)) (cwV 2 hts (gw_V w_848 w_850 s_48 w_8 w_851) rfl rfl rfl (by decide +kernel) ⟨by rw [hRf]; exact Nat.le_of_ble_eq_true rfl, by rw [hRl]; exact Nat.le_of_ble_eq_true rfl⟩) ⟨K0.blind, B.recv (hF.2 _ (mw_key (k := 0) (X := [(y, .inr (7, [.int (iI th), .ref m1, .ref m2, .ref m3, .int (iI pn), .ref m5, .ref m6, .ref m7, .ref m8, .ref m9, .ref m10, .ref m11, .ref m12, .ref m13, .int (iI rw_), .ref m15, .long (lI fu), .long (lI fb)])), (m1, .inl (cs 0, 11520, .inl (ai lm104))), (m2, .inl (cs 0, 180, .inl (ai mn104))), (m3, .inl (cs 0, 180, .inl (ai sn104)))]) rfl)) (mw_get (X := [(y, .inr (7, [.int (iI th), .ref m1, .ref m2, .ref m3, .int (iI pn), .ref m5, .ref m6, .ref m7, .ref m8, .ref m9, .ref m10, .ref m11, .ref m12, .ref m13, .int (iI rw_), .ref m15, .long (lI fu), .long (lI fb)])), (m1, .inl (cs 0, 11520, .inl (ai lm104))), (m2, .inl (cs 0, 180, .inl (ai mn104))), (m3, .inl (cs 0, 180, .inl (ai sn104)))]) hF.1 (k := 0) rfl) rfl, B.pre _⟩ rfl rfl hl.1 rfl (lv_room (Nat.le_of_ble_eq_true rfl)) d_Mo_divide_113 ⟨by rw [hRc]; omega, by rw [hRs]; omega⟩) (fun g113 H locs hw B => ?_)
            obtain ⟨lm113, mn113, sn113, hRg, rfl⟩ := hw
            have B := B.of_eq (mw_put3 (X := [(y, .inr (7, [.int (iI th), .ref m1, .ref m2, .ref m3, .int (iI pn), .ref m5, .ref m6, .ref m7, .ref m8, .ref m9, .ref m10, .ref m11, .ref m12, .ref m13, .int (iI rw_), .ref m15, .long (lI fu), .long (lI fb)])), (m1, .inl (cs 0, 11520, .inl (ai lm104))), (m2, .inl (cs 0, 180, .inl (ai mn104))), (m3, .inl (cs 0, 180, .inl (ai sn104)))]) hF.1 (k1 := 1) (k2 := 2) (k3 := 3) rfl rfl rfl)
            have B : Wb D vwCl (TY cs) L (mw f [(y, .inr (7, [.int (iI th), .ref m1, .ref m2, .ref m3, .int (iI pn), .ref m5, .ref m6, .ref m7, .ref m8, .ref m9, .ref m10, .ref m11, .ref m12, .ref m13, .int (iI rw_), .ref m15, .long (lI fu), .long (lI fb)])), (m1, .inl (cs 0, 11520, .inl (ai lm113))), (m2, .inl (cs 0, 180, .inl (ai mn113))), (m3, .inl (cs 0, 180, .inl (ai sn113)))]) (AL L s.heap.size) s H _ := B
            rw [up_self, up_up] at hRg
            refine lv_aload_n hx hb d_Mo_divide_116 rfl (lv_at hl 2 rfl) ?_
            refine lv_iload_n hx hb d_Mo_divide_117 rfl (lv_at hl 3 rfl) ?_
            refine lv_iload_n hx hb d_Mo_divide_118 rfl (lv_at hl 3 rfl) ?_
            refine x_sipush hx hb d_Mo_divide_119 (by decide) ?_
            refine x_iconst hx hb d_Mo_divide_122 ?_
            refine x_callv B hA (va_runV (As := [.int (iI ((t : Int))), .int (iI ((t : Int))), .int (iI 177), .int (iI 1)]) (rest := []) ⟨hx, hb, hml, hown, hts⟩ (c_Mo_add l D cs _ _ _ y m1 m2 m3 m5 m6 m7 m8 m9 m10 m11 m12 m13 m15 th pn rw_ fu fb lm113 mn113 sn113 (up (up (up Z2 176 (((Z w).natAbs : Int) * 2 ^ kn)) x (xv + -1 * (((Z w).natAbs : Int) * 2 ^ kn))) 177 (1 * 2 ^ kn)) t t 177 1 hF (mw_get (X := [(y, .inr (7, [.int (iI th), .ref m1, .ref m2, .ref m3, .int (iI pn), .ref m5, .ref m6, .ref m7, .ref m8, .ref m9, .ref m10, .ref m11, .ref m12, .ref m13, .int (iI rw_), .ref m15, .long (lI fu), .long (lI fb)])), (m1, .inl (cs 0, 11520, .inl (ai lm113))), (m2, .inl (cs 0, 180, .inl (ai mn113))), (m3, .inl (cs 0, 180, .inl (ai sn113)))]) hF.1 (k := 0) rfl) (mw_get (X := [(y, .inr (7, [.int (iI th), .ref m1, .ref m2, .ref m3, .int (iI pn), .ref m5, .ref m6, .ref m7, .ref m8, .ref m9, .ref m10, .ref m11, .ref m12, .ref m13, .int (iI rw_), .ref m15, .long (lI fu), .long (lI fb)])), (m1, .inl (cs 0, 11520, .inl (ai lm113))), (m2, .inl (cs 0, 180, .inl (ai mn113))), (m3, .inl (cs 0, 180, .inl (ai sn113)))]) hF.1 (k := 1) rfl) (mw_get (X := [(y, .inr (7, [.int (iI th), .ref m1, .ref m2, .ref m3, .int (iI pn), .ref m5, .ref m6, .ref m7, .ref m8, .ref m9, .ref m10, .ref m11, .ref m12, .ref m13, .int (iI rw_), .ref m15, .long (lI fu), .long (lI fb)])), (m1, .inl (cs 0, 11520, .inl (ai lm113))), (m2, .inl (cs 0, 180, .inl (ai mn113))), (m3, .inl (cs 0, 180, .inl (ai sn113)))]) hF.1 (k := 2) rfl) (mw_get (X := [(y, .inr (7, [.int (iI th), .ref m1, .ref m2, .ref m3, .int (iI pn), .ref m5, .ref m6, .ref m7, .ref m8, .ref m9, .ref m10, .ref m11, .ref m12, .ref m13, .int (iI rw_), .ref m15, .long (lI fu), .long (lI fb)])), (m1, .inl (cs 0, 11520, .inl (ai lm113))), (m2, .inl (cs 0, 180, .inl (ai mn113))), (m3, .inl (cs 0, 180, .inl (ai sn113)))]) hF.1 (k := 3) rfl) hRg ht8 ht8 (by decide) (Or.inl rfl) (by rw [up_ne _ _ (show t ≠ 177 by omega), up_ne _ _ (show t ≠ x by omega), up_ne _ _ (show t ≠ 176 by omega), hZt]; omega) (by rw [up_self]; have := pw2 kn; have := hroom.2; omega)) (cwV 4 hts (gw_V w_820 w_822 s_41 w_8 w_823) rfl rfl rfl (by decide +kernel) ⟨by rw [hRf]; exact Nat.le_of_ble_eq_true rfl, by rw [hRl]; exact Nat.le_of_ble_eq_true rfl⟩) ⟨K0.blind, B.recv (hF.2 _ (mw_key (k := 0) (X := [(y, .inr (7, [.int (iI th), .ref m1, .ref m2, .ref m3, .int (iI pn), .ref m5, .ref m6, .ref m7, .ref m8, .ref m9, .ref m10, .ref m11, .ref m12, .ref m13, .int (iI rw_), .ref m15, .long (lI fu), .long (lI fb)])), (m1, .inl (cs 0, 11520, .inl (ai lm113))), (m2, .inl (cs 0, 180, .inl (ai mn113))), (m3, .inl (cs 0, 180, .inl (ai sn113)))]) rfl)) (mw_get (X := [(y, .inr (7, [.int (iI th), .ref m1, .ref m2, .ref m3, .int (iI pn), .ref m5, .ref m6, .ref m7, .ref m8, .ref m9, .ref m10, .ref m11, .ref m12, .ref m13, .int (iI rw_), .ref m15, .long (lI fu), .long (lI fb)])), (m1, .inl (cs 0, 11520, .inl (ai lm113))), (m2, .inl (cs 0, 180, .inl (ai mn113))), (m3, .inl (cs 0, 180, .inl (ai sn113)))]) hF.1 (k := 0) rfl) rfl, B.pre _⟩ rfl rfl hl.1 rfl (lv_room (Nat.le_of_ble_eq_true rfl)) d_Mo_divide_123 ⟨by rw [hRc]; omega, by rw [hRs]; omega⟩) (fun g123 H locs hw B => ?_)
            obtain ⟨lm123, mn123, sn123, hRh, rfl⟩ := hw
            have B := B.of_eq (mw_put3 (X := [(y, .inr (7, [.int (iI th), .ref m1, .ref m2, .ref m3, .int (iI pn), .ref m5, .ref m6, .ref m7, .ref m8, .ref m9, .ref m10, .ref m11, .ref m12, .ref m13, .int (iI rw_), .ref m15, .long (lI fu), .long (lI fb)])), (m1, .inl (cs 0, 11520, .inl (ai lm113))), (m2, .inl (cs 0, 180, .inl (ai mn113))), (m3, .inl (cs 0, 180, .inl (ai sn113)))]) hF.1 (k1 := 1) (k2 := 2) (k3 := 3) rfl rfl rfl)
            have B : Wb D vwCl (TY cs) L (mw f [(y, .inr (7, [.int (iI th), .ref m1, .ref m2, .ref m3, .int (iI pn), .ref m5, .ref m6, .ref m7, .ref m8, .ref m9, .ref m10, .ref m11, .ref m12, .ref m13, .int (iI rw_), .ref m15, .long (lI fu), .long (lI fb)])), (m1, .inl (cs 0, 11520, .inl (ai lm123))), (m2, .inl (cs 0, 180, .inl (ai mn123))), (m3, .inl (cs 0, 180, .inl (ai sn123)))]) (AL L s.heap.size) s H _ := B
            have hRh9 := hRh
            rw [show (up (up (up Z2 176 (((Z w).natAbs : Int) * 2 ^ kn)) x (xv + -1 * (((Z w).natAbs : Int) * 2 ^ kn))) 177 (1 * 2 ^ kn)) t = q by rw [up_ne _ _ (show t ≠ 177 by omega), up_ne _ _ (show t ≠ x by omega), up_ne _ _ (show t ≠ 176 by omega), hZt], show (up (up (up Z2 176 (((Z w).natAbs : Int) * 2 ^ kn)) x (xv + -1 * (((Z w).natAbs : Int) * 2 ^ kn))) 177 (1 * 2 ^ kn)) 177 = 1 * 2 ^ kn by rw [up_self]] at hRh
            refine x_iinc (lv' := [(7, .int (iI (((kn : Int)) + (-1)))), (6, .int (iI 176)), (0, .ref y), (1, .int (iI ((t : Int)))), (2, .int (iI ((x : Int)))), (3, .int (iI ((w : Int))))]) hx hb d_Mo_divide_126 hl (q := 0) rfl rfl (by decide) rfl (fun ls hl => ?_)
            refine lv_goto (tgt := 52) hx hb d_Mo_divide_129 (by decide) ?_
            exact ih_LP (((kn : Int)) + (-1)) (q + 1 * (1 * 2 ^ kn)) (xv + -1 * (((Z w).natAbs : Int) * 2 ^ kn)) lm123 mn123 sn123 (up (up (up (up Z2 176 (((Z w).natAbs : Int) * 2 ^ kn)) x (xv + -1 * (((Z w).natAbs : Int) * 2 ^ kn))) 177 (1 * 2 ^ kn)) t (q + 1 * (1 * 2 ^ kn))) (by omega) (by omega) (by omega) hRh (by rw [up_self]) (by rw [up_ne _ _ (show x ≠ t by omega), up_ne _ _ (show x ≠ 177 by omega), up_self]) (by rw [up_ne _ _ (show w ≠ t by omega), up_ne _ _ (show w ≠ 177 by omega), up_ne _ _ (show w ≠ x by omega), up_ne _ _ (show w ≠ 176 by omega)]; exact hZw) (fun v h1 h2 h3 h4 => by rw [up_ne _ _ h1, up_ne _ _ h4, up_ne _ _ h2, up_ne _ _ h3]; exact hZo v h1 h2 h3 h4) (by have := pw2 kn; omega) (by omega) (by rw [Int.one_mul, Int.one_mul, show xv + -1 * (((Z w).natAbs : Int) * 2 ^ kn) = xv - (((Z w).natAbs : Int) * 2 ^ kn) by omega]; exact htk.1) (by rw [show ((kn : Int) + (-1) + 1).toNat = kn by omega, show xv + -1 * (((Z w).natAbs : Int) * 2 ^ kn) = xv - (((Z w).natAbs : Int) * 2 ^ kn) by omega]; exact htk.2) _ _ _ B (lv_sub hl [0, 1, 2, 3, 4, 5] rfl)
    exact LP _ ((nbx : Int) - (nbw : Int)) 0 (((Z x).natAbs : Int)) lm11 mn11 (up sn11 x v1) (up (up Z t 0) x ((Z x).natAbs : Int)) (Nat.lt_succ_self _) (by omega) (Int.le_refl _) hR2 (by rw [up_ne _ _ (show t ≠ x by omega), up_self]) (by rw [up_self]) (by rw [up_ne _ _ (show w ≠ x by omega), up_ne _ _ (show w ≠ t by omega)]) (fun v h1 h2 _ _ => by rw [up_ne _ _ h2, up_ne _ _ h1]) (by omega) (by omega) (by omega) (div_first hnbx2 (hnbw3.resolve_left hnbw0) (by omega)) _ _ _ B (lv_sub hl [0, 1, 4, 5, 6, 7] rfl)
  refine lv_aload_n hx hb d_Mo_divide_27 rfl (lv_at hl 2 rfl) ?_
  refine x_get (C := RX7) (T := TX7) (N := 18) hx hb hts inX7 hown B hF 0 rfl rfl 3 (by decide) (hts _ w_680) (fun _ h9 => h9) rfl d_Mo_divide_28 ?_
  refine lv_iload_n hx hb d_Mo_divide_31 rfl (lv_at hl 4 rfl) ?_
  refine lv_iload hx hb d_Mo_divide_32 (lv_at hl 1 rfl) ?_
  refine x_if_ne (tgt := 41) hx hb d_Mo_divide_34 (by decide) (by omega) (fun h34 => ?_) (fun h34 => ?_)
  · refine x_iconst hx hb d_Mo_divide_41 ?_
    exact J42 1 (by rw [if_neg (by rw [hs11]; exact h34)]) _ _ _ B (lv_sub hl [0, 1, 2, 3, 4, 5] rfl)
  · refine x_iconst hx hb d_Mo_divide_37 ?_
    refine lv_goto (tgt := 42) hx hb d_Mo_divide_38 (by decide) ?_
    exact J42 0 (by rw [if_pos (by rw [hs11]; exact h34)]) _ _ _ B (lv_sub hl [0, 1, 2, 3, 4, 5] rfl)
