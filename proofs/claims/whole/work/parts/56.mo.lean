/-! the value of a polynomial at u / v, times v to the degree -/
def hsum (c : Nat → Int) (n : Nat) (u v : Int) : Nat → Int
  | 0 => c n
  | i + 1 => hsum c n u v i * u + c (n - 1 - i) * v ^ (i + 1)
theorem vpow_bd {v : Int} {b : Nat} (hv : (v.natAbs : Int) < 2 ^ b) (i : Nat) : ((v ^ i).natAbs : Int) ≤ 2 ^ (i * b) := by
  induction i with
  | zero => simp
  | succ i ih =>
    rw [Int.pow_succ, Int.natAbs_mul, Int.natCast_mul, Nat.add_mul, Nat.one_mul, Int.pow_add]
    exact Int.mul_le_mul ih (by omega) (by omega) (Int.le_of_lt (Int.pow_pos (by decide)))
theorem hs_bd {c : Nat → Int} {n : Nat} {u v : Int} {a b : Nat} (hc : ∀ j, j < 6 → ((c j).natAbs : Int) < 2 ^ a) (hu : (u.natAbs : Int) < 2 ^ b) (hv : (v.natAbs : Int) < 2 ^ b) (hn : n < 6) (i : Nat) : ((hsum c n u v i).natAbs : Int) < 2 ^ (a + i * (b + 1)) := by
  induction i with
  | zero => simpa [hsum] using hc n hn
  | succ i ih =>
    have p1 : (0 : Int) < 2 ^ (a + i * (b + 1)) := Int.pow_pos (by decide)
    have p2 : (0 : Int) < 2 ^ b := Int.pow_pos (by decide)
    have p3 : (0 : Int) < 2 ^ a := Int.pow_pos (by decide)
    have h1 := vpow_bd hv (i + 1)
    have h2 := hc (n - 1 - i) (by omega)
    have m1 := Int.mul_le_mul (show ((hsum c n u v i).natAbs : Int) ≤ 2 ^ (a + i * (b + 1)) - 1 by omega) (show (u.natAbs : Int) ≤ 2 ^ b by omega) (by omega) (by omega)
    have m2 := Int.mul_le_mul (show ((c (n - 1 - i)).natAbs : Int) ≤ 2 ^ a by omega) h1 (by omega) (by omega)
    rw [← Int.pow_add] at m2
    have e0 : a + (i + 1) * b ≤ a + i * (b + 1) + b := by rw [Nat.add_mul, Nat.mul_add]; omega
    have e1 : (2 : Int) ^ (a + (i + 1) * b) ≤ 2 ^ (a + i * (b + 1) + b) := by
      have : (2 : Nat) ^ (a + (i + 1) * b) ≤ 2 ^ (a + i * (b + 1) + b) := Nat.pow_le_pow_right (by decide) e0
      exact_mod_cast this
    have e2 : (2 : Int) ^ (a + (i + 1) * (b + 1)) = 2 * 2 ^ (a + i * (b + 1) + b) := by
      rw [show a + (i + 1) * (b + 1) = (a + i * (b + 1) + b) + 1 by rw [Nat.add_mul]; omega, Int.pow_succ]; omega
    rw [Int.sub_mul, ← Int.pow_add] at m1
    rw [hsum, e2]
    rw [← Int.natCast_mul, ← Int.natAbs_mul] at m1 m2
    generalize hsum c n u v i * u = A at *
    generalize c (n - 1 - i) * v ^ (i + 1) = C at *
    omega
theorem sg_room1 {h u : Int} {a b i : Nat} (hh : (h.natAbs : Int) < 2 ^ (a + i * (b + 1))) (hu : (u.natAbs : Int) < 2 ^ b) (hE : a + (i + 1) * (b + 1) ≤ 1900) : ((h * u).natAbs : Int) < Mp 63 := by
  have p1 : (0 : Int) < 2 ^ (a + i * (b + 1)) := pw2 _
  have m1 := Int.mul_le_mul (show (h.natAbs : Int) ≤ 2 ^ (a + i * (b + 1)) - 1 by omega) (show (u.natAbs : Int) ≤ 2 ^ b by omega) (by omega) (by omega)
  rw [Int.sub_mul, ← Int.pow_add, ← Int.natCast_mul, ← Int.natAbs_mul] at m1
  have p2 := pw2 b
  have h3 : a + i * (b + 1) + b ≤ 1984 := by rw [Nat.add_mul] at hE; omega
  have := pow_Mp3 h3
  omega
theorem sg_room2 {z : Int} {a b i : Nat} (hz : (z.natAbs : Int) ≤ 2 ^ ((i + 1) * b)) (hE : a + (i + 1) * (b + 1) ≤ 1900) : (z.natAbs : Int) < Mp 63 := by
  have h3 : (i + 1) * b ≤ 1984 := by rw [Nat.mul_add] at hE; omega
  have h4 := pow_Mp h3
  have h5 : Mp 63 = 4294967296 * Mp 62 := Mp_succ 62
  have := Mp_pos 62
  omega
theorem sg_room3 {c z : Int} {a b i : Nat} (hc : (c.natAbs : Int) < 2 ^ a) (hz : (z.natAbs : Int) ≤ 2 ^ ((i + 1) * b)) (hE : a + (i + 1) * (b + 1) ≤ 1900) : ((c * z).natAbs : Int) < Mp 63 := by
  have m2 := Int.mul_le_mul (show (c.natAbs : Int) ≤ 2 ^ a by omega) hz (by omega) (Int.le_of_lt (pw2 a))
  rw [← Int.pow_add, ← Int.natCast_mul, ← Int.natAbs_mul] at m2
  have h3 : a + (i + 1) * b ≤ 1984 := by rw [Nat.mul_add] at hE; omega
  have h4 := pow_Mp h3
  have h5 : Mp 63 = 4294967296 * Mp 62 := Mp_succ 62
  have := Mp_pos 62
  omega
theorem d_Mo_signAt_0 : decode prog_9_method_40_code 0 = .ok (.aload_n 0, 1) := by decide +kernel
theorem d_Mo_signAt_1 : decode prog_9_method_40_code 1 = .ok (.iload_n 1, 1) := by decide +kernel
theorem d_Mo_signAt_2 : decode prog_9_method_40_code 2 = .ok (.invokevirtual 99, 3) := by decide +kernel
theorem d_Mo_signAt_5 : decode prog_9_method_40_code 5 = .ok (.istore_n 2, 1) := by decide +kernel
theorem d_Mo_signAt_6 : decode prog_9_method_40_code 6 = .ok (.iload_n 2, 1) := by decide +kernel
theorem d_Mo_signAt_7 : decode prog_9_method_40_code 7 = .ok (.ifCond .ge 5, 3) := by decide +kernel
theorem d_Mo_signAt_10 : decode prog_9_method_40_code 10 = .ok (.iconst 0, 1) := by decide +kernel
theorem d_Mo_signAt_11 : decode prog_9_method_40_code 11 = .ok (.ireturn, 1) := by decide +kernel
theorem d_Mo_signAt_12 : decode prog_9_method_40_code 12 = .ok (.aload_n 0, 1) := by decide +kernel
theorem d_Mo_signAt_13 : decode prog_9_method_40_code 13 = .ok (.sipush 152, 3) := by decide +kernel
theorem d_Mo_signAt_16 : decode prog_9_method_40_code 16 = .ok (.iload_n 1, 1) := by decide +kernel
theorem d_Mo_signAt_17 : decode prog_9_method_40_code 17 = .ok (.iload_n 2, 1) := by decide +kernel
theorem d_Mo_signAt_18 : decode prog_9_method_40_code 18 = .ok (.iadd, 1) := by decide +kernel
theorem d_Mo_signAt_19 : decode prog_9_method_40_code 19 = .ok (.invokevirtual 65, 3) := by decide +kernel
theorem d_Mo_signAt_22 : decode prog_9_method_40_code 22 = .ok (.aload_n 0, 1) := by decide +kernel
theorem d_Mo_signAt_23 : decode prog_9_method_40_code 23 = .ok (.sipush 153, 3) := by decide +kernel
theorem d_Mo_signAt_26 : decode prog_9_method_40_code 26 = .ok (.lconst 1, 1) := by decide +kernel
theorem d_Mo_signAt_27 : decode prog_9_method_40_code 27 = .ok (.invokevirtual 77, 3) := by decide +kernel
theorem d_Mo_signAt_30 : decode prog_9_method_40_code 30 = .ok (.iload_n 2, 1) := by decide +kernel
theorem d_Mo_signAt_31 : decode prog_9_method_40_code 31 = .ok (.iconst 1, 1) := by decide +kernel
theorem d_Mo_signAt_32 : decode prog_9_method_40_code 32 = .ok (.isub, 1) := by decide +kernel
theorem d_Mo_signAt_33 : decode prog_9_method_40_code 33 = .ok (.istore_n 3, 1) := by decide +kernel
theorem d_Mo_signAt_34 : decode prog_9_method_40_code 34 = .ok (.iload_n 3, 1) := by decide +kernel
theorem d_Mo_signAt_35 : decode prog_9_method_40_code 35 = .ok (.ifCond .lt 62, 3) := by decide +kernel
theorem d_Mo_signAt_38 : decode prog_9_method_40_code 38 = .ok (.aload_n 0, 1) := by decide +kernel
theorem d_Mo_signAt_39 : decode prog_9_method_40_code 39 = .ok (.sipush 152, 3) := by decide +kernel
theorem d_Mo_signAt_42 : decode prog_9_method_40_code 42 = .ok (.sipush 152, 3) := by decide +kernel
theorem d_Mo_signAt_45 : decode prog_9_method_40_code 45 = .ok (.sipush 150, 3) := by decide +kernel
theorem d_Mo_signAt_48 : decode prog_9_method_40_code 48 = .ok (.invokevirtual 102, 3) := by decide +kernel
theorem d_Mo_signAt_51 : decode prog_9_method_40_code 51 = .ok (.aload_n 0, 1) := by decide +kernel
theorem d_Mo_signAt_52 : decode prog_9_method_40_code 52 = .ok (.sipush 153, 3) := by decide +kernel
theorem d_Mo_signAt_55 : decode prog_9_method_40_code 55 = .ok (.sipush 153, 3) := by decide +kernel
theorem d_Mo_signAt_58 : decode prog_9_method_40_code 58 = .ok (.sipush 151, 3) := by decide +kernel
theorem d_Mo_signAt_61 : decode prog_9_method_40_code 61 = .ok (.invokevirtual 102, 3) := by decide +kernel
theorem d_Mo_signAt_64 : decode prog_9_method_40_code 64 = .ok (.aload_n 0, 1) := by decide +kernel
theorem d_Mo_signAt_65 : decode prog_9_method_40_code 65 = .ok (.sipush 154, 3) := by decide +kernel
theorem d_Mo_signAt_68 : decode prog_9_method_40_code 68 = .ok (.iload_n 1, 1) := by decide +kernel
theorem d_Mo_signAt_69 : decode prog_9_method_40_code 69 = .ok (.iload_n 3, 1) := by decide +kernel
theorem d_Mo_signAt_70 : decode prog_9_method_40_code 70 = .ok (.iadd, 1) := by decide +kernel
theorem d_Mo_signAt_71 : decode prog_9_method_40_code 71 = .ok (.sipush 153, 3) := by decide +kernel
theorem d_Mo_signAt_74 : decode prog_9_method_40_code 74 = .ok (.invokevirtual 102, 3) := by decide +kernel
theorem d_Mo_signAt_77 : decode prog_9_method_40_code 77 = .ok (.aload_n 0, 1) := by decide +kernel
theorem d_Mo_signAt_78 : decode prog_9_method_40_code 78 = .ok (.sipush 152, 3) := by decide +kernel
theorem d_Mo_signAt_81 : decode prog_9_method_40_code 81 = .ok (.sipush 152, 3) := by decide +kernel
theorem d_Mo_signAt_84 : decode prog_9_method_40_code 84 = .ok (.sipush 154, 3) := by decide +kernel
theorem d_Mo_signAt_87 : decode prog_9_method_40_code 87 = .ok (.iconst 1, 1) := by decide +kernel
theorem d_Mo_signAt_88 : decode prog_9_method_40_code 88 = .ok (.invokevirtual 88, 3) := by decide +kernel
theorem d_Mo_signAt_91 : decode prog_9_method_40_code 91 = .ok (.iinc 3 (-1), 3) := by decide +kernel
theorem d_Mo_signAt_94 : decode prog_9_method_40_code 94 = .ok (.goto (-60), 3) := by decide +kernel
theorem d_Mo_signAt_97 : decode prog_9_method_40_code 97 = .ok (.aload_n 0, 1) := by decide +kernel
theorem d_Mo_signAt_98 : decode prog_9_method_40_code 98 = .ok (.getfield 16, 3) := by decide +kernel
theorem d_Mo_signAt_101 : decode prog_9_method_40_code 101 = .ok (.sipush 152, 3) := by decide +kernel
theorem d_Mo_signAt_104 : decode prog_9_method_40_code 104 = .ok (.iaload, 1) := by decide +kernel
theorem d_Mo_signAt_105 : decode prog_9_method_40_code 105 = .ok (.ireturn, 1) := by decide +kernel
set_option maxHeartbeats 8000000 in
set_option maxRecDepth 100000 in
theorem c_Mo_signAt (l : Launch) (D : va_G) (cs : Nat → ClassId) (L : List Nat) (f : Nat → va_E) (sz : Nat) (y m1 m2 m3 m5 m6 m7 m8 m9 m10 m11 m12 m13 m15 : Nat) (th pn rw_ fu fb : Int) (lm mn sn Z : Nat → Int) (p0 nd a0 b0 : Nat) (hF : Fc L [y, m1, m2, m3]) (ha : f y = .inr (7, [.int (iI th), .ref m1, .ref m2, .ref m3, .int (iI pn), .ref m5, .ref m6, .ref m7, .ref m8, .ref m9, .ref m10, .ref m11, .ref m12, .ref m13, .int (iI rw_), .ref m15, .long (lI fu), .long (lI fb)])) (hm1 : f m1 = .inl (cs 0, 11520, .inl (ai lm))) (hm2 : f m2 = .inl (cs 0, 180, .inl (ai mn))) (hm3 : f m3 = .inl (cs 0, 180, .inl (ai sn))) (hRS : RS lm mn sn Z) (hp8 : p0 + 5 < 150) (hpe : ∀ j, nd < j → j < 6 → Z (p0 + j) = 0) (hca : ∀ j, j < 6 → ((Z (p0 + j)).natAbs : Int) < 2 ^ a0) (hub : ((Z 150).natAbs : Int) < 2 ^ b0) (hvb : ((Z 151).natAbs : Int) < 2 ^ b0) (hroom : a0 + nd * (b0 + 1) ≤ 1900) : Met l (⟨"RealRootsModel", "signAt", "(I)I"⟩ : MethodName) (.code (⟨"RealRootsModel", "signAt", "(I)I"⟩ : MethodName) prog_9_method_40_code 4 (Option.some Jvm.ClassFile.FieldType.int) :: gw) ({ frames := 3, cells := 0, slots := 0, locals := 100 }) (va_Pc [.ref y, .int (iI ((p0 : Int)))] (K0 D vwCl (TY cs) L f sz)) (va_Qi (fun (r : Int32) (g : Nat → va_E) => ∃ (lm' mn' sn' Z' : Nat → Int) (k : Nat), r = iI (if k = 0 then 0 else (hsum (fun j => Z (p0 + j)) (k - 1) (Z 150) (Z 151) (k - 1)).sign) ∧ k ≤ 6 ∧ (∀ j, k ≤ j → j < 6 → Z (p0 + j) = 0) ∧ (0 < k → Z (p0 + (k - 1)) ≠ 0) ∧ RS lm' mn' sn' Z' ∧ (0 < k → Z' 152 = hsum (fun j => Z (p0 + j)) (k - 1) (Z 150) (Z 151) (k - 1)) ∧ (∀ w, w ≠ 152 → w ≠ 153 → w ≠ 154 → w ≠ 178 → Z' w = Z w) ∧ g = mw f [(m1, .inl (cs 0, 11520, .inl (ai (lm')))), (m2, .inl (cs 0, 180, .inl (ai (mn')))), (m3, .inl (cs 0, 180, .inl (ai (sn'))))]) (K1 D vwCl (TY cs) (AL L sz) L) (AL L sz)) 0 0 (AL L sz) := by
  refine Met.ofW (cc := prog_9_method_40_code) (maxL := 4) (ret := (Option.some Jvm.ClassFile.FieldType.int)) (by decide) rfl ?_
  intro p e s m args below meth c s₁ Bd hml hv
  obtain ⟨rfl, hk0⟩ := hv
  obtain ⟨hsz, B⟩ := hk0.start
  subst hsz
  have hx := Bd.exec
  have hb := Bd.bytes
  have hr := Bd.returns
  have hlocks := Bd.notSynchronized
  have hts0 := atoms_spec Bd.pre
  have hown : s.vm.findClass RX7 = some m.cls := findClass_of_methodNamed Bd.named
  have hA : ∀ q, s.heap.size ≤ q → AL L s.heap.size q := fun _ h => Or.inr h
  have hl := lv_entry ([.ref y, .int (iI ((p0 : Int)))]) (n := 4) (Nat.le_of_ble_eq_true rfl)
  rw [lg_entry_eq]
  generalize (lg_sl ([.ref y, .int (iI ((p0 : Int)))]) ++ List.replicate (4 - (lg_sl ([.ref y, .int (iI ((p0 : Int)))])).length) Slot.unset).toArray = ls at hl ⊢
  refine absQ (fun Q R av hQ hR hav => ?_)
  have hts : ∀ w ∈ gw, w.before av s = true := by rw [hav]; exact fun w h => hts0 w (List.mem_cons_of_mem _ h)
  have hRf : R.frames = 3 := by rw [hR]; rfl
  have hRl : R.locals = 100 := by rw [hR]; rfl
  have hRc : R.cells = 0 := by rw [hR]; rfl
  have hRs : R.slots = 0 := by rw [hR]; rfl
  clear hR hts0 Bd
  have hl : lv_has ls 4 [(0, .ref y), (1, .int (iI ((p0 : Int))))] := hl
  have hfx : ∀ q ∈ ([(y, .inr (7, [.int (iI th), .ref m1, .ref m2, .ref m3, .int (iI pn), .ref m5, .ref m6, .ref m7, .ref m8, .ref m9, .ref m10, .ref m11, .ref m12, .ref m13, .int (iI rw_), .ref m15, .long (lI fu), .long (lI fb)])), (m1, .inl (cs 0, 11520, .inl (ai lm))), (m2, .inl (cs 0, 180, .inl (ai mn))), (m3, .inl (cs 0, 180, .inl (ai sn)))] : List (Nat × va_E)), f q.1 = q.2 := fun q hq => by
    simp only [List.mem_cons, List.not_mem_nil, or_false] at hq
    rcases hq with rfl | rfl | rfl | rfl
    · exact ha
    · exact hm1
    · exact hm2
    · exact hm3
  have hmw : mw f [(y, .inr (7, [.int (iI th), .ref m1, .ref m2, .ref m3, .int (iI pn), .ref m5, .ref m6, .ref m7, .ref m8, .ref m9, .ref m10, .ref m11, .ref m12, .ref m13, .int (iI rw_), .ref m15, .long (lI fu), .long (lI fb)])), (m1, .inl (cs 0, 11520, .inl (ai lm))), (m2, .inl (cs 0, 180, .inl (ai mn))), (m3, .inl (cs 0, 180, .inl (ai sn)))] = f := mw_self (fun k a e hk => hfx (a, e) (List.mem_of_getElem? hk))
  have B := B.focus [(y, .inr (7, [.int (iI th), .ref m1, .ref m2, .ref m3, .int (iI pn), .ref m5, .ref m6, .ref m7, .ref m8, .ref m9, .ref m10, .ref m11, .ref m12, .ref m13, .int (iI rw_), .ref m15, .long (lI fu), .long (lI fb)])), (m1, .inl (cs 0, 11520, .inl (ai lm))), (m2, .inl (cs 0, 180, .inl (ai mn))), (m3, .inl (cs 0, 180, .inl (ai sn)))] hfx
  refine lv_aload_n hx hb d_Mo_signAt_0 rfl (lv_at hl 0 rfl) ?_
  refine lv_iload_n hx hb d_Mo_signAt_1 rfl (lv_at hl 1 rfl) ?_
  refine x_calli B hA (va_runV (As := [.int (iI ((p0 : Int)))]) (rest := []) ⟨hx, hb, hml, hown, hts⟩ (c_Mo_degreeAt l D cs _ _ _ y m1 m2 m3 m5 m6 m7 m8 m9 m10 m11 m12 m13 m15 th pn rw_ fu fb lm mn sn Z p0 hF (mw_get (X := [(y, .inr (7, [.int (iI th), .ref m1, .ref m2, .ref m3, .int (iI pn), .ref m5, .ref m6, .ref m7, .ref m8, .ref m9, .ref m10, .ref m11, .ref m12, .ref m13, .int (iI rw_), .ref m15, .long (lI fu), .long (lI fb)])), (m1, .inl (cs 0, 11520, .inl (ai lm))), (m2, .inl (cs 0, 180, .inl (ai mn))), (m3, .inl (cs 0, 180, .inl (ai sn)))]) hF.1 (k := 0) rfl) (mw_get (X := [(y, .inr (7, [.int (iI th), .ref m1, .ref m2, .ref m3, .int (iI pn), .ref m5, .ref m6, .ref m7, .ref m8, .ref m9, .ref m10, .ref m11, .ref m12, .ref m13, .int (iI rw_), .ref m15, .long (lI fu), .long (lI fb)])), (m1, .inl (cs 0, 11520, .inl (ai lm))), (m2, .inl (cs 0, 180, .inl (ai mn))), (m3, .inl (cs 0, 180, .inl (ai sn)))]) hF.1 (k := 1) rfl) (mw_get (X := [(y, .inr (7, [.int (iI th), .ref m1, .ref m2, .ref m3, .int (iI pn), .ref m5, .ref m6, .ref m7, .ref m8, .ref m9, .ref m10, .ref m11, .ref m12, .ref m13, .int (iI rw_), .ref m15, .long (lI fu), .long (lI fb)])), (m1, .inl (cs 0, 11520, .inl (ai lm))), (m2, .inl (cs 0, 180, .inl (ai mn))), (m3, .inl (cs 0, 180, .inl (ai sn)))]) hF.1 (k := 2) rfl) (mw_get (X := [(y, .inr (7, [.int (iI th), .ref m1, .ref m2, .ref m3, .int (iI pn), .ref m5, .ref m6, .ref m7, .ref m8, .ref m9, .ref m10, .ref m11, .ref m12, .ref m13, .int (iI rw_), .ref m15, .long (lI fu), .long (lI fb)])), (m1, .inl (cs 0, 11520, .inl (ai lm))), (m2, .inl (cs 0, 180, .inl (ai mn))), (m3, .inl (cs 0, 180, .inl (ai sn)))]) hF.1 (k := 3) rfl) hRS (by omega)) (cwV 1 hts (gw_V w_796 w_798 s_36 w_8 w_799) rfl rfl rfl (by decide +kernel) ⟨by rw [hRf]; exact Nat.le_of_ble_eq_true rfl, by rw [hRl]; exact Nat.le_of_ble_eq_true rfl⟩) ⟨K0.blind, B.recv (hF.2 _ (mw_key (k := 0) (X := [(y, .inr (7, [.int (iI th), .ref m1, .ref m2, .ref m3, .int (iI pn), .ref m5, .ref m6, .ref m7, .ref m8, .ref m9, .ref m10, .ref m11, .ref m12, .ref m13, .int (iI rw_), .ref m15, .long (lI fu), .long (lI fb)])), (m1, .inl (cs 0, 11520, .inl (ai lm))), (m2, .inl (cs 0, 180, .inl (ai mn))), (m3, .inl (cs 0, 180, .inl (ai sn)))]) rfl)) (mw_get (X := [(y, .inr (7, [.int (iI th), .ref m1, .ref m2, .ref m3, .int (iI pn), .ref m5, .ref m6, .ref m7, .ref m8, .ref m9, .ref m10, .ref m11, .ref m12, .ref m13, .int (iI rw_), .ref m15, .long (lI fu), .long (lI fb)])), (m1, .inl (cs 0, 11520, .inl (ai lm))), (m2, .inl (cs 0, 180, .inl (ai mn))), (m3, .inl (cs 0, 180, .inl (ai sn)))]) hF.1 (k := 0) rfl) rfl, B.pre _⟩ rfl rfl hl.1 rfl (lv_room (Nat.le_of_ble_eq_true rfl)) d_Mo_signAt_2 ⟨by rw [hRc]; omega, by rw [hRs]; omega⟩) (fun r2 g2 H locs hw B => ?_)
  obtain ⟨k0, rfl, hk06, hk0z, hk0l, rfl⟩ := hw
  have B : Wb D vwCl (TY cs) L (mw f [(y, .inr (7, [.int (iI th), .ref m1, .ref m2, .ref m3, .int (iI pn), .ref m5, .ref m6, .ref m7, .ref m8, .ref m9, .ref m10, .ref m11, .ref m12, .ref m13, .int (iI rw_), .ref m15, .long (lI fu), .long (lI fb)])), (m1, .inl (cs 0, 11520, .inl (ai lm))), (m2, .inl (cs 0, 180, .inl (ai mn))), (m3, .inl (cs 0, 180, .inl (ai sn)))]) (AL L s.heap.size) s H _ := B
  have hk0e : k0 ≤ nd + 1 := by rcases Nat.lt_or_ge (nd + 1) k0 with h | h; exact absurd (hpe (k0 - 1) (by omega) (by omega)) (hk0l (by omega)); exact h
  refine lv_istore_n (lv' := [(2, .int (iI ((k0 : Int) - 1))), (0, .ref y), (1, .int (iI ((p0 : Int))))]) hx hb d_Mo_signAt_5 rfl hl (by decide) rfl (fun ls hl => ?_)
  refine lv_iload_n hx hb d_Mo_signAt_6 rfl (lv_at hl 0 rfl) ?_
  refine x_if_ge (tgt := 12) hx hb d_Mo_signAt_7 (by decide) (by omega) (fun h7 => ?_) (fun h7 => ?_)
  · obtain ⟨nn, rfl⟩ : ∃ nn, k0 = nn + 1 := ⟨k0 - 1, by omega⟩
    rw [show ((nn + 1 : Nat) : Int) - 1 = (nn : Int) by omega] at hl
    have hl : lv_has ls 4 [(2, .int (iI ((nn : Int)))), (0, .ref y), (1, .int (iI ((p0 : Int))))] := hl
    have hrm : a0 + nn * (b0 + 1) ≤ 1900 := Nat.le_trans (Nat.add_le_add_left (Nat.mul_le_mul_right _ (show nn ≤ nd by omega)) _) hroom
    refine lv_aload_n hx hb d_Mo_signAt_12 rfl (lv_at hl 1 rfl) ?_
    refine x_sipush hx hb d_Mo_signAt_13 (by decide) ?_
    refine lv_iload_n hx hb d_Mo_signAt_16 rfl (lv_at hl 2 rfl) ?_
    refine lv_iload_n hx hb d_Mo_signAt_17 rfl (lv_at hl 0 rfl) ?_
    refine x_iadd hx hb d_Mo_signAt_18 ?_
    refine x_callv B hA (va_runV (As := [.int (iI 152), .int (iI (((p0 : Int)) + ((nn : Int))))]) (rest := []) ⟨hx, hb, hml, hown, hts⟩ (c_Mo_copy l D cs _ _ _ y m1 m2 m3 m5 m6 m7 m8 m9 m10 m11 m12 m13 m15 th pn rw_ fu fb lm mn sn Z 152 (p0 + nn) hF (mw_get (X := [(y, .inr (7, [.int (iI th), .ref m1, .ref m2, .ref m3, .int (iI pn), .ref m5, .ref m6, .ref m7, .ref m8, .ref m9, .ref m10, .ref m11, .ref m12, .ref m13, .int (iI rw_), .ref m15, .long (lI fu), .long (lI fb)])), (m1, .inl (cs 0, 11520, .inl (ai lm))), (m2, .inl (cs 0, 180, .inl (ai mn))), (m3, .inl (cs 0, 180, .inl (ai sn)))]) hF.1 (k := 0) rfl) (mw_get (X := [(y, .inr (7, [.int (iI th), .ref m1, .ref m2, .ref m3, .int (iI pn), .ref m5, .ref m6, .ref m7, .ref m8, .ref m9, .ref m10, .ref m11, .ref m12, .ref m13, .int (iI rw_), .ref m15, .long (lI fu), .long (lI fb)])), (m1, .inl (cs 0, 11520, .inl (ai lm))), (m2, .inl (cs 0, 180, .inl (ai mn))), (m3, .inl (cs 0, 180, .inl (ai sn)))]) hF.1 (k := 1) rfl) (mw_get (X := [(y, .inr (7, [.int (iI th), .ref m1, .ref m2, .ref m3, .int (iI pn), .ref m5, .ref m6, .ref m7, .ref m8, .ref m9, .ref m10, .ref m11, .ref m12, .ref m13, .int (iI rw_), .ref m15, .long (lI fu), .long (lI fb)])), (m1, .inl (cs 0, 11520, .inl (ai lm))), (m2, .inl (cs 0, 180, .inl (ai mn))), (m3, .inl (cs 0, 180, .inl (ai sn)))]) hF.1 (k := 2) rfl) (mw_get (X := [(y, .inr (7, [.int (iI th), .ref m1, .ref m2, .ref m3, .int (iI pn), .ref m5, .ref m6, .ref m7, .ref m8, .ref m9, .ref m10, .ref m11, .ref m12, .ref m13, .int (iI rw_), .ref m15, .long (lI fu), .long (lI fb)])), (m1, .inl (cs 0, 11520, .inl (ai lm))), (m2, .inl (cs 0, 180, .inl (ai mn))), (m3, .inl (cs 0, 180, .inl (ai sn)))]) hF.1 (k := 3) rfl) hRS (by decide) (by omega)) (cwV 2 hts (gw_V w_804 w_806 s_38 w_8 w_807) rfl rfl rfl (by decide +kernel) ⟨by rw [hRf]; exact Nat.le_of_ble_eq_true rfl, by rw [hRl]; exact Nat.le_of_ble_eq_true rfl⟩) ⟨K0.blind, B.recv (hF.2 _ (mw_key (k := 0) (X := [(y, .inr (7, [.int (iI th), .ref m1, .ref m2, .ref m3, .int (iI pn), .ref m5, .ref m6, .ref m7, .ref m8, .ref m9, .ref m10, .ref m11, .ref m12, .ref m13, .int (iI rw_), .ref m15, .long (lI fu), .long (lI fb)])), (m1, .inl (cs 0, 11520, .inl (ai lm))), (m2, .inl (cs 0, 180, .inl (ai mn))), (m3, .inl (cs 0, 180, .inl (ai sn)))]) rfl)) (mw_get (X := [(y, .inr (7, [.int (iI th), .ref m1, .ref m2, .ref m3, .int (iI pn), .ref m5, .ref m6, .ref m7, .ref m8, .ref m9, .ref m10, .ref m11, .ref m12, .ref m13, .int (iI rw_), .ref m15, .long (lI fu), .long (lI fb)])), (m1, .inl (cs 0, 11520, .inl (ai lm))), (m2, .inl (cs 0, 180, .inl (ai mn))), (m3, .inl (cs 0, 180, .inl (ai sn)))]) hF.1 (k := 0) rfl) rfl, B.pre _⟩ rfl rfl hl.1 rfl (lv_room (Nat.le_of_ble_eq_true rfl)) d_Mo_signAt_19 ⟨by rw [hRc]; omega, by rw [hRs]; omega⟩) (fun g19 H locs hw B => ?_)
    obtain ⟨lm19, mn19, sn19, hRa, rfl⟩ := hw
    have B := B.of_eq (mw_put3 (X := [(y, .inr (7, [.int (iI th), .ref m1, .ref m2, .ref m3, .int (iI pn), .ref m5, .ref m6, .ref m7, .ref m8, .ref m9, .ref m10, .ref m11, .ref m12, .ref m13, .int (iI rw_), .ref m15, .long (lI fu), .long (lI fb)])), (m1, .inl (cs 0, 11520, .inl (ai lm))), (m2, .inl (cs 0, 180, .inl (ai mn))), (m3, .inl (cs 0, 180, .inl (ai sn)))]) hF.1 (k1 := 1) (k2 := 2) (k3 := 3) rfl rfl rfl)
    have B : Wb D vwCl (TY cs) L (mw f [(y, .inr (7, [.int (iI th), .ref m1, .ref m2, .ref m3, .int (iI pn), .ref m5, .ref m6, .ref m7, .ref m8, .ref m9, .ref m10, .ref m11, .ref m12, .ref m13, .int (iI rw_), .ref m15, .long (lI fu), .long (lI fb)])), (m1, .inl (cs 0, 11520, .inl (ai lm19))), (m2, .inl (cs 0, 180, .inl (ai mn19))), (m3, .inl (cs 0, 180, .inl (ai sn19)))]) (AL L s.heap.size) s H _ := B
    refine lv_aload_n hx hb d_Mo_signAt_22 rfl (lv_at hl 1 rfl) ?_
    refine x_sipush hx hb d_Mo_signAt_23 (by decide) ?_
    refine x_lconst (z := 1) hx hb d_Mo_signAt_26 (by decide) ?_
    refine x_callv B hA (va_runV (As := [.int (iI 153), .long (lI 1)]) (rest := []) ⟨hx, hb, hml, hown, hts⟩ (c_Mo_lay0 l D cs _ _ _ y m1 m2 m3 m5 m6 m7 m8 m9 m10 m11 m12 m13 m15 th pn rw_ fu fb lm19 mn19 sn19 (up Z 152 (Z (p0 + nn))) 153 1 hF (mw_get (X := [(y, .inr (7, [.int (iI th), .ref m1, .ref m2, .ref m3, .int (iI pn), .ref m5, .ref m6, .ref m7, .ref m8, .ref m9, .ref m10, .ref m11, .ref m12, .ref m13, .int (iI rw_), .ref m15, .long (lI fu), .long (lI fb)])), (m1, .inl (cs 0, 11520, .inl (ai lm19))), (m2, .inl (cs 0, 180, .inl (ai mn19))), (m3, .inl (cs 0, 180, .inl (ai sn19)))]) hF.1 (k := 0) rfl) (mw_get (X := [(y, .inr (7, [.int (iI th), .ref m1, .ref m2, .ref m3, .int (iI pn), .ref m5, .ref m6, .ref m7, .ref m8, .ref m9, .ref m10, .ref m11, .ref m12, .ref m13, .int (iI rw_), .ref m15, .long (lI fu), .long (lI fb)])), (m1, .inl (cs 0, 11520, .inl (ai lm19))), (m2, .inl (cs 0, 180, .inl (ai mn19))), (m3, .inl (cs 0, 180, .inl (ai sn19)))]) hF.1 (k := 1) rfl) (mw_get (X := [(y, .inr (7, [.int (iI th), .ref m1, .ref m2, .ref m3, .int (iI pn), .ref m5, .ref m6, .ref m7, .ref m8, .ref m9, .ref m10, .ref m11, .ref m12, .ref m13, .int (iI rw_), .ref m15, .long (lI fu), .long (lI fb)])), (m1, .inl (cs 0, 11520, .inl (ai lm19))), (m2, .inl (cs 0, 180, .inl (ai mn19))), (m3, .inl (cs 0, 180, .inl (ai sn19)))]) hF.1 (k := 2) rfl) (mw_get (X := [(y, .inr (7, [.int (iI th), .ref m1, .ref m2, .ref m3, .int (iI pn), .ref m5, .ref m6, .ref m7, .ref m8, .ref m9, .ref m10, .ref m11, .ref m12, .ref m13, .int (iI rw_), .ref m15, .long (lI fu), .long (lI fb)])), (m1, .inl (cs 0, 11520, .inl (ai lm19))), (m2, .inl (cs 0, 180, .inl (ai mn19))), (m3, .inl (cs 0, 180, .inl (ai sn19)))]) hF.1 (k := 3) rfl) hRa (by decide) (by omega)) (cwV 2 hts (gw_V w_792 w_794 s_35 w_8 w_795) rfl rfl rfl (by decide +kernel) ⟨by rw [hRf]; exact Nat.le_of_ble_eq_true rfl, by rw [hRl]; exact Nat.le_of_ble_eq_true rfl⟩) ⟨K0.blind, B.recv (hF.2 _ (mw_key (k := 0) (X := [(y, .inr (7, [.int (iI th), .ref m1, .ref m2, .ref m3, .int (iI pn), .ref m5, .ref m6, .ref m7, .ref m8, .ref m9, .ref m10, .ref m11, .ref m12, .ref m13, .int (iI rw_), .ref m15, .long (lI fu), .long (lI fb)])), (m1, .inl (cs 0, 11520, .inl (ai lm19))), (m2, .inl (cs 0, 180, .inl (ai mn19))), (m3, .inl (cs 0, 180, .inl (ai sn19)))]) rfl)) (mw_get (X := [(y, .inr (7, [.int (iI th), .ref m1, .ref m2, .ref m3, .int (iI pn), .ref m5, .ref m6, .ref m7, .ref m8, .ref m9, .ref m10, .ref m11, .ref m12, .ref m13, .int (iI rw_), .ref m15, .long (lI fu), .long (lI fb)])), (m1, .inl (cs 0, 11520, .inl (ai lm19))), (m2, .inl (cs 0, 180, .inl (ai mn19))), (m3, .inl (cs 0, 180, .inl (ai sn19)))]) hF.1 (k := 0) rfl) rfl, B.pre _⟩ rfl rfl hl.1 rfl (lv_room (Nat.le_of_ble_eq_true rfl)) d_Mo_signAt_27 ⟨by rw [hRc]; omega, by rw [hRs]; omega⟩) (fun g27 H locs hw B => ?_)
    obtain ⟨lm27, mn27, sn27, hRb, rfl⟩ := hw
    have B := B.of_eq (mw_put3 (X := [(y, .inr (7, [.int (iI th), .ref m1, .ref m2, .ref m3, .int (iI pn), .ref m5, .ref m6, .ref m7, .ref m8, .ref m9, .ref m10, .ref m11, .ref m12, .ref m13, .int (iI rw_), .ref m15, .long (lI fu), .long (lI fb)])), (m1, .inl (cs 0, 11520, .inl (ai lm19))), (m2, .inl (cs 0, 180, .inl (ai mn19))), (m3, .inl (cs 0, 180, .inl (ai sn19)))]) hF.1 (k1 := 1) (k2 := 2) (k3 := 3) rfl rfl rfl)
    have B : Wb D vwCl (TY cs) L (mw f [(y, .inr (7, [.int (iI th), .ref m1, .ref m2, .ref m3, .int (iI pn), .ref m5, .ref m6, .ref m7, .ref m8, .ref m9, .ref m10, .ref m11, .ref m12, .ref m13, .int (iI rw_), .ref m15, .long (lI fu), .long (lI fb)])), (m1, .inl (cs 0, 11520, .inl (ai lm27))), (m2, .inl (cs 0, 180, .inl (ai mn27))), (m3, .inl (cs 0, 180, .inl (ai sn27)))]) (AL L s.heap.size) s H _ := B
    refine lv_iload_n hx hb d_Mo_signAt_30 rfl (lv_at hl 0 rfl) ?_
    refine x_iconst hx hb d_Mo_signAt_31 ?_
    refine x_isub hx hb d_Mo_signAt_32 ?_
    refine lv_istore_n (lv' := [(3, .int (iI (((nn : Int)) - 1))), (2, .int (iI ((nn : Int)))), (0, .ref y), (1, .int (iI ((p0 : Int))))]) hx hb d_Mo_signAt_33 rfl hl (by decide) rfl (fun ls hl => ?_)
    have LP : ∀ (fuel : Nat) (k : Nat) (lm2 : Nat → Int) (mn2 : Nat → Int) (sn2 : Nat → Int) (Z2 : Nat → Int), k < fuel → (k ≤ nn) → (RS lm2 mn2 sn2 Z2) → (Z2 152 = hsum (fun j => Z (p0 + j)) nn (Z 150) (Z 151) (nn - k)) → (Z2 153 = Z 151 ^ (nn - k)) → (∀ w, w ≠ 152 → w ≠ 153 → w ≠ 154 → w ≠ 178 → Z2 w = Z w) → ∀ (H : Heap) (locs : List Loc) (ls : Array Slot), Wb D vwCl (TY cs) L (mw f [(y, .inr (7, [.int (iI th), .ref m1, .ref m2, .ref m3, .int (iI pn), .ref m5, .ref m6, .ref m7, .ref m8, .ref m9, .ref m10, .ref m11, .ref m12, .ref m13, .int (iI rw_), .ref m15, .long (lI fu), .long (lI fb)])), (m1, .inl (cs 0, 11520, .inl (ai lm2))), (m2, .inl (cs 0, 180, .inl (ai mn2))), (m3, .inl (cs 0, 180, .inl (ai sn2)))]) (AL L s.heap.size) s H locs → lv_has ls 4 [(3, .int (iI ((k : Int) - 1))), (2, .int (iI ((nn : Int)))), (0, .ref y), (1, .int (iI ((p0 : Int))))] → W p l e R s m av below meth c H locs (0) (0) Q (F0 m 34 ls []) := by
      intro fuel
      induction fuel with
      | zero => intro k lm2 mn2 sn2 Z2 hfu; exact absurd hfu (Nat.not_lt_zero _)
      | succ fuel ih_LP =>
        intro k lm2 mn2 sn2 Z2 hfu_LP hk hR hS hV ho H locs ls B hl
        refine lv_iload_n hx hb d_Mo_signAt_34 rfl (lv_at hl 0 rfl) ?_
        refine x_if_lt (tgt := 97) hx hb d_Mo_signAt_35 (by decide) (by omega) (fun h35 => ?_) (fun h35 => ?_)
        · refine lv_aload_n hx hb d_Mo_signAt_97 rfl (lv_at hl 2 rfl) ?_
          refine x_get (C := RX7) (T := TX7) (N := 18) hx hb hts inX7 hown B hF 0 rfl rfl 3 (by decide) (hts _ w_680) (fun _ h9 => h9) rfl d_Mo_signAt_98 ?_
          refine x_sipush hx hb d_Mo_signAt_101 (by decide) ?_
          refine x_iald hx hb B hF 3 0 rfl rfl 152 (by omega) (by omega) (by decide) d_Mo_signAt_104 ?_
          subst hQ hav
          exact x_iret hx hb hr hlocks B d_Mo_signAt_105 (by
      have hk0 : k = 0 := by omega
      rw [hk0, Nat.sub_zero] at hS
      have h9 := (hR 152 (by decide)).2.2.2.2.1
      rw [hS] at h9
      exact ⟨_, _, _, Z2, nn + 1, by rw [if_neg (by omega), h9]; rfl, by omega, hk0z, hk0l, hR, fun _ => hS, ho, mw_drop (f := f) (X := [(m1, .inl (cs 0, 11520, .inl (ai lm2))), (m2, .inl (cs 0, 180, .inl (ai mn2))), (m3, .inl (cs 0, 180, .inl (ai sn2)))]) ha (List.nodup_cons.mp hF.1).1⟩)
        · have b1 := hs_bd (c := (fun j => Z (p0 + j))) (n := nn) (u := Z 150) (v := Z 151) hca hub hvb (by omega) (nn - k)
          have b2 := hs_bd (c := (fun j => Z (p0 + j))) (n := nn) (u := Z 150) (v := Z 151) hca hub hvb (by omega) (nn - k + 1)
          have b3 := vpow_bd hvb (nn - k + 1)
          have b4 := vpow_bd hvb (nn - k)
          have hj : nn - 1 - (nn - k) = k - 1 := by omega
          have h150 : Z2 150 = Z 150 := ho 150 (by decide) (by decide) (by decide) (by decide)
          have h151 : Z2 151 = Z 151 := ho 151 (by decide) (by decide) (by decide) (by decide)
          have hpk : Z2 (p0 + (k - 1)) = Z (p0 + (k - 1)) := ho _ (by omega) (by omega) (by omega) (by omega)
          have hE : a0 + (nn - k + 1) * (b0 + 1) ≤ 1900 := Nat.le_trans (Nat.add_le_add_left (Nat.mul_le_mul_right _ (show nn - k + 1 ≤ nn by omega)) _) hrm
          have c1 : ((hsum (fun j => Z (p0 + j)) nn (Z 150) (Z 151) (nn - k) * Z 150).natAbs : Int) < Mp 63 := sg_room1 b1 hub hE
          have c2 : ((Z 151 ^ (nn - k) * Z 151).natAbs : Int) < Mp 63 := by rw [← Int.pow_succ]; exact sg_room2 b3 hE
          have c3 : ((Z (p0 + (k - 1)) * (Z 151 ^ (nn - k) * Z 151)).natAbs : Int) < Mp 63 := by rw [← Int.pow_succ]; exact sg_room3 (hca (k - 1) (by omega)) b3 hE
          refine lv_aload_n hx hb d_Mo_signAt_38 rfl (lv_at hl 2 rfl) ?_
          refine x_sipush hx hb d_Mo_signAt_39 (by decide) ?_
          refine x_sipush hx hb d_Mo_signAt_42 (by decide) ?_
          refine x_sipush hx hb d_Mo_signAt_45 (by decide) ?_
          refine x_callv B hA (va_runV (As := [.int (iI 152), .int (iI 152), .int (iI 150)]) (rest := []) ⟨hx, hb, hml, hown, hts⟩ (c_Mo_multiply l D cs _ _ _ y m1 m2 m3 m5 m6 m7 m8 m9 m10 m11 m12 m13 m15 th pn rw_ fu fb lm2 mn2 sn2 Z2 152 152 150 hF (mw_get (X := [(y, .inr (7, [.int (iI th), .ref m1, .ref m2, .ref m3, .int (iI pn), .ref m5, .ref m6, .ref m7, .ref m8, .ref m9, .ref m10, .ref m11, .ref m12, .ref m13, .int (iI rw_), .ref m15, .long (lI fu), .long (lI fb)])), (m1, .inl (cs 0, 11520, .inl (ai lm2))), (m2, .inl (cs 0, 180, .inl (ai mn2))), (m3, .inl (cs 0, 180, .inl (ai sn2)))]) hF.1 (k := 0) rfl) (mw_get (X := [(y, .inr (7, [.int (iI th), .ref m1, .ref m2, .ref m3, .int (iI pn), .ref m5, .ref m6, .ref m7, .ref m8, .ref m9, .ref m10, .ref m11, .ref m12, .ref m13, .int (iI rw_), .ref m15, .long (lI fu), .long (lI fb)])), (m1, .inl (cs 0, 11520, .inl (ai lm2))), (m2, .inl (cs 0, 180, .inl (ai mn2))), (m3, .inl (cs 0, 180, .inl (ai sn2)))]) hF.1 (k := 1) rfl) (mw_get (X := [(y, .inr (7, [.int (iI th), .ref m1, .ref m2, .ref m3, .int (iI pn), .ref m5, .ref m6, .ref m7, .ref m8, .ref m9, .ref m10, .ref m11, .ref m12, .ref m13, .int (iI rw_), .ref m15, .long (lI fu), .long (lI fb)])), (m1, .inl (cs 0, 11520, .inl (ai lm2))), (m2, .inl (cs 0, 180, .inl (ai mn2))), (m3, .inl (cs 0, 180, .inl (ai sn2)))]) hF.1 (k := 2) rfl) (mw_get (X := [(y, .inr (7, [.int (iI th), .ref m1, .ref m2, .ref m3, .int (iI pn), .ref m5, .ref m6, .ref m7, .ref m8, .ref m9, .ref m10, .ref m11, .ref m12, .ref m13, .int (iI rw_), .ref m15, .long (lI fu), .long (lI fb)])), (m1, .inl (cs 0, 11520, .inl (ai lm2))), (m2, .inl (cs 0, 180, .inl (ai mn2))), (m3, .inl (cs 0, 180, .inl (ai sn2)))]) hF.1 (k := 3) rfl) hR (by decide) (by decide) (by decide) (by decide) (by decide) (by rw [hS, h150]; exact c1)) (cwV 3 hts (gw_V w_808 w_810 s_39 w_8 w_811) rfl rfl rfl (by decide +kernel) ⟨by rw [hRf]; exact Nat.le_of_ble_eq_true rfl, by rw [hRl]; exact Nat.le_of_ble_eq_true rfl⟩) ⟨K0.blind, B.recv (hF.2 _ (mw_key (k := 0) (X := [(y, .inr (7, [.int (iI th), .ref m1, .ref m2, .ref m3, .int (iI pn), .ref m5, .ref m6, .ref m7, .ref m8, .ref m9, .ref m10, .ref m11, .ref m12, .ref m13, .int (iI rw_), .ref m15, .long (lI fu), .long (lI fb)])), (m1, .inl (cs 0, 11520, .inl (ai lm2))), (m2, .inl (cs 0, 180, .inl (ai mn2))), (m3, .inl (cs 0, 180, .inl (ai sn2)))]) rfl)) (mw_get (X := [(y, .inr (7, [.int (iI th), .ref m1, .ref m2, .ref m3, .int (iI pn), .ref m5, .ref m6, .ref m7, .ref m8, .ref m9, .ref m10, .ref m11, .ref m12, .ref m13, .int (iI rw_), .ref m15, .long (lI fu), .long (lI fb)])), (m1, .inl (cs 0, 11520, .inl (ai lm2))), (m2, .inl (cs 0, 180, .inl (ai mn2))), (m3, .inl (cs 0, 180, .inl (ai sn2)))]) hF.1 (k := 0) rfl) rfl, B.pre _⟩ rfl rfl hl.1 rfl (lv_room (Nat.le_of_ble_eq_true rfl)) d_Mo_signAt_48 ⟨by rw [hRc]; omega, by rw [hRs]; omega⟩) (fun g48 H locs hw B => ?_)
          obtain ⟨lm48, mn48, sn48, hRc1, rfl⟩ := hw
          have B := B.of_eq (mw_put3 (X := [(y, .inr (7, [.int (iI th), .ref m1, .ref m2, .ref m3, .int (iI pn), .ref m5, .ref m6, .ref m7, .ref m8, .ref m9, .ref m10, .ref m11, .ref m12, .ref m13, .int (iI rw_), .ref m15, .long (lI fu), .long (lI fb)])), (m1, .inl (cs 0, 11520, .inl (ai lm2))), (m2, .inl (cs 0, 180, .inl (ai mn2))), (m3, .inl (cs 0, 180, .inl (ai sn2)))]) hF.1 (k1 := 1) (k2 := 2) (k3 := 3) rfl rfl rfl)
          have B : Wb D vwCl (TY cs) L (mw f [(y, .inr (7, [.int (iI th), .ref m1, .ref m2, .ref m3, .int (iI pn), .ref m5, .ref m6, .ref m7, .ref m8, .ref m9, .ref m10, .ref m11, .ref m12, .ref m13, .int (iI rw_), .ref m15, .long (lI fu), .long (lI fb)])), (m1, .inl (cs 0, 11520, .inl (ai lm48))), (m2, .inl (cs 0, 180, .inl (ai mn48))), (m3, .inl (cs 0, 180, .inl (ai sn48)))]) (AL L s.heap.size) s H _ := B
          rw [hS, h150] at hRc1
          refine lv_aload_n hx hb d_Mo_signAt_51 rfl (lv_at hl 2 rfl) ?_
          refine x_sipush hx hb d_Mo_signAt_52 (by decide) ?_
          refine x_sipush hx hb d_Mo_signAt_55 (by decide) ?_
          refine x_sipush hx hb d_Mo_signAt_58 (by decide) ?_
          refine x_callv B hA (va_runV (As := [.int (iI 153), .int (iI 153), .int (iI 151)]) (rest := []) ⟨hx, hb, hml, hown, hts⟩ (c_Mo_multiply l D cs _ _ _ y m1 m2 m3 m5 m6 m7 m8 m9 m10 m11 m12 m13 m15 th pn rw_ fu fb lm48 mn48 sn48 (up (up Z2 178 (hsum (fun j => Z (p0 + j)) nn (Z 150) (Z 151) (nn - k) * Z 150)) 152 (hsum (fun j => Z (p0 + j)) nn (Z 150) (Z 151) (nn - k) * Z 150)) 153 153 151 hF (mw_get (X := [(y, .inr (7, [.int (iI th), .ref m1, .ref m2, .ref m3, .int (iI pn), .ref m5, .ref m6, .ref m7, .ref m8, .ref m9, .ref m10, .ref m11, .ref m12, .ref m13, .int (iI rw_), .ref m15, .long (lI fu), .long (lI fb)])), (m1, .inl (cs 0, 11520, .inl (ai lm48))), (m2, .inl (cs 0, 180, .inl (ai mn48))), (m3, .inl (cs 0, 180, .inl (ai sn48)))]) hF.1 (k := 0) rfl) (mw_get (X := [(y, .inr (7, [.int (iI th), .ref m1, .ref m2, .ref m3, .int (iI pn), .ref m5, .ref m6, .ref m7, .ref m8, .ref m9, .ref m10, .ref m11, .ref m12, .ref m13, .int (iI rw_), .ref m15, .long (lI fu), .long (lI fb)])), (m1, .inl (cs 0, 11520, .inl (ai lm48))), (m2, .inl (cs 0, 180, .inl (ai mn48))), (m3, .inl (cs 0, 180, .inl (ai sn48)))]) hF.1 (k := 1) rfl) (mw_get (X := [(y, .inr (7, [.int (iI th), .ref m1, .ref m2, .ref m3, .int (iI pn), .ref m5, .ref m6, .ref m7, .ref m8, .ref m9, .ref m10, .ref m11, .ref m12, .ref m13, .int (iI rw_), .ref m15, .long (lI fu), .long (lI fb)])), (m1, .inl (cs 0, 11520, .inl (ai lm48))), (m2, .inl (cs 0, 180, .inl (ai mn48))), (m3, .inl (cs 0, 180, .inl (ai sn48)))]) hF.1 (k := 2) rfl) (mw_get (X := [(y, .inr (7, [.int (iI th), .ref m1, .ref m2, .ref m3, .int (iI pn), .ref m5, .ref m6, .ref m7, .ref m8, .ref m9, .ref m10, .ref m11, .ref m12, .ref m13, .int (iI rw_), .ref m15, .long (lI fu), .long (lI fb)])), (m1, .inl (cs 0, 11520, .inl (ai lm48))), (m2, .inl (cs 0, 180, .inl (ai mn48))), (m3, .inl (cs 0, 180, .inl (ai sn48)))]) hF.1 (k := 3) rfl) hRc1 (by decide) (by decide) (by decide) (by decide) (by decide) (by rw [up_ne _ _ (show 153 ≠ 152 by omega), up_ne _ _ (show 153 ≠ 178 by omega), up_ne _ _ (show 151 ≠ 152 by omega), up_ne _ _ (show 151 ≠ 178 by omega), hV, h151]; exact c2)) (cwV 3 hts (gw_V w_808 w_810 s_39 w_8 w_811) rfl rfl rfl (by decide +kernel) ⟨by rw [hRf]; exact Nat.le_of_ble_eq_true rfl, by rw [hRl]; exact Nat.le_of_ble_eq_true rfl⟩) ⟨K0.blind, B.recv (hF.2 _ (mw_key (k := 0) (X := [(y, .inr (7, [.int (iI th), .ref m1, .ref m2, .ref m3, .int (iI pn), .ref m5, .ref m6, .ref m7, .ref m8, .ref m9, .ref m10, .ref m11, .ref m12, .ref m13, .int (iI rw_), .ref m15, .long (lI fu), .long (lI fb)])), (m1, .inl (cs 0, 11520, .inl (ai lm48))), (m2, .inl (cs 0, 180, .inl (ai mn48))), (m3, .inl (cs 0, 180, .inl (ai sn48)))]) rfl)) (mw_get (X := [(y, .inr (7, [.int (iI th), .ref m1, .ref m2, .ref m3, .int (iI pn), .ref m5, .ref m6, .ref m7, .ref m8, .ref m9, .ref m10, .ref m11, .ref m12, .ref m13, .int (iI rw_), .ref m15, .long (lI fu), .long (lI fb)])), (m1, .inl (cs 0, 11520, .inl (ai lm48))), (m2, .inl (cs 0, 180, .inl (ai mn48))), (m3, .inl (cs 0, 180, .inl (ai sn48)))]) hF.1 (k := 0) rfl) rfl, B.pre _⟩ rfl rfl hl.1 rfl (lv_room (Nat.le_of_ble_eq_true rfl)) d_Mo_signAt_61 ⟨by rw [hRc]; omega, by rw [hRs]; omega⟩) (fun g61 H locs hw B => ?_)
          obtain ⟨lm61, mn61, sn61, hRd1, rfl⟩ := hw
          have B := B.of_eq (mw_put3 (X := [(y, .inr (7, [.int (iI th), .ref m1, .ref m2, .ref m3, .int (iI pn), .ref m5, .ref m6, .ref m7, .ref m8, .ref m9, .ref m10, .ref m11, .ref m12, .ref m13, .int (iI rw_), .ref m15, .long (lI fu), .long (lI fb)])), (m1, .inl (cs 0, 11520, .inl (ai lm48))), (m2, .inl (cs 0, 180, .inl (ai mn48))), (m3, .inl (cs 0, 180, .inl (ai sn48)))]) hF.1 (k1 := 1) (k2 := 2) (k3 := 3) rfl rfl rfl)
          have B : Wb D vwCl (TY cs) L (mw f [(y, .inr (7, [.int (iI th), .ref m1, .ref m2, .ref m3, .int (iI pn), .ref m5, .ref m6, .ref m7, .ref m8, .ref m9, .ref m10, .ref m11, .ref m12, .ref m13, .int (iI rw_), .ref m15, .long (lI fu), .long (lI fb)])), (m1, .inl (cs 0, 11520, .inl (ai lm61))), (m2, .inl (cs 0, 180, .inl (ai mn61))), (m3, .inl (cs 0, 180, .inl (ai sn61)))]) (AL L s.heap.size) s H _ := B
          rw [show (up (up Z2 178 (hsum (fun j => Z (p0 + j)) nn (Z 150) (Z 151) (nn - k) * Z 150)) 152 (hsum (fun j => Z (p0 + j)) nn (Z 150) (Z 151) (nn - k) * Z 150)) 153 = Z 151 ^ (nn - k) by rw [up_ne _ _ (show 153 ≠ 152 by omega), up_ne _ _ (show 153 ≠ 178 by omega)]; exact hV, show (up (up Z2 178 (hsum (fun j => Z (p0 + j)) nn (Z 150) (Z 151) (nn - k) * Z 150)) 152 (hsum (fun j => Z (p0 + j)) nn (Z 150) (Z 151) (nn - k) * Z 150)) 151 = Z 151 by rw [up_ne _ _ (show 151 ≠ 152 by omega), up_ne _ _ (show 151 ≠ 178 by omega)]; exact h151] at hRd1
          refine lv_aload_n hx hb d_Mo_signAt_64 rfl (lv_at hl 2 rfl) ?_
          refine x_sipush hx hb d_Mo_signAt_65 (by decide) ?_
          refine lv_iload_n hx hb d_Mo_signAt_68 rfl (lv_at hl 3 rfl) ?_
          refine lv_iload_n hx hb d_Mo_signAt_69 rfl (lv_at hl 0 rfl) ?_
          refine x_iadd hx hb d_Mo_signAt_70 ?_
          refine x_sipush hx hb d_Mo_signAt_71 (by decide) ?_
          rw [show (p0 : Int) + ((k : Int) - 1) = ((p0 + (k - 1) : Nat) : Int) by omega]
          have zp : (up (up (up (up Z2 178 (hsum (fun j => Z (p0 + j)) nn (Z 150) (Z 151) (nn - k) * Z 150)) 152 (hsum (fun j => Z (p0 + j)) nn (Z 150) (Z 151) (nn - k) * Z 150)) 178 (Z 151 ^ (nn - k) * Z 151)) 153 (Z 151 ^ (nn - k) * Z 151)) (p0 + (k - 1)) = Z (p0 + (k - 1)) := by rw [up_ne _ _ (show p0 + (k - 1) ≠ 153 by omega), up_ne _ _ (show p0 + (k - 1) ≠ 178 by omega), up_ne _ _ (show p0 + (k - 1) ≠ 152 by omega), up_ne _ _ (show p0 + (k - 1) ≠ 178 by omega)]; exact hpk
          have zv : (up (up (up (up Z2 178 (hsum (fun j => Z (p0 + j)) nn (Z 150) (Z 151) (nn - k) * Z 150)) 152 (hsum (fun j => Z (p0 + j)) nn (Z 150) (Z 151) (nn - k) * Z 150)) 178 (Z 151 ^ (nn - k) * Z 151)) 153 (Z 151 ^ (nn - k) * Z 151)) 153 = (Z 151 ^ (nn - k) * Z 151) := by rw [up_self]
          refine x_callv B hA (va_runV (As := [.int (iI 154), .int (iI (((p0 + (k - 1) : Nat) : Int))), .int (iI 153)]) (rest := []) ⟨hx, hb, hml, hown, hts⟩ (c_Mo_multiply l D cs _ _ _ y m1 m2 m3 m5 m6 m7 m8 m9 m10 m11 m12 m13 m15 th pn rw_ fu fb lm61 mn61 sn61 (up (up (up (up Z2 178 (hsum (fun j => Z (p0 + j)) nn (Z 150) (Z 151) (nn - k) * Z 150)) 152 (hsum (fun j => Z (p0 + j)) nn (Z 150) (Z 151) (nn - k) * Z 150)) 178 (Z 151 ^ (nn - k) * Z 151)) 153 (Z 151 ^ (nn - k) * Z 151)) 154 (p0 + (k - 1)) 153 hF (mw_get (X := [(y, .inr (7, [.int (iI th), .ref m1, .ref m2, .ref m3, .int (iI pn), .ref m5, .ref m6, .ref m7, .ref m8, .ref m9, .ref m10, .ref m11, .ref m12, .ref m13, .int (iI rw_), .ref m15, .long (lI fu), .long (lI fb)])), (m1, .inl (cs 0, 11520, .inl (ai lm61))), (m2, .inl (cs 0, 180, .inl (ai mn61))), (m3, .inl (cs 0, 180, .inl (ai sn61)))]) hF.1 (k := 0) rfl) (mw_get (X := [(y, .inr (7, [.int (iI th), .ref m1, .ref m2, .ref m3, .int (iI pn), .ref m5, .ref m6, .ref m7, .ref m8, .ref m9, .ref m10, .ref m11, .ref m12, .ref m13, .int (iI rw_), .ref m15, .long (lI fu), .long (lI fb)])), (m1, .inl (cs 0, 11520, .inl (ai lm61))), (m2, .inl (cs 0, 180, .inl (ai mn61))), (m3, .inl (cs 0, 180, .inl (ai sn61)))]) hF.1 (k := 1) rfl) (mw_get (X := [(y, .inr (7, [.int (iI th), .ref m1, .ref m2, .ref m3, .int (iI pn), .ref m5, .ref m6, .ref m7, .ref m8, .ref m9, .ref m10, .ref m11, .ref m12, .ref m13, .int (iI rw_), .ref m15, .long (lI fu), .long (lI fb)])), (m1, .inl (cs 0, 11520, .inl (ai lm61))), (m2, .inl (cs 0, 180, .inl (ai mn61))), (m3, .inl (cs 0, 180, .inl (ai sn61)))]) hF.1 (k := 2) rfl) (mw_get (X := [(y, .inr (7, [.int (iI th), .ref m1, .ref m2, .ref m3, .int (iI pn), .ref m5, .ref m6, .ref m7, .ref m8, .ref m9, .ref m10, .ref m11, .ref m12, .ref m13, .int (iI rw_), .ref m15, .long (lI fu), .long (lI fb)])), (m1, .inl (cs 0, 11520, .inl (ai lm61))), (m2, .inl (cs 0, 180, .inl (ai mn61))), (m3, .inl (cs 0, 180, .inl (ai sn61)))]) hF.1 (k := 3) rfl) hRd1 (by decide) (by omega) (by decide) (by omega) (by decide) (by rw [zp, zv]; exact c3)) (cwV 3 hts (gw_V w_808 w_810 s_39 w_8 w_811) rfl rfl rfl (by decide +kernel) ⟨by rw [hRf]; exact Nat.le_of_ble_eq_true rfl, by rw [hRl]; exact Nat.le_of_ble_eq_true rfl⟩) ⟨K0.blind, B.recv (hF.2 _ (mw_key (k := 0) (X := [(y, .inr (7, [.int (iI th), .ref m1, .ref m2, .ref m3, .int (iI pn), .ref m5, .ref m6, .ref m7, .ref m8, .ref m9, .ref m10, .ref m11, .ref m12, .ref m13, .int (iI rw_), .ref m15, .long (lI fu), .long (lI fb)])), (m1, .inl (cs 0, 11520, .inl (ai lm61))), (m2, .inl (cs 0, 180, .inl (ai mn61))), (m3, .inl (cs 0, 180, .inl (ai sn61)))]) rfl)) (mw_get (X := [(y, .inr (7, [.int (iI th), .ref m1, .ref m2, .ref m3, .int (iI pn), .ref m5, .ref m6, .ref m7, .ref m8, .ref m9, .ref m10, .ref m11, .ref m12, .ref m13, .int (iI rw_), .ref m15, .long (lI fu), .long (lI fb)])), (m1, .inl (cs 0, 11520, .inl (ai lm61))), (m2, .inl (cs 0, 180, .inl (ai mn61))), (m3, .inl (cs 0, 180, .inl (ai sn61)))]) hF.1 (k := 0) rfl) rfl, B.pre _⟩ rfl rfl hl.1 rfl (lv_room (Nat.le_of_ble_eq_true rfl)) d_Mo_signAt_74 ⟨by rw [hRc]; omega, by rw [hRs]; omega⟩) (fun g74 H locs hw B => ?_)
          obtain ⟨lm74, mn74, sn74, hRe1, rfl⟩ := hw
          have B := B.of_eq (mw_put3 (X := [(y, .inr (7, [.int (iI th), .ref m1, .ref m2, .ref m3, .int (iI pn), .ref m5, .ref m6, .ref m7, .ref m8, .ref m9, .ref m10, .ref m11, .ref m12, .ref m13, .int (iI rw_), .ref m15, .long (lI fu), .long (lI fb)])), (m1, .inl (cs 0, 11520, .inl (ai lm61))), (m2, .inl (cs 0, 180, .inl (ai mn61))), (m3, .inl (cs 0, 180, .inl (ai sn61)))]) hF.1 (k1 := 1) (k2 := 2) (k3 := 3) rfl rfl rfl)
          have B : Wb D vwCl (TY cs) L (mw f [(y, .inr (7, [.int (iI th), .ref m1, .ref m2, .ref m3, .int (iI pn), .ref m5, .ref m6, .ref m7, .ref m8, .ref m9, .ref m10, .ref m11, .ref m12, .ref m13, .int (iI rw_), .ref m15, .long (lI fu), .long (lI fb)])), (m1, .inl (cs 0, 11520, .inl (ai lm74))), (m2, .inl (cs 0, 180, .inl (ai mn74))), (m3, .inl (cs 0, 180, .inl (ai sn74)))]) (AL L s.heap.size) s H _ := B
          rw [zp, zv] at hRe1
          have z2 : (up (up (up (up (up (up Z2 178 (hsum (fun j => Z (p0 + j)) nn (Z 150) (Z 151) (nn - k) * Z 150)) 152 (hsum (fun j => Z (p0 + j)) nn (Z 150) (Z 151) (nn - k) * Z 150)) 178 (Z 151 ^ (nn - k) * Z 151)) 153 (Z 151 ^ (nn - k) * Z 151)) 178 (Z (p0 + (k - 1)) * (Z 151 ^ (nn - k) * Z 151))) 154 (Z (p0 + (k - 1)) * (Z 151 ^ (nn - k) * Z 151))) 152 = (hsum (fun j => Z (p0 + j)) nn (Z 150) (Z 151) (nn - k) * Z 150) := by rw [up_ne _ _ (show 152 ≠ 154 by omega), up_ne _ _ (show 152 ≠ 178 by omega), up_ne _ _ (show 152 ≠ 153 by omega), up_ne _ _ (show 152 ≠ 178 by omega), up_self]
          have z4 : (up (up (up (up (up (up Z2 178 (hsum (fun j => Z (p0 + j)) nn (Z 150) (Z 151) (nn - k) * Z 150)) 152 (hsum (fun j => Z (p0 + j)) nn (Z 150) (Z 151) (nn - k) * Z 150)) 178 (Z 151 ^ (nn - k) * Z 151)) 153 (Z 151 ^ (nn - k) * Z 151)) 178 (Z (p0 + (k - 1)) * (Z 151 ^ (nn - k) * Z 151))) 154 (Z (p0 + (k - 1)) * (Z 151 ^ (nn - k) * Z 151))) 154 = (Z (p0 + (k - 1)) * (Z 151 ^ (nn - k) * Z 151)) := by rw [up_self]
          refine lv_aload_n hx hb d_Mo_signAt_77 rfl (lv_at hl 2 rfl) ?_
          refine x_sipush hx hb d_Mo_signAt_78 (by decide) ?_
          refine x_sipush hx hb d_Mo_signAt_81 (by decide) ?_
          refine x_sipush hx hb d_Mo_signAt_84 (by decide) ?_
          refine x_iconst hx hb d_Mo_signAt_87 ?_
          refine x_callv B hA (va_runV (As := [.int (iI 152), .int (iI 152), .int (iI 154), .int (iI 1)]) (rest := []) ⟨hx, hb, hml, hown, hts⟩ (c_Mo_add l D cs _ _ _ y m1 m2 m3 m5 m6 m7 m8 m9 m10 m11 m12 m13 m15 th pn rw_ fu fb lm74 mn74 sn74 (up (up (up (up (up (up Z2 178 (hsum (fun j => Z (p0 + j)) nn (Z 150) (Z 151) (nn - k) * Z 150)) 152 (hsum (fun j => Z (p0 + j)) nn (Z 150) (Z 151) (nn - k) * Z 150)) 178 (Z 151 ^ (nn - k) * Z 151)) 153 (Z 151 ^ (nn - k) * Z 151)) 178 (Z (p0 + (k - 1)) * (Z 151 ^ (nn - k) * Z 151))) 154 (Z (p0 + (k - 1)) * (Z 151 ^ (nn - k) * Z 151))) 152 152 154 1 hF (mw_get (X := [(y, .inr (7, [.int (iI th), .ref m1, .ref m2, .ref m3, .int (iI pn), .ref m5, .ref m6, .ref m7, .ref m8, .ref m9, .ref m10, .ref m11, .ref m12, .ref m13, .int (iI rw_), .ref m15, .long (lI fu), .long (lI fb)])), (m1, .inl (cs 0, 11520, .inl (ai lm74))), (m2, .inl (cs 0, 180, .inl (ai mn74))), (m3, .inl (cs 0, 180, .inl (ai sn74)))]) hF.1 (k := 0) rfl) (mw_get (X := [(y, .inr (7, [.int (iI th), .ref m1, .ref m2, .ref m3, .int (iI pn), .ref m5, .ref m6, .ref m7, .ref m8, .ref m9, .ref m10, .ref m11, .ref m12, .ref m13, .int (iI rw_), .ref m15, .long (lI fu), .long (lI fb)])), (m1, .inl (cs 0, 11520, .inl (ai lm74))), (m2, .inl (cs 0, 180, .inl (ai mn74))), (m3, .inl (cs 0, 180, .inl (ai sn74)))]) hF.1 (k := 1) rfl) (mw_get (X := [(y, .inr (7, [.int (iI th), .ref m1, .ref m2, .ref m3, .int (iI pn), .ref m5, .ref m6, .ref m7, .ref m8, .ref m9, .ref m10, .ref m11, .ref m12, .ref m13, .int (iI rw_), .ref m15, .long (lI fu), .long (lI fb)])), (m1, .inl (cs 0, 11520, .inl (ai lm74))), (m2, .inl (cs 0, 180, .inl (ai mn74))), (m3, .inl (cs 0, 180, .inl (ai sn74)))]) hF.1 (k := 2) rfl) (mw_get (X := [(y, .inr (7, [.int (iI th), .ref m1, .ref m2, .ref m3, .int (iI pn), .ref m5, .ref m6, .ref m7, .ref m8, .ref m9, .ref m10, .ref m11, .ref m12, .ref m13, .int (iI rw_), .ref m15, .long (lI fu), .long (lI fb)])), (m1, .inl (cs 0, 11520, .inl (ai lm74))), (m2, .inl (cs 0, 180, .inl (ai mn74))), (m3, .inl (cs 0, 180, .inl (ai sn74)))]) hF.1 (k := 3) rfl) hRe1 (by decide) (by decide) (by decide) (Or.inl rfl) (by rw [z2]; exact c1) (by rw [z4]; exact c3)) (cwV 4 hts (gw_V w_820 w_822 s_41 w_8 w_823) rfl rfl rfl (by decide +kernel) ⟨by rw [hRf]; exact Nat.le_of_ble_eq_true rfl, by rw [hRl]; exact Nat.le_of_ble_eq_true rfl⟩) ⟨K0.blind, B.recv (hF.2 _ (mw_key (k := 0) (X := [(y, .inr (7, [.int (iI th), .ref m1, .ref m2, .ref m3, .int (iI pn), .ref m5, .ref m6, .ref m7, .ref m8, .ref m9, .ref m10, .ref m11, .ref m12, .ref m13, .int (iI rw_), .ref m15, .long (lI fu), .long (lI fb)])), (m1, .inl (cs 0, 11520, .inl (ai lm74))), (m2, .inl (cs 0, 180, .inl (ai mn74))), (m3, .inl (cs 0, 180, .inl (ai sn74)))]) rfl)) (mw_get (X := [(y, .inr (7, [.int (iI th), .ref m1, .ref m2, .ref m3, .int (iI pn), .ref m5, .ref m6, .ref m7, .ref m8, .ref m9, .ref m10, .ref m11, .ref m12, .ref m13, .int (iI rw_), .ref m15, .long (lI fu), .long (lI fb)])), (m1, .inl (cs 0, 11520, .inl (ai lm74))), (m2, .inl (cs 0, 180, .inl (ai mn74))), (m3, .inl (cs 0, 180, .inl (ai sn74)))]) hF.1 (k := 0) rfl) rfl, B.pre _⟩ rfl rfl hl.1 rfl (lv_room (Nat.le_of_ble_eq_true rfl)) d_Mo_signAt_88 ⟨by rw [hRc]; omega, by rw [hRs]; omega⟩) (fun g88 H locs hw B => ?_)
          obtain ⟨lm88, mn88, sn88, hR6, rfl⟩ := hw
          have B := B.of_eq (mw_put3 (X := [(y, .inr (7, [.int (iI th), .ref m1, .ref m2, .ref m3, .int (iI pn), .ref m5, .ref m6, .ref m7, .ref m8, .ref m9, .ref m10, .ref m11, .ref m12, .ref m13, .int (iI rw_), .ref m15, .long (lI fu), .long (lI fb)])), (m1, .inl (cs 0, 11520, .inl (ai lm74))), (m2, .inl (cs 0, 180, .inl (ai mn74))), (m3, .inl (cs 0, 180, .inl (ai sn74)))]) hF.1 (k1 := 1) (k2 := 2) (k3 := 3) rfl rfl rfl)
          have B : Wb D vwCl (TY cs) L (mw f [(y, .inr (7, [.int (iI th), .ref m1, .ref m2, .ref m3, .int (iI pn), .ref m5, .ref m6, .ref m7, .ref m8, .ref m9, .ref m10, .ref m11, .ref m12, .ref m13, .int (iI rw_), .ref m15, .long (lI fu), .long (lI fb)])), (m1, .inl (cs 0, 11520, .inl (ai lm88))), (m2, .inl (cs 0, 180, .inl (ai mn88))), (m3, .inl (cs 0, 180, .inl (ai sn88)))]) (AL L s.heap.size) s H _ := B
          rw [z2, z4] at hR6
          obtain ⟨Z6, hZ6⟩ : ∃ Z6, Z6 = up (up (up (up (up (up (up Z2 178 (hsum (fun j => Z (p0 + j)) nn (Z 150) (Z 151) (nn - k) * Z 150)) 152 (hsum (fun j => Z (p0 + j)) nn (Z 150) (Z 151) (nn - k) * Z 150)) 178 (Z 151 ^ (nn - k) * Z 151)) 153 (Z 151 ^ (nn - k) * Z 151)) 178 (Z (p0 + (k - 1)) * (Z 151 ^ (nn - k) * Z 151))) 154 (Z (p0 + (k - 1)) * (Z 151 ^ (nn - k) * Z 151))) 152 ((hsum (fun j => Z (p0 + j)) nn (Z 150) (Z 151) (nn - k) * Z 150) + 1 * (Z (p0 + (k - 1)) * (Z 151 ^ (nn - k) * Z 151))) := ⟨_, rfl⟩
          rw [← hZ6] at hR6
          have h6S : Z6 152 = hsum (fun j => Z (p0 + j)) nn (Z 150) (Z 151) (nn - k) * Z 150 + Z (p0 + (nn - 1 - (nn - k))) * Z 151 ^ (nn - k + 1) := by rw [hZ6, up_self, Int.one_mul, hj, Int.pow_succ]
          have h6V : Z6 153 = Z 151 ^ (nn - k + 1) := by rw [hZ6, up_ne _ _ (show 153 ≠ 152 by omega), up_ne _ _ (show 153 ≠ 154 by omega), up_ne _ _ (show 153 ≠ 178 by omega), up_self, Int.pow_succ]
          have h6o : ∀ w, w ≠ 152 → w ≠ 153 → w ≠ 154 → w ≠ 178 → Z6 w = Z w := fun w h1 h2 h3 h4 => by rw [hZ6, up_ne _ _ h1, up_ne _ _ h3, up_ne _ _ h4, up_ne _ _ h2, up_ne _ _ h4, up_ne _ _ h1, up_ne _ _ h4]; exact ho w h1 h2 h3 h4
          refine x_iinc (lv' := [(3, .int (iI (((k : Int) - 1) + (-1)))), (2, .int (iI ((nn : Int)))), (0, .ref y), (1, .int (iI ((p0 : Int))))]) hx hb d_Mo_signAt_91 hl (q := 0) rfl rfl (by decide) rfl (fun ls hl => ?_)
          refine lv_goto (tgt := 34) hx hb d_Mo_signAt_94 (by decide) ?_
          rw [show (k : Int) - 1 + (-1) = ((k - 1 : Nat) : Int) - 1 by omega] at hl
          exact ih_LP (k - 1) lm88 mn88 sn88 Z6 (by omega) (by omega) hR6 (by rw [h6S, show nn - (k - 1) = (nn - k) + 1 by omega]; rfl) (by rw [h6V, show nn - (k - 1) = (nn - k) + 1 by omega]) h6o _ _ _ B (lv_sub hl [0, 1, 2, 3] rfl)
    exact LP _ nn lm27 mn27 sn27 (up (up Z 152 (Z (p0 + nn))) 153 1) (Nat.lt_succ_self _) (Nat.le_refl _) hRb (by rw [up_ne _ _ (by decide), up_self, Nat.sub_self]; rfl) (by rw [up_self, Nat.sub_self, Int.pow_zero]) (fun w h1 h2 _ _ => by rw [up_ne _ _ h2, up_ne _ _ h1]) _ _ _ B (lv_sub hl [0, 1, 2, 3] rfl)
  · refine x_iconst hx hb d_Mo_signAt_10 ?_
    have B := B.of_eq hmw
    subst hQ hav
    exact x_iret hx hb hr hlocks B d_Mo_signAt_11 (⟨lm, mn, sn, Z, 0, by rw [if_pos rfl], by omega, fun j h1 h2 => hk0z j (by omega) h2, fun h => absurd h (by omega), hRS, fun h => absurd h (by omega), fun w _ _ _ _ => rfl, (mw_self (X := [(m1, .inl (cs 0, 11520, .inl (ai lm))), (m2, .inl (cs 0, 180, .inl (ai mn))), (m3, .inl (cs 0, 180, .inl (ai sn)))]) (fun k a e hk => hfx (a, e) (List.mem_cons_of_mem _ (List.mem_of_getElem? hk)))).symm⟩)
