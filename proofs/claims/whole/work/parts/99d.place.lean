theorem or_bit {a s : Nat} (h : a / 2 ^ s % 2 = 0) : a ||| 2 ^ s = a + 2 ^ s := by
  have hp : 0 < 2 ^ s := Nat.pow_pos (by decide)
  obtain ⟨A, hA⟩ : ∃ A, a / 2 ^ s = 2 * A := ⟨a / 2 ^ s / 2, by omega⟩
  obtain ⟨B, hB⟩ : ∃ B, B = a % 2 ^ s := ⟨_, rfl⟩
  have hB2 : B < 2 ^ s := by rw [hB]; exact Nat.mod_lt _ hp
  have e : a = 2 ^ (s + 1) * A + B := by
    have := Nat.div_add_mod a (2 ^ s)
    rw [hA, ← hB] at this
    rw [Nat.pow_succ, Nat.mul_assoc]
    exact this.symm
  have e2 : 2 ^ s + B < 2 ^ (s + 1) := by rw [Nat.pow_succ]; omega
  have e3 : 2 ^ s ||| B = 2 ^ s + B := by
    have := Nat.two_pow_add_eq_or_of_lt hB2 1
    rw [Nat.mul_one] at this
    exact this.symm
  rw [e, Nat.two_pow_add_eq_or_of_lt (show B < 2 ^ (s + 1) by omega) A, Nat.or_assoc, Nat.or_comm B, e3, ← Nat.two_pow_add_eq_or_of_lt e2 A, ← Nat.two_pow_add_eq_or_of_lt (show B < 2 ^ (s + 1) by omega) A]
  omega
theorem and_bit {a s : Nat} (hs : s < 31) (ha : a < 2147483648) (h : a / 2 ^ s % 2 = 1) : a &&& (4294967296 - (2 ^ s + 1)) = a - 2 ^ s := by
  have hp : 0 < 2 ^ s := Nat.pow_pos (by decide)
  obtain ⟨A, hA⟩ : ∃ A, a / 2 ^ s = 2 * A + 1 := ⟨a / 2 ^ s / 2, by omega⟩
  obtain ⟨B, hB⟩ : ∃ B, B = a % 2 ^ s := ⟨_, rfl⟩
  have hB2 : B < 2 ^ s := by rw [hB]; exact Nat.mod_lt _ hp
  have e : a = 2 ^ (s + 1) * A + (2 ^ s + B) := by
    have := Nat.div_add_mod a (2 ^ s)
    rw [hA, ← hB, Nat.mul_add, Nat.mul_one] at this
    rw [Nat.pow_succ, Nat.mul_assoc]
    omega
  have e2 : 2 ^ s + B < 2 ^ (s + 1) := by rw [Nat.pow_succ]; omega
  have e4 : a - 2 ^ s = 2 ^ (s + 1) * A + B := by omega
  have hps : 2 ^ s < 2 ^ 32 := Nat.pow_lt_pow_right (by decide) (by omega)
  rw [e4]
  apply Nat.eq_of_testBit_eq
  intro i
  rw [Nat.testBit_and, show (4294967296 : Nat) = 2 ^ 32 from rfl, Nat.testBit_two_pow_sub_succ hps, Nat.testBit_two_pow]
  have t1 : a.testBit i = if i < s + 1 then (2 ^ s + B).testBit i else A.testBit (i - (s + 1)) := by rw [e]; exact Nat.testBit_two_pow_mul_add A e2 i
  have t2 : (2 ^ (s + 1) * A + B).testBit i = if i < s + 1 then B.testBit i else A.testBit (i - (s + 1)) := Nat.testBit_two_pow_mul_add A (by omega) i
  have t3 : (2 ^ s + B).testBit i = if i < s then B.testBit i else (1 : Nat).testBit (i - s) := by
    have := Nat.testBit_two_pow_mul_add 1 hB2 i
    rw [Nat.mul_one] at this
    exact this
  rw [t1, t2]
  by_cases h1 : i < s + 1
  · rw [if_pos h1, if_pos h1, t3]
    by_cases h2 : i = s
    · subst h2
      rw [if_neg (Nat.lt_irrefl _)]
      have : B.testBit i = false := Nat.testBit_lt_two_pow hB2
      simp [this]
    · rw [if_pos (by omega)]
      have h3 : i < 32 := by omega
      simp [h3, Ne.symm h2]
  · rw [if_neg h1, if_neg h1]
    by_cases h3 : i < 32
    · have h4 : ¬ s = i := by omega
      simp [h3, h4]
    · have : a.testBit i = false := Nat.testBit_lt_two_pow (Nat.lt_of_lt_of_le (show a < 2 ^ 31 from ha) (Nat.pow_le_pow_right (by decide) (by omega)))
      rw [t1, if_neg h1] at this
      simp [this]
theorem iI_orb {a : Int} {s : Nat} (hs : s < 31) (ha : 0 ≤ a ∧ a < 2147483648) (h : a / 2 ^ s % 2 = 0) : iI a ||| iI (1 * 2 ^ s) = iI (a + 2 ^ s) := by
  apply Int32.toBitVec_inj.mp
  rw [Int32.toBitVec_or, iI_bv, iI_bv, iI_bv]
  apply BitVec.eq_of_toNat_eq
  rw [BitVec.toNat_or, BitVec.toNat_ofInt, BitVec.toNat_ofInt, BitVec.toNat_ofInt]
  obtain ⟨b, rfl⟩ : ∃ b : Nat, a = b := ⟨a.toNat, by omega⟩
  have p1 : (2 : Nat) ^ s ≤ 2 ^ 30 := Nat.pow_le_pow_right (by decide) (by omega)
  have p2 : (2 : Nat) ^ 30 = 1073741824 := by decide
  have p3 : ((2 : Int) ^ s) = ((2 ^ s : Nat) : Int) := by simp
  rw [p3] at h ⊢
  have h2 : b / 2 ^ s % 2 = 0 := by exact_mod_cast h
  have e := or_bit h2
  generalize 2 ^ s = P at *
  rw [Int.one_mul, show (((b : Nat) : Int) % ((2 ^ 32 : Nat) : Int)).toNat = b by omega, show (((P : Nat) : Int) % ((2 ^ 32 : Nat) : Int)).toNat = P by omega, show ((((b : Nat) : Int) + ((P : Nat) : Int)) % ((2 ^ 32 : Nat) : Int)).toNat = b + P by omega]
  exact e
theorem iI_notb (a : Int) : iI a ^^^ iI (-1) = iI (-1 - a) := by
  apply Int32.toBitVec_inj.mp
  rw [Int32.toBitVec_xor, iI_bv, iI_bv, iI_bv, show BitVec.ofInt 32 (-1) = BitVec.allOnes 32 by decide, BitVec.xor_allOnes, BitVec.not_eq_neg_add, ← BitVec.ofInt_neg, show (-1 - a) = -a + -1 by omega, BitVec.ofInt_add, BitVec.sub_eq_add_neg]
  rfl
theorem iI_andb {a : Int} {s : Nat} (hs : s < 31) (ha : 0 ≤ a ∧ a < 2147483648) (h : a / 2 ^ s % 2 = 1) : iI a &&& iI (-1 - 1 * 2 ^ s) = iI (a - 2 ^ s) := by
  apply Int32.toBitVec_inj.mp
  rw [Int32.toBitVec_and, iI_bv, iI_bv, iI_bv]
  apply BitVec.eq_of_toNat_eq
  rw [BitVec.toNat_and, BitVec.toNat_ofInt, BitVec.toNat_ofInt, BitVec.toNat_ofInt]
  obtain ⟨b, rfl⟩ : ∃ b : Nat, a = b := ⟨a.toNat, by omega⟩
  have p1 : (2 : Nat) ^ s ≤ 2 ^ 30 := Nat.pow_le_pow_right (by decide) (by omega)
  have p2 : (2 : Nat) ^ 30 = 1073741824 := by decide
  have p3 : ((2 : Int) ^ s) = ((2 ^ s : Nat) : Int) := by simp
  rw [p3] at h ⊢
  have h2 : b / 2 ^ s % 2 = 1 := by exact_mod_cast h
  have p4 : 2 ^ s ≤ b := by
    rcases Nat.lt_or_ge b (2 ^ s) with h9 | h9
    · rw [Nat.div_eq_of_lt h9] at h2; omega
    · exact h9
  have e := and_bit hs (show b < 2147483648 by omega) h2
  generalize 2 ^ s = P at *
  rw [Int.one_mul, show (((b : Nat) : Int) % ((2 ^ 32 : Nat) : Int)).toNat = b by omega, show ((-1 - ((P : Nat) : Int)) % ((2 ^ 32 : Nat) : Int)).toNat = 4294967296 - (P + 1) by omega, show ((((b : Nat) : Int) - ((P : Nat) : Int)) % ((2 ^ 32 : Nat) : Int)).toNat = b - P by omega]
  exact e
section XF
variable {p : Program} {l : Launch} {e : Env} {R : Room} {s : State} {m : MethodId} {args : Array Value} {below : List Frame} {meth : Method} {c : Code} {H : Heap} {locs : List Loc} {cells slots : Nat} {Q : State → Prop}
variable {cc : ByteArray} {pc : Nat} {ls : Array Slot} {rest : List Value}
theorem x_iorb (hx : p.tables.exec = Jvm.exec) (hb : c.code = cc) {a : Int} (q : Nat) (hq : q < 31) (ha : 0 ≤ a ∧ a < 2147483648) (h0 : a / 2 ^ q % 2 = 0) (hd : decode cc pc = .ok (.ior, 1)) (k : W p l e R s m args below meth c H locs cells slots Q (F0 m (pc + 1) ls (.int (iI (a + 2 ^ q)) :: rest))) : W p l e R s m args below meth c H locs cells slots Q (F0 m pc ls (.int (iI (1 * 2 ^ q)) :: .int (iI a) :: rest)) := lv_ior hx hb hd (by rw [iI_orb hq ha h0]; exact k)
theorem x_ixm1 (hx : p.tables.exec = Jvm.exec) (hb : c.code = cc) {a : Int} (hd : decode cc pc = .ok (.ixor, 1)) (k : W p l e R s m args below meth c H locs cells slots Q (F0 m (pc + 1) ls (.int (iI (-1 - a)) :: rest))) : W p l e R s m args below meth c H locs cells slots Q (F0 m pc ls (.int (iI (-1)) :: .int (iI a) :: rest)) := lv_ixor hx hb hd (by rw [iI_notb a]; exact k)
theorem x_iandb (hx : p.tables.exec = Jvm.exec) (hb : c.code = cc) {a : Int} (q : Nat) (hq : q < 31) (ha : 0 ≤ a ∧ a < 2147483648) (h0 : a / 2 ^ q % 2 = 1) (hd : decode cc pc = .ok (.iand, 1)) (k : W p l e R s m args below meth c H locs cells slots Q (F0 m (pc + 1) ls (.int (iI (a - 2 ^ q)) :: rest))) : W p l e R s m args below meth c H locs cells slots Q (F0 m pc ls (.int (iI (-1 - 1 * 2 ^ q)) :: .int (iI a) :: rest)) := lv_iand hx hb hd (by rw [iI_andb hq ha h0]; exact k)
end XF
theorem d_Place_lengthen_0 : decode prog_5_method_3_code 0 = .ok (.aload_n 0, 1) := by decide +kernel
theorem d_Place_lengthen_1 : decode prog_5_method_3_code 1 = .ok (.getfield 15, 3) := by decide +kernel
theorem d_Place_lengthen_4 : decode prog_5_method_3_code 4 = .ok (.sipush 248, 3) := by decide +kernel
theorem d_Place_lengthen_7 : decode prog_5_method_3_code 7 = .ok (.if_icmp .lt 5, 3) := by decide +kernel
theorem d_Place_lengthen_10 : decode prog_5_method_3_code 10 = .ok (.iconst 0, 1) := by decide +kernel
theorem d_Place_lengthen_11 : decode prog_5_method_3_code 11 = .ok (.ireturn, 1) := by decide +kernel
theorem d_Place_lengthen_12 : decode prog_5_method_3_code 12 = .ok (.aload_n 0, 1) := by decide +kernel
theorem d_Place_lengthen_13 : decode prog_5_method_3_code 13 = .ok (.getfield 18, 3) := by decide +kernel
theorem d_Place_lengthen_16 : decode prog_5_method_3_code 16 = .ok (.aload_n 0, 1) := by decide +kernel
theorem d_Place_lengthen_17 : decode prog_5_method_3_code 17 = .ok (.getfield 15, 3) := by decide +kernel
theorem d_Place_lengthen_20 : decode prog_5_method_3_code 20 = .ok (.bipush 31, 2) := by decide +kernel
theorem d_Place_lengthen_22 : decode prog_5_method_3_code 22 = .ok (.idiv, 1) := by decide +kernel
theorem d_Place_lengthen_23 : decode prog_5_method_3_code 23 = .ok (.dup2, 1) := by decide +kernel
theorem d_Place_lengthen_24 : decode prog_5_method_3_code 24 = .ok (.iaload, 1) := by decide +kernel
theorem d_Place_lengthen_25 : decode prog_5_method_3_code 25 = .ok (.iconst 1, 1) := by decide +kernel
theorem d_Place_lengthen_26 : decode prog_5_method_3_code 26 = .ok (.bipush 30, 2) := by decide +kernel
theorem d_Place_lengthen_28 : decode prog_5_method_3_code 28 = .ok (.aload_n 0, 1) := by decide +kernel
theorem d_Place_lengthen_29 : decode prog_5_method_3_code 29 = .ok (.getfield 15, 3) := by decide +kernel
theorem d_Place_lengthen_32 : decode prog_5_method_3_code 32 = .ok (.bipush 31, 2) := by decide +kernel
theorem d_Place_lengthen_34 : decode prog_5_method_3_code 34 = .ok (.irem, 1) := by decide +kernel
theorem d_Place_lengthen_35 : decode prog_5_method_3_code 35 = .ok (.isub, 1) := by decide +kernel
theorem d_Place_lengthen_36 : decode prog_5_method_3_code 36 = .ok (.ishl, 1) := by decide +kernel
theorem d_Place_lengthen_37 : decode prog_5_method_3_code 37 = .ok (.ior, 1) := by decide +kernel
theorem d_Place_lengthen_38 : decode prog_5_method_3_code 38 = .ok (.iastore, 1) := by decide +kernel
theorem d_Place_lengthen_39 : decode prog_5_method_3_code 39 = .ok (.aload_n 0, 1) := by decide +kernel
theorem d_Place_lengthen_40 : decode prog_5_method_3_code 40 = .ok (.dup, 1) := by decide +kernel
theorem d_Place_lengthen_41 : decode prog_5_method_3_code 41 = .ok (.getfield 15, 3) := by decide +kernel
theorem d_Place_lengthen_44 : decode prog_5_method_3_code 44 = .ok (.iconst 1, 1) := by decide +kernel
theorem d_Place_lengthen_45 : decode prog_5_method_3_code 45 = .ok (.iadd, 1) := by decide +kernel
theorem d_Place_lengthen_46 : decode prog_5_method_3_code 46 = .ok (.putfield 15, 3) := by decide +kernel
theorem d_Place_lengthen_49 : decode prog_5_method_3_code 49 = .ok (.iconst 1, 1) := by decide +kernel
theorem d_Place_lengthen_50 : decode prog_5_method_3_code 50 = .ok (.ireturn, 1) := by decide +kernel
set_option maxHeartbeats 8000000 in
set_option maxRecDepth 100000 in
theorem c_Place_lengthen_f (l : Launch) (D : va_G) (cs : Nat → ClassId) (L : List Nat) (f : Nat → va_E) (sz : Nat) (pl wq dp : Nat) (wh : Int) (wd : Nat → Int) (hF : Fc L [pl, wq]) (ha : f pl = .inr (3, [.int (iI wh), .int (iI ((dp : Int))), .ref wq])) (hwq : f wq = .inl (cs 0, 8, .inl (ai wd))) (hdp : dp = 248) : Met l (⟨"RealRoots$Place", "lengthen", "()Z"⟩ : MethodName) (.code (⟨"RealRoots$Place", "lengthen", "()Z"⟩ : MethodName) prog_5_method_3_code 1 (Option.some Jvm.ClassFile.FieldType.boolean) :: gw) ({ frames := 0, cells := 0, slots := 0, locals := 0 }) (va_Pc [.ref pl] (K0 D vwCl (TY cs) L f sz)) (va_Qi (fun (r : Int32) (g : Nat → va_E) => r = iI 0 ∧ g = f) (K1 D vwCl (TY cs) (AL L sz) L) (AL L sz)) 0 0 (AL L sz) := by
  refine Met.ofW (cc := prog_5_method_3_code) (maxL := 1) (ret := (Option.some Jvm.ClassFile.FieldType.boolean)) (by decide) rfl ?_
  intro p e s m args below meth c s₁ Bd hml hv
  obtain ⟨rfl, hk0⟩ := hv
  obtain ⟨hsz, B⟩ := hk0.start
  subst hsz
  have hx := Bd.exec
  have hb := Bd.bytes
  have hr := Bd.returns
  have hlocks := Bd.notSynchronized
  have hts0 := atoms_spec Bd.pre
  have hown : s.vm.findClass RX3 = some m.cls := findClass_of_methodNamed Bd.named
  have hA : ∀ q, s.heap.size ≤ q → AL L s.heap.size q := fun _ h => Or.inr h
  have hl := lv_entry ([.ref pl]) (n := 1) (Nat.le_of_ble_eq_true rfl)
  rw [lg_entry_eq]
  generalize (lg_sl ([.ref pl]) ++ List.replicate (1 - (lg_sl ([.ref pl])).length) Slot.unset).toArray = ls at hl ⊢
  refine absQ (fun Q R av hQ hR hav => ?_)
  have hts : ∀ w ∈ gw, w.before av s = true := by rw [hav]; exact fun w h => hts0 w (List.mem_cons_of_mem _ h)
  have hRf : R.frames = 0 := by rw [hR]; rfl
  have hRl : R.locals = 0 := by rw [hR]; rfl
  have hRc : R.cells = 0 := by rw [hR]; rfl
  have hRs : R.slots = 0 := by rw [hR]; rfl
  clear hR hts0 Bd
  have hl : lv_has ls 1 [(0, .ref pl)] := hl
  have hfx : ∀ q ∈ ([(pl, .inr (3, [.int (iI wh), .int (iI ((dp : Int))), .ref wq])), (wq, .inl (cs 0, 8, .inl (ai wd)))] : List (Nat × va_E)), f q.1 = q.2 := fun q hq => by
    simp only [List.mem_cons, List.not_mem_nil, or_false] at hq
    rcases hq with rfl | rfl
    · exact ha
    · exact hwq
  have hmw : mw f [(pl, .inr (3, [.int (iI wh), .int (iI ((dp : Int))), .ref wq])), (wq, .inl (cs 0, 8, .inl (ai wd)))] = f := mw_self (fun k a e hk => hfx (a, e) (List.mem_of_getElem? hk))
  have B := B.focus [(pl, .inr (3, [.int (iI wh), .int (iI ((dp : Int))), .ref wq])), (wq, .inl (cs 0, 8, .inl (ai wd)))] hfx
  refine lv_aload_n hx hb d_Place_lengthen_0 rfl (lv_at hl 0 rfl) ?_
  refine x_get (C := RX3) (T := TX3) (N := 3) hx hb hts inX3 hown B hF 0 rfl rfl 1 (by decide) (hts _ w_163) (fun _ h9 => h9) rfl d_Place_lengthen_1 ?_
  refine x_sipush hx hb d_Place_lengthen_4 (by decide) ?_
  refine x_icmp_lt (tgt := 12) hx hb d_Place_lengthen_7 (by decide) (by omega) (by omega) (fun h7 => ?_) (fun h7 => ?_)
  · exfalso; omega
  · refine x_iconst hx hb d_Place_lengthen_10 ?_
    have B := B.of_eq hmw
    subst hQ hav
    exact x_zret hx hb hr (by decide) hlocks B d_Place_lengthen_11 (⟨rfl, rfl⟩)
set_option maxHeartbeats 8000000 in
set_option maxRecDepth 100000 in
theorem c_Place_lengthen (l : Launch) (D : va_G) (cs : Nat → ClassId) (L : List Nat) (f : Nat → va_E) (sz : Nat) (pl wq dp : Nat) (wh : Int) (wd : Nat → Int) (hF : Fc L [pl, wq]) (ha : f pl = .inr (3, [.int (iI wh), .int (iI ((dp : Int))), .ref wq])) (hwq : f wq = .inl (cs 0, 8, .inl (ai wd))) (hdp : dp < 248) (hwr : 0 ≤ wd (dp / 31) ∧ wd (dp / 31) < 2147483648) (hbit : wd (dp / 31) / 2 ^ (30 - dp % 31) % 2 = 0) : Met l (⟨"RealRoots$Place", "lengthen", "()Z"⟩ : MethodName) (.code (⟨"RealRoots$Place", "lengthen", "()Z"⟩ : MethodName) prog_5_method_3_code 1 (Option.some Jvm.ClassFile.FieldType.boolean) :: gw) ({ frames := 0, cells := 0, slots := 0, locals := 0 }) (va_Pc [.ref pl] (K0 D vwCl (TY cs) L f sz)) (va_Qi (fun (r : Int32) (g : Nat → va_E) => r = iI 1 ∧ g = mw f [(pl, .inr (3, [.int (iI wh), .int (iI (((dp + 1 : Nat) : Int))), .ref wq])), (wq, .inl (cs 0, 8, .inl (ai (up wd (dp / 31) (wd (dp / 31) + 2 ^ (30 - dp % 31))))))]) (K1 D vwCl (TY cs) (AL L sz) L) (AL L sz)) 0 0 (AL L sz) := by
  refine Met.ofW (cc := prog_5_method_3_code) (maxL := 1) (ret := (Option.some Jvm.ClassFile.FieldType.boolean)) (by decide) rfl ?_
  intro p e s m args below meth c s₁ Bd hml hv
  obtain ⟨rfl, hk0⟩ := hv
  obtain ⟨hsz, B⟩ := hk0.start
  subst hsz
  have hx := Bd.exec
  have hb := Bd.bytes
  have hr := Bd.returns
  have hlocks := Bd.notSynchronized
  have hts0 := atoms_spec Bd.pre
  have hown : s.vm.findClass RX3 = some m.cls := findClass_of_methodNamed Bd.named
  have hA : ∀ q, s.heap.size ≤ q → AL L s.heap.size q := fun _ h => Or.inr h
  have hl := lv_entry ([.ref pl]) (n := 1) (Nat.le_of_ble_eq_true rfl)
  rw [lg_entry_eq]
  generalize (lg_sl ([.ref pl]) ++ List.replicate (1 - (lg_sl ([.ref pl])).length) Slot.unset).toArray = ls at hl ⊢
  refine absQ (fun Q R av hQ hR hav => ?_)
  have hts : ∀ w ∈ gw, w.before av s = true := by rw [hav]; exact fun w h => hts0 w (List.mem_cons_of_mem _ h)
  have hRf : R.frames = 0 := by rw [hR]; rfl
  have hRl : R.locals = 0 := by rw [hR]; rfl
  have hRc : R.cells = 0 := by rw [hR]; rfl
  have hRs : R.slots = 0 := by rw [hR]; rfl
  clear hR hts0 Bd
  have hl : lv_has ls 1 [(0, .ref pl)] := hl
  have hfx : ∀ q ∈ ([(pl, .inr (3, [.int (iI wh), .int (iI ((dp : Int))), .ref wq])), (wq, .inl (cs 0, 8, .inl (ai wd)))] : List (Nat × va_E)), f q.1 = q.2 := fun q hq => by
    simp only [List.mem_cons, List.not_mem_nil, or_false] at hq
    rcases hq with rfl | rfl
    · exact ha
    · exact hwq
  have hmw : mw f [(pl, .inr (3, [.int (iI wh), .int (iI ((dp : Int))), .ref wq])), (wq, .inl (cs 0, 8, .inl (ai wd)))] = f := mw_self (fun k a e hk => hfx (a, e) (List.mem_of_getElem? hk))
  have B := B.focus [(pl, .inr (3, [.int (iI wh), .int (iI ((dp : Int))), .ref wq])), (wq, .inl (cs 0, 8, .inl (ai wd)))] hfx
  refine lv_aload_n hx hb d_Place_lengthen_0 rfl (lv_at hl 0 rfl) ?_
  refine x_get (C := RX3) (T := TX3) (N := 3) hx hb hts inX3 hown B hF 0 rfl rfl 1 (by decide) (hts _ w_163) (fun _ h9 => h9) rfl d_Place_lengthen_1 ?_
  refine x_sipush hx hb d_Place_lengthen_4 (by decide) ?_
  refine x_icmp_lt (tgt := 12) hx hb d_Place_lengthen_7 (by decide) (by omega) (by omega) (fun h7 => ?_) (fun h7 => ?_)
  · refine lv_aload_n hx hb d_Place_lengthen_12 rfl (lv_at hl 0 rfl) ?_
    refine x_get (C := RX3) (T := TX3) (N := 3) hx hb hts inX3 hown B hF 0 rfl rfl 2 (by decide) (hts _ w_166) (fun _ h9 => h9) rfl d_Place_lengthen_13 ?_
    refine lv_aload_n hx hb d_Place_lengthen_16 rfl (lv_at hl 0 rfl) ?_
    refine x_get (C := RX3) (T := TX3) (N := 3) hx hb hts inX3 hown B hF 0 rfl rfl 1 (by decide) (hts _ w_163) (fun _ h9 => h9) rfl d_Place_lengthen_17 ?_
    refine x_bipush hx hb d_Place_lengthen_20 (by decide) ?_
    refine x_idiv hx hb d_Place_lengthen_22 (by omega) (by omega) (by omega) ?_
    refine lv_dup2_11 hx hb d_Place_lengthen_23 rfl rfl ?_
    refine x_iald hx hb B hF 1 0 rfl rfl (dp / 31) (by rw [Int.tdiv_eq_ediv_of_nonneg (by omega)]; omega) (by omega) (by decide) d_Place_lengthen_24 ?_
    refine x_iconst hx hb d_Place_lengthen_25 ?_
    refine x_bipush hx hb d_Place_lengthen_26 (by decide) ?_
    refine lv_aload_n hx hb d_Place_lengthen_28 rfl (lv_at hl 0 rfl) ?_
    refine x_get (C := RX3) (T := TX3) (N := 3) hx hb hts inX3 hown B hF 0 rfl rfl 1 (by decide) (hts _ w_163) (fun _ h9 => h9) rfl d_Place_lengthen_29 ?_
    refine x_bipush hx hb d_Place_lengthen_32 (by decide) ?_
    refine x_irem hx hb d_Place_lengthen_34 (by omega) (by omega) (by omega) ?_
    refine x_isub hx hb d_Place_lengthen_35 ?_
    refine x_ishlv hx hb (30 - dp % 31) (by rw [Int.tmod_eq_emod_of_nonneg (by omega)]; omega) (by omega) d_Place_lengthen_36 ?_
    refine x_iorb hx hb (30 - dp % 31) (by omega) (hwr) (hbit) d_Place_lengthen_37 ?_
    refine x_iast hx hb B hF 1 0 rfl rfl (dp / 31) (by rw [Int.tdiv_eq_ediv_of_nonneg (by omega)]; omega) (by omega) (by decide) d_Place_lengthen_38 (fun H locs B => ?_)
    have B : Wb D vwCl (TY cs) L (mw f [(pl, .inr (3, [.int (iI wh), .int (iI ((dp : Int))), .ref wq])), (wq, .inl (cs 0, 8, .inl (ai (up wd (dp / 31) ((wd (dp / 31)) + 2 ^ (30 - dp % 31))))))]) (AL L s.heap.size) s H _ := B
    refine lv_aload_n hx hb d_Place_lengthen_39 rfl (lv_at hl 0 rfl) ?_
    refine lv_dup hx hb d_Place_lengthen_40 rfl ?_
    refine x_get (C := RX3) (T := TX3) (N := 3) hx hb hts inX3 hown B hF 0 rfl rfl 1 (by decide) (hts _ w_163) (fun _ h9 => h9) rfl d_Place_lengthen_41 ?_
    refine x_iconst hx hb d_Place_lengthen_44 ?_
    refine x_iadd hx hb d_Place_lengthen_45 ?_
    refine x_put (C := RX3) (T := TX3) (N := 3) hx hb hts inX3 tyX3 tyX3_ok nmX3 hown B hF 0 rfl rfl 1 (by decide) (hts _ w_163) (fun _ h9 => h9) rfl (tyX3_ok 1 (by decide)) rfl rfl (Nat.le_of_ble_eq_true rfl) d_Place_lengthen_46 (fun H locs B => ?_)
    have B : Wb D vwCl (TY cs) L (mw f [(pl, .inr (3, [.int (iI wh), .int (iI (((dp : Int)) + 1)), .ref wq])), (wq, .inl (cs 0, 8, .inl (ai (up wd (dp / 31) ((wd (dp / 31)) + 2 ^ (30 - dp % 31))))))]) (AL L s.heap.size) s H _ := B
    refine x_iconst hx hb d_Place_lengthen_49 ?_
    subst hQ hav
    exact x_zret hx hb hr (by decide) hlocks B d_Place_lengthen_50 (⟨rfl, rfl⟩)
  · exfalso; omega
theorem d_Place_clearLast_0 : decode prog_5_method_4_code 0 = .ok (.aload_n 0, 1) := by decide +kernel
theorem d_Place_clearLast_1 : decode prog_5_method_4_code 1 = .ok (.getfield 15, 3) := by decide +kernel
theorem d_Place_clearLast_4 : decode prog_5_method_4_code 4 = .ok (.ifCond .le 36, 3) := by decide +kernel
theorem d_Place_clearLast_7 : decode prog_5_method_4_code 7 = .ok (.aload_n 0, 1) := by decide +kernel
theorem d_Place_clearLast_8 : decode prog_5_method_4_code 8 = .ok (.getfield 18, 3) := by decide +kernel
theorem d_Place_clearLast_11 : decode prog_5_method_4_code 11 = .ok (.aload_n 0, 1) := by decide +kernel
theorem d_Place_clearLast_12 : decode prog_5_method_4_code 12 = .ok (.getfield 15, 3) := by decide +kernel
theorem d_Place_clearLast_15 : decode prog_5_method_4_code 15 = .ok (.iconst 1, 1) := by decide +kernel
theorem d_Place_clearLast_16 : decode prog_5_method_4_code 16 = .ok (.isub, 1) := by decide +kernel
theorem d_Place_clearLast_17 : decode prog_5_method_4_code 17 = .ok (.bipush 31, 2) := by decide +kernel
theorem d_Place_clearLast_19 : decode prog_5_method_4_code 19 = .ok (.idiv, 1) := by decide +kernel
theorem d_Place_clearLast_20 : decode prog_5_method_4_code 20 = .ok (.dup2, 1) := by decide +kernel
theorem d_Place_clearLast_21 : decode prog_5_method_4_code 21 = .ok (.iaload, 1) := by decide +kernel
theorem d_Place_clearLast_22 : decode prog_5_method_4_code 22 = .ok (.iconst 1, 1) := by decide +kernel
theorem d_Place_clearLast_23 : decode prog_5_method_4_code 23 = .ok (.bipush 30, 2) := by decide +kernel
theorem d_Place_clearLast_25 : decode prog_5_method_4_code 25 = .ok (.aload_n 0, 1) := by decide +kernel
theorem d_Place_clearLast_26 : decode prog_5_method_4_code 26 = .ok (.getfield 15, 3) := by decide +kernel
theorem d_Place_clearLast_29 : decode prog_5_method_4_code 29 = .ok (.iconst 1, 1) := by decide +kernel
theorem d_Place_clearLast_30 : decode prog_5_method_4_code 30 = .ok (.isub, 1) := by decide +kernel
theorem d_Place_clearLast_31 : decode prog_5_method_4_code 31 = .ok (.bipush 31, 2) := by decide +kernel
theorem d_Place_clearLast_33 : decode prog_5_method_4_code 33 = .ok (.irem, 1) := by decide +kernel
theorem d_Place_clearLast_34 : decode prog_5_method_4_code 34 = .ok (.isub, 1) := by decide +kernel
theorem d_Place_clearLast_35 : decode prog_5_method_4_code 35 = .ok (.ishl, 1) := by decide +kernel
theorem d_Place_clearLast_36 : decode prog_5_method_4_code 36 = .ok (.iconst (-1), 1) := by decide +kernel
theorem d_Place_clearLast_37 : decode prog_5_method_4_code 37 = .ok (.ixor, 1) := by decide +kernel
theorem d_Place_clearLast_38 : decode prog_5_method_4_code 38 = .ok (.iand, 1) := by decide +kernel
theorem d_Place_clearLast_39 : decode prog_5_method_4_code 39 = .ok (.iastore, 1) := by decide +kernel
theorem d_Place_clearLast_40 : decode prog_5_method_4_code 40 = .ok (.return_, 1) := by decide +kernel
set_option maxHeartbeats 8000000 in
set_option maxRecDepth 100000 in
theorem c_Place_clearLast (l : Launch) (D : va_G) (cs : Nat → ClassId) (L : List Nat) (f : Nat → va_E) (sz : Nat) (pl wq dp : Nat) (wh : Int) (wd : Nat → Int) (hF : Fc L [pl, wq]) (ha : f pl = .inr (3, [.int (iI wh), .int (iI ((dp : Int))), .ref wq])) (hwq : f wq = .inl (cs 0, 8, .inl (ai wd))) (hdp : 0 < dp ∧ dp ≤ 248) (hwr : 0 ≤ wd ((dp - 1) / 31) ∧ wd ((dp - 1) / 31) < 2147483648) (hbit : wd ((dp - 1) / 31) / 2 ^ (30 - (dp - 1) % 31) % 2 = 1) : Met l (⟨"RealRoots$Place", "clearLast", "()V"⟩ : MethodName) (.code (⟨"RealRoots$Place", "clearLast", "()V"⟩ : MethodName) prog_5_method_4_code 1 (Option.none : Option Jvm.ClassFile.FieldType) :: gw) ({ frames := 0, cells := 0, slots := 0, locals := 0 }) (va_Pc [.ref pl] (K0 D vwCl (TY cs) L f sz)) (va_Qv (fun (g : Nat → va_E) => g = mw f [(wq, .inl (cs 0, 8, .inl (ai (up wd ((dp - 1) / 31) (wd ((dp - 1) / 31) - 2 ^ (30 - (dp - 1) % 31))))))]) (K1 D vwCl (TY cs) (AL L sz) L) (AL L sz)) 0 0 (AL L sz) := by
  refine Met.ofW (cc := prog_5_method_4_code) (maxL := 1) (ret := (Option.none : Option Jvm.ClassFile.FieldType)) (by decide) rfl ?_
  intro p e s m args below meth c s₁ Bd hml hv
  obtain ⟨rfl, hk0⟩ := hv
  obtain ⟨hsz, B⟩ := hk0.start
  subst hsz
  have hx := Bd.exec
  have hb := Bd.bytes
  have hr := Bd.returns
  have hlocks := Bd.notSynchronized
  have hts0 := atoms_spec Bd.pre
  have hown : s.vm.findClass RX3 = some m.cls := findClass_of_methodNamed Bd.named
  have hA : ∀ q, s.heap.size ≤ q → AL L s.heap.size q := fun _ h => Or.inr h
  have hl := lv_entry ([.ref pl]) (n := 1) (Nat.le_of_ble_eq_true rfl)
  rw [lg_entry_eq]
  generalize (lg_sl ([.ref pl]) ++ List.replicate (1 - (lg_sl ([.ref pl])).length) Slot.unset).toArray = ls at hl ⊢
  refine absQ (fun Q R av hQ hR hav => ?_)
  have hts : ∀ w ∈ gw, w.before av s = true := by rw [hav]; exact fun w h => hts0 w (List.mem_cons_of_mem _ h)
  have hRf : R.frames = 0 := by rw [hR]; rfl
  have hRl : R.locals = 0 := by rw [hR]; rfl
  have hRc : R.cells = 0 := by rw [hR]; rfl
  have hRs : R.slots = 0 := by rw [hR]; rfl
  clear hR hts0 Bd
  have hl : lv_has ls 1 [(0, .ref pl)] := hl
  have hfx : ∀ q ∈ ([(pl, .inr (3, [.int (iI wh), .int (iI ((dp : Int))), .ref wq])), (wq, .inl (cs 0, 8, .inl (ai wd)))] : List (Nat × va_E)), f q.1 = q.2 := fun q hq => by
    simp only [List.mem_cons, List.not_mem_nil, or_false] at hq
    rcases hq with rfl | rfl
    · exact ha
    · exact hwq
  have hmw : mw f [(pl, .inr (3, [.int (iI wh), .int (iI ((dp : Int))), .ref wq])), (wq, .inl (cs 0, 8, .inl (ai wd)))] = f := mw_self (fun k a e hk => hfx (a, e) (List.mem_of_getElem? hk))
  have B := B.focus [(pl, .inr (3, [.int (iI wh), .int (iI ((dp : Int))), .ref wq])), (wq, .inl (cs 0, 8, .inl (ai wd)))] hfx
  refine lv_aload_n hx hb d_Place_clearLast_0 rfl (lv_at hl 0 rfl) ?_
  refine x_get (C := RX3) (T := TX3) (N := 3) hx hb hts inX3 hown B hF 0 rfl rfl 1 (by decide) (hts _ w_163) (fun _ h9 => h9) rfl d_Place_clearLast_1 ?_
  refine x_if_le (tgt := 40) hx hb d_Place_clearLast_4 (by decide) (by omega) (fun h4 => ?_) (fun h4 => ?_)
  · have B := B.of_eq hmw
    subst hQ hav
    exact x_vret hx hb hr hlocks B d_Place_clearLast_40 (by first | (exfalso; omega) | exact mw_drop (f := f) (X := [(wq, .inl (cs 0, 8, .inl (ai wd)))]) ha (List.nodup_cons.mp hF.1).1)
  · refine lv_aload_n hx hb d_Place_clearLast_7 rfl (lv_at hl 0 rfl) ?_
    refine x_get (C := RX3) (T := TX3) (N := 3) hx hb hts inX3 hown B hF 0 rfl rfl 2 (by decide) (hts _ w_166) (fun _ h9 => h9) rfl d_Place_clearLast_8 ?_
    refine lv_aload_n hx hb d_Place_clearLast_11 rfl (lv_at hl 0 rfl) ?_
    refine x_get (C := RX3) (T := TX3) (N := 3) hx hb hts inX3 hown B hF 0 rfl rfl 1 (by decide) (hts _ w_163) (fun _ h9 => h9) rfl d_Place_clearLast_12 ?_
    refine x_iconst hx hb d_Place_clearLast_15 ?_
    refine x_isub hx hb d_Place_clearLast_16 ?_
    refine x_bipush hx hb d_Place_clearLast_17 (by decide) ?_
    refine x_idiv hx hb d_Place_clearLast_19 (by omega) (by omega) (by omega) ?_
    refine lv_dup2_11 hx hb d_Place_clearLast_20 rfl rfl ?_
    refine x_iald hx hb B hF 1 0 rfl rfl ((dp - 1) / 31) (by rw [Int.tdiv_eq_ediv_of_nonneg (by omega)]; omega) (by omega) (by decide) d_Place_clearLast_21 ?_
    refine x_iconst hx hb d_Place_clearLast_22 ?_
    refine x_bipush hx hb d_Place_clearLast_23 (by decide) ?_
    refine lv_aload_n hx hb d_Place_clearLast_25 rfl (lv_at hl 0 rfl) ?_
    refine x_get (C := RX3) (T := TX3) (N := 3) hx hb hts inX3 hown B hF 0 rfl rfl 1 (by decide) (hts _ w_163) (fun _ h9 => h9) rfl d_Place_clearLast_26 ?_
    refine x_iconst hx hb d_Place_clearLast_29 ?_
    refine x_isub hx hb d_Place_clearLast_30 ?_
    refine x_bipush hx hb d_Place_clearLast_31 (by decide) ?_
    refine x_irem hx hb d_Place_clearLast_33 (by omega) (by omega) (by omega) ?_
    refine x_isub hx hb d_Place_clearLast_34 ?_
    refine x_ishlv hx hb (30 - (dp - 1) % 31) (by rw [Int.tmod_eq_emod_of_nonneg (by omega)]; omega) (by omega) d_Place_clearLast_35 ?_
    refine x_iconst hx hb d_Place_clearLast_36 ?_
    refine x_ixm1 hx hb d_Place_clearLast_37 ?_
    refine x_iandb hx hb (30 - (dp - 1) % 31) (by omega) (hwr) (hbit) d_Place_clearLast_38 ?_
    refine x_iast hx hb B hF 1 0 rfl rfl ((dp - 1) / 31) (by rw [Int.tdiv_eq_ediv_of_nonneg (by omega)]; omega) (by omega) (by decide) d_Place_clearLast_39 (fun H locs B => ?_)
    have B : Wb D vwCl (TY cs) L (mw f [(pl, .inr (3, [.int (iI wh), .int (iI ((dp : Int))), .ref wq])), (wq, .inl (cs 0, 8, .inl (ai (up wd ((dp - 1) / 31) ((wd ((dp - 1) / 31)) - 2 ^ (30 - (dp - 1) % 31))))))]) (AL L s.heap.size) s H _ := B
    subst hQ hav
    exact x_vret hx hb hr hlocks B d_Place_clearLast_40 (by first | (exfalso; omega) | exact mw_drop (f := f) (X := [(wq, .inl (cs 0, 8, .inl (ai (up wd ((dp - 1) / 31) ((wd ((dp - 1) / 31)) - 2 ^ (30 - (dp - 1) % 31))))))]) ha (List.nodup_cons.mp hF.1).1)
