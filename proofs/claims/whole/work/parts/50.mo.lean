theorem pw2 (p : Nat) : (0 : Int) < 2 ^ p := Int.pow_pos (by decide)
/-- bit i of a number, from its limb -/
theorem bit_of {g : Nat → Int} {n i : Nat} {V : Int} (hg : Mb g n) (hv : Ms g n = V) (hi : i < 32 * n) : g (i / 32) / 2 ^ (i % 32) % 2 = V / 2 ^ i % 2 := by
  have hq : i / 32 < n := by omega
  have h1 := Ms_split g (i / 32) (n - i / 32)
  rw [show i / 32 + (n - i / 32) = n by omega, hv] at h1
  obtain ⟨m, hm⟩ : ∃ m, n - i / 32 = m + 1 := ⟨n - i / 32 - 1, by omega⟩
  have h2 : Ms (fun j => g (j + i / 32)) (n - i / 32) = g (i / 32) + 4294967296 * Ms (fun j => g (j + i / 32 + 1)) m := by
    have := Ms_split (fun j => g (j + i / 32)) 1 m
    rw [hm, Nat.add_comm m 1, this, Ms_succ, Ms_zero, Mp_zero]
    rw [show Mp 1 = 4294967296 from rfl, show (fun j => g (j + 1 + i / 32)) = (fun j => g (j + i / 32 + 1)) from funext (fun j => by rw [Nat.add_right_comm])]
    simp
  have r := Ms_range (hg.le (show i / 32 ≤ n by omega))
  have hb : i % 32 < 32 := Nat.mod_lt _ (by decide)
  have e1 : (2 : Int) ^ i = Mp (i / 32) * 2 ^ (i % 32) := by
    rw [Mp_pow, ← Int.pow_add]
    congr 1
    omega
  have e2 : V / 2 ^ i = (g (i / 32) + 4294967296 * Ms (fun j => g (j + i / 32 + 1)) m) / 2 ^ (i % 32) := by
    rw [e1, ← Int.ediv_ediv_of_nonneg (Int.le_of_lt (Mp_pos _)), h1, h2]
    congr 1
    rw [Int.add_mul_ediv_left _ _ (by have := Mp_pos (i / 32); omega), Int.ediv_eq_zero_of_lt r.1 r.2, Int.zero_add]
  rw [e2]
  have e3 := pow32 (i % 32) (by omega)
  have e4 : (2 : Int) ^ (32 - i % 32) = 2 * 2 ^ (31 - i % 32) := by rw [show 32 - i % 32 = (31 - i % 32) + 1 by omega, Int.pow_succ, Int.mul_comm]
  have p := pw2 (i % 32)
  rw [e3, e4, Int.mul_assoc, Int.add_mul_ediv_left _ _ (by omega)]
  generalize g (i / 32) / 2 ^ (i % 32) = u
  generalize Ms (fun j => g (j + i / 32 + 1)) m = v
  rw [Int.mul_assoc]
  generalize 2 ^ (31 - i % 32) * v = w
  omega
theorem bits_down {V : Int} {n : Nat} (hV : 0 ≤ V) (h : V < 2 ^ (n + 1)) (hb : V / 2 ^ n % 2 = 0) : V < 2 ^ n := by
  have p := pw2 n
  have h1 : V / 2 ^ n < 2 := Int.ediv_lt_of_lt_mul p (by rw [Int.pow_succ, Int.mul_comm] at h; exact h)
  have h2 : 0 ≤ V / 2 ^ n := Int.ediv_nonneg hV (by omega)
  have h3 : V / 2 ^ n = 0 := by omega
  have h4 := Int.mul_ediv_add_emod V (2 ^ n)
  have h5 := Int.emod_lt_of_pos V p
  rw [h3] at h4
  omega
theorem bits_top {V : Int} {n : Nat} (hb : V / 2 ^ n % 2 ≠ 0) (hV : 0 ≤ V) : 2 ^ n ≤ V := by
  have p := pw2 n
  rcases Int.lt_or_le V (2 ^ n) with h | h
  · rw [Int.ediv_eq_zero_of_lt hV h] at hb
    exact absurd rfl hb
  · exact h
/-- limb i of the shifted number from the parts that are put together -/
theorem shl_put {g : Nat → Int} {m w b i : Nat} {u v2 : Int} (hg : Mb g m) (hb : b < 32) (hi : w ≤ i) (hu : u = mAt g m (i - w)) (hv : v2 = if i - w = 0 then 0 else (mAt g m (i - w - 1) * 2 ^ b) / 4294967296) : (u * 2 ^ b + v2) % 4294967296 = shl g m w b i := by
  have r := shl_range (w := w) hb hg i
  have e : shl g m w b i = (mAt g m (i - w) * 2 ^ b) % 4294967296 + v2 := by rw [shl, if_neg (by omega), hv]
  rw [e] at r ⊢
  rw [hu]
  generalize mAt g m (i - w) * 2 ^ b = z at *
  omega
theorem shr_eq {v : Int} {b : Nat} (hb : b ≤ 32) : v / 2 ^ (32 - b) = (v * 2 ^ b) / 4294967296 := by
  have e := pow32 b hb
  rw [e, Int.mul_comm v, Int.mul_ediv_mul_of_pos _ _ (pw2 b)]
theorem shr_lt {v : Int} {b : Nat} (hb : b ≤ 32) (hv : 0 ≤ v ∧ v < 4294967296) : 0 ≤ v / 2 ^ (32 - b) ∧ v / 2 ^ (32 - b) < 2 ^ b := by
  have e := pow32 b hb
  refine ⟨Int.ediv_nonneg hv.1 (Int.le_of_lt (pw2 _)), Int.ediv_lt_of_lt_mul (pw2 _) (by rw [← e]; exact hv.2)⟩
theorem mul_pow_lt {u : Int} {b : Nat} (hb : b < 32) (hu : 0 ≤ u ∧ u < 4294967296) : 0 ≤ u * 2 ^ b ∧ u * 2 ^ b ≤ 9223372034707292160 := by
  have p := pw2 b
  have h1 : (2 : Int) ^ b ≤ 2147483648 := by
    have : (2 : Int) ^ b ≤ 2 ^ 31 := by
      have : (2 : Nat) ^ b ≤ 2 ^ 31 := Nat.pow_le_pow_right (by decide) (by omega)
      exact_mod_cast this
    omega
  have h2 := Int.mul_nonneg hu.1 (Int.le_of_lt p)
  have h3 := Int.mul_le_mul (show u ≤ 4294967295 by omega) h1 (Int.le_of_lt p) (by omega)
  omega
theorem shift_room {n s : Nat} {g : Nat → Int} {z : Int} (hg : Mb g n) (tg : 0 < n → g (n - 1) ≠ 0) (eg : Ms g n = (z.natAbs : Int)) (h0 : 0 < n) (hlt : (z.natAbs : Int) * 2 ^ s < Mp 63) : n + s / 32 + 1 ≤ 64 := by
  have h7 := Ms_top (g := g) (n := n - 1) (by rw [show n - 1 + 1 = n by omega]; exact hg) (tg h0)
  rw [show n - 1 + 1 = n by omega, eg] at h7
  have h8 : Mp (s / 32) ≤ 2 ^ s := by
    rw [Mp_pow]
    have : (2 : Nat) ^ (32 * (s / 32)) ≤ 2 ^ s := Nat.pow_le_pow_right (by decide) (by omega)
    exact_mod_cast this
  have h9 := Int.mul_le_mul h7 h8 (Int.le_of_lt (Mp_pos _)) (by omega)
  rw [← Mp_add] at h9
  have := Mp_lt (show Mp (n - 1 + s / 32) < Mp 63 by omega)
  omega
theorem shui_amt : ∀ k : Fin 32, ((iI (k : Nat)).toUInt32 &&& Int32.toUInt32 31).toNat = (k : Nat) := by decide +kernel
theorem iI_ushr {a : Int} (h : 0 ≤ a ∧ a < 4294967296) {k : Nat} (hk : k < 32) : ((iI a).toUInt32 >>> ((iI (k : Int)).toUInt32 &&& Int32.toUInt32 31)).toInt32 = iI (a / 2 ^ k) := by
  apply Int32.toBitVec_inj.mp
  rw [UInt32.toBitVec_toInt32, UInt32.toBitVec_shiftRight, Int32.toBitVec_toUInt32, iI_bv, iI_bv]
  apply BitVec.eq_of_toNat_eq
  have hs := shui_amt ⟨k, hk⟩
  have hd := div_pow_range (a := a) (lo := 0) (hi := 4294967296) k (by omega) (by decide) (by decide)
  have hm : (((iI (k : Int)).toUInt32 &&& Int32.toUInt32 31).toBitVec % 32).toNat = k := by
    rw [BitVec.toNat_umod]
    have : ((iI (k : Int)).toUInt32 &&& Int32.toUInt32 31).toBitVec.toNat = k := hs
    rw [this]
    exact Nat.mod_eq_of_lt hk
  rw [BitVec.ushiftRight_eq', hm, BitVec.toNat_ushiftRight, BitVec.toNat_ofInt, BitVec.toNat_ofInt, Nat.shiftRight_eq_div_pow]
  rw [show (a % ((2 ^ 32 : Nat) : Int)) = a by omega, Int.emod_eq_of_lt (show (0 : Int) ≤ a / (2 : Int) ^ k by omega) (show a / (2 : Int) ^ k < ((2 ^ 32 : Nat) : Int) by omega)]
  obtain ⟨b, rfl⟩ : ∃ b : Nat, a = b := ⟨a.toNat, by omega⟩
  have : ((2 : Int) ^ k) = ((2 ^ k : Nat) : Int) := by simp
  rw [this, ← Int.natCast_ediv, Int.toNat_natCast, Int.toNat_natCast]
section XD
variable {p : Program} {l : Launch} {e : Env} {R : Room} {s : State} {m : MethodId} {args : Array Value} {below : List Frame} {meth : Method} {c : Code} {H : Heap} {locs : List Loc} {cells slots : Nat} {Q : State → Prop}
variable {cc : ByteArray} {pc : Nat} {ls : Array Slot} {rest : List Value}
theorem x_iushrv (hx : p.tables.exec = Jvm.exec) (hb : c.code = cc) {a n : Int} (q : Nat) (hn : n = (q : Int)) (hq : q < 32) (hd : decode cc pc = .ok (.iushr, 1)) (h1 : 0 ≤ a ∧ a < 4294967296) (k : W p l e R s m args below meth c H locs cells slots Q (F0 m (pc + 1) ls (.int (iI (a / 2 ^ q)) :: rest))) : W p l e R s m args below meth c H locs cells slots Q (F0 m pc ls (.int (iI n) :: .int (iI a) :: rest)) := by subst hn; exact lv_iushr hx hb hd (iI_ushr h1 hq) k
theorem x_lushrv (hx : p.tables.exec = Jvm.exec) (hb : c.code = cc) {a n : Int} (q : Nat) (hn : n = (q : Int)) (hq : q < 64) (hd : decode cc pc = .ok (.lushr, 1)) (h1 : 0 ≤ a ∧ a < 18446744073709551616) (k : W p l e R s m args below meth c H locs cells slots Q (F0 m (pc + 1) ls (.long (lI (a / 2 ^ q)) :: rest))) : W p l e R s m args below meth c H locs cells slots Q (F0 m pc ls (.int (iI n) :: .long (lI a) :: rest)) := by subst hn; exact lv_lushr hx hb hd (lI_ushr h1 hq) k
theorem x_lorv (hx : p.tables.exec = Jvm.exec) (hb : c.code = cc) {a b : Int} (q : Nat) (hd : decode cc pc = .ok (.lor, 1)) (h1 : 0 ≤ b ∧ b < 2 ^ q) (h2 : 0 ≤ a * 2 ^ q) (h3 : a * 2 ^ q + b < 18446744073709551616) (k : W p l e R s m args below meth c H locs cells slots Q (F0 m (pc + 1) ls (.long (lI (a * 2 ^ q + b)) :: rest))) : W p l e R s m args below meth c H locs cells slots Q (F0 m pc ls (.long (lI b) :: .long (lI (a * 2 ^ q)) :: rest)) := lv_lor hx hb hd (by rw [lI_or h1 h2 h3]; exact k)
end XD
theorem d_Mo_bitsOf_0 : decode prog_9_method_14_code 0 = .ok (.bipush 32, 2) := by decide +kernel
theorem d_Mo_bitsOf_2 : decode prog_9_method_14_code 2 = .ok (.aload_n 0, 1) := by decide +kernel
theorem d_Mo_bitsOf_3 : decode prog_9_method_14_code 3 = .ok (.getfield 13, 3) := by decide +kernel
theorem d_Mo_bitsOf_6 : decode prog_9_method_14_code 6 = .ok (.iload_n 1, 1) := by decide +kernel
theorem d_Mo_bitsOf_7 : decode prog_9_method_14_code 7 = .ok (.iaload, 1) := by decide +kernel
theorem d_Mo_bitsOf_8 : decode prog_9_method_14_code 8 = .ok (.imul, 1) := by decide +kernel
theorem d_Mo_bitsOf_9 : decode prog_9_method_14_code 9 = .ok (.istore_n 2, 1) := by decide +kernel
theorem d_Mo_bitsOf_10 : decode prog_9_method_14_code 10 = .ok (.iload_n 2, 1) := by decide +kernel
theorem d_Mo_bitsOf_11 : decode prog_9_method_14_code 11 = .ok (.ifCond .le 37, 3) := by decide +kernel
theorem d_Mo_bitsOf_14 : decode prog_9_method_14_code 14 = .ok (.aload_n 0, 1) := by decide +kernel
theorem d_Mo_bitsOf_15 : decode prog_9_method_14_code 15 = .ok (.getfield 7, 3) := by decide +kernel
theorem d_Mo_bitsOf_18 : decode prog_9_method_14_code 18 = .ok (.bipush 64, 2) := by decide +kernel
theorem d_Mo_bitsOf_20 : decode prog_9_method_14_code 20 = .ok (.iload_n 1, 1) := by decide +kernel
theorem d_Mo_bitsOf_21 : decode prog_9_method_14_code 21 = .ok (.imul, 1) := by decide +kernel
theorem d_Mo_bitsOf_22 : decode prog_9_method_14_code 22 = .ok (.iload_n 2, 1) := by decide +kernel
theorem d_Mo_bitsOf_23 : decode prog_9_method_14_code 23 = .ok (.iconst 1, 1) := by decide +kernel
theorem d_Mo_bitsOf_24 : decode prog_9_method_14_code 24 = .ok (.isub, 1) := by decide +kernel
theorem d_Mo_bitsOf_25 : decode prog_9_method_14_code 25 = .ok (.bipush 32, 2) := by decide +kernel
theorem d_Mo_bitsOf_27 : decode prog_9_method_14_code 27 = .ok (.idiv, 1) := by decide +kernel
theorem d_Mo_bitsOf_28 : decode prog_9_method_14_code 28 = .ok (.iadd, 1) := by decide +kernel
theorem d_Mo_bitsOf_29 : decode prog_9_method_14_code 29 = .ok (.iaload, 1) := by decide +kernel
theorem d_Mo_bitsOf_30 : decode prog_9_method_14_code 30 = .ok (.iload_n 2, 1) := by decide +kernel
theorem d_Mo_bitsOf_31 : decode prog_9_method_14_code 31 = .ok (.iconst 1, 1) := by decide +kernel
theorem d_Mo_bitsOf_32 : decode prog_9_method_14_code 32 = .ok (.isub, 1) := by decide +kernel
theorem d_Mo_bitsOf_33 : decode prog_9_method_14_code 33 = .ok (.bipush 32, 2) := by decide +kernel
theorem d_Mo_bitsOf_35 : decode prog_9_method_14_code 35 = .ok (.irem, 1) := by decide +kernel
theorem d_Mo_bitsOf_36 : decode prog_9_method_14_code 36 = .ok (.iushr, 1) := by decide +kernel
theorem d_Mo_bitsOf_37 : decode prog_9_method_14_code 37 = .ok (.iconst 1, 1) := by decide +kernel
theorem d_Mo_bitsOf_38 : decode prog_9_method_14_code 38 = .ok (.iand, 1) := by decide +kernel
theorem d_Mo_bitsOf_39 : decode prog_9_method_14_code 39 = .ok (.ifCond .ne 9, 3) := by decide +kernel
theorem d_Mo_bitsOf_42 : decode prog_9_method_14_code 42 = .ok (.iinc 2 (-1), 3) := by decide +kernel
theorem d_Mo_bitsOf_45 : decode prog_9_method_14_code 45 = .ok (.goto (-35), 3) := by decide +kernel
theorem d_Mo_bitsOf_48 : decode prog_9_method_14_code 48 = .ok (.iload_n 2, 1) := by decide +kernel
theorem d_Mo_bitsOf_49 : decode prog_9_method_14_code 49 = .ok (.ireturn, 1) := by decide +kernel
set_option maxHeartbeats 8000000 in
set_option maxRecDepth 100000 in
theorem c_Mo_bitsOf (l : Launch) (D : va_G) (cs : Nat → ClassId) (L : List Nat) (f : Nat → va_E) (sz : Nat) (y m1 m2 m3 m5 m6 m7 m8 m9 m10 m11 m12 m13 m15 : Nat) (th pn rw_ fu fb : Int) (lm mn sn Z : Nat → Int) (x : Nat) (hF : Fc L [y, m1, m2, m3]) (ha : f y = .inr (7, [.int (iI th), .ref m1, .ref m2, .ref m3, .int (iI pn), .ref m5, .ref m6, .ref m7, .ref m8, .ref m9, .ref m10, .ref m11, .ref m12, .ref m13, .int (iI rw_), .ref m15, .long (lI fu), .long (lI fb)])) (hm1 : f m1 = .inl (cs 0, 11520, .inl (ai lm))) (hm2 : f m2 = .inl (cs 0, 180, .inl (ai mn))) (hm3 : f m3 = .inl (cs 0, 180, .inl (ai sn))) (hRS : RS lm mn sn Z) (hx8 : x < 180) : Met l (⟨"RealRootsModel", "bitsOf", "(I)I"⟩ : MethodName) (.code (⟨"RealRootsModel", "bitsOf", "(I)I"⟩ : MethodName) prog_9_method_14_code 3 (Option.some Jvm.ClassFile.FieldType.int) :: gw) ({ frames := 0, cells := 0, slots := 0, locals := 0 }) (va_Pc [.ref y, .int (iI ((x : Int)))] (K0 D vwCl (TY cs) L f sz)) (va_Qi (fun (r : Int32) (g : Nat → va_E) => ∃ n : Nat, r = iI (n : Int) ∧ n ≤ 2048 ∧ ((Z x).natAbs : Int) < 2 ^ n ∧ (n = 0 ∨ 2 ^ (n - 1) ≤ ((Z x).natAbs : Int)) ∧ g = f) (K1 D vwCl (TY cs) (AL L sz) L) (AL L sz)) 0 0 (AL L sz) := by
  refine Met.ofW (cc := prog_9_method_14_code) (maxL := 3) (ret := (Option.some Jvm.ClassFile.FieldType.int)) (by decide) rfl ?_
  intro p e s m args below meth c s₁ Bd hml hv
  obtain ⟨rfl, hk0⟩ := hv
  obtain ⟨hsz, B⟩ := hk0.start
  subst hsz
  have hx := Bd.exec
  have hb := Bd.bytes
  have hr := Bd.returns
  have hlocks := Bd.notSynchronized
  have hts0 := atoms_spec Bd.pre
  have hown : s.vm.findClass RX7 = some m.cls := findClass_of_methodNamed Bd.named
  have hA : ∀ q, s.heap.size ≤ q → AL L s.heap.size q := fun _ h => Or.inr h
  have hl := lv_entry ([.ref y, .int (iI ((x : Int)))]) (n := 3) (Nat.le_of_ble_eq_true rfl)
  rw [lg_entry_eq]
  generalize (lg_sl ([.ref y, .int (iI ((x : Int)))]) ++ List.replicate (3 - (lg_sl ([.ref y, .int (iI ((x : Int)))])).length) Slot.unset).toArray = ls at hl ⊢
  refine absQ (fun Q R av hQ hR hav => ?_)
  have hts : ∀ w ∈ gw, w.before av s = true := by rw [hav]; exact fun w h => hts0 w (List.mem_cons_of_mem _ h)
  have hRf : R.frames = 0 := by rw [hR]; rfl
  have hRl : R.locals = 0 := by rw [hR]; rfl
  have hRc : R.cells = 0 := by rw [hR]; rfl
  have hRs : R.slots = 0 := by rw [hR]; rfl
  clear hR hts0 Bd
  have hl : lv_has ls 3 [(0, .ref y), (1, .int (iI ((x : Int))))] := hl
  obtain ⟨nx, hnx, hn8, hMx, htx, hvx⟩ := (hRS x hx8).nat
  have hfx : ∀ q ∈ ([(y, .inr (7, [.int (iI th), .ref m1, .ref m2, .ref m3, .int (iI pn), .ref m5, .ref m6, .ref m7, .ref m8, .ref m9, .ref m10, .ref m11, .ref m12, .ref m13, .int (iI rw_), .ref m15, .long (lI fu), .long (lI fb)])), (m1, .inl (cs 0, 11520, .inl (ai lm))), (m2, .inl (cs 0, 180, .inl (ai mn))), (m3, .inl (cs 0, 180, .inl (ai sn)))] : List (Nat × va_E)), f q.1 = q.2 := fun q hq => by
    simp only [List.mem_cons, List.not_mem_nil, or_false] at hq
    rcases hq with rfl | rfl | rfl | rfl
    · exact ha
    · exact hm1
    · exact hm2
    · exact hm3
  have hmw : mw f [(y, .inr (7, [.int (iI th), .ref m1, .ref m2, .ref m3, .int (iI pn), .ref m5, .ref m6, .ref m7, .ref m8, .ref m9, .ref m10, .ref m11, .ref m12, .ref m13, .int (iI rw_), .ref m15, .long (lI fu), .long (lI fb)])), (m1, .inl (cs 0, 11520, .inl (ai lm))), (m2, .inl (cs 0, 180, .inl (ai mn))), (m3, .inl (cs 0, 180, .inl (ai sn)))] = f := mw_self (fun k a e hk => hfx (a, e) (List.mem_of_getElem? hk))
  have B := B.focus [(y, .inr (7, [.int (iI th), .ref m1, .ref m2, .ref m3, .int (iI pn), .ref m5, .ref m6, .ref m7, .ref m8, .ref m9, .ref m10, .ref m11, .ref m12, .ref m13, .int (iI rw_), .ref m15, .long (lI fu), .long (lI fb)])), (m1, .inl (cs 0, 11520, .inl (ai lm))), (m2, .inl (cs 0, 180, .inl (ai mn))), (m3, .inl (cs 0, 180, .inl (ai sn)))] hfx
  refine x_bipush hx hb d_Mo_bitsOf_0 (by decide) ?_
  refine lv_aload_n hx hb d_Mo_bitsOf_2 rfl (lv_at hl 0 rfl) ?_
  refine x_get (C := RX7) (T := TX7) (N := 18) hx hb hts inX7 hown B hF 0 rfl rfl 2 (by decide) (hts _ w_679) (fun _ h9 => h9) rfl d_Mo_bitsOf_3 ?_
  refine lv_iload_n hx hb d_Mo_bitsOf_6 rfl (lv_at hl 1 rfl) ?_
  refine x_iald hx hb B hF 2 0 rfl rfl x (by omega) (by omega) (by decide) d_Mo_bitsOf_7 ?_
  refine x_imul hx hb d_Mo_bitsOf_8 ?_
  refine lv_istore_n (lv' := [(2, .int (iI (32 * (mn x)))), (0, .ref y), (1, .int (iI ((x : Int))))]) hx hb d_Mo_bitsOf_9 rfl hl (by decide) rfl (fun ls hl => ?_)
  have LP : ∀ (fuel : Nat) (n : Nat), n < fuel → (n ≤ 32 * nx) → (((Z x).natAbs : Int) < 2 ^ n) → ∀ (H : Heap) (locs : List Loc) (ls : Array Slot), Wb D vwCl (TY cs) L (mw f [(y, .inr (7, [.int (iI th), .ref m1, .ref m2, .ref m3, .int (iI pn), .ref m5, .ref m6, .ref m7, .ref m8, .ref m9, .ref m10, .ref m11, .ref m12, .ref m13, .int (iI rw_), .ref m15, .long (lI fu), .long (lI fb)])), (m1, .inl (cs 0, 11520, .inl (ai lm))), (m2, .inl (cs 0, 180, .inl (ai mn))), (m3, .inl (cs 0, 180, .inl (ai sn)))]) (AL L s.heap.size) s H locs → lv_has ls 3 [(2, .int (iI ((n : Int)))), (0, .ref y), (1, .int (iI ((x : Int))))] → W p l e R s m av below meth c H locs (0) (0) Q (F0 m 10 ls []) := by
    intro fuel
    induction fuel with
    | zero => intro n hfu; exact absurd hfu (Nat.not_lt_zero _)
    | succ fuel ih_LP =>
      intro n hfu_LP hn hV H locs ls B hl
      refine lv_iload_n hx hb d_Mo_bitsOf_10 rfl (lv_at hl 0 rfl) ?_
      refine x_if_le (tgt := 48) hx hb d_Mo_bitsOf_11 (by decide) (by omega) (fun h11 => ?_) (fun h11 => ?_)
      · refine lv_iload_n hx hb d_Mo_bitsOf_48 rfl (lv_at hl 0 rfl) ?_
        have B := B.of_eq hmw
        subst hQ hav
        exact x_iret hx hb hr hlocks B d_Mo_bitsOf_49 (⟨n, rfl, by omega, hV, by first | exact Or.inl (by omega) | exact Or.inr (bits_top (by rw [← bit_of hMx hvx (by omega)]; exact h39) (by omega)), rfl⟩)
      · refine lv_aload_n hx hb d_Mo_bitsOf_14 rfl (lv_at hl 1 rfl) ?_
        refine x_get (C := RX7) (T := TX7) (N := 18) hx hb hts inX7 hown B hF 0 rfl rfl 1 (by decide) (hts _ w_678) (fun _ h9 => h9) rfl d_Mo_bitsOf_15 ?_
        refine x_bipush hx hb d_Mo_bitsOf_18 (by decide) ?_
        refine lv_iload_n hx hb d_Mo_bitsOf_20 rfl (lv_at hl 2 rfl) ?_
        refine x_imul hx hb d_Mo_bitsOf_21 ?_
        refine lv_iload_n hx hb d_Mo_bitsOf_22 rfl (lv_at hl 0 rfl) ?_
        refine x_iconst hx hb d_Mo_bitsOf_23 ?_
        refine x_isub hx hb d_Mo_bitsOf_24 ?_
        refine x_bipush hx hb d_Mo_bitsOf_25 (by decide) ?_
        refine x_idiv hx hb d_Mo_bitsOf_27 (by omega) (by omega) (by omega) ?_
        refine x_iadd hx hb d_Mo_bitsOf_28 ?_
        refine x_iald hx hb B hF 1 0 rfl rfl (64 * x + (n - 1) / 32) (by rw [Int.tdiv_eq_ediv_of_nonneg (by omega)]; omega) (by omega) (by decide) d_Mo_bitsOf_29 ?_
        refine lv_iload_n hx hb d_Mo_bitsOf_30 rfl (lv_at hl 0 rfl) ?_
        refine x_iconst hx hb d_Mo_bitsOf_31 ?_
        refine x_isub hx hb d_Mo_bitsOf_32 ?_
        refine x_bipush hx hb d_Mo_bitsOf_33 (by decide) ?_
        refine x_irem hx hb d_Mo_bitsOf_35 (by omega) (by omega) (by omega) ?_
        refine x_iushrv hx hb ((n - 1) % 32) (by rw [Int.tmod_eq_emod_of_nonneg (by omega)]; omega) (by omega) d_Mo_bitsOf_36 (hMx ((n - 1) / 32) (by omega)) ?_
        refine x_iconst hx hb d_Mo_bitsOf_37 ?_
        refine x_iand1 hx hb d_Mo_bitsOf_38 ?_
        refine x_if_ne (tgt := 48) hx hb d_Mo_bitsOf_39 (by decide) (by omega) (fun h39 => ?_) (fun h39 => ?_)
        · refine lv_iload_n hx hb d_Mo_bitsOf_48 rfl (lv_at hl 0 rfl) ?_
          have B := B.of_eq hmw
          subst hQ hav
          exact x_iret hx hb hr hlocks B d_Mo_bitsOf_49 (⟨n, rfl, by omega, hV, by first | exact Or.inl (by omega) | exact Or.inr (bits_top (by rw [← bit_of hMx hvx (by omega)]; exact h39) (by omega)), rfl⟩)
        · refine x_iinc (lv' := [(2, .int (iI (((n : Int)) + (-1)))), (0, .ref y), (1, .int (iI ((x : Int))))]) hx hb d_Mo_bitsOf_42 hl (q := 0) rfl rfl (by decide) rfl (fun ls hl => ?_)
          refine lv_goto (tgt := 10) hx hb d_Mo_bitsOf_45 (by decide) ?_
          rw [show (n : Int) + (-1) = ((n - 1 : Nat) : Int) by omega] at hl
          exact ih_LP (n - 1) (by omega) (by omega) (bits_down (n := n - 1) (by omega) (by rw [show n - 1 + 1 = n by omega]; exact hV) (by rw [← bit_of hMx hvx (by omega)]; exact h39)) _ _ _ B (lv_sub hl [0, 1, 2] rfl)
  rw [hnx] at hl
  exact LP _ (32 * nx) (Nat.lt_succ_self _) (by omega) (by rw [← Mp_pow, ← hvx]; exact (Ms_range hMx).2) _ _ _ B (lv_sub hl [0, 1, 2] rfl)
