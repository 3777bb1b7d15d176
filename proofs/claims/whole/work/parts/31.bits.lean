/-! bits of ints and longs by whole numbers -/
theorem lI_bv (a : Int) : (lI a).toBitVec = BitVec.ofInt 64 a := rfl
theorem iI_bv (a : Int) : (iI a).toBitVec = BitVec.ofInt 32 a := rfl
theorem lI_mask31 (a : Int) : lI a &&& lI 2147483647 = lI (a % 2147483648) := by
  apply Int64.toBitVec_inj.mp
  rw [Int64.toBitVec_and, lI_bv, lI_bv, lI_bv]
  apply BitVec.eq_of_toNat_eq
  rw [BitVec.toNat_and, BitVec.toNat_ofInt, BitVec.toNat_ofInt, BitVec.toNat_ofInt]
  rw [show ((2147483647 : Int) % ((2 ^ 64 : Nat) : Int)).toNat = 2 ^ 31 - 1 by decide, Nat.and_two_pow_sub_one_eq_mod]
  omega
theorem lI_mask32 (a : Int) : lI a &&& lI 4294967295 = lI (a % 4294967296) := by
  apply Int64.toBitVec_inj.mp
  rw [Int64.toBitVec_and, lI_bv, lI_bv, lI_bv]
  apply BitVec.eq_of_toNat_eq
  rw [BitVec.toNat_and, BitVec.toNat_ofInt, BitVec.toNat_ofInt, BitVec.toNat_ofInt]
  rw [show ((4294967295 : Int) % ((2 ^ 64 : Nat) : Int)).toNat = 2 ^ 32 - 1 by decide, Nat.and_two_pow_sub_one_eq_mod]
  omega
theorem lI_mask62 (a : Int) : lI a &&& lI 4611686018427387903 = lI (a % 4611686018427387904) := by
  apply Int64.toBitVec_inj.mp
  rw [Int64.toBitVec_and, lI_bv, lI_bv, lI_bv]
  apply BitVec.eq_of_toNat_eq
  rw [BitVec.toNat_and, BitVec.toNat_ofInt, BitVec.toNat_ofInt, BitVec.toNat_ofInt]
  rw [show ((4611686018427387903 : Int) % ((2 ^ 64 : Nat) : Int)).toNat = 2 ^ 62 - 1 by decide, Nat.and_two_pow_sub_one_eq_mod]
  omega
theorem iI_mask1 (a : Int) : iI a &&& iI 1 = iI (a % 2) := by
  apply Int32.toBitVec_inj.mp
  rw [Int32.toBitVec_and, iI_bv, iI_bv, iI_bv]
  apply BitVec.eq_of_toNat_eq
  rw [BitVec.toNat_and, BitVec.toNat_ofInt, BitVec.toNat_ofInt, BitVec.toNat_ofInt]
  rw [show ((1 : Int) % ((2 ^ 32 : Nat) : Int)).toNat = 2 ^ 1 - 1 by decide, Nat.and_two_pow_sub_one_eq_mod]
  omega
/-- an int without its sign, as a long -/
theorem iI_low (a : Int) : (iI a).toInt64 &&& lI 4294967295 = lI (a % 4294967296) := by
  rw [← lI_of (iI a).toInt64, Int32.toInt_toInt64, lI_mask32]
  congr 1
  have : (iI a).toInt = Int.bmod a 4294967296 := Int32.toInt_ofInt
  rw [this, Int.bmod_def]
  omega
theorem iI_wrap {a b : Int} (h : a % 4294967296 = b % 4294967296) : iI a = iI b := by
  apply Int32.toBitVec_inj.mp
  rw [iI_bv, iI_bv]
  apply BitVec.eq_of_toNat_eq
  rw [BitVec.toNat_ofInt, BitVec.toNat_ofInt]
  omega
theorem shl_amt : ∀ k : Fin 64, (iI (k : Nat)).toInt64 &&& 63 = lI (k : Nat) := by decide +kernel
theorem shu_amt : ∀ k : Fin 64, ((iI (k : Nat)).toInt64.toUInt64 &&& Int64.toUInt64 63).toNat = (k : Nat) := by decide +kernel
theorem shi_amt : ∀ k : Fin 32, iI (k : Nat) &&& 31 = iI (k : Nat) := by decide +kernel
theorem shl_mod : ∀ k : Fin 64, ((lI (k : Nat)).toBitVec.smod 64).toNat = (k : Nat) := by decide +kernel
theorem shi_mod : ∀ k : Fin 32, ((iI (k : Nat)).toBitVec.smod 32).toNat = (k : Nat) := by decide +kernel
theorem pow_big {k n : Nat} (h : k ≤ n) : (2 : Int) ^ k ≤ 2 ^ n := by
  have : (2 : Nat) ^ k ≤ 2 ^ n := Nat.pow_le_pow_right (by decide) h
  exact_mod_cast this
theorem pow_one_le (k : Nat) : (1 : Int) ≤ 2 ^ k := pow_big (Nat.zero_le k)
theorem div_pow_range {a : Int} {lo hi : Int} (k : Nat) (h : -lo ≤ a ∧ a < hi) (h0 : 0 ≤ lo) (h1 : 0 < hi) : -lo ≤ a / 2 ^ k ∧ a / 2 ^ k < hi := by
  have hp := pow_one_le k
  constructor
  · apply (Int.le_ediv_iff_mul_le (by omega)).mpr
    have := Int.mul_le_mul_of_nonneg_left hp h0
    rw [Int.neg_mul]
    omega
  · apply (Int.ediv_lt_iff_lt_mul (by omega)).mpr
    have := Int.mul_le_mul_of_nonneg_left hp (Int.le_of_lt h1)
    omega
theorem lI_shr {a : Int} (h : -9223372036854775808 ≤ a ∧ a < 9223372036854775808) {k : Nat} (hk : k < 64) : lI a >>> ((iI (k : Int)).toInt64 &&& 63) = lI (a / 2 ^ k) := by
  rw [show (iI (k : Int)).toInt64 &&& 63 = lI (k : Int) from shl_amt ⟨k, hk⟩]
  apply Int64.toInt_inj.mp
  rw [lI_toInt (div_pow_range k h (by decide) (by decide))]
  have e : (lI a >>> lI (k : Int)).toInt = ((lI a).toBitVec.sshiftRight' ((lI (k : Int)).toBitVec.smod 64)).toInt := rfl
  rw [e, BitVec.toInt_sshiftRight', show ((lI (k : Int)).toBitVec.smod 64).toNat = k from shl_mod ⟨k, hk⟩, Int.shiftRight_eq_div_pow]
  rw [show (lI a).toBitVec.toInt = a from lI_toInt h]
  simp
theorem iI_shr {a : Int} (h : -2147483648 ≤ a ∧ a < 2147483648) {k : Nat} (hk : k < 32) : iI a >>> (iI (k : Int) &&& 31) = iI (a / 2 ^ k) := by
  rw [show iI (k : Int) &&& 31 = iI (k : Int) from shi_amt ⟨k, hk⟩]
  apply Int32.toInt_inj.mp
  rw [iI_toInt (div_pow_range k h (by decide) (by decide))]
  have e : (iI a >>> iI (k : Int)).toInt = ((iI a).toBitVec.sshiftRight' ((iI (k : Int)).toBitVec.smod 32)).toInt := rfl
  rw [e, BitVec.toInt_sshiftRight', show ((iI (k : Int)).toBitVec.smod 32).toNat = k from shi_mod ⟨k, hk⟩, Int.shiftRight_eq_div_pow]
  rw [show (iI a).toBitVec.toInt = a from iI_toInt h]
  simp
theorem lI_shl (a : Int) {k : Nat} (hk : k < 64) : lI a <<< ((iI (k : Int)).toInt64 &&& 63) = lI (a * 2 ^ k) := by
  rw [show (iI (k : Int)).toInt64 &&& 63 = lI (k : Int) from shl_amt ⟨k, hk⟩]
  apply Int64.toBitVec_inj.mp
  have e : (lI a <<< lI (k : Int)).toBitVec = (lI a).toBitVec <<< ((lI (k : Int)).toBitVec.smod 64) := rfl
  rw [e, BitVec.shiftLeft_eq', show ((lI (k : Int)).toBitVec.smod 64).toNat = k from shl_mod ⟨k, hk⟩, lI_bv, lI_bv, BitVec.shiftLeft_eq_mul_twoPow, BitVec.ofInt_mul]
  congr 1
  apply BitVec.eq_of_toNat_eq
  rw [BitVec.toNat_twoPow, BitVec.toNat_ofInt]
  have : ((2 : Int) ^ k) = ((2 ^ k : Nat) : Int) := by simp
  rw [this, ← Int.natCast_emod, Int.toNat_natCast]
theorem iI_shl (a : Int) {k : Nat} (hk : k < 32) : iI a <<< (iI (k : Int) &&& 31) = iI (a * 2 ^ k) := by
  rw [show iI (k : Int) &&& 31 = iI (k : Int) from shi_amt ⟨k, hk⟩]
  apply Int32.toBitVec_inj.mp
  have e : (iI a <<< iI (k : Int)).toBitVec = (iI a).toBitVec <<< ((iI (k : Int)).toBitVec.smod 32) := rfl
  rw [e, BitVec.shiftLeft_eq', show ((iI (k : Int)).toBitVec.smod 32).toNat = k from shi_mod ⟨k, hk⟩, iI_bv, iI_bv, BitVec.shiftLeft_eq_mul_twoPow, BitVec.ofInt_mul]
  congr 1
  apply BitVec.eq_of_toNat_eq
  rw [BitVec.toNat_twoPow, BitVec.toNat_ofInt]
  have : ((2 : Int) ^ k) = ((2 ^ k : Nat) : Int) := by simp
  rw [this, ← Int.natCast_emod, Int.toNat_natCast]
theorem lI_ushr {a : Int} (h : 0 ≤ a ∧ a < 18446744073709551616) {k : Nat} (hk : k < 64) : ((lI a).toUInt64 >>> ((iI (k : Int)).toInt64.toUInt64 &&& Int64.toUInt64 63)).toInt64 = lI (a / 2 ^ k) := by
  apply Int64.toBitVec_inj.mp
  rw [UInt64.toBitVec_toInt64, UInt64.toBitVec_shiftRight, Int64.toBitVec_toUInt64, lI_bv, lI_bv]
  apply BitVec.eq_of_toNat_eq
  have hs := shu_amt ⟨k, hk⟩
  have hd := div_pow_range (a := a) (lo := 0) (hi := 18446744073709551616) k (by omega) (by decide) (by decide)
  have hm : (((iI (k : Int)).toInt64.toUInt64 &&& Int64.toUInt64 63).toBitVec % 64).toNat = k := by
    rw [BitVec.toNat_umod]
    have : ((iI (k : Int)).toInt64.toUInt64 &&& Int64.toUInt64 63).toBitVec.toNat = k := hs
    rw [this]
    exact Nat.mod_eq_of_lt hk
  rw [BitVec.ushiftRight_eq', hm, BitVec.toNat_ushiftRight, BitVec.toNat_ofInt, BitVec.toNat_ofInt, Nat.shiftRight_eq_div_pow]
  rw [show (a % ((2 ^ 64 : Nat) : Int)) = a by omega, Int.emod_eq_of_lt (show (0 : Int) ≤ a / (2 : Int) ^ k by omega) (show a / (2 : Int) ^ k < ((2 ^ 64 : Nat) : Int) by omega)]
  obtain ⟨b, rfl⟩ : ∃ b : Nat, a = b := ⟨a.toNat, by omega⟩
  have : ((2 : Int) ^ k) = ((2 ^ k : Nat) : Int) := by simp
  rw [this, ← Int.natCast_ediv, Int.toNat_natCast, Int.toNat_natCast]
/-- two parts that share no bit -/
theorem lI_or {a b : Int} {k : Nat} (hb : 0 ≤ b ∧ b < 2 ^ k) (ha : 0 ≤ a * 2 ^ k) (hs : a * 2 ^ k + b < 18446744073709551616) : lI (a * 2 ^ k) ||| lI b = lI (a * 2 ^ k + b) := by
  apply Int64.toBitVec_inj.mp
  rw [Int64.toBitVec_or, lI_bv, lI_bv, lI_bv]
  apply BitVec.eq_of_toNat_eq
  have hp := pow_one_le k
  rw [BitVec.toNat_or, BitVec.toNat_ofInt, BitVec.toNat_ofInt, BitVec.toNat_ofInt]
  rw [show (a * 2 ^ k % ((2 ^ 64 : Nat) : Int)) = a * 2 ^ k by omega, show (b % ((2 ^ 64 : Nat) : Int)) = b by omega, show ((a * 2 ^ k + b) % ((2 ^ 64 : Nat) : Int)) = a * 2 ^ k + b by omega]
  have ha0 : 0 ≤ a := by
    by_cases h : 0 ≤ a
    · exact h
    · have := Int.mul_neg_of_neg_of_pos (show a < 0 by omega) (show 0 < (2 : Int) ^ k by omega)
      omega
  obtain ⟨x, rfl⟩ : ∃ x : Nat, a = x := ⟨a.toNat, by omega⟩
  obtain ⟨y, rfl⟩ : ∃ y : Nat, b = y := ⟨b.toNat, by omega⟩
  have hpk : ((2 : Int) ^ k) = ((2 ^ k : Nat) : Int) := by simp
  rw [hpk] at hb ⊢
  rw [← Int.natCast_mul, ← Int.natCast_add, Int.toNat_natCast, Int.toNat_natCast, Int.toNat_natCast, Nat.mul_comm]
  exact (Nat.two_pow_add_eq_or_of_lt (by omega) x).symm
theorem shift_trim {g x : Nat → Int} {n s p k b : Nat} {z : Int} (hI : ShI g n s p k x) (hk : k = n - s) (hb : b = 31 * s + p) (hg : Lb g n) (hv : Bs g n = (z.natAbs : Int)) (hn : n ≤ 48) : TrimI k x ((z.natAbs : Int) / 2 ^ b) := by
  have e : Bp s * 2 ^ p = (2 : Int) ^ b := by rw [Bp_pow, ← Int.pow_add, hb]
  by_cases hs : s ≤ n
  · refine ⟨by omega, hI.1, ?_⟩
    rw [hk] at hI ⊢
    rw [hI.last hg hs, e, hv]
  · have h0 : k = 0 := by omega
    refine ⟨by omega, hI.1, ?_⟩
    rw [h0, Bs_zero, ← hv, ← e]
    have h1 := Bs_range hg
    have h2 := Bp_le (show n ≤ s by omega)
    have h3 := Int.mul_le_mul_of_nonneg_left (pow_one_le p) (Int.le_of_lt (Bp_pos s))
    exact (Int.ediv_eq_zero_of_lt h1.1 (by omega)).symm
theorem over_fin {za zb o : Int} {t : Nat} {iv : Int} (hb : zb = 2 ^ t * o) (ho : o % 2 = 1) (hd : zb ∣ za) (hiv : (4611686018427387904 : Int) ∣ 1 - ((zb.tdiv (2 ^ t)).natAbs : Int) % 4611686018427387904 * iv) : (((za.tdiv (2 ^ t)).natAbs : Int) % 4611686018427387904 * iv) % 4611686018427387904 = ((za / zb).natAbs : Int) % 4611686018427387904 := by
  have hp := pow_pos2 t
  obtain ⟨q, hq⟩ := hd
  have hb0 : zb ≠ 0 := by
    rw [hb]
    exact Int.mul_ne_zero (by omega) (by omega)
  have e1 : zb.tdiv (2 ^ t) = o := by rw [hb, Int.mul_tdiv_cancel_left _ (by omega)]
  have e2 : za.tdiv (2 ^ t) = o * q := by rw [hq, hb, Int.mul_assoc, Int.mul_tdiv_cancel_left _ (by omega)]
  have e3 : za / zb = q := by rw [hq, Int.mul_ediv_cancel_left _ hb0]
  rw [e1] at hiv
  rw [e2, e3]
  exact inv_quot (o := (o.natAbs : Int) % 4611686018427387904) (o' := (o.natAbs : Int)) (z' := ((o * q).natAbs : Int)) (q := (q.natAbs : Int)) (by rw [Int.natAbs_mul, Int.natCast_mul, Int.mul_comm]) rfl rfl hiv
section XB
variable {p : Program} {l : Launch} {e : Env} {R : Room} {s : State} {m : MethodId} {args : Array Value} {below : List Frame} {meth : Method} {c : Code} {H : Heap} {locs : List Loc} {cells slots : Nat} {Q : State → Prop}
variable {cc : ByteArray} {pc : Nat} {ls : Array Slot} {rest : List Value}
theorem x_land31 (hx : p.tables.exec = Jvm.exec) (hb : c.code = cc) {a : Int} (hd : decode cc pc = .ok (.land, 1)) (k : W p l e R s m args below meth c H locs cells slots Q (F0 m (pc + 1) ls (.long (lI (a % 2147483648)) :: rest))) : W p l e R s m args below meth c H locs cells slots Q (F0 m pc ls (.long (lI 2147483647) :: .long (lI a) :: rest)) := lv_land hx hb hd (by rw [lI_mask31]; exact k)
theorem x_land32 (hx : p.tables.exec = Jvm.exec) (hb : c.code = cc) {a : Int} (hd : decode cc pc = .ok (.land, 1)) (k : W p l e R s m args below meth c H locs cells slots Q (F0 m (pc + 1) ls (.long (lI (a % 4294967296)) :: rest))) : W p l e R s m args below meth c H locs cells slots Q (F0 m pc ls (.long (lI 4294967295) :: .long (lI a) :: rest)) := lv_land hx hb hd (by rw [lI_mask32]; exact k)
theorem x_land62 (hx : p.tables.exec = Jvm.exec) (hb : c.code = cc) {a : Int} (hd : decode cc pc = .ok (.land, 1)) (k : W p l e R s m args below meth c H locs cells slots Q (F0 m (pc + 1) ls (.long (lI (a % 4611686018427387904)) :: rest))) : W p l e R s m args below meth c H locs cells slots Q (F0 m pc ls (.long (lI 4611686018427387903) :: .long (lI a) :: rest)) := lv_land hx hb hd (by rw [lI_mask62]; exact k)
theorem x_iand1 (hx : p.tables.exec = Jvm.exec) (hb : c.code = cc) {a : Int} (hd : decode cc pc = .ok (.iand, 1)) (k : W p l e R s m args below meth c H locs cells slots Q (F0 m (pc + 1) ls (.int (iI (a % 2)) :: rest))) : W p l e R s m args below meth c H locs cells slots Q (F0 m pc ls (.int (iI 1) :: .int (iI a) :: rest)) := lv_iand hx hb hd (by rw [iI_mask1]; exact k)
theorem x_lshr31 (hx : p.tables.exec = Jvm.exec) (hb : c.code = cc) {a : Int} (hd : decode cc pc = .ok (.lshr, 1)) (h1 : -9223372036854775808 ≤ a ∧ a < 9223372036854775808) (k : W p l e R s m args below meth c H locs cells slots Q (F0 m (pc + 1) ls (.long (lI (a / 2147483648)) :: rest))) : W p l e R s m args below meth c H locs cells slots Q (F0 m pc ls (.int (iI 31) :: .long (lI a) :: rest)) := lv_lshr hx hb hd (lI_shr (k := 31) h1 (by decide)) k
theorem x_lushr31 (hx : p.tables.exec = Jvm.exec) (hb : c.code = cc) {a : Int} (hd : decode cc pc = .ok (.lushr, 1)) (h1 : 0 ≤ a ∧ a < 9223372036854775808) (k : W p l e R s m args below meth c H locs cells slots Q (F0 m (pc + 1) ls (.long (lI (a / 2147483648)) :: rest))) : W p l e R s m args below meth c H locs cells slots Q (F0 m pc ls (.int (iI 31) :: .long (lI a) :: rest)) := lv_lushr hx hb hd (lI_ushr (k := 31) (by omega) (by decide)) k
theorem x_lshl31 (hx : p.tables.exec = Jvm.exec) (hb : c.code = cc) {a : Int} (hd : decode cc pc = .ok (.lshl, 1)) (k : W p l e R s m args below meth c H locs cells slots Q (F0 m (pc + 1) ls (.long (lI (a * 2147483648)) :: rest))) : W p l e R s m args below meth c H locs cells slots Q (F0 m pc ls (.int (iI 31) :: .long (lI a) :: rest)) := lv_lshl hx hb hd (lI_shl (k := 31) a (by decide)) k
theorem x_lor31 (hx : p.tables.exec = Jvm.exec) (hb : c.code = cc) {a b : Int} (hd : decode cc pc = .ok (.lor, 1)) (h1 : 0 ≤ b ∧ b < 2147483648) (h2 : 0 ≤ a ∧ a < 4294967296) (k : W p l e R s m args below meth c H locs cells slots Q (F0 m (pc + 1) ls (.long (lI (a * 2147483648 + b)) :: rest))) : W p l e R s m args below meth c H locs cells slots Q (F0 m pc ls (.long (lI b) :: .long (lI (a * 2147483648)) :: rest)) := lv_lor hx hb hd (by rw [show lI (a * 2147483648) ||| lI b = lI (a * 2147483648 + b) from lI_or (k := 31) (b := b) (a := a) (by omega) (by omega) (by omega)]; exact k)
theorem x_lshrv (hx : p.tables.exec = Jvm.exec) (hb : c.code = cc) {a n : Int} (q : Nat) (hn : n = (q : Int)) (hq : q < 64) (hd : decode cc pc = .ok (.lshr, 1)) (h1 : -9223372036854775808 ≤ a ∧ a < 9223372036854775808) (k : W p l e R s m args below meth c H locs cells slots Q (F0 m (pc + 1) ls (.long (lI (a / 2 ^ q)) :: rest))) : W p l e R s m args below meth c H locs cells slots Q (F0 m pc ls (.int (iI n) :: .long (lI a) :: rest)) := by subst hn; exact lv_lshr hx hb hd (lI_shr h1 hq) k
theorem x_ishrv (hx : p.tables.exec = Jvm.exec) (hb : c.code = cc) {a n : Int} (q : Nat) (hn : n = (q : Int)) (hq : q < 32) (hd : decode cc pc = .ok (.ishr, 1)) (h1 : -2147483648 ≤ a ∧ a < 2147483648) (k : W p l e R s m args below meth c H locs cells slots Q (F0 m (pc + 1) ls (.int (iI (a / 2 ^ q)) :: rest))) : W p l e R s m args below meth c H locs cells slots Q (F0 m pc ls (.int (iI n) :: .int (iI a) :: rest)) := by subst hn; exact lv_ishr hx hb hd (by rw [iI_shr h1 hq]; exact k)
theorem x_lshlv (hx : p.tables.exec = Jvm.exec) (hb : c.code = cc) {a n : Int} (q : Nat) (hn : n = (q : Int)) (hq : q < 64) (hd : decode cc pc = .ok (.lshl, 1)) (k : W p l e R s m args below meth c H locs cells slots Q (F0 m (pc + 1) ls (.long (lI (a * 2 ^ q)) :: rest))) : W p l e R s m args below meth c H locs cells slots Q (F0 m pc ls (.int (iI n) :: .long (lI a) :: rest)) := by subst hn; exact lv_lshl hx hb hd (lI_shl a hq) k
theorem x_ishlv (hx : p.tables.exec = Jvm.exec) (hb : c.code = cc) {a n : Int} (q : Nat) (hn : n = (q : Int)) (hq : q < 32) (hd : decode cc pc = .ok (.ishl, 1)) (k : W p l e R s m args below meth c H locs cells slots Q (F0 m (pc + 1) ls (.int (iI (a * 2 ^ q)) :: rest))) : W p l e R s m args below meth c H locs cells slots Q (F0 m pc ls (.int (iI n) :: .int (iI a) :: rest)) := by subst hn; exact lv_ishl hx hb hd (by rw [iI_shl a hq]; exact k)
end XB
theorem mw_tail {f : Nat → va_E} {X Y : List (Nat × va_E)} (h : ∀ q ∈ Y, f q.1 = q.2) : mw f (X ++ Y) = mw f X := by
  rw [← mw_app, mw_self (fun k a e hk => h (a, e) (List.mem_of_getElem? hk))]
theorem mw_put2 {f : Nat → va_E} {X : List (Nat × va_E)} (hN : (X.map Prod.fst).Nodup) {k1 k2 a b : Nat} {e0 e e1 e2 : va_E} (h1 : X[k1]? = some (a, e0)) (h2 : (X.set k1 (a, e))[k2]? = some (b, e1)) : mw (mw f X) [(b, e2), (a, e)] = mw f ((X.set k1 (a, e)).set k2 (b, e2)) := by
  have hk : (X.set k1 (a, e)).map Prod.fst = X.map Prod.fst := by
    rw [List.map_set]
    exact List.ext_getElem? (fun i => by
      rw [List.getElem?_set]
      split
      · rename_i hi
        subst hi
        rw [List.getElem?_map, h1]
        have : k1 < X.length := by
          rw [List.getElem?_eq_some_iff] at h1
          exact h1.1
        simp [this]
      · rfl)
  rw [mw_set (by rw [hk]; exact hN) h2, mw_set hN h1]
  rfl
theorem sgn_mul {sa sb a b : Int} (ha : (sa = 1 ∧ 0 < a) ∨ (sa = 0 ∧ a = 0) ∨ (sa = -1 ∧ a < 0)) (hb : (sb = 1 ∧ 0 < b) ∨ (sb = 0 ∧ b = 0) ∨ (sb = -1 ∧ b < 0)) : -1 ≤ sa * sb ∧ sa * sb ≤ 1 := by
  rcases ha with ⟨rfl, _⟩ | ⟨rfl, _⟩ | ⟨rfl, _⟩ <;> rcases hb with ⟨rfl, _⟩ | ⟨rfl, _⟩ | ⟨rfl, _⟩ <;> decide
theorem sgn_zero {sa sb a b : Int} (ha : (sa = 1 ∧ 0 < a) ∨ (sa = 0 ∧ a = 0) ∨ (sa = -1 ∧ a < 0)) (hb : (sb = 1 ∧ 0 < b) ∨ (sb = 0 ∧ b = 0) ∨ (sb = -1 ∧ b < 0)) (h : sa * sb = 0) : a * b = 0 := by
  rcases ha with ⟨rfl, _⟩ | ⟨rfl, h1⟩ | ⟨rfl, _⟩ <;> rcases hb with ⟨rfl, _⟩ | ⟨rfl, h2⟩ | ⟨rfl, _⟩ <;> simp_all
theorem sgn_nonzero {sa sb a b : Int} (ha : (sa = 1 ∧ 0 < a) ∨ (sa = 0 ∧ a = 0) ∨ (sa = -1 ∧ a < 0)) (hb : (sb = 1 ∧ 0 < b) ∨ (sb = 0 ∧ b = 0) ∨ (sb = -1 ∧ b < 0)) (h : sa * sb ≠ 0) : a * b ≠ 0 := by
  rcases ha with ⟨rfl, h1⟩ | ⟨rfl, h1⟩ | ⟨rfl, h1⟩ <;> rcases hb with ⟨rfl, h2⟩ | ⟨rfl, h2⟩ | ⟨rfl, h2⟩ <;> simp_all <;> omega
