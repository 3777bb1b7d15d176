theorem mod_mul' {V a b : Int} (hV : 0 ≤ V) (ha : 0 < a) (hb : 0 < b) : V % (a * b) = V % a + a * (V / a % b) := by
  obtain ⟨v, rfl⟩ := Int.eq_ofNat_of_zero_le hV
  obtain ⟨x, rfl⟩ := Int.eq_ofNat_of_zero_le (Int.le_of_lt ha)
  obtain ⟨y, rfl⟩ := Int.eq_ofNat_of_zero_le (Int.le_of_lt hb)
  exact_mod_cast Nat.mod_mul (x := v) (a := x) (b := y)
theorem Ms_mod {g : Nat → Int} {n w : Nat} {V : Int} (hg : Mb g n) (hv : Ms g n = V) : V / Mp w % 4294967296 = mAt g n w := by
  unfold mAt
  split
  · rename_i hw
    have h1 := Ms_split g w (n - w)
    rw [show w + (n - w) = n by omega, hv] at h1
    obtain ⟨m, hm⟩ : ∃ m, n - w = m + 1 := ⟨n - w - 1, by omega⟩
    have h2 : Ms (fun j => g (j + w)) (n - w) = g w + 4294967296 * Ms (fun j => g (j + w + 1)) m := by
      have := Ms_split (fun j => g (j + w)) 1 m
      rw [hm, Nat.add_comm m 1, this, Ms_succ, Ms_zero, Mp_zero]
      rw [show Mp 1 = 4294967296 from rfl, show (fun j => g (j + 1 + w)) = (fun j => g (j + w + 1)) from funext (fun j => by rw [Nat.add_right_comm])]
      simp
    have r := Ms_range (hg.le (show w ≤ n by omega))
    have e2 : V / Mp w = g w + 4294967296 * Ms (fun j => g (j + w + 1)) m := by
      rw [h1, h2, Int.add_mul_ediv_left _ _ (by have := Mp_pos w; omega), Int.ediv_eq_zero_of_lt r.1 r.2, Int.zero_add]
    rw [e2]
    have := hg w hw
    omega
  · rename_i hw
    have r := Ms_range hg
    have := Mp_le (show n ≤ w by omega)
    rw [Int.ediv_eq_zero_of_lt (by omega) (by omega)]
    rfl
theorem Ms_div {g : Nat → Int} {n : Nat} (w : Nat) {V : Int} (hg : Mb g n) (hv : Ms g n = V) : V / Mp w = mAt g n w + 4294967296 * (V / Mp (w + 1)) := by
  rw [← Ms_mod (w := w) hg hv, Mp_succ, Int.mul_comm 4294967296 (Mp w), ← Int.ediv_ediv_of_nonneg (Int.le_of_lt (Mp_pos w))]
  omega
theorem down_val {g : Nat → Int} {n w b : Nat} {V : Int} (hg : Mb g n) (hv : Ms g n = V) (hb : b < 32) (hV : V / 2 ^ (32 * w + b) < 9223372036854775808) : (b = 0 → mAt g n (w + 1) * 2 ^ 32 + mAt g n w = V / 2 ^ (32 * w + b)) ∧ (0 < b → mAt g n (w + 2) * 2 ^ (64 - b) + mAt g n (w + 1) * 2 ^ (32 - b) + mAt g n w / 2 ^ b = V / 2 ^ (32 * w + b)) := by
  have r := Ms_range hg
  have hp := Mp_pos w
  have e0 : V / 2 ^ (32 * w + b) = V / Mp w / 2 ^ b := by rw [Int.pow_add, ← Mp_pow, Int.ediv_ediv_of_nonneg (Int.le_of_lt hp)]
  have d0 := Ms_div w hg hv
  have d1 := Ms_div (w + 1) hg hv
  have d2 := Ms_div (w + 2) hg hv
  have m0 := mAt_range hg w
  have m1 := mAt_range hg (w + 1)
  have m2 := mAt_range hg (w + 2)
  rw [show w + 1 + 1 = w + 2 by omega] at d1
  rw [show w + 2 + 1 = w + 3 by omega] at d2
  have hY : 0 ≤ V / Mp (w + 3) := Int.ediv_nonneg (by omega) (Int.le_of_lt (Mp_pos _))
  have pb : (0 : Int) < 2 ^ b := pw2 b
  have hX : V / Mp w < 9223372036854775808 * 2 ^ b := by
    rw [e0] at hV
    have := (Int.ediv_lt_iff_lt_mul pb).mp hV
    exact this
  have pb2 : (2 : Int) ^ b ≤ 2 ^ 31 := pow_big (by omega)
  have p31 : (2 : Int) ^ 31 = 2147483648 := rfl
  have hY0 : V / Mp (w + 3) = 0 := by omega
  rw [hY0] at d2
  rw [e0]
  constructor
  · intro h0
    subst h0
    rw [Int.pow_zero] at hX ⊢
    rw [Int.ediv_one]
    have : mAt g n (w + 2) = 0 := by omega
    have p32 : (2 : Int) ^ 32 = 4294967296 := rfl
    rw [p32]
    omega
  · intro h0
    have e1 : (4294967296 : Int) = 2 ^ b * 2 ^ (32 - b) := by rw [← Int.pow_add, show b + (32 - b) = 32 by omega]; rfl
    have e2 : (2 : Int) ^ (64 - b) = 4294967296 * 2 ^ (32 - b) := by rw [show 64 - b = 32 + (32 - b) by omega, Int.pow_add]; rfl
    have e3 : V / Mp w = mAt g n w + 2 ^ b * (2 ^ (32 - b) * (mAt g n (w + 1) + 4294967296 * mAt g n (w + 2))) := by
      rw [d0, d1, d2, ← Int.mul_assoc, ← e1]
      omega
    rw [e3, Int.add_mul_ediv_left _ _ (by omega), e2]
    grind
theorem low_zero {g : Nat → Int} {n : Nat} {V : Int} (hg : Mb g n) (hv : Ms g n = V) : ∀ w, V % Mp w = 0 ↔ ∀ j, j < w → mAt g n j = 0 := by
  have r := Ms_range hg
  intro w
  induction w with
  | zero => rw [Mp_zero]; simp
  | succ w ih =>
    have hp := Mp_pos w
    have e : V % Mp (w + 1) = V % Mp w + Mp w * mAt g n w := by
      rw [Mp_succ, Int.mul_comm, mod_mul' (by omega) hp (by decide), Ms_mod hg hv]
    have h1 := Int.emod_nonneg V (show Mp w ≠ 0 by omega)
    have m0 := mAt_range hg w
    have h2 : 0 ≤ Mp w * mAt g n w := Int.mul_nonneg (by omega) m0.1
    rw [e]
    constructor
    · intro h j hj
      have h3 : V % Mp w = 0 := by omega
      have h4 : Mp w * mAt g n w = 0 := by omega
      by_cases hjw : j = w
      · rw [hjw]
        rcases Int.mul_eq_zero.mp h4 with h5 | h5
        · omega
        · exact h5
      · exact ih.mp h3 j (by omega)
    · intro h
      rw [ih.mpr (fun j hj => h j (by omega)), h w (by omega)]
      simp
theorem down_any {g : Nat → Int} {n w b : Nat} {V : Int} (hg : Mb g n) (hv : Ms g n = V) (hb : b < 32) : V % 2 ^ (32 * w + b) = 0 ↔ (∀ j, j < w → mAt g n j = 0) ∧ mAt g n w % 2 ^ b = 0 := by
  have r := Ms_range hg
  have hp := Mp_pos w
  have pb : (0 : Int) < 2 ^ b := pw2 b
  have e1 : (4294967296 : Int) = 2 ^ b * 2 ^ (32 - b) := by rw [← Int.pow_add, show b + (32 - b) = 32 by omega]; rfl
  have e2 : V / Mp w % 2 ^ b = mAt g n w % 2 ^ b := by
    rw [Ms_div w hg hv, e1, Int.mul_assoc, Int.add_mul_emod_self_left]
  have e : V % 2 ^ (32 * w + b) = V % Mp w + Mp w * (mAt g n w % 2 ^ b) := by
    rw [Int.pow_add, ← Mp_pow, mod_mul' (by omega) hp pb, e2]
  have h1 := Int.emod_nonneg V (show Mp w ≠ 0 by omega)
  have h3 := Int.emod_nonneg (mAt g n w) (show (2 : Int) ^ b ≠ 0 by omega)
  have h2 : 0 ≤ Mp w * (mAt g n w % 2 ^ b) := Int.mul_nonneg (by omega) h3
  rw [e, ← low_zero hg hv w]
  constructor
  · intro h
    refine ⟨by omega, ?_⟩
    have h4 : Mp w * (mAt g n w % 2 ^ b) = 0 := by omega
    rcases Int.mul_eq_zero.mp h4 with h5 | h5
    · omega
    · exact h5
  · intro h
    rw [h.1, h.2]; simp
/-- the floor, by size and rest -/
theorem floor_of {z V N : Int} (hN : 0 < N) (hV : V = (z.natAbs : Int)) : z / N = if 0 ≤ z then V / N else if V % N ≠ 0 then -(V / N) - 1 else -(V / N) := by
  split
  · rename_i h
    rw [show V = z by omega]
  · rename_i h
    have e : z = -V := by omega
    rw [e]
    have d := Int.mul_ediv_add_emod V N
    have m1 := Int.emod_nonneg V (show N ≠ 0 by omega)
    have m2 := Int.emod_lt_of_pos V hN
    split
    · rename_i h9
      refine ((Int.ediv_emod_unique (a := -V) (b := N) (q := -(V / N) - 1) (r := N - V % N) hN).mpr ⟨?_, by omega, by omega⟩).1
      rw [Int.mul_sub, Int.mul_neg]; omega
    · rename_i h9
      refine ((Int.ediv_emod_unique (a := -V) (b := N) (q := -(V / N)) (r := 0) hN).mpr ⟨?_, by omega, by omega⟩).1
      rw [Int.mul_neg]; omega
/-- the rest, closed to arithmetic -/
def rst (V : Int) (n : Nat) : Int := V % 2 ^ n
def LowZ (g : Nat → Int) (n k : Nat) : Prop := ∀ j, j < k → mAt g n j = 0
theorem LowZ_succ {g : Nat → Int} {n k : Nat} : LowZ g n (k + 1) ↔ LowZ g n k ∧ mAt g n k = 0 := by
  constructor
  · intro h
    exact ⟨fun j hj => h j (by omega), h k (by omega)⟩
  · intro h j hj
    by_cases hjk : j = k
    · rw [hjk]; exact h.2
    · exact h.1 j (by omega)
theorem down_room {g : Nat → Int} {n w b : Nat} {T : Int} (hg : Mb g n) (h0 : 0 < b) (hb : b < 32) (hT : mAt g n (w + 2) * 2 ^ (64 - b) + mAt g n (w + 1) * 2 ^ (32 - b) + mAt g n w / 2 ^ b = T) (hV : T < 9223372036854775808) : (0 ≤ mAt g n (w + 1) * 2 ^ (32 - b) ∧ mAt g n (w + 1) * 2 ^ (32 - b) < 2 ^ (64 - b)) ∧ 0 ≤ mAt g n (w + 2) * 2 ^ (64 - b) ∧ mAt g n (w + 2) * 2 ^ (64 - b) + mAt g n (w + 1) * 2 ^ (32 - b) < 18446744073709551616 ∧ (0 ≤ mAt g n w / 2 ^ b ∧ mAt g n w / 2 ^ b < 2 ^ (32 - b)) ∧ 0 ≤ (mAt g n (w + 2) * 2 ^ 32 + mAt g n (w + 1)) * 2 ^ (32 - b) ∧ (mAt g n (w + 2) * 2 ^ 32 + mAt g n (w + 1)) * 2 ^ (32 - b) + mAt g n w / 2 ^ b < 18446744073709551616 := by
  have m0 := mAt_range hg w
  have m1 := mAt_range hg (w + 1)
  have m2 := mAt_range hg (w + 2)
  have pa := pw2 (32 - b)
  have pb := pw2 b
  have pc := pw2 (64 - b)
  have e1 : (4294967296 : Int) = 2 ^ b * 2 ^ (32 - b) := pow32 b (by omega)
  have e2 : (2 : Int) ^ (64 - b) = 4294967296 * 2 ^ (32 - b) := by rw [show 64 - b = 32 + (32 - b) by omega, Int.pow_add]; rfl
  have q1 : 0 ≤ mAt g n (w + 1) * 2 ^ (32 - b) := Int.mul_nonneg m1.1 (by omega)
  have q2 : mAt g n (w + 1) * 2 ^ (32 - b) < 4294967296 * 2 ^ (32 - b) := Int.mul_lt_mul_of_pos_right m1.2 pa
  have q3 : 0 ≤ mAt g n (w + 2) * 2 ^ (64 - b) := Int.mul_nonneg m2.1 (by omega)
  have q4 : 0 ≤ mAt g n w / 2 ^ b := Int.ediv_nonneg m0.1 (by omega)
  have q5 : mAt g n w / 2 ^ b < 2 ^ (32 - b) := by
    refine (Int.ediv_lt_iff_lt_mul pb).mpr ?_
    rw [Int.mul_comm, ← e1]; exact m0.2
  have q6 : (mAt g n (w + 2) * 2 ^ 32 + mAt g n (w + 1)) * 2 ^ (32 - b) = mAt g n (w + 2) * 2 ^ (64 - b) + mAt g n (w + 1) * 2 ^ (32 - b) := by
    have p32 : (2 : Int) ^ 32 = 4294967296 := rfl
    rw [e2, p32]; grind
  rw [q6]
  refine ⟨⟨q1, by rw [e2]; exact q2⟩, q3, by omega, ⟨q4, q5⟩, by omega, by omega⟩
theorem lI_maskv (a : Int) {q : Nat} (hq : q < 63) : lI a &&& lI (1 * 2 ^ q - 1) = lI (a % 2 ^ q) := by
  apply Int64.toBitVec_inj.mp
  rw [Int64.toBitVec_and, lI_bv, lI_bv, lI_bv]
  apply BitVec.eq_of_toNat_eq
  rw [BitVec.toNat_and, BitVec.toNat_ofInt, BitVec.toNat_ofInt, BitVec.toNat_ofInt]
  have p1 : (2 : Int) ^ q ≤ 2 ^ 62 := pow_big (by omega)
  have p2 := pw2 q
  have p3 : (2 : Int) ^ 62 = 4611686018427387904 := rfl
  have e1 : ((1 * 2 ^ q - 1 : Int) % ((2 ^ 64 : Nat) : Int)).toNat = 2 ^ q - 1 := by
    rw [Int.emod_eq_of_lt (by omega) (by omega), Int.one_mul]
    have : (2 : Int) ^ q = ((2 ^ q : Nat) : Int) := by simp
    rw [this]
    omega
  rw [e1, Nat.and_two_pow_sub_one_eq_mod]
  have e2 : (((2 : Int) ^ q)) = ((2 ^ q : Nat) : Int) := by simp
  have d : (2 ^ q : Nat) ∣ 2 ^ 64 := Nat.pow_dvd_pow 2 (by omega)
  have m1 := Int.emod_nonneg a (show (2 : Int) ^ q ≠ 0 by omega)
  have m2 := Int.emod_lt_of_pos a p2
  rw [Int.emod_eq_of_lt (a := a % 2 ^ q) (by omega) (by omega)]
  have e3 : a % 2 ^ q = (a % ((2 ^ 64 : Nat) : Int)) % 2 ^ q := by
    rw [e2, Int.emod_emod_of_dvd _ (Int.natCast_dvd_natCast.mpr d)]
  rw [e3, e2]
  have m3 : 0 ≤ a % ((2 ^ 64 : Nat) : Int) := Int.emod_nonneg a (by decide)
  obtain ⟨b, hb⟩ := Int.eq_ofNat_of_zero_le m3
  rw [hb]
  rfl
section XE
variable {p : Program} {l : Launch} {e : Env} {R : Room} {s : State} {m : MethodId} {args : Array Value} {below : List Frame} {meth : Method} {c : Code} {H : Heap} {locs : List Loc} {cells slots : Nat} {Q : State → Prop}
variable {cc : ByteArray} {pc : Nat} {ls : Array Slot} {rest : List Value}
theorem x_landv (hx : p.tables.exec = Jvm.exec) (hb : c.code = cc) {a : Int} (q : Nat) (hd : decode cc pc = .ok (.land, 1)) (hq : q < 63) (k : W p l e R s m args below meth c H locs cells slots Q (F0 m (pc + 1) ls (.long (lI (a % 2 ^ q)) :: rest))) : W p l e R s m args below meth c H locs cells slots Q (F0 m pc ls (.long (lI (1 * 2 ^ q - 1)) :: .long (lI a) :: rest)) := lv_land hx hb hd (by rw [lI_maskv a hq]; exact k)
theorem x_lor0 (hx : p.tables.exec = Jvm.exec) (hb : c.code = cc) {b : Int} (hd : decode cc pc = .ok (.lor, 1)) (k : W p l e R s m args below meth c H locs cells slots Q (F0 m (pc + 1) ls (.long (lI b) :: rest))) : W p l e R s m args below meth c H locs cells slots Q (F0 m pc ls (.long (lI b) :: .long (lI 0) :: rest)) := lv_lor hx hb hd (by rw [show lI 0 ||| lI b = lI b from Int64.zero_or]; exact k)
end XE
theorem d_Mo_down_0 : decode prog_9_method_52_code 0 = .ok (.iload_n 2, 1) := by decide +kernel
theorem d_Mo_down_1 : decode prog_9_method_52_code 1 = .ok (.bipush 32, 2) := by decide +kernel
theorem d_Mo_down_3 : decode prog_9_method_52_code 3 = .ok (.idiv, 1) := by decide +kernel
theorem d_Mo_down_4 : decode prog_9_method_52_code 4 = .ok (.istore_n 3, 1) := by decide +kernel
theorem d_Mo_down_5 : decode prog_9_method_52_code 5 = .ok (.iload_n 2, 1) := by decide +kernel
theorem d_Mo_down_6 : decode prog_9_method_52_code 6 = .ok (.bipush 32, 2) := by decide +kernel
theorem d_Mo_down_8 : decode prog_9_method_52_code 8 = .ok (.irem, 1) := by decide +kernel
theorem d_Mo_down_9 : decode prog_9_method_52_code 9 = .ok (.istore 4, 2) := by decide +kernel
theorem d_Mo_down_11 : decode prog_9_method_52_code 11 = .ok (.lconst 0, 1) := by decide +kernel
theorem d_Mo_down_12 : decode prog_9_method_52_code 12 = .ok (.lstore 5, 2) := by decide +kernel
theorem d_Mo_down_14 : decode prog_9_method_52_code 14 = .ok (.iconst 2, 1) := by decide +kernel
theorem d_Mo_down_15 : decode prog_9_method_52_code 15 = .ok (.istore 7, 2) := by decide +kernel
theorem d_Mo_down_17 : decode prog_9_method_52_code 17 = .ok (.iload 7, 2) := by decide +kernel
theorem d_Mo_down_19 : decode prog_9_method_52_code 19 = .ok (.ifCond .lt 93, 3) := by decide +kernel
theorem d_Mo_down_22 : decode prog_9_method_52_code 22 = .ok (.aload_n 0, 1) := by decide +kernel
theorem d_Mo_down_23 : decode prog_9_method_52_code 23 = .ok (.iload_n 1, 1) := by decide +kernel
theorem d_Mo_down_24 : decode prog_9_method_52_code 24 = .ok (.iload_n 3, 1) := by decide +kernel
theorem d_Mo_down_25 : decode prog_9_method_52_code 25 = .ok (.iload 7, 2) := by decide +kernel
theorem d_Mo_down_27 : decode prog_9_method_52_code 27 = .ok (.iadd, 1) := by decide +kernel
theorem d_Mo_down_28 : decode prog_9_method_52_code 28 = .ok (.invokevirtual 69, 3) := by decide +kernel
theorem d_Mo_down_31 : decode prog_9_method_52_code 31 = .ok (.lstore 8, 2) := by decide +kernel
theorem d_Mo_down_33 : decode prog_9_method_52_code 33 = .ok (.iload 7, 2) := by decide +kernel
theorem d_Mo_down_35 : decode prog_9_method_52_code 35 = .ok (.iconst 2, 1) := by decide +kernel
theorem d_Mo_down_36 : decode prog_9_method_52_code 36 = .ok (.if_icmp .ne 25, 3) := by decide +kernel
theorem d_Mo_down_39 : decode prog_9_method_52_code 39 = .ok (.iload 4, 2) := by decide +kernel
theorem d_Mo_down_41 : decode prog_9_method_52_code 41 = .ok (.ifCond .le 14, 3) := by decide +kernel
theorem d_Mo_down_44 : decode prog_9_method_52_code 44 = .ok (.lload 8, 2) := by decide +kernel
theorem d_Mo_down_46 : decode prog_9_method_52_code 46 = .ok (.bipush 64, 2) := by decide +kernel
theorem d_Mo_down_48 : decode prog_9_method_52_code 48 = .ok (.iload 4, 2) := by decide +kernel
theorem d_Mo_down_50 : decode prog_9_method_52_code 50 = .ok (.isub, 1) := by decide +kernel
theorem d_Mo_down_51 : decode prog_9_method_52_code 51 = .ok (.lshl, 1) := by decide +kernel
theorem d_Mo_down_52 : decode prog_9_method_52_code 52 = .ok (.goto 4, 3) := by decide +kernel
theorem d_Mo_down_55 : decode prog_9_method_52_code 55 = .ok (.lconst 0, 1) := by decide +kernel
theorem d_Mo_down_56 : decode prog_9_method_52_code 56 = .ok (.lstore 5, 2) := by decide +kernel
theorem d_Mo_down_58 : decode prog_9_method_52_code 58 = .ok (.goto 48, 3) := by decide +kernel
theorem d_Mo_down_61 : decode prog_9_method_52_code 61 = .ok (.iload 7, 2) := by decide +kernel
theorem d_Mo_down_63 : decode prog_9_method_52_code 63 = .ok (.iconst 1, 1) := by decide +kernel
theorem d_Mo_down_64 : decode prog_9_method_52_code 64 = .ok (.if_icmp .ne 32, 3) := by decide +kernel
theorem d_Mo_down_67 : decode prog_9_method_52_code 67 = .ok (.lload 5, 2) := by decide +kernel
theorem d_Mo_down_69 : decode prog_9_method_52_code 69 = .ok (.iload 4, 2) := by decide +kernel
theorem d_Mo_down_71 : decode prog_9_method_52_code 71 = .ok (.ifCond .le 14, 3) := by decide +kernel
theorem d_Mo_down_74 : decode prog_9_method_52_code 74 = .ok (.lload 8, 2) := by decide +kernel
theorem d_Mo_down_76 : decode prog_9_method_52_code 76 = .ok (.bipush 32, 2) := by decide +kernel
theorem d_Mo_down_78 : decode prog_9_method_52_code 78 = .ok (.iload 4, 2) := by decide +kernel
theorem d_Mo_down_80 : decode prog_9_method_52_code 80 = .ok (.isub, 1) := by decide +kernel
theorem d_Mo_down_81 : decode prog_9_method_52_code 81 = .ok (.lshl, 1) := by decide +kernel
theorem d_Mo_down_82 : decode prog_9_method_52_code 82 = .ok (.goto 8, 3) := by decide +kernel
theorem d_Mo_down_85 : decode prog_9_method_52_code 85 = .ok (.lload 8, 2) := by decide +kernel
theorem d_Mo_down_87 : decode prog_9_method_52_code 87 = .ok (.bipush 32, 2) := by decide +kernel
theorem d_Mo_down_89 : decode prog_9_method_52_code 89 = .ok (.lshl, 1) := by decide +kernel
theorem d_Mo_down_90 : decode prog_9_method_52_code 90 = .ok (.lor, 1) := by decide +kernel
theorem d_Mo_down_91 : decode prog_9_method_52_code 91 = .ok (.lstore 5, 2) := by decide +kernel
theorem d_Mo_down_93 : decode prog_9_method_52_code 93 = .ok (.goto 13, 3) := by decide +kernel
theorem d_Mo_down_96 : decode prog_9_method_52_code 96 = .ok (.lload 5, 2) := by decide +kernel
theorem d_Mo_down_98 : decode prog_9_method_52_code 98 = .ok (.lload 8, 2) := by decide +kernel
theorem d_Mo_down_100 : decode prog_9_method_52_code 100 = .ok (.iload 4, 2) := by decide +kernel
theorem d_Mo_down_102 : decode prog_9_method_52_code 102 = .ok (.lushr, 1) := by decide +kernel
theorem d_Mo_down_103 : decode prog_9_method_52_code 103 = .ok (.lor, 1) := by decide +kernel
theorem d_Mo_down_104 : decode prog_9_method_52_code 104 = .ok (.lstore 5, 2) := by decide +kernel
theorem d_Mo_down_106 : decode prog_9_method_52_code 106 = .ok (.iinc 7 (-1), 3) := by decide +kernel
theorem d_Mo_down_109 : decode prog_9_method_52_code 109 = .ok (.goto (-92), 3) := by decide +kernel
theorem d_Mo_down_112 : decode prog_9_method_52_code 112 = .ok (.iconst 0, 1) := by decide +kernel
theorem d_Mo_down_113 : decode prog_9_method_52_code 113 = .ok (.istore 7, 2) := by decide +kernel
theorem d_Mo_down_115 : decode prog_9_method_52_code 115 = .ok (.iconst 0, 1) := by decide +kernel
theorem d_Mo_down_116 : decode prog_9_method_52_code 116 = .ok (.istore 8, 2) := by decide +kernel
theorem d_Mo_down_118 : decode prog_9_method_52_code 118 = .ok (.iload 8, 2) := by decide +kernel
theorem d_Mo_down_120 : decode prog_9_method_52_code 120 = .ok (.iload_n 3, 1) := by decide +kernel
theorem d_Mo_down_121 : decode prog_9_method_52_code 121 = .ok (.if_icmp .ge 33, 3) := by decide +kernel
theorem d_Mo_down_124 : decode prog_9_method_52_code 124 = .ok (.iload 7, 2) := by decide +kernel
theorem d_Mo_down_126 : decode prog_9_method_52_code 126 = .ok (.ifCond .ne 15, 3) := by decide +kernel
theorem d_Mo_down_129 : decode prog_9_method_52_code 129 = .ok (.aload_n 0, 1) := by decide +kernel
theorem d_Mo_down_130 : decode prog_9_method_52_code 130 = .ok (.iload_n 1, 1) := by decide +kernel
theorem d_Mo_down_131 : decode prog_9_method_52_code 131 = .ok (.iload 8, 2) := by decide +kernel
theorem d_Mo_down_133 : decode prog_9_method_52_code 133 = .ok (.invokevirtual 69, 3) := by decide +kernel
theorem d_Mo_down_136 : decode prog_9_method_52_code 136 = .ok (.lconst 0, 1) := by decide +kernel
theorem d_Mo_down_137 : decode prog_9_method_52_code 137 = .ok (.lcmp, 1) := by decide +kernel
theorem d_Mo_down_138 : decode prog_9_method_52_code 138 = .ok (.ifCond .eq 7, 3) := by decide +kernel
theorem d_Mo_down_141 : decode prog_9_method_52_code 141 = .ok (.iconst 1, 1) := by decide +kernel
theorem d_Mo_down_142 : decode prog_9_method_52_code 142 = .ok (.goto 4, 3) := by decide +kernel
theorem d_Mo_down_145 : decode prog_9_method_52_code 145 = .ok (.iconst 0, 1) := by decide +kernel
theorem d_Mo_down_146 : decode prog_9_method_52_code 146 = .ok (.istore 7, 2) := by decide +kernel
theorem d_Mo_down_148 : decode prog_9_method_52_code 148 = .ok (.iinc 8 1, 3) := by decide +kernel
theorem d_Mo_down_151 : decode prog_9_method_52_code 151 = .ok (.goto (-33), 3) := by decide +kernel
theorem d_Mo_down_154 : decode prog_9_method_52_code 154 = .ok (.iload 7, 2) := by decide +kernel
theorem d_Mo_down_156 : decode prog_9_method_52_code 156 = .ok (.ifCond .ne 26, 3) := by decide +kernel
theorem d_Mo_down_159 : decode prog_9_method_52_code 159 = .ok (.iload 4, 2) := by decide +kernel
theorem d_Mo_down_161 : decode prog_9_method_52_code 161 = .ok (.ifCond .le 25, 3) := by decide +kernel
theorem d_Mo_down_164 : decode prog_9_method_52_code 164 = .ok (.aload_n 0, 1) := by decide +kernel
theorem d_Mo_down_165 : decode prog_9_method_52_code 165 = .ok (.iload_n 1, 1) := by decide +kernel
theorem d_Mo_down_166 : decode prog_9_method_52_code 166 = .ok (.iload_n 3, 1) := by decide +kernel
theorem d_Mo_down_167 : decode prog_9_method_52_code 167 = .ok (.invokevirtual 69, 3) := by decide +kernel
theorem d_Mo_down_170 : decode prog_9_method_52_code 170 = .ok (.lconst 1, 1) := by decide +kernel
theorem d_Mo_down_171 : decode prog_9_method_52_code 171 = .ok (.iload 4, 2) := by decide +kernel
theorem d_Mo_down_173 : decode prog_9_method_52_code 173 = .ok (.lshl, 1) := by decide +kernel
theorem d_Mo_down_174 : decode prog_9_method_52_code 174 = .ok (.lconst 1, 1) := by decide +kernel
theorem d_Mo_down_175 : decode prog_9_method_52_code 175 = .ok (.lsub, 1) := by decide +kernel
theorem d_Mo_down_176 : decode prog_9_method_52_code 176 = .ok (.land, 1) := by decide +kernel
theorem d_Mo_down_177 : decode prog_9_method_52_code 177 = .ok (.lconst 0, 1) := by decide +kernel
theorem d_Mo_down_178 : decode prog_9_method_52_code 178 = .ok (.lcmp, 1) := by decide +kernel
theorem d_Mo_down_179 : decode prog_9_method_52_code 179 = .ok (.ifCond .eq 7, 3) := by decide +kernel
theorem d_Mo_down_182 : decode prog_9_method_52_code 182 = .ok (.iconst 1, 1) := by decide +kernel
theorem d_Mo_down_183 : decode prog_9_method_52_code 183 = .ok (.goto 4, 3) := by decide +kernel
theorem d_Mo_down_186 : decode prog_9_method_52_code 186 = .ok (.iconst 0, 1) := by decide +kernel
theorem d_Mo_down_187 : decode prog_9_method_52_code 187 = .ok (.istore 7, 2) := by decide +kernel
theorem d_Mo_down_189 : decode prog_9_method_52_code 189 = .ok (.aload_n 0, 1) := by decide +kernel
theorem d_Mo_down_190 : decode prog_9_method_52_code 190 = .ok (.getfield 16, 3) := by decide +kernel
theorem d_Mo_down_193 : decode prog_9_method_52_code 193 = .ok (.iload_n 1, 1) := by decide +kernel
theorem d_Mo_down_194 : decode prog_9_method_52_code 194 = .ok (.iaload, 1) := by decide +kernel
theorem d_Mo_down_195 : decode prog_9_method_52_code 195 = .ok (.ifCond .lt 8, 3) := by decide +kernel
theorem d_Mo_down_198 : decode prog_9_method_52_code 198 = .ok (.lload 5, 2) := by decide +kernel
theorem d_Mo_down_200 : decode prog_9_method_52_code 200 = .ok (.goto 19, 3) := by decide +kernel
theorem d_Mo_down_203 : decode prog_9_method_52_code 203 = .ok (.iload 7, 2) := by decide +kernel
theorem d_Mo_down_205 : decode prog_9_method_52_code 205 = .ok (.ifCond .eq 11, 3) := by decide +kernel
theorem d_Mo_down_208 : decode prog_9_method_52_code 208 = .ok (.lload 5, 2) := by decide +kernel
theorem d_Mo_down_210 : decode prog_9_method_52_code 210 = .ok (.lneg, 1) := by decide +kernel
theorem d_Mo_down_211 : decode prog_9_method_52_code 211 = .ok (.lconst 1, 1) := by decide +kernel
theorem d_Mo_down_212 : decode prog_9_method_52_code 212 = .ok (.lsub, 1) := by decide +kernel
theorem d_Mo_down_213 : decode prog_9_method_52_code 213 = .ok (.goto 6, 3) := by decide +kernel
theorem d_Mo_down_216 : decode prog_9_method_52_code 216 = .ok (.lload 5, 2) := by decide +kernel
theorem d_Mo_down_218 : decode prog_9_method_52_code 218 = .ok (.lneg, 1) := by decide +kernel
theorem d_Mo_down_219 : decode prog_9_method_52_code 219 = .ok (.lreturn, 1) := by decide +kernel
set_option maxHeartbeats 8000000 in
set_option maxRecDepth 100000 in
theorem c_Mo_down_0 (l : Launch) (D : va_G) (cs : Nat → ClassId) (L : List Nat) (f : Nat → va_E) (sz : Nat) (y m1 m2 m3 m5 m6 m7 m8 m9 m10 m11 m12 m13 m15 : Nat) (th pn rw_ fu fb : Int) (lm mn sn Z : Nat → Int) (x nn : Nat) (hF : Fc L [y, m1, m2, m3]) (ha : f y = .inr (7, [.int (iI th), .ref m1, .ref m2, .ref m3, .int (iI pn), .ref m5, .ref m6, .ref m7, .ref m8, .ref m9, .ref m10, .ref m11, .ref m12, .ref m13, .int (iI rw_), .ref m15, .long (lI fu), .long (lI fb)])) (hm1 : f m1 = .inl (cs 0, 11520, .inl (ai lm))) (hm2 : f m2 = .inl (cs 0, 180, .inl (ai mn))) (hm3 : f m3 = .inl (cs 0, 180, .inl (ai sn))) (hRS : RS lm mn sn Z) (hx8 : x < 180) (hnn : nn ≤ 256) (hV : ((Z x).natAbs : Int) / 2 ^ nn < 9223372036854775808) (hb0 : nn % 32 = 0) : Met l (⟨"RealRootsModel", "down", "(II)J"⟩ : MethodName) (.code (⟨"RealRootsModel", "down", "(II)J"⟩ : MethodName) prog_9_method_52_code 10 (Option.some Jvm.ClassFile.FieldType.long) :: gw) ({ frames := 2, cells := 0, slots := 0, locals := 50 }) (va_Pc [.ref y, .int (iI ((x : Int))), .int (iI ((nn : Int)))] (K0 D vwCl (TY cs) L f sz)) (va_Ql (fun (r : Int64) (g : Nat → va_E) => r = lI (Z x / 2 ^ nn) ∧ g = f) (K1 D vwCl (TY cs) (AL L sz) L) (AL L sz)) 0 0 (AL L sz) := by
  refine Met.ofW (cc := prog_9_method_52_code) (maxL := 10) (ret := (Option.some Jvm.ClassFile.FieldType.long)) (by decide) rfl ?_
  intro p e s m args below meth c s₁ Bd hml hv
  obtain ⟨rfl, hk0⟩ := hv
  obtain ⟨hsz, B⟩ := hk0.start
  subst hsz
  have hx := Bd.exec
  have hb := Bd.bytes
  have hr := Bd.returns
  have hlocks := Bd.notSynchronized
  have hts0 := atoms_spec Bd.pre
  have hown : s.vm.findClass RX7 = some m.cls := findClass_of_methodNamed Bd.named
  have hA : ∀ q, s.heap.size ≤ q → AL L s.heap.size q := fun _ h => Or.inr h
  have hl := lv_entry ([.ref y, .int (iI ((x : Int))), .int (iI ((nn : Int)))]) (n := 10) (Nat.le_of_ble_eq_true rfl)
  rw [lg_entry_eq]
  generalize (lg_sl ([.ref y, .int (iI ((x : Int))), .int (iI ((nn : Int)))]) ++ List.replicate (10 - (lg_sl ([.ref y, .int (iI ((x : Int))), .int (iI ((nn : Int)))])).length) Slot.unset).toArray = ls at hl ⊢
  refine absQ (fun Q R av hQ hR hav => ?_)
  have hts : ∀ w ∈ gw, w.before av s = true := by rw [hav]; exact fun w h => hts0 w (List.mem_cons_of_mem _ h)
  have hRf : R.frames = 2 := by rw [hR]; rfl
  have hRl : R.locals = 50 := by rw [hR]; rfl
  have hRc : R.cells = 0 := by rw [hR]; rfl
  have hRs : R.slots = 0 := by rw [hR]; rfl
  clear hR hts0 Bd
  have hl : lv_has ls 10 [(0, .ref y), (1, .int (iI ((x : Int)))), (2, .int (iI ((nn : Int))))] := hl
  obtain ⟨nx, hnx, hn8, hMx, htx, hvx⟩ := (hRS x hx8).nat
  have hsx := (hRS x hx8).side
  have hdv := down_val (w := nn / 32) (b := nn % 32) hMx hvx (by omega) (by rw [show 32 * (nn / 32) + nn % 32 = nn by omega]; exact hV)
  have hdn := down_any (w := nn / 32) (b := nn % 32) hMx hvx (by omega)
  rw [show 32 * (nn / 32) + nn % 32 = nn by omega] at hdv hdn
  have hdn : rst ((Z x).natAbs : Int) nn = 0 ↔ LowZ (fl lm x) nx (nn / 32) ∧ mAt (fl lm x) nx (nn / 32) % 2 ^ (nn % 32) = 0 := hdn
  have pb := pw2 (nn % 32)
  have hV0 : 0 ≤ ((Z x).natAbs : Int) / 2 ^ nn := Int.ediv_nonneg (by omega) (Int.le_of_lt (pw2 nn))
  have hfx : ∀ q ∈ ([(y, .inr (7, [.int (iI th), .ref m1, .ref m2, .ref m3, .int (iI pn), .ref m5, .ref m6, .ref m7, .ref m8, .ref m9, .ref m10, .ref m11, .ref m12, .ref m13, .int (iI rw_), .ref m15, .long (lI fu), .long (lI fb)])), (m1, .inl (cs 0, 11520, .inl (ai lm))), (m2, .inl (cs 0, 180, .inl (ai mn))), (m3, .inl (cs 0, 180, .inl (ai sn)))] : List (Nat × va_E)), f q.1 = q.2 := fun q hq => by
    simp only [List.mem_cons, List.not_mem_nil, or_false] at hq
    rcases hq with rfl | rfl | rfl | rfl
    · exact ha
    · exact hm1
    · exact hm2
    · exact hm3
  have hmw : mw f [(y, .inr (7, [.int (iI th), .ref m1, .ref m2, .ref m3, .int (iI pn), .ref m5, .ref m6, .ref m7, .ref m8, .ref m9, .ref m10, .ref m11, .ref m12, .ref m13, .int (iI rw_), .ref m15, .long (lI fu), .long (lI fb)])), (m1, .inl (cs 0, 11520, .inl (ai lm))), (m2, .inl (cs 0, 180, .inl (ai mn))), (m3, .inl (cs 0, 180, .inl (ai sn)))] = f := mw_self (fun k a e hk => hfx (a, e) (List.mem_of_getElem? hk))
  have B := B.focus [(y, .inr (7, [.int (iI th), .ref m1, .ref m2, .ref m3, .int (iI pn), .ref m5, .ref m6, .ref m7, .ref m8, .ref m9, .ref m10, .ref m11, .ref m12, .ref m13, .int (iI rw_), .ref m15, .long (lI fu), .long (lI fb)])), (m1, .inl (cs 0, 11520, .inl (ai lm))), (m2, .inl (cs 0, 180, .inl (ai mn))), (m3, .inl (cs 0, 180, .inl (ai sn)))] hfx
  refine lv_iload_n hx hb d_Mo_down_0 rfl (lv_at hl 2 rfl) ?_
  refine x_bipush hx hb d_Mo_down_1 (by decide) ?_
  refine x_idiv hx hb d_Mo_down_3 (by omega) (by omega) (by omega) ?_
  refine lv_istore_n (lv' := [(3, .int (iI (((nn : Int)).tdiv 32))), (0, .ref y), (1, .int (iI ((x : Int)))), (2, .int (iI ((nn : Int))))]) hx hb d_Mo_down_4 rfl hl (by decide) rfl (fun ls hl => ?_)
  refine lv_iload_n hx hb d_Mo_down_5 rfl (lv_at hl 3 rfl) ?_
  refine x_bipush hx hb d_Mo_down_6 (by decide) ?_
  refine x_irem hx hb d_Mo_down_8 (by omega) (by omega) (by omega) ?_
  refine lv_istore (lv' := [(4, .int (iI (((nn : Int)).tmod 32))), (3, .int (iI (((nn : Int)).tdiv 32))), (0, .ref y), (1, .int (iI ((x : Int)))), (2, .int (iI ((nn : Int))))]) hx hb d_Mo_down_9 hl (by decide) rfl (fun ls hl => ?_)
  have hl : lv_has ls 10 [(4, .int (iI (((nn % 32 : Nat) : Int)))), (3, .int (iI (((nn / 32 : Nat) : Int)))), (0, .ref y), (1, .int (iI ((x : Int)))), (2, .int (iI ((nn : Int))))] := hl
  refine x_lconst (z := 0) hx hb d_Mo_down_11 (by decide) ?_
  refine lv_lstore (lv' := [(5, .long (lI 0)), (4, .int (iI (((nn % 32 : Nat) : Int)))), (3, .int (iI (((nn / 32 : Nat) : Int)))), (0, .ref y), (1, .int (iI ((x : Int)))), (2, .int (iI ((nn : Int))))]) hx hb d_Mo_down_12 hl (by decide) rfl (fun ls hl => ?_)
  refine x_iconst hx hb d_Mo_down_14 ?_
  refine lv_istore (lv' := [(7, .int (iI 2)), (5, .long (lI 0)), (4, .int (iI (((nn % 32 : Nat) : Int)))), (3, .int (iI (((nn / 32 : Nat) : Int)))), (0, .ref y), (1, .int (iI ((x : Int)))), (2, .int (iI ((nn : Int))))]) hx hb d_Mo_down_15 hl (by decide) rfl (fun ls hl => ?_)
  have hl : lv_has ls 10 [(7, .int (iI 2)), (5, .long (lI 0)), (4, .int (iI (((nn % 32 : Nat) : Int)))), (3, .int (iI (((nn / 32 : Nat) : Int)))), (0, .ref y), (1, .int (iI ((x : Int)))), (2, .int (iI ((nn : Int))))] := hl
  refine lv_iload hx hb d_Mo_down_17 (lv_at hl 0 rfl) ?_
  refine x_if_lt (tgt := 112) hx hb d_Mo_down_19 (by decide) (by omega) (fun h19 => ?_) (fun h19 => ?_)
  · exfalso; omega
  · refine lv_aload_n hx hb d_Mo_down_22 rfl (lv_at hl 4 rfl) ?_
    refine lv_iload_n hx hb d_Mo_down_23 rfl (lv_at hl 5 rfl) ?_
    refine lv_iload_n hx hb d_Mo_down_24 rfl (lv_at hl 3 rfl) ?_
    refine lv_iload hx hb d_Mo_down_25 (lv_at hl 0 rfl) ?_
    refine x_iadd hx hb d_Mo_down_27 ?_
    rw [show (((nn / 32 : Nat) : Int)) + 2 = ((nn / 32 + 2 : Nat) : Int) by omega]
    refine x_calll B hA (va_runV (As := [.int (iI ((x : Int))), .int (iI (((nn / 32 + 2 : Nat) : Int)))]) (rest := []) ⟨hx, hb, hml, hown, hts⟩ (c_Mo_limbOf l D cs _ _ _ y m1 m2 m3 m5 m6 m7 m8 m9 m10 m11 m12 m13 m15 th pn rw_ fu fb lm mn sn x (nn / 32 + 2) nx hF (mw_get (X := [(y, .inr (7, [.int (iI th), .ref m1, .ref m2, .ref m3, .int (iI pn), .ref m5, .ref m6, .ref m7, .ref m8, .ref m9, .ref m10, .ref m11, .ref m12, .ref m13, .int (iI rw_), .ref m15, .long (lI fu), .long (lI fb)])), (m1, .inl (cs 0, 11520, .inl (ai lm))), (m2, .inl (cs 0, 180, .inl (ai mn))), (m3, .inl (cs 0, 180, .inl (ai sn)))]) hF.1 (k := 0) rfl) (mw_get (X := [(y, .inr (7, [.int (iI th), .ref m1, .ref m2, .ref m3, .int (iI pn), .ref m5, .ref m6, .ref m7, .ref m8, .ref m9, .ref m10, .ref m11, .ref m12, .ref m13, .int (iI rw_), .ref m15, .long (lI fu), .long (lI fb)])), (m1, .inl (cs 0, 11520, .inl (ai lm))), (m2, .inl (cs 0, 180, .inl (ai mn))), (m3, .inl (cs 0, 180, .inl (ai sn)))]) hF.1 (k := 1) rfl) (mw_get (X := [(y, .inr (7, [.int (iI th), .ref m1, .ref m2, .ref m3, .int (iI pn), .ref m5, .ref m6, .ref m7, .ref m8, .ref m9, .ref m10, .ref m11, .ref m12, .ref m13, .int (iI rw_), .ref m15, .long (lI fu), .long (lI fb)])), (m1, .inl (cs 0, 11520, .inl (ai lm))), (m2, .inl (cs 0, 180, .inl (ai mn))), (m3, .inl (cs 0, 180, .inl (ai sn)))]) hF.1 (k := 2) rfl) (mw_get (X := [(y, .inr (7, [.int (iI th), .ref m1, .ref m2, .ref m3, .int (iI pn), .ref m5, .ref m6, .ref m7, .ref m8, .ref m9, .ref m10, .ref m11, .ref m12, .ref m13, .int (iI rw_), .ref m15, .long (lI fu), .long (lI fb)])), (m1, .inl (cs 0, 11520, .inl (ai lm))), (m2, .inl (cs 0, 180, .inl (ai mn))), (m3, .inl (cs 0, 180, .inl (ai sn)))]) hF.1 (k := 3) rfl) hx8 (by omega) hnx hn8 (fun h9 => hMx _ h9)) (cwV 2 hts (gw_V w_824 w_826 s_42 w_8 w_827) rfl rfl rfl (by decide +kernel) ⟨by rw [hRf]; exact Nat.le_of_ble_eq_true rfl, by rw [hRl]; exact Nat.le_of_ble_eq_true rfl⟩) ⟨K0.blind, B.recv (hF.2 _ (mw_key (k := 0) (X := [(y, .inr (7, [.int (iI th), .ref m1, .ref m2, .ref m3, .int (iI pn), .ref m5, .ref m6, .ref m7, .ref m8, .ref m9, .ref m10, .ref m11, .ref m12, .ref m13, .int (iI rw_), .ref m15, .long (lI fu), .long (lI fb)])), (m1, .inl (cs 0, 11520, .inl (ai lm))), (m2, .inl (cs 0, 180, .inl (ai mn))), (m3, .inl (cs 0, 180, .inl (ai sn)))]) rfl)) (mw_get (X := [(y, .inr (7, [.int (iI th), .ref m1, .ref m2, .ref m3, .int (iI pn), .ref m5, .ref m6, .ref m7, .ref m8, .ref m9, .ref m10, .ref m11, .ref m12, .ref m13, .int (iI rw_), .ref m15, .long (lI fu), .long (lI fb)])), (m1, .inl (cs 0, 11520, .inl (ai lm))), (m2, .inl (cs 0, 180, .inl (ai mn))), (m3, .inl (cs 0, 180, .inl (ai sn)))]) hF.1 (k := 0) rfl) rfl, B.pre _⟩ rfl rfl hl.1 rfl (lv_room (Nat.le_of_ble_eq_true rfl)) d_Mo_down_28 ⟨by rw [hRc]; omega, by rw [hRs]; omega⟩) (fun r28 g28 H locs hw B => ?_)
    obtain ⟨rfl, rfl⟩ := hw
    have B : Wb D vwCl (TY cs) L (mw f [(y, .inr (7, [.int (iI th), .ref m1, .ref m2, .ref m3, .int (iI pn), .ref m5, .ref m6, .ref m7, .ref m8, .ref m9, .ref m10, .ref m11, .ref m12, .ref m13, .int (iI rw_), .ref m15, .long (lI fu), .long (lI fb)])), (m1, .inl (cs 0, 11520, .inl (ai lm))), (m2, .inl (cs 0, 180, .inl (ai mn))), (m3, .inl (cs 0, 180, .inl (ai sn)))]) (AL L s.heap.size) s H _ := B
    have hmr28 := mAt_range hMx (nn / 32 + 2)
    refine lv_lstore (lv' := [(8, .long (lI (mAt (fl lm x) nx (nn / 32 + 2)))), (7, .int (iI 2)), (5, .long (lI 0)), (4, .int (iI (((nn % 32 : Nat) : Int)))), (3, .int (iI (((nn / 32 : Nat) : Int)))), (0, .ref y), (1, .int (iI ((x : Int)))), (2, .int (iI ((nn : Int))))]) hx hb d_Mo_down_31 hl (by decide) rfl (fun ls hl => ?_)
    refine lv_iload hx hb d_Mo_down_33 (lv_at hl 1 rfl) ?_
    refine x_iconst hx hb d_Mo_down_35 ?_
    refine x_icmp_ne (tgt := 61) hx hb d_Mo_down_36 (by decide) (by omega) (by omega) (fun h36 => ?_) (fun h36 => ?_)
    · exfalso; omega
    · refine lv_iload hx hb d_Mo_down_39 (lv_at hl 3 rfl) ?_
      refine x_if_le (tgt := 55) hx hb d_Mo_down_41 (by decide) (by omega) (fun h41 => ?_) (fun h41 => ?_)
      · refine x_lconst (z := 0) hx hb d_Mo_down_55 (by decide) ?_
        refine lv_lstore (lv' := [(5, .long (lI 0)), (8, .long (lI (mAt (fl lm x) nx (nn / 32 + 2)))), (7, .int (iI 2)), (4, .int (iI (((nn % 32 : Nat) : Int)))), (3, .int (iI (((nn / 32 : Nat) : Int)))), (0, .ref y), (1, .int (iI ((x : Int)))), (2, .int (iI ((nn : Int))))]) hx hb d_Mo_down_56 hl (by decide) rfl (fun ls hl => ?_)
        refine lv_goto (tgt := 106) hx hb d_Mo_down_58 (by decide) ?_
        refine x_iinc (lv' := [(7, .int (iI (2 + (-1)))), (5, .long (lI 0)), (8, .long (lI (mAt (fl lm x) nx (nn / 32 + 2)))), (4, .int (iI (((nn % 32 : Nat) : Int)))), (3, .int (iI (((nn / 32 : Nat) : Int)))), (0, .ref y), (1, .int (iI ((x : Int)))), (2, .int (iI ((nn : Int))))]) hx hb d_Mo_down_106 hl (q := 2) rfl rfl (by decide) rfl (fun ls hl => ?_)
        refine lv_goto (tgt := 17) hx hb d_Mo_down_109 (by decide) ?_
        have hl : lv_has ls 10 [(7, .int (iI 1)), (5, .long (lI 0)), (8, .long (lI (mAt (fl lm x) nx (nn / 32 + 2)))), (4, .int (iI (((nn % 32 : Nat) : Int)))), (3, .int (iI (((nn / 32 : Nat) : Int)))), (0, .ref y), (1, .int (iI ((x : Int)))), (2, .int (iI ((nn : Int))))] := hl
        refine lv_iload hx hb d_Mo_down_17 (lv_at hl 0 rfl) ?_
        refine x_if_lt (tgt := 112) hx hb d_Mo_down_19 (by decide) (by omega) (fun h19 => ?_) (fun h19 => ?_)
        · exfalso; omega
        · refine lv_aload_n hx hb d_Mo_down_22 rfl (lv_at hl 5 rfl) ?_
          refine lv_iload_n hx hb d_Mo_down_23 rfl (lv_at hl 6 rfl) ?_
          refine lv_iload_n hx hb d_Mo_down_24 rfl (lv_at hl 4 rfl) ?_
          refine lv_iload hx hb d_Mo_down_25 (lv_at hl 0 rfl) ?_
          refine x_iadd hx hb d_Mo_down_27 ?_
          rw [show (((nn / 32 : Nat) : Int)) + 1 = ((nn / 32 + 1 : Nat) : Int) by omega]
          refine x_calll B hA (va_runV (As := [.int (iI ((x : Int))), .int (iI (((nn / 32 + 1 : Nat) : Int)))]) (rest := []) ⟨hx, hb, hml, hown, hts⟩ (c_Mo_limbOf l D cs _ _ _ y m1 m2 m3 m5 m6 m7 m8 m9 m10 m11 m12 m13 m15 th pn rw_ fu fb lm mn sn x (nn / 32 + 1) nx hF (mw_get (X := [(y, .inr (7, [.int (iI th), .ref m1, .ref m2, .ref m3, .int (iI pn), .ref m5, .ref m6, .ref m7, .ref m8, .ref m9, .ref m10, .ref m11, .ref m12, .ref m13, .int (iI rw_), .ref m15, .long (lI fu), .long (lI fb)])), (m1, .inl (cs 0, 11520, .inl (ai lm))), (m2, .inl (cs 0, 180, .inl (ai mn))), (m3, .inl (cs 0, 180, .inl (ai sn)))]) hF.1 (k := 0) rfl) (mw_get (X := [(y, .inr (7, [.int (iI th), .ref m1, .ref m2, .ref m3, .int (iI pn), .ref m5, .ref m6, .ref m7, .ref m8, .ref m9, .ref m10, .ref m11, .ref m12, .ref m13, .int (iI rw_), .ref m15, .long (lI fu), .long (lI fb)])), (m1, .inl (cs 0, 11520, .inl (ai lm))), (m2, .inl (cs 0, 180, .inl (ai mn))), (m3, .inl (cs 0, 180, .inl (ai sn)))]) hF.1 (k := 1) rfl) (mw_get (X := [(y, .inr (7, [.int (iI th), .ref m1, .ref m2, .ref m3, .int (iI pn), .ref m5, .ref m6, .ref m7, .ref m8, .ref m9, .ref m10, .ref m11, .ref m12, .ref m13, .int (iI rw_), .ref m15, .long (lI fu), .long (lI fb)])), (m1, .inl (cs 0, 11520, .inl (ai lm))), (m2, .inl (cs 0, 180, .inl (ai mn))), (m3, .inl (cs 0, 180, .inl (ai sn)))]) hF.1 (k := 2) rfl) (mw_get (X := [(y, .inr (7, [.int (iI th), .ref m1, .ref m2, .ref m3, .int (iI pn), .ref m5, .ref m6, .ref m7, .ref m8, .ref m9, .ref m10, .ref m11, .ref m12, .ref m13, .int (iI rw_), .ref m15, .long (lI fu), .long (lI fb)])), (m1, .inl (cs 0, 11520, .inl (ai lm))), (m2, .inl (cs 0, 180, .inl (ai mn))), (m3, .inl (cs 0, 180, .inl (ai sn)))]) hF.1 (k := 3) rfl) hx8 (by omega) hnx hn8 (fun h9 => hMx _ h9)) (cwV 2 hts (gw_V w_824 w_826 s_42 w_8 w_827) rfl rfl rfl (by decide +kernel) ⟨by rw [hRf]; exact Nat.le_of_ble_eq_true rfl, by rw [hRl]; exact Nat.le_of_ble_eq_true rfl⟩) ⟨K0.blind, B.recv (hF.2 _ (mw_key (k := 0) (X := [(y, .inr (7, [.int (iI th), .ref m1, .ref m2, .ref m3, .int (iI pn), .ref m5, .ref m6, .ref m7, .ref m8, .ref m9, .ref m10, .ref m11, .ref m12, .ref m13, .int (iI rw_), .ref m15, .long (lI fu), .long (lI fb)])), (m1, .inl (cs 0, 11520, .inl (ai lm))), (m2, .inl (cs 0, 180, .inl (ai mn))), (m3, .inl (cs 0, 180, .inl (ai sn)))]) rfl)) (mw_get (X := [(y, .inr (7, [.int (iI th), .ref m1, .ref m2, .ref m3, .int (iI pn), .ref m5, .ref m6, .ref m7, .ref m8, .ref m9, .ref m10, .ref m11, .ref m12, .ref m13, .int (iI rw_), .ref m15, .long (lI fu), .long (lI fb)])), (m1, .inl (cs 0, 11520, .inl (ai lm))), (m2, .inl (cs 0, 180, .inl (ai mn))), (m3, .inl (cs 0, 180, .inl (ai sn)))]) hF.1 (k := 0) rfl) rfl, B.pre _⟩ rfl rfl hl.1 rfl (lv_room (Nat.le_of_ble_eq_true rfl)) d_Mo_down_28 ⟨by rw [hRc]; omega, by rw [hRs]; omega⟩) (fun r28 g28 H locs hw B => ?_)
          obtain ⟨rfl, rfl⟩ := hw
          have B : Wb D vwCl (TY cs) L (mw f [(y, .inr (7, [.int (iI th), .ref m1, .ref m2, .ref m3, .int (iI pn), .ref m5, .ref m6, .ref m7, .ref m8, .ref m9, .ref m10, .ref m11, .ref m12, .ref m13, .int (iI rw_), .ref m15, .long (lI fu), .long (lI fb)])), (m1, .inl (cs 0, 11520, .inl (ai lm))), (m2, .inl (cs 0, 180, .inl (ai mn))), (m3, .inl (cs 0, 180, .inl (ai sn)))]) (AL L s.heap.size) s H _ := B
          have hmr28 := mAt_range hMx (nn / 32 + 1)
          refine lv_lstore (lv' := [(8, .long (lI (mAt (fl lm x) nx (nn / 32 + 1)))), (7, .int (iI 1)), (5, .long (lI 0)), (4, .int (iI (((nn % 32 : Nat) : Int)))), (3, .int (iI (((nn / 32 : Nat) : Int)))), (0, .ref y), (1, .int (iI ((x : Int)))), (2, .int (iI ((nn : Int))))]) hx hb d_Mo_down_31 hl (by decide) rfl (fun ls hl => ?_)
          refine lv_iload hx hb d_Mo_down_33 (lv_at hl 1 rfl) ?_
          refine x_iconst hx hb d_Mo_down_35 ?_
          refine x_icmp_ne (tgt := 61) hx hb d_Mo_down_36 (by decide) (by omega) (by omega) (fun h36 => ?_) (fun h36 => ?_)
          · refine lv_iload hx hb d_Mo_down_61 (lv_at hl 1 rfl) ?_
            refine x_iconst hx hb d_Mo_down_63 ?_
            refine x_icmp_ne (tgt := 96) hx hb d_Mo_down_64 (by decide) (by omega) (by omega) (fun h64 => ?_) (fun h64 => ?_)
            · exfalso; omega
            · refine lv_lload hx hb d_Mo_down_67 (lv_at hl 2 rfl) ?_
              refine lv_iload hx hb d_Mo_down_69 (lv_at hl 3 rfl) ?_
              refine x_if_le (tgt := 85) hx hb d_Mo_down_71 (by decide) (by omega) (fun h71 => ?_) (fun h71 => ?_)
              · refine lv_lload hx hb d_Mo_down_85 (lv_at hl 0 rfl) ?_
                refine x_bipush hx hb d_Mo_down_87 (by decide) ?_
                refine x_lshlv hx hb 32 (rfl) (by decide) d_Mo_down_89 ?_
                refine x_lor0 hx hb d_Mo_down_90 ?_
                refine lv_lstore (lv' := [(5, .long (lI ((mAt (fl lm x) nx (nn / 32 + 1)) * 2 ^ 32))), (8, .long (lI (mAt (fl lm x) nx (nn / 32 + 1)))), (7, .int (iI 1)), (4, .int (iI (((nn % 32 : Nat) : Int)))), (3, .int (iI (((nn / 32 : Nat) : Int)))), (0, .ref y), (1, .int (iI ((x : Int)))), (2, .int (iI ((nn : Int))))]) hx hb d_Mo_down_91 hl (by decide) rfl (fun ls hl => ?_)
                refine lv_goto (tgt := 106) hx hb d_Mo_down_93 (by decide) ?_
                refine x_iinc (lv' := [(7, .int (iI (1 + (-1)))), (5, .long (lI ((mAt (fl lm x) nx (nn / 32 + 1)) * 2 ^ 32))), (8, .long (lI (mAt (fl lm x) nx (nn / 32 + 1)))), (4, .int (iI (((nn % 32 : Nat) : Int)))), (3, .int (iI (((nn / 32 : Nat) : Int)))), (0, .ref y), (1, .int (iI ((x : Int)))), (2, .int (iI ((nn : Int))))]) hx hb d_Mo_down_106 hl (q := 2) rfl rfl (by decide) rfl (fun ls hl => ?_)
                refine lv_goto (tgt := 17) hx hb d_Mo_down_109 (by decide) ?_
                have hl : lv_has ls 10 [(7, .int (iI 0)), (5, .long (lI ((mAt (fl lm x) nx (nn / 32 + 1)) * 2 ^ 32))), (8, .long (lI (mAt (fl lm x) nx (nn / 32 + 1)))), (4, .int (iI (((nn % 32 : Nat) : Int)))), (3, .int (iI (((nn / 32 : Nat) : Int)))), (0, .ref y), (1, .int (iI ((x : Int)))), (2, .int (iI ((nn : Int))))] := hl
                refine lv_iload hx hb d_Mo_down_17 (lv_at hl 0 rfl) ?_
                refine x_if_lt (tgt := 112) hx hb d_Mo_down_19 (by decide) (by omega) (fun h19 => ?_) (fun h19 => ?_)
                · exfalso; omega
                · refine lv_aload_n hx hb d_Mo_down_22 rfl (lv_at hl 5 rfl) ?_
                  refine lv_iload_n hx hb d_Mo_down_23 rfl (lv_at hl 6 rfl) ?_
                  refine lv_iload_n hx hb d_Mo_down_24 rfl (lv_at hl 4 rfl) ?_
                  refine lv_iload hx hb d_Mo_down_25 (lv_at hl 0 rfl) ?_
                  refine x_iadd hx hb d_Mo_down_27 ?_
                  rw [show (((nn / 32 : Nat) : Int)) + 0 = ((nn / 32 + 0 : Nat) : Int) by omega]
                  refine x_calll B hA (va_runV (As := [.int (iI ((x : Int))), .int (iI (((nn / 32 + 0 : Nat) : Int)))]) (rest := []) ⟨hx, hb, hml, hown, hts⟩ (c_Mo_limbOf l D cs _ _ _ y m1 m2 m3 m5 m6 m7 m8 m9 m10 m11 m12 m13 m15 th pn rw_ fu fb lm mn sn x (nn / 32 + 0) nx hF (mw_get (X := [(y, .inr (7, [.int (iI th), .ref m1, .ref m2, .ref m3, .int (iI pn), .ref m5, .ref m6, .ref m7, .ref m8, .ref m9, .ref m10, .ref m11, .ref m12, .ref m13, .int (iI rw_), .ref m15, .long (lI fu), .long (lI fb)])), (m1, .inl (cs 0, 11520, .inl (ai lm))), (m2, .inl (cs 0, 180, .inl (ai mn))), (m3, .inl (cs 0, 180, .inl (ai sn)))]) hF.1 (k := 0) rfl) (mw_get (X := [(y, .inr (7, [.int (iI th), .ref m1, .ref m2, .ref m3, .int (iI pn), .ref m5, .ref m6, .ref m7, .ref m8, .ref m9, .ref m10, .ref m11, .ref m12, .ref m13, .int (iI rw_), .ref m15, .long (lI fu), .long (lI fb)])), (m1, .inl (cs 0, 11520, .inl (ai lm))), (m2, .inl (cs 0, 180, .inl (ai mn))), (m3, .inl (cs 0, 180, .inl (ai sn)))]) hF.1 (k := 1) rfl) (mw_get (X := [(y, .inr (7, [.int (iI th), .ref m1, .ref m2, .ref m3, .int (iI pn), .ref m5, .ref m6, .ref m7, .ref m8, .ref m9, .ref m10, .ref m11, .ref m12, .ref m13, .int (iI rw_), .ref m15, .long (lI fu), .long (lI fb)])), (m1, .inl (cs 0, 11520, .inl (ai lm))), (m2, .inl (cs 0, 180, .inl (ai mn))), (m3, .inl (cs 0, 180, .inl (ai sn)))]) hF.1 (k := 2) rfl) (mw_get (X := [(y, .inr (7, [.int (iI th), .ref m1, .ref m2, .ref m3, .int (iI pn), .ref m5, .ref m6, .ref m7, .ref m8, .ref m9, .ref m10, .ref m11, .ref m12, .ref m13, .int (iI rw_), .ref m15, .long (lI fu), .long (lI fb)])), (m1, .inl (cs 0, 11520, .inl (ai lm))), (m2, .inl (cs 0, 180, .inl (ai mn))), (m3, .inl (cs 0, 180, .inl (ai sn)))]) hF.1 (k := 3) rfl) hx8 (by omega) hnx hn8 (fun h9 => hMx _ h9)) (cwV 2 hts (gw_V w_824 w_826 s_42 w_8 w_827) rfl rfl rfl (by decide +kernel) ⟨by rw [hRf]; exact Nat.le_of_ble_eq_true rfl, by rw [hRl]; exact Nat.le_of_ble_eq_true rfl⟩) ⟨K0.blind, B.recv (hF.2 _ (mw_key (k := 0) (X := [(y, .inr (7, [.int (iI th), .ref m1, .ref m2, .ref m3, .int (iI pn), .ref m5, .ref m6, .ref m7, .ref m8, .ref m9, .ref m10, .ref m11, .ref m12, .ref m13, .int (iI rw_), .ref m15, .long (lI fu), .long (lI fb)])), (m1, .inl (cs 0, 11520, .inl (ai lm))), (m2, .inl (cs 0, 180, .inl (ai mn))), (m3, .inl (cs 0, 180, .inl (ai sn)))]) rfl)) (mw_get (X := [(y, .inr (7, [.int (iI th), .ref m1, .ref m2, .ref m3, .int (iI pn), .ref m5, .ref m6, .ref m7, .ref m8, .ref m9, .ref m10, .ref m11, .ref m12, .ref m13, .int (iI rw_), .ref m15, .long (lI fu), .long (lI fb)])), (m1, .inl (cs 0, 11520, .inl (ai lm))), (m2, .inl (cs 0, 180, .inl (ai mn))), (m3, .inl (cs 0, 180, .inl (ai sn)))]) hF.1 (k := 0) rfl) rfl, B.pre _⟩ rfl rfl hl.1 rfl (lv_room (Nat.le_of_ble_eq_true rfl)) d_Mo_down_28 ⟨by rw [hRc]; omega, by rw [hRs]; omega⟩) (fun r28 g28 H locs hw B => ?_)
                  obtain ⟨rfl, rfl⟩ := hw
                  have B : Wb D vwCl (TY cs) L (mw f [(y, .inr (7, [.int (iI th), .ref m1, .ref m2, .ref m3, .int (iI pn), .ref m5, .ref m6, .ref m7, .ref m8, .ref m9, .ref m10, .ref m11, .ref m12, .ref m13, .int (iI rw_), .ref m15, .long (lI fu), .long (lI fb)])), (m1, .inl (cs 0, 11520, .inl (ai lm))), (m2, .inl (cs 0, 180, .inl (ai mn))), (m3, .inl (cs 0, 180, .inl (ai sn)))]) (AL L s.heap.size) s H _ := B
                  have hmr28 := mAt_range hMx (nn / 32 + 0)
                  refine lv_lstore (lv' := [(8, .long (lI (mAt (fl lm x) nx (nn / 32 + 0)))), (7, .int (iI 0)), (5, .long (lI ((mAt (fl lm x) nx (nn / 32 + 1)) * 2 ^ 32))), (4, .int (iI (((nn % 32 : Nat) : Int)))), (3, .int (iI (((nn / 32 : Nat) : Int)))), (0, .ref y), (1, .int (iI ((x : Int)))), (2, .int (iI ((nn : Int))))]) hx hb d_Mo_down_31 hl (by decide) rfl (fun ls hl => ?_)
                  refine lv_iload hx hb d_Mo_down_33 (lv_at hl 1 rfl) ?_
                  refine x_iconst hx hb d_Mo_down_35 ?_
                  refine x_icmp_ne (tgt := 61) hx hb d_Mo_down_36 (by decide) (by omega) (by omega) (fun h36 => ?_) (fun h36 => ?_)
                  · refine lv_iload hx hb d_Mo_down_61 (lv_at hl 1 rfl) ?_
                    refine x_iconst hx hb d_Mo_down_63 ?_
                    refine x_icmp_ne (tgt := 96) hx hb d_Mo_down_64 (by decide) (by omega) (by omega) (fun h64 => ?_) (fun h64 => ?_)
                    · refine lv_lload hx hb d_Mo_down_96 (lv_at hl 2 rfl) ?_
                      refine lv_lload hx hb d_Mo_down_98 (lv_at hl 0 rfl) ?_
                      refine lv_iload hx hb d_Mo_down_100 (lv_at hl 3 rfl) ?_
                      refine x_lushrv hx hb (nn % 32) (rfl) (by omega) d_Mo_down_102 (by omega) ?_
                      have hd1 := hdv.1 hb0
                      have hr1 : 0 ≤ mAt (fl lm x) nx (nn / 32) / 2 ^ (nn % 32) ∧ mAt (fl lm x) nx (nn / 32) / 2 ^ (nn % 32) < 2 ^ 32 := by rw [hb0, Int.pow_zero, Int.ediv_one]; exact mAt_range hMx _
                      have hr2 : 0 ≤ mAt (fl lm x) nx (nn / 32 + 1) * 2 ^ 32 := Int.mul_nonneg (mAt_range hMx _).1 (by decide)
                      have hr3 : mAt (fl lm x) nx (nn / 32 + 1) * 2 ^ 32 + mAt (fl lm x) nx (nn / 32) / 2 ^ (nn % 32) < 18446744073709551616 := by rw [hb0, Int.pow_zero, Int.ediv_one]; omega
                      refine x_lorv hx hb 32 d_Mo_down_103 (hr1) (hr2) (hr3) ?_
                      refine lv_lstore (lv' := [(5, .long (lI ((mAt (fl lm x) nx (nn / 32 + 1)) * 2 ^ 32 + ((mAt (fl lm x) nx (nn / 32 + 0)) / 2 ^ (nn % 32))))), (8, .long (lI (mAt (fl lm x) nx (nn / 32 + 0)))), (7, .int (iI 0)), (4, .int (iI (((nn % 32 : Nat) : Int)))), (3, .int (iI (((nn / 32 : Nat) : Int)))), (0, .ref y), (1, .int (iI ((x : Int)))), (2, .int (iI ((nn : Int))))]) hx hb d_Mo_down_104 hl (by decide) rfl (fun ls hl => ?_)
                      refine x_iinc (lv' := [(7, .int (iI (0 + (-1)))), (5, .long (lI ((mAt (fl lm x) nx (nn / 32 + 1)) * 2 ^ 32 + ((mAt (fl lm x) nx (nn / 32 + 0)) / 2 ^ (nn % 32))))), (8, .long (lI (mAt (fl lm x) nx (nn / 32 + 0)))), (4, .int (iI (((nn % 32 : Nat) : Int)))), (3, .int (iI (((nn / 32 : Nat) : Int)))), (0, .ref y), (1, .int (iI ((x : Int)))), (2, .int (iI ((nn : Int))))]) hx hb d_Mo_down_106 hl (q := 2) rfl rfl (by decide) rfl (fun ls hl => ?_)
                      refine lv_goto (tgt := 17) hx hb d_Mo_down_109 (by decide) ?_
                      have hl : lv_has ls 10 [(7, .int (iI (-1))), (5, .long (lI ((mAt (fl lm x) nx (nn / 32 + 1)) * 2 ^ 32 + ((mAt (fl lm x) nx (nn / 32 + 0)) / 2 ^ (nn % 32))))), (8, .long (lI (mAt (fl lm x) nx (nn / 32 + 0)))), (4, .int (iI (((nn % 32 : Nat) : Int)))), (3, .int (iI (((nn / 32 : Nat) : Int)))), (0, .ref y), (1, .int (iI ((x : Int)))), (2, .int (iI ((nn : Int))))] := hl
                      refine lv_iload hx hb d_Mo_down_17 (lv_at hl 0 rfl) ?_
                      refine x_if_lt (tgt := 112) hx hb d_Mo_down_19 (by decide) (by omega) (fun h19 => ?_) (fun h19 => ?_)
                      · have hval : (mAt (fl lm x) nx (nn / 32 + 1)) * 2 ^ 32 + ((mAt (fl lm x) nx (nn / 32 + 0)) / 2 ^ (nn % 32)) = (((Z x).natAbs : Int) / 2 ^ nn) := by
                          rw [hb0, Int.pow_zero, Int.ediv_one]; exact hdv.1 hb0
                        rw [hval] at hl
                        have hl : lv_has ls 10 [(7, .int (iI (-1))), (5, .long (lI ((((Z x).natAbs : Int) / 2 ^ nn)))), (8, .long (lI (mAt (fl lm x) nx (nn / 32 + 0)))), (4, .int (iI (((nn % 32 : Nat) : Int)))), (3, .int (iI (((nn / 32 : Nat) : Int)))), (0, .ref y), (1, .int (iI ((x : Int)))), (2, .int (iI ((nn : Int))))] := hl
                        refine x_iconst hx hb d_Mo_down_112 ?_
                        refine lv_istore (lv' := [(7, .int (iI 0)), (5, .long (lI ((((Z x).natAbs : Int) / 2 ^ nn)))), (8, .long (lI (mAt (fl lm x) nx (nn / 32 + 0)))), (4, .int (iI (((nn % 32 : Nat) : Int)))), (3, .int (iI (((nn / 32 : Nat) : Int)))), (0, .ref y), (1, .int (iI ((x : Int)))), (2, .int (iI ((nn : Int))))]) hx hb d_Mo_down_113 hl (by decide) rfl (fun ls hl => ?_)
                        refine x_iconst hx hb d_Mo_down_115 ?_
                        refine lv_istore (lv' := [(8, .int (iI 0)), (7, .int (iI 0)), (5, .long (lI ((((Z x).natAbs : Int) / 2 ^ nn)))), (4, .int (iI (((nn % 32 : Nat) : Int)))), (3, .int (iI (((nn / 32 : Nat) : Int)))), (0, .ref y), (1, .int (iI ((x : Int)))), (2, .int (iI ((nn : Int))))]) hx hb d_Mo_down_116 hl (by decide) rfl (fun ls hl => ?_)
                        have LP : ∀ (fuel : Nat) (k : Nat) (an : Int), nn / 32 - k < fuel → (k ≤ nn / 32) → (((an = 0 ∧ LowZ (fl lm x) nx k) ∨ (an = 1 ∧ ¬ LowZ (fl lm x) nx k))) → ∀ (H : Heap) (locs : List Loc) (ls : Array Slot), Wb D vwCl (TY cs) L (mw f [(y, .inr (7, [.int (iI th), .ref m1, .ref m2, .ref m3, .int (iI pn), .ref m5, .ref m6, .ref m7, .ref m8, .ref m9, .ref m10, .ref m11, .ref m12, .ref m13, .int (iI rw_), .ref m15, .long (lI fu), .long (lI fb)])), (m1, .inl (cs 0, 11520, .inl (ai lm))), (m2, .inl (cs 0, 180, .inl (ai mn))), (m3, .inl (cs 0, 180, .inl (ai sn)))]) (AL L s.heap.size) s H locs → lv_has ls 10 [(8, .int (iI ((k : Int)))), (7, .int (iI an)), (5, .long (lI ((((Z x).natAbs : Int) / 2 ^ nn)))), (4, .int (iI (((nn % 32 : Nat) : Int)))), (3, .int (iI (((nn / 32 : Nat) : Int)))), (0, .ref y), (1, .int (iI ((x : Int)))), (2, .int (iI ((nn : Int))))] → W p l e R s m av below meth c H locs (0) (0) Q (F0 m 118 ls []) := by
                          intro fuel
                          induction fuel with
                          | zero => intro k an hfu; exact absurd hfu (Nat.not_lt_zero _)
                          | succ fuel ih_LP =>
                            intro k an hfu_LP hk han H locs ls B hl
                            have hanr : an = 0 ∨ an = 1 := han.imp (fun h => h.1) (fun h => h.1)
                            refine lv_iload hx hb d_Mo_down_118 (lv_at hl 0 rfl) ?_
                            refine lv_iload_n hx hb d_Mo_down_120 rfl (lv_at hl 4 rfl) ?_
                            refine x_icmp_ge (tgt := 154) hx hb d_Mo_down_121 (by decide) (by omega) (by omega) (fun h121 => ?_) (fun h121 => ?_)
                            · have J187 : ∀ (an3 : Int), ((an3 = 0 ∧ rst ((Z x).natAbs : Int) nn = 0) ∨ (an3 = 1 ∧ rst ((Z x).natAbs : Int) nn ≠ 0)) → ∀ (H : Heap) (locs : List Loc) (ls : Array Slot), Wb D vwCl (TY cs) L (mw f [(y, .inr (7, [.int (iI th), .ref m1, .ref m2, .ref m3, .int (iI pn), .ref m5, .ref m6, .ref m7, .ref m8, .ref m9, .ref m10, .ref m11, .ref m12, .ref m13, .int (iI rw_), .ref m15, .long (lI fu), .long (lI fb)])), (m1, .inl (cs 0, 11520, .inl (ai lm))), (m2, .inl (cs 0, 180, .inl (ai mn))), (m3, .inl (cs 0, 180, .inl (ai sn)))]) (AL L s.heap.size) s H locs → lv_has ls 10 [(5, .long (lI ((((Z x).natAbs : Int) / 2 ^ nn)))), (0, .ref y), (1, .int (iI ((x : Int))))] → W p l e R s m av below meth c H locs (0) (0) Q (F0 m 187 ls [.int (iI an3)]) := by
                                intro an3 han3 H locs ls B hl
                                have han3r : an3 = 0 ∨ an3 = 1 := han3.imp (fun h => h.1) (fun h => h.1)
                                refine lv_istore (lv' := [(7, .int (iI an3)), (5, .long (lI ((((Z x).natAbs : Int) / 2 ^ nn)))), (0, .ref y), (1, .int (iI ((x : Int))))]) hx hb d_Mo_down_187 hl (by decide) rfl (fun ls hl => ?_)
                                refine lv_aload_n hx hb d_Mo_down_189 rfl (lv_at hl 2 rfl) ?_
                                refine x_get (C := RX7) (T := TX7) (N := 18) hx hb hts inX7 hown B hF 0 rfl rfl 3 (by decide) (hts _ w_680) (fun _ h9 => h9) rfl d_Mo_down_190 ?_
                                refine lv_iload_n hx hb d_Mo_down_193 rfl (lv_at hl 3 rfl) ?_
                                refine x_iald hx hb B hF 3 0 rfl rfl x (by omega) (by omega) (by decide) d_Mo_down_194 ?_
                                refine x_if_lt (tgt := 203) hx hb d_Mo_down_195 (by decide) (by omega) (fun h195 => ?_) (fun h195 => ?_)
                                · refine lv_iload hx hb d_Mo_down_203 (lv_at hl 0 rfl) ?_
                                  refine x_if_eq (tgt := 216) hx hb d_Mo_down_205 (by decide) (by omega) (fun h205 => ?_) (fun h205 => ?_)
                                  · refine lv_lload hx hb d_Mo_down_216 (lv_at hl 1 rfl) ?_
                                    refine x_lneg hx hb d_Mo_down_218 ?_
                                    have B := B.of_eq hmw
                                    subst hQ hav
                                    exact x_lret hx hb hr hlocks B d_Mo_down_219 (⟨by rw [floor_of (z := Z x) (V := ((Z x).natAbs : Int)) (N := 2 ^ nn) (pw2 nn) rfl, if_neg (show ¬ 0 ≤ Z x by omega), if_neg (show ¬ ((Z x).natAbs : Int) % 2 ^ nn ≠ 0 from fun h => h (han3.resolve_right (fun q => by omega)).2)], rfl⟩)
                                  · refine lv_lload hx hb d_Mo_down_208 (lv_at hl 1 rfl) ?_
                                    refine x_lneg hx hb d_Mo_down_210 ?_
                                    refine x_lconst (z := 1) hx hb d_Mo_down_211 (by decide) ?_
                                    refine x_lsub hx hb d_Mo_down_212 ?_
                                    refine lv_goto (tgt := 219) hx hb d_Mo_down_213 (by decide) ?_
                                    have B := B.of_eq hmw
                                    subst hQ hav
                                    exact x_lret hx hb hr hlocks B d_Mo_down_219 (⟨by rw [floor_of (z := Z x) (V := ((Z x).natAbs : Int)) (N := 2 ^ nn) (pw2 nn) rfl, if_neg (show ¬ 0 ≤ Z x by omega), if_pos (show ((Z x).natAbs : Int) % 2 ^ nn ≠ 0 from (han3.resolve_left (fun q => by omega)).2)], rfl⟩)
                                · refine lv_lload hx hb d_Mo_down_198 (lv_at hl 1 rfl) ?_
                                  refine lv_goto (tgt := 219) hx hb d_Mo_down_200 (by decide) ?_
                                  have B := B.of_eq hmw
                                  subst hQ hav
                                  exact x_lret hx hb hr hlocks B d_Mo_down_219 (⟨by rw [floor_of (z := Z x) (V := ((Z x).natAbs : Int)) (N := 2 ^ nn) (pw2 nn) rfl, if_pos (show 0 ≤ Z x by omega)], rfl⟩)
                              have hz1 : mAt (fl lm x) nx (nn / 32) % 2 ^ (nn % 32) = 0 := by rw [hb0, Int.pow_zero]; omega
                              refine lv_iload hx hb d_Mo_down_154 (lv_at hl 1 rfl) ?_
                              refine x_if_ne (tgt := 182) hx hb d_Mo_down_156 (by decide) (by omega) (fun h156 => ?_) (fun h156 => ?_)
                              · refine x_iconst hx hb d_Mo_down_182 ?_
                                refine lv_goto (tgt := 187) hx hb d_Mo_down_183 (by decide) ?_
                                exact J187 1 (by
          rcases han with ⟨q1, q2⟩ | ⟨q1, q2⟩
          · first | (exfalso; omega) | exact Or.inl ⟨rfl, hdn.mpr ⟨by rw [show nn / 32 = k by omega]; exact q2, by omega⟩⟩ | exact Or.inr ⟨rfl, fun h => absurd (hdn.mp h).2 (by omega)⟩
          · first | (exfalso; omega) | exact Or.inr ⟨rfl, fun h => q2 (by rw [show k = nn / 32 by omega]; exact (hdn.mp h).1)⟩) _ _ _ B (lv_sub hl [2, 5, 6] rfl)
                              · refine lv_iload hx hb d_Mo_down_159 (lv_at hl 3 rfl) ?_
                                refine x_if_le (tgt := 186) hx hb d_Mo_down_161 (by decide) (by omega) (fun h161 => ?_) (fun h161 => ?_)
                                · refine x_iconst hx hb d_Mo_down_186 ?_
                                  exact J187 0 (by
          rcases han with ⟨q1, q2⟩ | ⟨q1, q2⟩
          · first | (exfalso; omega) | exact Or.inl ⟨rfl, hdn.mpr ⟨by rw [show nn / 32 = k by omega]; exact q2, by omega⟩⟩ | exact Or.inr ⟨rfl, fun h => absurd (hdn.mp h).2 (by omega)⟩
          · first | (exfalso; omega) | exact Or.inr ⟨rfl, fun h => q2 (by rw [show k = nn / 32 by omega]; exact (hdn.mp h).1)⟩) _ _ _ B (lv_sub hl [2, 5, 6] rfl)
                                · exfalso; omega
                            · have J146 : ∀ (an2 : Int), (((an2 = 0 ∧ LowZ (fl lm x) nx (k + 1)) ∨ (an2 = 1 ∧ ¬ LowZ (fl lm x) nx (k + 1)))) → ∀ (H : Heap) (locs : List Loc) (ls : Array Slot), Wb D vwCl (TY cs) L (mw f [(y, .inr (7, [.int (iI th), .ref m1, .ref m2, .ref m3, .int (iI pn), .ref m5, .ref m6, .ref m7, .ref m8, .ref m9, .ref m10, .ref m11, .ref m12, .ref m13, .int (iI rw_), .ref m15, .long (lI fu), .long (lI fb)])), (m1, .inl (cs 0, 11520, .inl (ai lm))), (m2, .inl (cs 0, 180, .inl (ai mn))), (m3, .inl (cs 0, 180, .inl (ai sn)))]) (AL L s.heap.size) s H locs → lv_has ls 10 [(8, .int (iI ((k : Int)))), (7, .int (iI an)), (5, .long (lI ((((Z x).natAbs : Int) / 2 ^ nn)))), (4, .int (iI (((nn % 32 : Nat) : Int)))), (3, .int (iI (((nn / 32 : Nat) : Int)))), (0, .ref y), (1, .int (iI ((x : Int)))), (2, .int (iI ((nn : Int))))] → W p l e R s m av below meth c H locs (0) (0) Q (F0 m 146 ls [.int (iI an2)]) := by
                                intro an2 han2 H locs ls B hl
                                refine lv_istore (lv' := [(7, .int (iI an2)), (8, .int (iI ((k : Int)))), (5, .long (lI ((((Z x).natAbs : Int) / 2 ^ nn)))), (4, .int (iI (((nn % 32 : Nat) : Int)))), (3, .int (iI (((nn / 32 : Nat) : Int)))), (0, .ref y), (1, .int (iI ((x : Int)))), (2, .int (iI ((nn : Int))))]) hx hb d_Mo_down_146 hl (by decide) rfl (fun ls hl => ?_)
                                refine x_iinc (lv' := [(8, .int (iI (((k : Int)) + 1))), (7, .int (iI an2)), (5, .long (lI ((((Z x).natAbs : Int) / 2 ^ nn)))), (4, .int (iI (((nn % 32 : Nat) : Int)))), (3, .int (iI (((nn / 32 : Nat) : Int)))), (0, .ref y), (1, .int (iI ((x : Int)))), (2, .int (iI ((nn : Int))))]) hx hb d_Mo_down_148 hl (q := 1) rfl rfl (by decide) rfl (fun ls hl => ?_)
                                refine lv_goto (tgt := 118) hx hb d_Mo_down_151 (by decide) ?_
                                exact ih_LP (k + 1) an2 (by omega) (by omega) han2 _ _ _ B (lv_sub hl [0, 1, 2, 3, 4, 5, 6, 7] rfl)
                              refine lv_iload hx hb d_Mo_down_124 (lv_at hl 1 rfl) ?_
                              refine x_if_ne (tgt := 141) hx hb d_Mo_down_126 (by decide) (by omega) (fun h126 => ?_) (fun h126 => ?_)
                              · refine x_iconst hx hb d_Mo_down_141 ?_
                                refine lv_goto (tgt := 146) hx hb d_Mo_down_142 (by decide) ?_
                                exact J146 1 (by rcases han with ⟨q1, q2⟩ | ⟨q1, q2⟩; (first | (exfalso; omega) | exact Or.inr ⟨rfl, fun h => absurd (LowZ_succ.mp h).2 (by omega)⟩); exact Or.inr ⟨rfl, fun h => q2 (LowZ_succ.mp h).1⟩) _ _ _ B (lv_sub hl [0, 1, 2, 3, 4, 5, 6, 7] rfl)
                              · refine lv_aload_n hx hb d_Mo_down_129 rfl (lv_at hl 5 rfl) ?_
                                refine lv_iload_n hx hb d_Mo_down_130 rfl (lv_at hl 6 rfl) ?_
                                refine lv_iload hx hb d_Mo_down_131 (lv_at hl 0 rfl) ?_
                                refine x_calll B hA (va_runV (As := [.int (iI ((x : Int))), .int (iI ((k : Int)))]) (rest := []) ⟨hx, hb, hml, hown, hts⟩ (c_Mo_limbOf l D cs _ _ _ y m1 m2 m3 m5 m6 m7 m8 m9 m10 m11 m12 m13 m15 th pn rw_ fu fb lm mn sn x (k) nx hF (mw_get (X := [(y, .inr (7, [.int (iI th), .ref m1, .ref m2, .ref m3, .int (iI pn), .ref m5, .ref m6, .ref m7, .ref m8, .ref m9, .ref m10, .ref m11, .ref m12, .ref m13, .int (iI rw_), .ref m15, .long (lI fu), .long (lI fb)])), (m1, .inl (cs 0, 11520, .inl (ai lm))), (m2, .inl (cs 0, 180, .inl (ai mn))), (m3, .inl (cs 0, 180, .inl (ai sn)))]) hF.1 (k := 0) rfl) (mw_get (X := [(y, .inr (7, [.int (iI th), .ref m1, .ref m2, .ref m3, .int (iI pn), .ref m5, .ref m6, .ref m7, .ref m8, .ref m9, .ref m10, .ref m11, .ref m12, .ref m13, .int (iI rw_), .ref m15, .long (lI fu), .long (lI fb)])), (m1, .inl (cs 0, 11520, .inl (ai lm))), (m2, .inl (cs 0, 180, .inl (ai mn))), (m3, .inl (cs 0, 180, .inl (ai sn)))]) hF.1 (k := 1) rfl) (mw_get (X := [(y, .inr (7, [.int (iI th), .ref m1, .ref m2, .ref m3, .int (iI pn), .ref m5, .ref m6, .ref m7, .ref m8, .ref m9, .ref m10, .ref m11, .ref m12, .ref m13, .int (iI rw_), .ref m15, .long (lI fu), .long (lI fb)])), (m1, .inl (cs 0, 11520, .inl (ai lm))), (m2, .inl (cs 0, 180, .inl (ai mn))), (m3, .inl (cs 0, 180, .inl (ai sn)))]) hF.1 (k := 2) rfl) (mw_get (X := [(y, .inr (7, [.int (iI th), .ref m1, .ref m2, .ref m3, .int (iI pn), .ref m5, .ref m6, .ref m7, .ref m8, .ref m9, .ref m10, .ref m11, .ref m12, .ref m13, .int (iI rw_), .ref m15, .long (lI fu), .long (lI fb)])), (m1, .inl (cs 0, 11520, .inl (ai lm))), (m2, .inl (cs 0, 180, .inl (ai mn))), (m3, .inl (cs 0, 180, .inl (ai sn)))]) hF.1 (k := 3) rfl) hx8 (by omega) hnx hn8 (fun h9 => hMx _ h9)) (cwV 2 hts (gw_V w_824 w_826 s_42 w_8 w_827) rfl rfl rfl (by decide +kernel) ⟨by rw [hRf]; exact Nat.le_of_ble_eq_true rfl, by rw [hRl]; exact Nat.le_of_ble_eq_true rfl⟩) ⟨K0.blind, B.recv (hF.2 _ (mw_key (k := 0) (X := [(y, .inr (7, [.int (iI th), .ref m1, .ref m2, .ref m3, .int (iI pn), .ref m5, .ref m6, .ref m7, .ref m8, .ref m9, .ref m10, .ref m11, .ref m12, .ref m13, .int (iI rw_), .ref m15, .long (lI fu), .long (lI fb)])), (m1, .inl (cs 0, 11520, .inl (ai lm))), (m2, .inl (cs 0, 180, .inl (ai mn))), (m3, .inl (cs 0, 180, .inl (ai sn)))]) rfl)) (mw_get (X := [(y, .inr (7, [.int (iI th), .ref m1, .ref m2, .ref m3, .int (iI pn), .ref m5, .ref m6, .ref m7, .ref m8, .ref m9, .ref m10, .ref m11, .ref m12, .ref m13, .int (iI rw_), .ref m15, .long (lI fu), .long (lI fb)])), (m1, .inl (cs 0, 11520, .inl (ai lm))), (m2, .inl (cs 0, 180, .inl (ai mn))), (m3, .inl (cs 0, 180, .inl (ai sn)))]) hF.1 (k := 0) rfl) rfl, B.pre _⟩ rfl rfl hl.1 rfl (lv_room (Nat.le_of_ble_eq_true rfl)) d_Mo_down_133 ⟨by rw [hRc]; omega, by rw [hRs]; omega⟩) (fun r133 g133 H locs hw B => ?_)
                                obtain ⟨rfl, rfl⟩ := hw
                                have B : Wb D vwCl (TY cs) L (mw f [(y, .inr (7, [.int (iI th), .ref m1, .ref m2, .ref m3, .int (iI pn), .ref m5, .ref m6, .ref m7, .ref m8, .ref m9, .ref m10, .ref m11, .ref m12, .ref m13, .int (iI rw_), .ref m15, .long (lI fu), .long (lI fb)])), (m1, .inl (cs 0, 11520, .inl (ai lm))), (m2, .inl (cs 0, 180, .inl (ai mn))), (m3, .inl (cs 0, 180, .inl (ai sn)))]) (AL L s.heap.size) s H _ := B
                                have hmr133 := mAt_range hMx (k)
                                refine x_lconst (z := 0) hx hb d_Mo_down_136 (by decide) ?_
                                refine x_lc_eq (tgt := 145) hx hb d_Mo_down_137 rfl d_Mo_down_138 (by decide) (by omega) (by omega) (fun h138 => ?_) (fun h138 => ?_)
                                · refine x_iconst hx hb d_Mo_down_145 ?_
                                  exact J146 0 (by rcases han with ⟨q1, q2⟩ | ⟨q1, q2⟩; exact Or.inl ⟨rfl, LowZ_succ.mpr ⟨q2, by omega⟩⟩; exfalso; omega) _ _ _ B (lv_sub hl [0, 1, 2, 3, 4, 5, 6, 7] rfl)
                                · refine x_iconst hx hb d_Mo_down_141 ?_
                                  refine lv_goto (tgt := 146) hx hb d_Mo_down_142 (by decide) ?_
                                  exact J146 1 (by rcases han with ⟨q1, q2⟩ | ⟨q1, q2⟩; (first | (exfalso; omega) | exact Or.inr ⟨rfl, fun h => absurd (LowZ_succ.mp h).2 (by omega)⟩); exact Or.inr ⟨rfl, fun h => q2 (LowZ_succ.mp h).1⟩) _ _ _ B (lv_sub hl [0, 1, 2, 3, 4, 5, 6, 7] rfl)
                        exact LP _ 0 0 (Nat.lt_succ_self _) (by omega) (Or.inl ⟨rfl, fun j hj => absurd hj (Nat.not_lt_zero j)⟩) _ _ _ B (lv_sub hl [0, 1, 2, 3, 4, 5, 6, 7] rfl)
                      · exfalso; omega
                    · exfalso; omega
                  · exfalso; omega
              · exfalso; omega
          · exfalso; omega
      · exfalso; omega
set_option maxHeartbeats 8000000 in
set_option maxRecDepth 100000 in
theorem c_Mo_down_b (l : Launch) (D : va_G) (cs : Nat → ClassId) (L : List Nat) (f : Nat → va_E) (sz : Nat) (y m1 m2 m3 m5 m6 m7 m8 m9 m10 m11 m12 m13 m15 : Nat) (th pn rw_ fu fb : Int) (lm mn sn Z : Nat → Int) (x nn : Nat) (hF : Fc L [y, m1, m2, m3]) (ha : f y = .inr (7, [.int (iI th), .ref m1, .ref m2, .ref m3, .int (iI pn), .ref m5, .ref m6, .ref m7, .ref m8, .ref m9, .ref m10, .ref m11, .ref m12, .ref m13, .int (iI rw_), .ref m15, .long (lI fu), .long (lI fb)])) (hm1 : f m1 = .inl (cs 0, 11520, .inl (ai lm))) (hm2 : f m2 = .inl (cs 0, 180, .inl (ai mn))) (hm3 : f m3 = .inl (cs 0, 180, .inl (ai sn))) (hRS : RS lm mn sn Z) (hx8 : x < 180) (hnn : nn ≤ 256) (hV : ((Z x).natAbs : Int) / 2 ^ nn < 9223372036854775808) (hb1 : 0 < nn % 32) : Met l (⟨"RealRootsModel", "down", "(II)J"⟩ : MethodName) (.code (⟨"RealRootsModel", "down", "(II)J"⟩ : MethodName) prog_9_method_52_code 10 (Option.some Jvm.ClassFile.FieldType.long) :: gw) ({ frames := 2, cells := 0, slots := 0, locals := 50 }) (va_Pc [.ref y, .int (iI ((x : Int))), .int (iI ((nn : Int)))] (K0 D vwCl (TY cs) L f sz)) (va_Ql (fun (r : Int64) (g : Nat → va_E) => r = lI (Z x / 2 ^ nn) ∧ g = f) (K1 D vwCl (TY cs) (AL L sz) L) (AL L sz)) 0 0 (AL L sz) := by
  refine Met.ofW (cc := prog_9_method_52_code) (maxL := 10) (ret := (Option.some Jvm.ClassFile.FieldType.long)) (by decide) rfl ?_
  intro p e s m args below meth c s₁ Bd hml hv
  obtain ⟨rfl, hk0⟩ := hv
  obtain ⟨hsz, B⟩ := hk0.start
  subst hsz
  have hx := Bd.exec
  have hb := Bd.bytes
  have hr := Bd.returns
  have hlocks := Bd.notSynchronized
  have hts0 := atoms_spec Bd.pre
  have hown : s.vm.findClass RX7 = some m.cls := findClass_of_methodNamed Bd.named
  have hA : ∀ q, s.heap.size ≤ q → AL L s.heap.size q := fun _ h => Or.inr h
  have hl := lv_entry ([.ref y, .int (iI ((x : Int))), .int (iI ((nn : Int)))]) (n := 10) (Nat.le_of_ble_eq_true rfl)
  rw [lg_entry_eq]
  generalize (lg_sl ([.ref y, .int (iI ((x : Int))), .int (iI ((nn : Int)))]) ++ List.replicate (10 - (lg_sl ([.ref y, .int (iI ((x : Int))), .int (iI ((nn : Int)))])).length) Slot.unset).toArray = ls at hl ⊢
  refine absQ (fun Q R av hQ hR hav => ?_)
  have hts : ∀ w ∈ gw, w.before av s = true := by rw [hav]; exact fun w h => hts0 w (List.mem_cons_of_mem _ h)
  have hRf : R.frames = 2 := by rw [hR]; rfl
  have hRl : R.locals = 50 := by rw [hR]; rfl
  have hRc : R.cells = 0 := by rw [hR]; rfl
  have hRs : R.slots = 0 := by rw [hR]; rfl
  clear hR hts0 Bd
  have hl : lv_has ls 10 [(0, .ref y), (1, .int (iI ((x : Int)))), (2, .int (iI ((nn : Int))))] := hl
  obtain ⟨nx, hnx, hn8, hMx, htx, hvx⟩ := (hRS x hx8).nat
  have hsx := (hRS x hx8).side
  have hdv := down_val (w := nn / 32) (b := nn % 32) hMx hvx (by omega) (by rw [show 32 * (nn / 32) + nn % 32 = nn by omega]; exact hV)
  have hdn := down_any (w := nn / 32) (b := nn % 32) hMx hvx (by omega)
  rw [show 32 * (nn / 32) + nn % 32 = nn by omega] at hdv hdn
  have hdn : rst ((Z x).natAbs : Int) nn = 0 ↔ LowZ (fl lm x) nx (nn / 32) ∧ mAt (fl lm x) nx (nn / 32) % 2 ^ (nn % 32) = 0 := hdn
  have pb := pw2 (nn % 32)
  have hV0 : 0 ≤ ((Z x).natAbs : Int) / 2 ^ nn := Int.ediv_nonneg (by omega) (Int.le_of_lt (pw2 nn))
  have hfx : ∀ q ∈ ([(y, .inr (7, [.int (iI th), .ref m1, .ref m2, .ref m3, .int (iI pn), .ref m5, .ref m6, .ref m7, .ref m8, .ref m9, .ref m10, .ref m11, .ref m12, .ref m13, .int (iI rw_), .ref m15, .long (lI fu), .long (lI fb)])), (m1, .inl (cs 0, 11520, .inl (ai lm))), (m2, .inl (cs 0, 180, .inl (ai mn))), (m3, .inl (cs 0, 180, .inl (ai sn)))] : List (Nat × va_E)), f q.1 = q.2 := fun q hq => by
    simp only [List.mem_cons, List.not_mem_nil, or_false] at hq
    rcases hq with rfl | rfl | rfl | rfl
    · exact ha
    · exact hm1
    · exact hm2
    · exact hm3
  have hmw : mw f [(y, .inr (7, [.int (iI th), .ref m1, .ref m2, .ref m3, .int (iI pn), .ref m5, .ref m6, .ref m7, .ref m8, .ref m9, .ref m10, .ref m11, .ref m12, .ref m13, .int (iI rw_), .ref m15, .long (lI fu), .long (lI fb)])), (m1, .inl (cs 0, 11520, .inl (ai lm))), (m2, .inl (cs 0, 180, .inl (ai mn))), (m3, .inl (cs 0, 180, .inl (ai sn)))] = f := mw_self (fun k a e hk => hfx (a, e) (List.mem_of_getElem? hk))
  have B := B.focus [(y, .inr (7, [.int (iI th), .ref m1, .ref m2, .ref m3, .int (iI pn), .ref m5, .ref m6, .ref m7, .ref m8, .ref m9, .ref m10, .ref m11, .ref m12, .ref m13, .int (iI rw_), .ref m15, .long (lI fu), .long (lI fb)])), (m1, .inl (cs 0, 11520, .inl (ai lm))), (m2, .inl (cs 0, 180, .inl (ai mn))), (m3, .inl (cs 0, 180, .inl (ai sn)))] hfx
  refine lv_iload_n hx hb d_Mo_down_0 rfl (lv_at hl 2 rfl) ?_
  refine x_bipush hx hb d_Mo_down_1 (by decide) ?_
  refine x_idiv hx hb d_Mo_down_3 (by omega) (by omega) (by omega) ?_
  refine lv_istore_n (lv' := [(3, .int (iI (((nn : Int)).tdiv 32))), (0, .ref y), (1, .int (iI ((x : Int)))), (2, .int (iI ((nn : Int))))]) hx hb d_Mo_down_4 rfl hl (by decide) rfl (fun ls hl => ?_)
  refine lv_iload_n hx hb d_Mo_down_5 rfl (lv_at hl 3 rfl) ?_
  refine x_bipush hx hb d_Mo_down_6 (by decide) ?_
  refine x_irem hx hb d_Mo_down_8 (by omega) (by omega) (by omega) ?_
  refine lv_istore (lv' := [(4, .int (iI (((nn : Int)).tmod 32))), (3, .int (iI (((nn : Int)).tdiv 32))), (0, .ref y), (1, .int (iI ((x : Int)))), (2, .int (iI ((nn : Int))))]) hx hb d_Mo_down_9 hl (by decide) rfl (fun ls hl => ?_)
  have hl : lv_has ls 10 [(4, .int (iI (((nn % 32 : Nat) : Int)))), (3, .int (iI (((nn / 32 : Nat) : Int)))), (0, .ref y), (1, .int (iI ((x : Int)))), (2, .int (iI ((nn : Int))))] := hl
  refine x_lconst (z := 0) hx hb d_Mo_down_11 (by decide) ?_
  refine lv_lstore (lv' := [(5, .long (lI 0)), (4, .int (iI (((nn % 32 : Nat) : Int)))), (3, .int (iI (((nn / 32 : Nat) : Int)))), (0, .ref y), (1, .int (iI ((x : Int)))), (2, .int (iI ((nn : Int))))]) hx hb d_Mo_down_12 hl (by decide) rfl (fun ls hl => ?_)
  refine x_iconst hx hb d_Mo_down_14 ?_
  refine lv_istore (lv' := [(7, .int (iI 2)), (5, .long (lI 0)), (4, .int (iI (((nn % 32 : Nat) : Int)))), (3, .int (iI (((nn / 32 : Nat) : Int)))), (0, .ref y), (1, .int (iI ((x : Int)))), (2, .int (iI ((nn : Int))))]) hx hb d_Mo_down_15 hl (by decide) rfl (fun ls hl => ?_)
  have hl : lv_has ls 10 [(7, .int (iI 2)), (5, .long (lI 0)), (4, .int (iI (((nn % 32 : Nat) : Int)))), (3, .int (iI (((nn / 32 : Nat) : Int)))), (0, .ref y), (1, .int (iI ((x : Int)))), (2, .int (iI ((nn : Int))))] := hl
  refine lv_iload hx hb d_Mo_down_17 (lv_at hl 0 rfl) ?_
  refine x_if_lt (tgt := 112) hx hb d_Mo_down_19 (by decide) (by omega) (fun h19 => ?_) (fun h19 => ?_)
  · exfalso; omega
  · refine lv_aload_n hx hb d_Mo_down_22 rfl (lv_at hl 4 rfl) ?_
    refine lv_iload_n hx hb d_Mo_down_23 rfl (lv_at hl 5 rfl) ?_
    refine lv_iload_n hx hb d_Mo_down_24 rfl (lv_at hl 3 rfl) ?_
    refine lv_iload hx hb d_Mo_down_25 (lv_at hl 0 rfl) ?_
    refine x_iadd hx hb d_Mo_down_27 ?_
    rw [show (((nn / 32 : Nat) : Int)) + 2 = ((nn / 32 + 2 : Nat) : Int) by omega]
    refine x_calll B hA (va_runV (As := [.int (iI ((x : Int))), .int (iI (((nn / 32 + 2 : Nat) : Int)))]) (rest := []) ⟨hx, hb, hml, hown, hts⟩ (c_Mo_limbOf l D cs _ _ _ y m1 m2 m3 m5 m6 m7 m8 m9 m10 m11 m12 m13 m15 th pn rw_ fu fb lm mn sn x (nn / 32 + 2) nx hF (mw_get (X := [(y, .inr (7, [.int (iI th), .ref m1, .ref m2, .ref m3, .int (iI pn), .ref m5, .ref m6, .ref m7, .ref m8, .ref m9, .ref m10, .ref m11, .ref m12, .ref m13, .int (iI rw_), .ref m15, .long (lI fu), .long (lI fb)])), (m1, .inl (cs 0, 11520, .inl (ai lm))), (m2, .inl (cs 0, 180, .inl (ai mn))), (m3, .inl (cs 0, 180, .inl (ai sn)))]) hF.1 (k := 0) rfl) (mw_get (X := [(y, .inr (7, [.int (iI th), .ref m1, .ref m2, .ref m3, .int (iI pn), .ref m5, .ref m6, .ref m7, .ref m8, .ref m9, .ref m10, .ref m11, .ref m12, .ref m13, .int (iI rw_), .ref m15, .long (lI fu), .long (lI fb)])), (m1, .inl (cs 0, 11520, .inl (ai lm))), (m2, .inl (cs 0, 180, .inl (ai mn))), (m3, .inl (cs 0, 180, .inl (ai sn)))]) hF.1 (k := 1) rfl) (mw_get (X := [(y, .inr (7, [.int (iI th), .ref m1, .ref m2, .ref m3, .int (iI pn), .ref m5, .ref m6, .ref m7, .ref m8, .ref m9, .ref m10, .ref m11, .ref m12, .ref m13, .int (iI rw_), .ref m15, .long (lI fu), .long (lI fb)])), (m1, .inl (cs 0, 11520, .inl (ai lm))), (m2, .inl (cs 0, 180, .inl (ai mn))), (m3, .inl (cs 0, 180, .inl (ai sn)))]) hF.1 (k := 2) rfl) (mw_get (X := [(y, .inr (7, [.int (iI th), .ref m1, .ref m2, .ref m3, .int (iI pn), .ref m5, .ref m6, .ref m7, .ref m8, .ref m9, .ref m10, .ref m11, .ref m12, .ref m13, .int (iI rw_), .ref m15, .long (lI fu), .long (lI fb)])), (m1, .inl (cs 0, 11520, .inl (ai lm))), (m2, .inl (cs 0, 180, .inl (ai mn))), (m3, .inl (cs 0, 180, .inl (ai sn)))]) hF.1 (k := 3) rfl) hx8 (by omega) hnx hn8 (fun h9 => hMx _ h9)) (cwV 2 hts (gw_V w_824 w_826 s_42 w_8 w_827) rfl rfl rfl (by decide +kernel) ⟨by rw [hRf]; exact Nat.le_of_ble_eq_true rfl, by rw [hRl]; exact Nat.le_of_ble_eq_true rfl⟩) ⟨K0.blind, B.recv (hF.2 _ (mw_key (k := 0) (X := [(y, .inr (7, [.int (iI th), .ref m1, .ref m2, .ref m3, .int (iI pn), .ref m5, .ref m6, .ref m7, .ref m8, .ref m9, .ref m10, .ref m11, .ref m12, .ref m13, .int (iI rw_), .ref m15, .long (lI fu), .long (lI fb)])), (m1, .inl (cs 0, 11520, .inl (ai lm))), (m2, .inl (cs 0, 180, .inl (ai mn))), (m3, .inl (cs 0, 180, .inl (ai sn)))]) rfl)) (mw_get (X := [(y, .inr (7, [.int (iI th), .ref m1, .ref m2, .ref m3, .int (iI pn), .ref m5, .ref m6, .ref m7, .ref m8, .ref m9, .ref m10, .ref m11, .ref m12, .ref m13, .int (iI rw_), .ref m15, .long (lI fu), .long (lI fb)])), (m1, .inl (cs 0, 11520, .inl (ai lm))), (m2, .inl (cs 0, 180, .inl (ai mn))), (m3, .inl (cs 0, 180, .inl (ai sn)))]) hF.1 (k := 0) rfl) rfl, B.pre _⟩ rfl rfl hl.1 rfl (lv_room (Nat.le_of_ble_eq_true rfl)) d_Mo_down_28 ⟨by rw [hRc]; omega, by rw [hRs]; omega⟩) (fun r28 g28 H locs hw B => ?_)
    obtain ⟨rfl, rfl⟩ := hw
    have B : Wb D vwCl (TY cs) L (mw f [(y, .inr (7, [.int (iI th), .ref m1, .ref m2, .ref m3, .int (iI pn), .ref m5, .ref m6, .ref m7, .ref m8, .ref m9, .ref m10, .ref m11, .ref m12, .ref m13, .int (iI rw_), .ref m15, .long (lI fu), .long (lI fb)])), (m1, .inl (cs 0, 11520, .inl (ai lm))), (m2, .inl (cs 0, 180, .inl (ai mn))), (m3, .inl (cs 0, 180, .inl (ai sn)))]) (AL L s.heap.size) s H _ := B
    have hmr28 := mAt_range hMx (nn / 32 + 2)
    refine lv_lstore (lv' := [(8, .long (lI (mAt (fl lm x) nx (nn / 32 + 2)))), (7, .int (iI 2)), (5, .long (lI 0)), (4, .int (iI (((nn % 32 : Nat) : Int)))), (3, .int (iI (((nn / 32 : Nat) : Int)))), (0, .ref y), (1, .int (iI ((x : Int)))), (2, .int (iI ((nn : Int))))]) hx hb d_Mo_down_31 hl (by decide) rfl (fun ls hl => ?_)
    refine lv_iload hx hb d_Mo_down_33 (lv_at hl 1 rfl) ?_
    refine x_iconst hx hb d_Mo_down_35 ?_
    refine x_icmp_ne (tgt := 61) hx hb d_Mo_down_36 (by decide) (by omega) (by omega) (fun h36 => ?_) (fun h36 => ?_)
    · exfalso; omega
    · refine lv_iload hx hb d_Mo_down_39 (lv_at hl 3 rfl) ?_
      refine x_if_le (tgt := 55) hx hb d_Mo_down_41 (by decide) (by omega) (fun h41 => ?_) (fun h41 => ?_)
      · exfalso; omega
      · refine lv_lload hx hb d_Mo_down_44 (lv_at hl 0 rfl) ?_
        refine x_bipush hx hb d_Mo_down_46 (by decide) ?_
        refine lv_iload hx hb d_Mo_down_48 (lv_at hl 3 rfl) ?_
        refine x_isub hx hb d_Mo_down_50 ?_
        refine x_lshlv hx hb (64 - nn % 32) (by omega) (by omega) d_Mo_down_51 ?_
        refine lv_goto (tgt := 56) hx hb d_Mo_down_52 (by decide) ?_
        refine lv_lstore (lv' := [(5, .long (lI ((mAt (fl lm x) nx (nn / 32 + 2)) * 2 ^ (64 - nn % 32)))), (8, .long (lI (mAt (fl lm x) nx (nn / 32 + 2)))), (7, .int (iI 2)), (4, .int (iI (((nn % 32 : Nat) : Int)))), (3, .int (iI (((nn / 32 : Nat) : Int)))), (0, .ref y), (1, .int (iI ((x : Int)))), (2, .int (iI ((nn : Int))))]) hx hb d_Mo_down_56 hl (by decide) rfl (fun ls hl => ?_)
        refine lv_goto (tgt := 106) hx hb d_Mo_down_58 (by decide) ?_
        refine x_iinc (lv' := [(7, .int (iI (2 + (-1)))), (5, .long (lI ((mAt (fl lm x) nx (nn / 32 + 2)) * 2 ^ (64 - nn % 32)))), (8, .long (lI (mAt (fl lm x) nx (nn / 32 + 2)))), (4, .int (iI (((nn % 32 : Nat) : Int)))), (3, .int (iI (((nn / 32 : Nat) : Int)))), (0, .ref y), (1, .int (iI ((x : Int)))), (2, .int (iI ((nn : Int))))]) hx hb d_Mo_down_106 hl (q := 2) rfl rfl (by decide) rfl (fun ls hl => ?_)
        refine lv_goto (tgt := 17) hx hb d_Mo_down_109 (by decide) ?_
        have hl : lv_has ls 10 [(7, .int (iI 1)), (5, .long (lI ((mAt (fl lm x) nx (nn / 32 + 2)) * 2 ^ (64 - nn % 32)))), (8, .long (lI (mAt (fl lm x) nx (nn / 32 + 2)))), (4, .int (iI (((nn % 32 : Nat) : Int)))), (3, .int (iI (((nn / 32 : Nat) : Int)))), (0, .ref y), (1, .int (iI ((x : Int)))), (2, .int (iI ((nn : Int))))] := hl
        refine lv_iload hx hb d_Mo_down_17 (lv_at hl 0 rfl) ?_
        refine x_if_lt (tgt := 112) hx hb d_Mo_down_19 (by decide) (by omega) (fun h19 => ?_) (fun h19 => ?_)
        · exfalso; omega
        · refine lv_aload_n hx hb d_Mo_down_22 rfl (lv_at hl 5 rfl) ?_
          refine lv_iload_n hx hb d_Mo_down_23 rfl (lv_at hl 6 rfl) ?_
          refine lv_iload_n hx hb d_Mo_down_24 rfl (lv_at hl 4 rfl) ?_
          refine lv_iload hx hb d_Mo_down_25 (lv_at hl 0 rfl) ?_
          refine x_iadd hx hb d_Mo_down_27 ?_
          rw [show (((nn / 32 : Nat) : Int)) + 1 = ((nn / 32 + 1 : Nat) : Int) by omega]
          refine x_calll B hA (va_runV (As := [.int (iI ((x : Int))), .int (iI (((nn / 32 + 1 : Nat) : Int)))]) (rest := []) ⟨hx, hb, hml, hown, hts⟩ (c_Mo_limbOf l D cs _ _ _ y m1 m2 m3 m5 m6 m7 m8 m9 m10 m11 m12 m13 m15 th pn rw_ fu fb lm mn sn x (nn / 32 + 1) nx hF (mw_get (X := [(y, .inr (7, [.int (iI th), .ref m1, .ref m2, .ref m3, .int (iI pn), .ref m5, .ref m6, .ref m7, .ref m8, .ref m9, .ref m10, .ref m11, .ref m12, .ref m13, .int (iI rw_), .ref m15, .long (lI fu), .long (lI fb)])), (m1, .inl (cs 0, 11520, .inl (ai lm))), (m2, .inl (cs 0, 180, .inl (ai mn))), (m3, .inl (cs 0, 180, .inl (ai sn)))]) hF.1 (k := 0) rfl) (mw_get (X := [(y, .inr (7, [.int (iI th), .ref m1, .ref m2, .ref m3, .int (iI pn), .ref m5, .ref m6, .ref m7, .ref m8, .ref m9, .ref m10, .ref m11, .ref m12, .ref m13, .int (iI rw_), .ref m15, .long (lI fu), .long (lI fb)])), (m1, .inl (cs 0, 11520, .inl (ai lm))), (m2, .inl (cs 0, 180, .inl (ai mn))), (m3, .inl (cs 0, 180, .inl (ai sn)))]) hF.1 (k := 1) rfl) (mw_get (X := [(y, .inr (7, [.int (iI th), .ref m1, .ref m2, .ref m3, .int (iI pn), .ref m5, .ref m6, .ref m7, .ref m8, .ref m9, .ref m10, .ref m11, .ref m12, .ref m13, .int (iI rw_), .ref m15, .long (lI fu), .long (lI fb)])), (m1, .inl (cs 0, 11520, .inl (ai lm))), (m2, .inl (cs 0, 180, .inl (ai mn))), (m3, .inl (cs 0, 180, .inl (ai sn)))]) hF.1 (k := 2) rfl) (mw_get (X := [(y, .inr (7, [.int (iI th), .ref m1, .ref m2, .ref m3, .int (iI pn), .ref m5, .ref m6, .ref m7, .ref m8, .ref m9, .ref m10, .ref m11, .ref m12, .ref m13, .int (iI rw_), .ref m15, .long (lI fu), .long (lI fb)])), (m1, .inl (cs 0, 11520, .inl (ai lm))), (m2, .inl (cs 0, 180, .inl (ai mn))), (m3, .inl (cs 0, 180, .inl (ai sn)))]) hF.1 (k := 3) rfl) hx8 (by omega) hnx hn8 (fun h9 => hMx _ h9)) (cwV 2 hts (gw_V w_824 w_826 s_42 w_8 w_827) rfl rfl rfl (by decide +kernel) ⟨by rw [hRf]; exact Nat.le_of_ble_eq_true rfl, by rw [hRl]; exact Nat.le_of_ble_eq_true rfl⟩) ⟨K0.blind, B.recv (hF.2 _ (mw_key (k := 0) (X := [(y, .inr (7, [.int (iI th), .ref m1, .ref m2, .ref m3, .int (iI pn), .ref m5, .ref m6, .ref m7, .ref m8, .ref m9, .ref m10, .ref m11, .ref m12, .ref m13, .int (iI rw_), .ref m15, .long (lI fu), .long (lI fb)])), (m1, .inl (cs 0, 11520, .inl (ai lm))), (m2, .inl (cs 0, 180, .inl (ai mn))), (m3, .inl (cs 0, 180, .inl (ai sn)))]) rfl)) (mw_get (X := [(y, .inr (7, [.int (iI th), .ref m1, .ref m2, .ref m3, .int (iI pn), .ref m5, .ref m6, .ref m7, .ref m8, .ref m9, .ref m10, .ref m11, .ref m12, .ref m13, .int (iI rw_), .ref m15, .long (lI fu), .long (lI fb)])), (m1, .inl (cs 0, 11520, .inl (ai lm))), (m2, .inl (cs 0, 180, .inl (ai mn))), (m3, .inl (cs 0, 180, .inl (ai sn)))]) hF.1 (k := 0) rfl) rfl, B.pre _⟩ rfl rfl hl.1 rfl (lv_room (Nat.le_of_ble_eq_true rfl)) d_Mo_down_28 ⟨by rw [hRc]; omega, by rw [hRs]; omega⟩) (fun r28 g28 H locs hw B => ?_)
          obtain ⟨rfl, rfl⟩ := hw
          have B : Wb D vwCl (TY cs) L (mw f [(y, .inr (7, [.int (iI th), .ref m1, .ref m2, .ref m3, .int (iI pn), .ref m5, .ref m6, .ref m7, .ref m8, .ref m9, .ref m10, .ref m11, .ref m12, .ref m13, .int (iI rw_), .ref m15, .long (lI fu), .long (lI fb)])), (m1, .inl (cs 0, 11520, .inl (ai lm))), (m2, .inl (cs 0, 180, .inl (ai mn))), (m3, .inl (cs 0, 180, .inl (ai sn)))]) (AL L s.heap.size) s H _ := B
          have hmr28 := mAt_range hMx (nn / 32 + 1)
          refine lv_lstore (lv' := [(8, .long (lI (mAt (fl lm x) nx (nn / 32 + 1)))), (7, .int (iI 1)), (5, .long (lI ((mAt (fl lm x) nx (nn / 32 + 2)) * 2 ^ (64 - nn % 32)))), (4, .int (iI (((nn % 32 : Nat) : Int)))), (3, .int (iI (((nn / 32 : Nat) : Int)))), (0, .ref y), (1, .int (iI ((x : Int)))), (2, .int (iI ((nn : Int))))]) hx hb d_Mo_down_31 hl (by decide) rfl (fun ls hl => ?_)
          refine lv_iload hx hb d_Mo_down_33 (lv_at hl 1 rfl) ?_
          refine x_iconst hx hb d_Mo_down_35 ?_
          refine x_icmp_ne (tgt := 61) hx hb d_Mo_down_36 (by decide) (by omega) (by omega) (fun h36 => ?_) (fun h36 => ?_)
          · refine lv_iload hx hb d_Mo_down_61 (lv_at hl 1 rfl) ?_
            refine x_iconst hx hb d_Mo_down_63 ?_
            refine x_icmp_ne (tgt := 96) hx hb d_Mo_down_64 (by decide) (by omega) (by omega) (fun h64 => ?_) (fun h64 => ?_)
            · exfalso; omega
            · refine lv_lload hx hb d_Mo_down_67 (lv_at hl 2 rfl) ?_
              refine lv_iload hx hb d_Mo_down_69 (lv_at hl 3 rfl) ?_
              refine x_if_le (tgt := 85) hx hb d_Mo_down_71 (by decide) (by omega) (fun h71 => ?_) (fun h71 => ?_)
              · exfalso; omega
              · refine lv_lload hx hb d_Mo_down_74 (lv_at hl 0 rfl) ?_
                refine x_bipush hx hb d_Mo_down_76 (by decide) ?_
                refine lv_iload hx hb d_Mo_down_78 (lv_at hl 3 rfl) ?_
                refine x_isub hx hb d_Mo_down_80 ?_
                refine x_lshlv hx hb (32 - nn % 32) (by omega) (by omega) d_Mo_down_81 ?_
                refine lv_goto (tgt := 90) hx hb d_Mo_down_82 (by decide) ?_
                obtain ⟨hq1, hq2, hq3, _⟩ := down_room hMx (w := nn / 32) (b := nn % 32) hb1 (by omega) (hdv.2 hb1) hV
                refine x_lorv hx hb (64 - nn % 32) d_Mo_down_90 (hq1) (hq2) (hq3) ?_
                refine lv_lstore (lv' := [(5, .long (lI ((mAt (fl lm x) nx (nn / 32 + 2)) * 2 ^ (64 - nn % 32) + ((mAt (fl lm x) nx (nn / 32 + 1)) * 2 ^ (32 - nn % 32))))), (8, .long (lI (mAt (fl lm x) nx (nn / 32 + 1)))), (7, .int (iI 1)), (4, .int (iI (((nn % 32 : Nat) : Int)))), (3, .int (iI (((nn / 32 : Nat) : Int)))), (0, .ref y), (1, .int (iI ((x : Int)))), (2, .int (iI ((nn : Int))))]) hx hb d_Mo_down_91 hl (by decide) rfl (fun ls hl => ?_)
                refine lv_goto (tgt := 106) hx hb d_Mo_down_93 (by decide) ?_
                refine x_iinc (lv' := [(7, .int (iI (1 + (-1)))), (5, .long (lI ((mAt (fl lm x) nx (nn / 32 + 2)) * 2 ^ (64 - nn % 32) + ((mAt (fl lm x) nx (nn / 32 + 1)) * 2 ^ (32 - nn % 32))))), (8, .long (lI (mAt (fl lm x) nx (nn / 32 + 1)))), (4, .int (iI (((nn % 32 : Nat) : Int)))), (3, .int (iI (((nn / 32 : Nat) : Int)))), (0, .ref y), (1, .int (iI ((x : Int)))), (2, .int (iI ((nn : Int))))]) hx hb d_Mo_down_106 hl (q := 2) rfl rfl (by decide) rfl (fun ls hl => ?_)
                refine lv_goto (tgt := 17) hx hb d_Mo_down_109 (by decide) ?_
                have hl : lv_has ls 10 [(7, .int (iI 0)), (5, .long (lI ((mAt (fl lm x) nx (nn / 32 + 2)) * 2 ^ (64 - nn % 32) + ((mAt (fl lm x) nx (nn / 32 + 1)) * 2 ^ (32 - nn % 32))))), (8, .long (lI (mAt (fl lm x) nx (nn / 32 + 1)))), (4, .int (iI (((nn % 32 : Nat) : Int)))), (3, .int (iI (((nn / 32 : Nat) : Int)))), (0, .ref y), (1, .int (iI ((x : Int)))), (2, .int (iI ((nn : Int))))] := hl
                refine lv_iload hx hb d_Mo_down_17 (lv_at hl 0 rfl) ?_
                refine x_if_lt (tgt := 112) hx hb d_Mo_down_19 (by decide) (by omega) (fun h19 => ?_) (fun h19 => ?_)
                · exfalso; omega
                · refine lv_aload_n hx hb d_Mo_down_22 rfl (lv_at hl 5 rfl) ?_
                  refine lv_iload_n hx hb d_Mo_down_23 rfl (lv_at hl 6 rfl) ?_
                  refine lv_iload_n hx hb d_Mo_down_24 rfl (lv_at hl 4 rfl) ?_
                  refine lv_iload hx hb d_Mo_down_25 (lv_at hl 0 rfl) ?_
                  refine x_iadd hx hb d_Mo_down_27 ?_
                  rw [show (((nn / 32 : Nat) : Int)) + 0 = ((nn / 32 + 0 : Nat) : Int) by omega]
                  refine x_calll B hA (va_runV (As := [.int (iI ((x : Int))), .int (iI (((nn / 32 + 0 : Nat) : Int)))]) (rest := []) ⟨hx, hb, hml, hown, hts⟩ (c_Mo_limbOf l D cs _ _ _ y m1 m2 m3 m5 m6 m7 m8 m9 m10 m11 m12 m13 m15 th pn rw_ fu fb lm mn sn x (nn / 32 + 0) nx hF (mw_get (X := [(y, .inr (7, [.int (iI th), .ref m1, .ref m2, .ref m3, .int (iI pn), .ref m5, .ref m6, .ref m7, .ref m8, .ref m9, .ref m10, .ref m11, .ref m12, .ref m13, .int (iI rw_), .ref m15, .long (lI fu), .long (lI fb)])), (m1, .inl (cs 0, 11520, .inl (ai lm))), (m2, .inl (cs 0, 180, .inl (ai mn))), (m3, .inl (cs 0, 180, .inl (ai sn)))]) hF.1 (k := 0) rfl) (mw_get (X := [(y, .inr (7, [.int (iI th), .ref m1, .ref m2, .ref m3, .int (iI pn), .ref m5, .ref m6, .ref m7, .ref m8, .ref m9, .ref m10, .ref m11, .ref m12, .ref m13, .int (iI rw_), .ref m15, .long (lI fu), .long (lI fb)])), (m1, .inl (cs 0, 11520, .inl (ai lm))), (m2, .inl (cs 0, 180, .inl (ai mn))), (m3, .inl (cs 0, 180, .inl (ai sn)))]) hF.1 (k := 1) rfl) (mw_get (X := [(y, .inr (7, [.int (iI th), .ref m1, .ref m2, .ref m3, .int (iI pn), .ref m5, .ref m6, .ref m7, .ref m8, .ref m9, .ref m10, .ref m11, .ref m12, .ref m13, .int (iI rw_), .ref m15, .long (lI fu), .long (lI fb)])), (m1, .inl (cs 0, 11520, .inl (ai lm))), (m2, .inl (cs 0, 180, .inl (ai mn))), (m3, .inl (cs 0, 180, .inl (ai sn)))]) hF.1 (k := 2) rfl) (mw_get (X := [(y, .inr (7, [.int (iI th), .ref m1, .ref m2, .ref m3, .int (iI pn), .ref m5, .ref m6, .ref m7, .ref m8, .ref m9, .ref m10, .ref m11, .ref m12, .ref m13, .int (iI rw_), .ref m15, .long (lI fu), .long (lI fb)])), (m1, .inl (cs 0, 11520, .inl (ai lm))), (m2, .inl (cs 0, 180, .inl (ai mn))), (m3, .inl (cs 0, 180, .inl (ai sn)))]) hF.1 (k := 3) rfl) hx8 (by omega) hnx hn8 (fun h9 => hMx _ h9)) (cwV 2 hts (gw_V w_824 w_826 s_42 w_8 w_827) rfl rfl rfl (by decide +kernel) ⟨by rw [hRf]; exact Nat.le_of_ble_eq_true rfl, by rw [hRl]; exact Nat.le_of_ble_eq_true rfl⟩) ⟨K0.blind, B.recv (hF.2 _ (mw_key (k := 0) (X := [(y, .inr (7, [.int (iI th), .ref m1, .ref m2, .ref m3, .int (iI pn), .ref m5, .ref m6, .ref m7, .ref m8, .ref m9, .ref m10, .ref m11, .ref m12, .ref m13, .int (iI rw_), .ref m15, .long (lI fu), .long (lI fb)])), (m1, .inl (cs 0, 11520, .inl (ai lm))), (m2, .inl (cs 0, 180, .inl (ai mn))), (m3, .inl (cs 0, 180, .inl (ai sn)))]) rfl)) (mw_get (X := [(y, .inr (7, [.int (iI th), .ref m1, .ref m2, .ref m3, .int (iI pn), .ref m5, .ref m6, .ref m7, .ref m8, .ref m9, .ref m10, .ref m11, .ref m12, .ref m13, .int (iI rw_), .ref m15, .long (lI fu), .long (lI fb)])), (m1, .inl (cs 0, 11520, .inl (ai lm))), (m2, .inl (cs 0, 180, .inl (ai mn))), (m3, .inl (cs 0, 180, .inl (ai sn)))]) hF.1 (k := 0) rfl) rfl, B.pre _⟩ rfl rfl hl.1 rfl (lv_room (Nat.le_of_ble_eq_true rfl)) d_Mo_down_28 ⟨by rw [hRc]; omega, by rw [hRs]; omega⟩) (fun r28 g28 H locs hw B => ?_)
                  obtain ⟨rfl, rfl⟩ := hw
                  have B : Wb D vwCl (TY cs) L (mw f [(y, .inr (7, [.int (iI th), .ref m1, .ref m2, .ref m3, .int (iI pn), .ref m5, .ref m6, .ref m7, .ref m8, .ref m9, .ref m10, .ref m11, .ref m12, .ref m13, .int (iI rw_), .ref m15, .long (lI fu), .long (lI fb)])), (m1, .inl (cs 0, 11520, .inl (ai lm))), (m2, .inl (cs 0, 180, .inl (ai mn))), (m3, .inl (cs 0, 180, .inl (ai sn)))]) (AL L s.heap.size) s H _ := B
                  have hmr28 := mAt_range hMx (nn / 32 + 0)
                  refine lv_lstore (lv' := [(8, .long (lI (mAt (fl lm x) nx (nn / 32 + 0)))), (7, .int (iI 0)), (5, .long (lI ((mAt (fl lm x) nx (nn / 32 + 2)) * 2 ^ (64 - nn % 32) + ((mAt (fl lm x) nx (nn / 32 + 1)) * 2 ^ (32 - nn % 32))))), (4, .int (iI (((nn % 32 : Nat) : Int)))), (3, .int (iI (((nn / 32 : Nat) : Int)))), (0, .ref y), (1, .int (iI ((x : Int)))), (2, .int (iI ((nn : Int))))]) hx hb d_Mo_down_31 hl (by decide) rfl (fun ls hl => ?_)
                  refine lv_iload hx hb d_Mo_down_33 (lv_at hl 1 rfl) ?_
                  refine x_iconst hx hb d_Mo_down_35 ?_
                  refine x_icmp_ne (tgt := 61) hx hb d_Mo_down_36 (by decide) (by omega) (by omega) (fun h36 => ?_) (fun h36 => ?_)
                  · refine lv_iload hx hb d_Mo_down_61 (lv_at hl 1 rfl) ?_
                    refine x_iconst hx hb d_Mo_down_63 ?_
                    refine x_icmp_ne (tgt := 96) hx hb d_Mo_down_64 (by decide) (by omega) (by omega) (fun h64 => ?_) (fun h64 => ?_)
                    · refine lv_lload hx hb d_Mo_down_96 (lv_at hl 2 rfl) ?_
                      refine lv_lload hx hb d_Mo_down_98 (lv_at hl 0 rfl) ?_
                      refine lv_iload hx hb d_Mo_down_100 (lv_at hl 3 rfl) ?_
                      refine x_lushrv hx hb (nn % 32) (rfl) (by omega) d_Mo_down_102 (by omega) ?_
                      rw [show (mAt (fl lm x) nx (nn / 32 + 2)) * 2 ^ (64 - nn % 32) + ((mAt (fl lm x) nx (nn / 32 + 1)) * 2 ^ (32 - nn % 32)) = (mAt (fl lm x) nx (nn / 32 + 2) * 2 ^ 32 + mAt (fl lm x) nx (nn / 32 + 1)) * 2 ^ (32 - nn % 32) by rw [show (2 : Int) ^ (64 - nn % 32) = 2 ^ 32 * 2 ^ (32 - nn % 32) by rw [← Int.pow_add]; congr 1; omega]; grind]
                      obtain ⟨_, _, _, hr1, hr2, hr3⟩ := down_room hMx (w := nn / 32) (b := nn % 32) hb1 (by omega) (hdv.2 hb1) hV
                      refine x_lorv hx hb (32 - nn % 32) d_Mo_down_103 (hr1) (hr2) (hr3) ?_
                      refine lv_lstore (lv' := [(5, .long (lI ((mAt (fl lm x) nx (nn / 32 + 2) * 2 ^ 32 + mAt (fl lm x) nx (nn / 32 + 1)) * 2 ^ (32 - nn % 32) + ((mAt (fl lm x) nx (nn / 32 + 0)) / 2 ^ (nn % 32))))), (8, .long (lI (mAt (fl lm x) nx (nn / 32 + 0)))), (7, .int (iI 0)), (4, .int (iI (((nn % 32 : Nat) : Int)))), (3, .int (iI (((nn / 32 : Nat) : Int)))), (0, .ref y), (1, .int (iI ((x : Int)))), (2, .int (iI ((nn : Int))))]) hx hb d_Mo_down_104 hl (by decide) rfl (fun ls hl => ?_)
                      refine x_iinc (lv' := [(7, .int (iI (0 + (-1)))), (5, .long (lI ((mAt (fl lm x) nx (nn / 32 + 2) * 2 ^ 32 + mAt (fl lm x) nx (nn / 32 + 1)) * 2 ^ (32 - nn % 32) + ((mAt (fl lm x) nx (nn / 32 + 0)) / 2 ^ (nn % 32))))), (8, .long (lI (mAt (fl lm x) nx (nn / 32 + 0)))), (4, .int (iI (((nn % 32 : Nat) : Int)))), (3, .int (iI (((nn / 32 : Nat) : Int)))), (0, .ref y), (1, .int (iI ((x : Int)))), (2, .int (iI ((nn : Int))))]) hx hb d_Mo_down_106 hl (q := 2) rfl rfl (by decide) rfl (fun ls hl => ?_)
                      refine lv_goto (tgt := 17) hx hb d_Mo_down_109 (by decide) ?_
                      have hl : lv_has ls 10 [(7, .int (iI (-1))), (5, .long (lI ((mAt (fl lm x) nx (nn / 32 + 2) * 2 ^ 32 + mAt (fl lm x) nx (nn / 32 + 1)) * 2 ^ (32 - nn % 32) + ((mAt (fl lm x) nx (nn / 32 + 0)) / 2 ^ (nn % 32))))), (8, .long (lI (mAt (fl lm x) nx (nn / 32 + 0)))), (4, .int (iI (((nn % 32 : Nat) : Int)))), (3, .int (iI (((nn / 32 : Nat) : Int)))), (0, .ref y), (1, .int (iI ((x : Int)))), (2, .int (iI ((nn : Int))))] := hl
                      refine lv_iload hx hb d_Mo_down_17 (lv_at hl 0 rfl) ?_
                      refine x_if_lt (tgt := 112) hx hb d_Mo_down_19 (by decide) (by omega) (fun h19 => ?_) (fun h19 => ?_)
                      · have hval : (mAt (fl lm x) nx (nn / 32 + 2) * 2 ^ 32 + mAt (fl lm x) nx (nn / 32 + 1)) * 2 ^ (32 - nn % 32) + ((mAt (fl lm x) nx (nn / 32 + 0)) / 2 ^ (nn % 32)) = (((Z x).natAbs : Int) / 2 ^ nn) := by
                          rw [← hdv.2 hb1, show (2 : Int) ^ (64 - nn % 32) = 2 ^ 32 * 2 ^ (32 - nn % 32) by rw [← Int.pow_add]; congr 1; omega]; grind
                        rw [hval] at hl
                        have hl : lv_has ls 10 [(7, .int (iI (-1))), (5, .long (lI ((((Z x).natAbs : Int) / 2 ^ nn)))), (8, .long (lI (mAt (fl lm x) nx (nn / 32 + 0)))), (4, .int (iI (((nn % 32 : Nat) : Int)))), (3, .int (iI (((nn / 32 : Nat) : Int)))), (0, .ref y), (1, .int (iI ((x : Int)))), (2, .int (iI ((nn : Int))))] := hl
                        refine x_iconst hx hb d_Mo_down_112 ?_
                        refine lv_istore (lv' := [(7, .int (iI 0)), (5, .long (lI ((((Z x).natAbs : Int) / 2 ^ nn)))), (8, .long (lI (mAt (fl lm x) nx (nn / 32 + 0)))), (4, .int (iI (((nn % 32 : Nat) : Int)))), (3, .int (iI (((nn / 32 : Nat) : Int)))), (0, .ref y), (1, .int (iI ((x : Int)))), (2, .int (iI ((nn : Int))))]) hx hb d_Mo_down_113 hl (by decide) rfl (fun ls hl => ?_)
                        refine x_iconst hx hb d_Mo_down_115 ?_
                        refine lv_istore (lv' := [(8, .int (iI 0)), (7, .int (iI 0)), (5, .long (lI ((((Z x).natAbs : Int) / 2 ^ nn)))), (4, .int (iI (((nn % 32 : Nat) : Int)))), (3, .int (iI (((nn / 32 : Nat) : Int)))), (0, .ref y), (1, .int (iI ((x : Int)))), (2, .int (iI ((nn : Int))))]) hx hb d_Mo_down_116 hl (by decide) rfl (fun ls hl => ?_)
                        have LP : ∀ (fuel : Nat) (k : Nat) (an : Int), nn / 32 - k < fuel → (k ≤ nn / 32) → (((an = 0 ∧ LowZ (fl lm x) nx k) ∨ (an = 1 ∧ ¬ LowZ (fl lm x) nx k))) → ∀ (H : Heap) (locs : List Loc) (ls : Array Slot), Wb D vwCl (TY cs) L (mw f [(y, .inr (7, [.int (iI th), .ref m1, .ref m2, .ref m3, .int (iI pn), .ref m5, .ref m6, .ref m7, .ref m8, .ref m9, .ref m10, .ref m11, .ref m12, .ref m13, .int (iI rw_), .ref m15, .long (lI fu), .long (lI fb)])), (m1, .inl (cs 0, 11520, .inl (ai lm))), (m2, .inl (cs 0, 180, .inl (ai mn))), (m3, .inl (cs 0, 180, .inl (ai sn)))]) (AL L s.heap.size) s H locs → lv_has ls 10 [(8, .int (iI ((k : Int)))), (7, .int (iI an)), (5, .long (lI ((((Z x).natAbs : Int) / 2 ^ nn)))), (4, .int (iI (((nn % 32 : Nat) : Int)))), (3, .int (iI (((nn / 32 : Nat) : Int)))), (0, .ref y), (1, .int (iI ((x : Int)))), (2, .int (iI ((nn : Int))))] → W p l e R s m av below meth c H locs (0) (0) Q (F0 m 118 ls []) := by
                          intro fuel
                          induction fuel with
                          | zero => intro k an hfu; exact absurd hfu (Nat.not_lt_zero _)
                          | succ fuel ih_LP =>
                            intro k an hfu_LP hk han H locs ls B hl
                            have hanr : an = 0 ∨ an = 1 := han.imp (fun h => h.1) (fun h => h.1)
                            refine lv_iload hx hb d_Mo_down_118 (lv_at hl 0 rfl) ?_
                            refine lv_iload_n hx hb d_Mo_down_120 rfl (lv_at hl 4 rfl) ?_
                            refine x_icmp_ge (tgt := 154) hx hb d_Mo_down_121 (by decide) (by omega) (by omega) (fun h121 => ?_) (fun h121 => ?_)
                            · have J187 : ∀ (an3 : Int), ((an3 = 0 ∧ rst ((Z x).natAbs : Int) nn = 0) ∨ (an3 = 1 ∧ rst ((Z x).natAbs : Int) nn ≠ 0)) → ∀ (H : Heap) (locs : List Loc) (ls : Array Slot), Wb D vwCl (TY cs) L (mw f [(y, .inr (7, [.int (iI th), .ref m1, .ref m2, .ref m3, .int (iI pn), .ref m5, .ref m6, .ref m7, .ref m8, .ref m9, .ref m10, .ref m11, .ref m12, .ref m13, .int (iI rw_), .ref m15, .long (lI fu), .long (lI fb)])), (m1, .inl (cs 0, 11520, .inl (ai lm))), (m2, .inl (cs 0, 180, .inl (ai mn))), (m3, .inl (cs 0, 180, .inl (ai sn)))]) (AL L s.heap.size) s H locs → lv_has ls 10 [(5, .long (lI ((((Z x).natAbs : Int) / 2 ^ nn)))), (0, .ref y), (1, .int (iI ((x : Int))))] → W p l e R s m av below meth c H locs (0) (0) Q (F0 m 187 ls [.int (iI an3)]) := by
                                intro an3 han3 H locs ls B hl
                                have han3r : an3 = 0 ∨ an3 = 1 := han3.imp (fun h => h.1) (fun h => h.1)
                                refine lv_istore (lv' := [(7, .int (iI an3)), (5, .long (lI ((((Z x).natAbs : Int) / 2 ^ nn)))), (0, .ref y), (1, .int (iI ((x : Int))))]) hx hb d_Mo_down_187 hl (by decide) rfl (fun ls hl => ?_)
                                refine lv_aload_n hx hb d_Mo_down_189 rfl (lv_at hl 2 rfl) ?_
                                refine x_get (C := RX7) (T := TX7) (N := 18) hx hb hts inX7 hown B hF 0 rfl rfl 3 (by decide) (hts _ w_680) (fun _ h9 => h9) rfl d_Mo_down_190 ?_
                                refine lv_iload_n hx hb d_Mo_down_193 rfl (lv_at hl 3 rfl) ?_
                                refine x_iald hx hb B hF 3 0 rfl rfl x (by omega) (by omega) (by decide) d_Mo_down_194 ?_
                                refine x_if_lt (tgt := 203) hx hb d_Mo_down_195 (by decide) (by omega) (fun h195 => ?_) (fun h195 => ?_)
                                · refine lv_iload hx hb d_Mo_down_203 (lv_at hl 0 rfl) ?_
                                  refine x_if_eq (tgt := 216) hx hb d_Mo_down_205 (by decide) (by omega) (fun h205 => ?_) (fun h205 => ?_)
                                  · refine lv_lload hx hb d_Mo_down_216 (lv_at hl 1 rfl) ?_
                                    refine x_lneg hx hb d_Mo_down_218 ?_
                                    have B := B.of_eq hmw
                                    subst hQ hav
                                    exact x_lret hx hb hr hlocks B d_Mo_down_219 (⟨by rw [floor_of (z := Z x) (V := ((Z x).natAbs : Int)) (N := 2 ^ nn) (pw2 nn) rfl, if_neg (show ¬ 0 ≤ Z x by omega), if_neg (show ¬ ((Z x).natAbs : Int) % 2 ^ nn ≠ 0 from fun h => h (han3.resolve_right (fun q => by omega)).2)], rfl⟩)
                                  · refine lv_lload hx hb d_Mo_down_208 (lv_at hl 1 rfl) ?_
                                    refine x_lneg hx hb d_Mo_down_210 ?_
                                    refine x_lconst (z := 1) hx hb d_Mo_down_211 (by decide) ?_
                                    refine x_lsub hx hb d_Mo_down_212 ?_
                                    refine lv_goto (tgt := 219) hx hb d_Mo_down_213 (by decide) ?_
                                    have B := B.of_eq hmw
                                    subst hQ hav
                                    exact x_lret hx hb hr hlocks B d_Mo_down_219 (⟨by rw [floor_of (z := Z x) (V := ((Z x).natAbs : Int)) (N := 2 ^ nn) (pw2 nn) rfl, if_neg (show ¬ 0 ≤ Z x by omega), if_pos (show ((Z x).natAbs : Int) % 2 ^ nn ≠ 0 from (han3.resolve_left (fun q => by omega)).2)], rfl⟩)
                                · refine lv_lload hx hb d_Mo_down_198 (lv_at hl 1 rfl) ?_
                                  refine lv_goto (tgt := 219) hx hb d_Mo_down_200 (by decide) ?_
                                  have B := B.of_eq hmw
                                  subst hQ hav
                                  exact x_lret hx hb hr hlocks B d_Mo_down_219 (⟨by rw [floor_of (z := Z x) (V := ((Z x).natAbs : Int)) (N := 2 ^ nn) (pw2 nn) rfl, if_pos (show 0 ≤ Z x by omega)], rfl⟩)
                              refine lv_iload hx hb d_Mo_down_154 (lv_at hl 1 rfl) ?_
                              refine x_if_ne (tgt := 182) hx hb d_Mo_down_156 (by decide) (by omega) (fun h156 => ?_) (fun h156 => ?_)
                              · refine x_iconst hx hb d_Mo_down_182 ?_
                                refine lv_goto (tgt := 187) hx hb d_Mo_down_183 (by decide) ?_
                                exact J187 1 (by
          rcases han with ⟨q1, q2⟩ | ⟨q1, q2⟩
          · first | (exfalso; omega) | exact Or.inl ⟨rfl, hdn.mpr ⟨by rw [show nn / 32 = k by omega]; exact q2, by omega⟩⟩ | exact Or.inr ⟨rfl, fun h => absurd (hdn.mp h).2 (by omega)⟩
          · first | (exfalso; omega) | exact Or.inr ⟨rfl, fun h => q2 (by rw [show k = nn / 32 by omega]; exact (hdn.mp h).1)⟩) _ _ _ B (lv_sub hl [2, 5, 6] rfl)
                              · refine lv_iload hx hb d_Mo_down_159 (lv_at hl 3 rfl) ?_
                                refine x_if_le (tgt := 186) hx hb d_Mo_down_161 (by decide) (by omega) (fun h161 => ?_) (fun h161 => ?_)
                                · exfalso; omega
                                · refine lv_aload_n hx hb d_Mo_down_164 rfl (lv_at hl 5 rfl) ?_
                                  refine lv_iload_n hx hb d_Mo_down_165 rfl (lv_at hl 6 rfl) ?_
                                  refine lv_iload_n hx hb d_Mo_down_166 rfl (lv_at hl 4 rfl) ?_
                                  refine x_calll B hA (va_runV (As := [.int (iI ((x : Int))), .int (iI (((nn / 32 : Nat) : Int)))]) (rest := []) ⟨hx, hb, hml, hown, hts⟩ (c_Mo_limbOf l D cs _ _ _ y m1 m2 m3 m5 m6 m7 m8 m9 m10 m11 m12 m13 m15 th pn rw_ fu fb lm mn sn x (nn / 32) nx hF (mw_get (X := [(y, .inr (7, [.int (iI th), .ref m1, .ref m2, .ref m3, .int (iI pn), .ref m5, .ref m6, .ref m7, .ref m8, .ref m9, .ref m10, .ref m11, .ref m12, .ref m13, .int (iI rw_), .ref m15, .long (lI fu), .long (lI fb)])), (m1, .inl (cs 0, 11520, .inl (ai lm))), (m2, .inl (cs 0, 180, .inl (ai mn))), (m3, .inl (cs 0, 180, .inl (ai sn)))]) hF.1 (k := 0) rfl) (mw_get (X := [(y, .inr (7, [.int (iI th), .ref m1, .ref m2, .ref m3, .int (iI pn), .ref m5, .ref m6, .ref m7, .ref m8, .ref m9, .ref m10, .ref m11, .ref m12, .ref m13, .int (iI rw_), .ref m15, .long (lI fu), .long (lI fb)])), (m1, .inl (cs 0, 11520, .inl (ai lm))), (m2, .inl (cs 0, 180, .inl (ai mn))), (m3, .inl (cs 0, 180, .inl (ai sn)))]) hF.1 (k := 1) rfl) (mw_get (X := [(y, .inr (7, [.int (iI th), .ref m1, .ref m2, .ref m3, .int (iI pn), .ref m5, .ref m6, .ref m7, .ref m8, .ref m9, .ref m10, .ref m11, .ref m12, .ref m13, .int (iI rw_), .ref m15, .long (lI fu), .long (lI fb)])), (m1, .inl (cs 0, 11520, .inl (ai lm))), (m2, .inl (cs 0, 180, .inl (ai mn))), (m3, .inl (cs 0, 180, .inl (ai sn)))]) hF.1 (k := 2) rfl) (mw_get (X := [(y, .inr (7, [.int (iI th), .ref m1, .ref m2, .ref m3, .int (iI pn), .ref m5, .ref m6, .ref m7, .ref m8, .ref m9, .ref m10, .ref m11, .ref m12, .ref m13, .int (iI rw_), .ref m15, .long (lI fu), .long (lI fb)])), (m1, .inl (cs 0, 11520, .inl (ai lm))), (m2, .inl (cs 0, 180, .inl (ai mn))), (m3, .inl (cs 0, 180, .inl (ai sn)))]) hF.1 (k := 3) rfl) hx8 (by omega) hnx hn8 (fun h9 => hMx _ h9)) (cwV 2 hts (gw_V w_824 w_826 s_42 w_8 w_827) rfl rfl rfl (by decide +kernel) ⟨by rw [hRf]; exact Nat.le_of_ble_eq_true rfl, by rw [hRl]; exact Nat.le_of_ble_eq_true rfl⟩) ⟨K0.blind, B.recv (hF.2 _ (mw_key (k := 0) (X := [(y, .inr (7, [.int (iI th), .ref m1, .ref m2, .ref m3, .int (iI pn), .ref m5, .ref m6, .ref m7, .ref m8, .ref m9, .ref m10, .ref m11, .ref m12, .ref m13, .int (iI rw_), .ref m15, .long (lI fu), .long (lI fb)])), (m1, .inl (cs 0, 11520, .inl (ai lm))), (m2, .inl (cs 0, 180, .inl (ai mn))), (m3, .inl (cs 0, 180, .inl (ai sn)))]) rfl)) (mw_get (X := [(y, .inr (7, [.int (iI th), .ref m1, .ref m2, .ref m3, .int (iI pn), .ref m5, .ref m6, .ref m7, .ref m8, .ref m9, .ref m10, .ref m11, .ref m12, .ref m13, .int (iI rw_), .ref m15, .long (lI fu), .long (lI fb)])), (m1, .inl (cs 0, 11520, .inl (ai lm))), (m2, .inl (cs 0, 180, .inl (ai mn))), (m3, .inl (cs 0, 180, .inl (ai sn)))]) hF.1 (k := 0) rfl) rfl, B.pre _⟩ rfl rfl hl.1 rfl (lv_room (Nat.le_of_ble_eq_true rfl)) d_Mo_down_167 ⟨by rw [hRc]; omega, by rw [hRs]; omega⟩) (fun r167 g167 H locs hw B => ?_)
                                  obtain ⟨rfl, rfl⟩ := hw
                                  have B : Wb D vwCl (TY cs) L (mw f [(y, .inr (7, [.int (iI th), .ref m1, .ref m2, .ref m3, .int (iI pn), .ref m5, .ref m6, .ref m7, .ref m8, .ref m9, .ref m10, .ref m11, .ref m12, .ref m13, .int (iI rw_), .ref m15, .long (lI fu), .long (lI fb)])), (m1, .inl (cs 0, 11520, .inl (ai lm))), (m2, .inl (cs 0, 180, .inl (ai mn))), (m3, .inl (cs 0, 180, .inl (ai sn)))]) (AL L s.heap.size) s H _ := B
                                  have hmr167 := mAt_range hMx (nn / 32)
                                  refine x_lconst (z := 1) hx hb d_Mo_down_170 (by decide) ?_
                                  refine lv_iload hx hb d_Mo_down_171 (lv_at hl 3 rfl) ?_
                                  refine x_lshlv hx hb (nn % 32) (rfl) (by omega) d_Mo_down_173 ?_
                                  refine x_lconst (z := 1) hx hb d_Mo_down_174 (by decide) ?_
                                  refine x_lsub hx hb d_Mo_down_175 ?_
                                  refine x_landv hx hb (nn % 32) d_Mo_down_176 (by omega) ?_
                                  have hme : 0 ≤ mAt (fl lm x) nx (nn / 32) % 2 ^ (nn % 32) ∧ mAt (fl lm x) nx (nn / 32) % 2 ^ (nn % 32) < 2147483649 := ⟨Int.emod_nonneg _ (by omega), by have h9 := Int.emod_lt_of_pos (mAt (fl lm x) nx (nn / 32)) pb; have h8 : (2 : Int) ^ (nn % 32) ≤ 2 ^ 31 := pow_big (by omega); have h7 : (2 : Int) ^ 31 = 2147483648 := rfl; omega⟩
                                  refine x_lconst (z := 0) hx hb d_Mo_down_177 (by decide) ?_
                                  refine x_lc_eq (tgt := 186) hx hb d_Mo_down_178 rfl d_Mo_down_179 (by decide) (by omega) (by omega) (fun h179 => ?_) (fun h179 => ?_)
                                  · refine x_iconst hx hb d_Mo_down_186 ?_
                                    exact J187 0 (by
          rcases han with ⟨q1, q2⟩ | ⟨q1, q2⟩
          · first | (exfalso; omega) | exact Or.inl ⟨rfl, hdn.mpr ⟨by rw [show nn / 32 = k by omega]; exact q2, by omega⟩⟩ | exact Or.inr ⟨rfl, fun h => absurd (hdn.mp h).2 (by omega)⟩
          · first | (exfalso; omega) | exact Or.inr ⟨rfl, fun h => q2 (by rw [show k = nn / 32 by omega]; exact (hdn.mp h).1)⟩) _ _ _ B (lv_sub hl [2, 5, 6] rfl)
                                  · refine x_iconst hx hb d_Mo_down_182 ?_
                                    refine lv_goto (tgt := 187) hx hb d_Mo_down_183 (by decide) ?_
                                    exact J187 1 (by
          rcases han with ⟨q1, q2⟩ | ⟨q1, q2⟩
          · first | (exfalso; omega) | exact Or.inl ⟨rfl, hdn.mpr ⟨by rw [show nn / 32 = k by omega]; exact q2, by omega⟩⟩ | exact Or.inr ⟨rfl, fun h => absurd (hdn.mp h).2 (by omega)⟩
          · first | (exfalso; omega) | exact Or.inr ⟨rfl, fun h => q2 (by rw [show k = nn / 32 by omega]; exact (hdn.mp h).1)⟩) _ _ _ B (lv_sub hl [2, 5, 6] rfl)
                            · have J146 : ∀ (an2 : Int), (((an2 = 0 ∧ LowZ (fl lm x) nx (k + 1)) ∨ (an2 = 1 ∧ ¬ LowZ (fl lm x) nx (k + 1)))) → ∀ (H : Heap) (locs : List Loc) (ls : Array Slot), Wb D vwCl (TY cs) L (mw f [(y, .inr (7, [.int (iI th), .ref m1, .ref m2, .ref m3, .int (iI pn), .ref m5, .ref m6, .ref m7, .ref m8, .ref m9, .ref m10, .ref m11, .ref m12, .ref m13, .int (iI rw_), .ref m15, .long (lI fu), .long (lI fb)])), (m1, .inl (cs 0, 11520, .inl (ai lm))), (m2, .inl (cs 0, 180, .inl (ai mn))), (m3, .inl (cs 0, 180, .inl (ai sn)))]) (AL L s.heap.size) s H locs → lv_has ls 10 [(8, .int (iI ((k : Int)))), (7, .int (iI an)), (5, .long (lI ((((Z x).natAbs : Int) / 2 ^ nn)))), (4, .int (iI (((nn % 32 : Nat) : Int)))), (3, .int (iI (((nn / 32 : Nat) : Int)))), (0, .ref y), (1, .int (iI ((x : Int)))), (2, .int (iI ((nn : Int))))] → W p l e R s m av below meth c H locs (0) (0) Q (F0 m 146 ls [.int (iI an2)]) := by
                                intro an2 han2 H locs ls B hl
                                refine lv_istore (lv' := [(7, .int (iI an2)), (8, .int (iI ((k : Int)))), (5, .long (lI ((((Z x).natAbs : Int) / 2 ^ nn)))), (4, .int (iI (((nn % 32 : Nat) : Int)))), (3, .int (iI (((nn / 32 : Nat) : Int)))), (0, .ref y), (1, .int (iI ((x : Int)))), (2, .int (iI ((nn : Int))))]) hx hb d_Mo_down_146 hl (by decide) rfl (fun ls hl => ?_)
                                refine x_iinc (lv' := [(8, .int (iI (((k : Int)) + 1))), (7, .int (iI an2)), (5, .long (lI ((((Z x).natAbs : Int) / 2 ^ nn)))), (4, .int (iI (((nn % 32 : Nat) : Int)))), (3, .int (iI (((nn / 32 : Nat) : Int)))), (0, .ref y), (1, .int (iI ((x : Int)))), (2, .int (iI ((nn : Int))))]) hx hb d_Mo_down_148 hl (q := 1) rfl rfl (by decide) rfl (fun ls hl => ?_)
                                refine lv_goto (tgt := 118) hx hb d_Mo_down_151 (by decide) ?_
                                exact ih_LP (k + 1) an2 (by omega) (by omega) han2 _ _ _ B (lv_sub hl [0, 1, 2, 3, 4, 5, 6, 7] rfl)
                              refine lv_iload hx hb d_Mo_down_124 (lv_at hl 1 rfl) ?_
                              refine x_if_ne (tgt := 141) hx hb d_Mo_down_126 (by decide) (by omega) (fun h126 => ?_) (fun h126 => ?_)
                              · refine x_iconst hx hb d_Mo_down_141 ?_
                                refine lv_goto (tgt := 146) hx hb d_Mo_down_142 (by decide) ?_
                                exact J146 1 (by rcases han with ⟨q1, q2⟩ | ⟨q1, q2⟩; (first | (exfalso; omega) | exact Or.inr ⟨rfl, fun h => absurd (LowZ_succ.mp h).2 (by omega)⟩); exact Or.inr ⟨rfl, fun h => q2 (LowZ_succ.mp h).1⟩) _ _ _ B (lv_sub hl [0, 1, 2, 3, 4, 5, 6, 7] rfl)
                              · refine lv_aload_n hx hb d_Mo_down_129 rfl (lv_at hl 5 rfl) ?_
                                refine lv_iload_n hx hb d_Mo_down_130 rfl (lv_at hl 6 rfl) ?_
                                refine lv_iload hx hb d_Mo_down_131 (lv_at hl 0 rfl) ?_
                                refine x_calll B hA (va_runV (As := [.int (iI ((x : Int))), .int (iI ((k : Int)))]) (rest := []) ⟨hx, hb, hml, hown, hts⟩ (c_Mo_limbOf l D cs _ _ _ y m1 m2 m3 m5 m6 m7 m8 m9 m10 m11 m12 m13 m15 th pn rw_ fu fb lm mn sn x (k) nx hF (mw_get (X := [(y, .inr (7, [.int (iI th), .ref m1, .ref m2, .ref m3, .int (iI pn), .ref m5, .ref m6, .ref m7, .ref m8, .ref m9, .ref m10, .ref m11, .ref m12, .ref m13, .int (iI rw_), .ref m15, .long (lI fu), .long (lI fb)])), (m1, .inl (cs 0, 11520, .inl (ai lm))), (m2, .inl (cs 0, 180, .inl (ai mn))), (m3, .inl (cs 0, 180, .inl (ai sn)))]) hF.1 (k := 0) rfl) (mw_get (X := [(y, .inr (7, [.int (iI th), .ref m1, .ref m2, .ref m3, .int (iI pn), .ref m5, .ref m6, .ref m7, .ref m8, .ref m9, .ref m10, .ref m11, .ref m12, .ref m13, .int (iI rw_), .ref m15, .long (lI fu), .long (lI fb)])), (m1, .inl (cs 0, 11520, .inl (ai lm))), (m2, .inl (cs 0, 180, .inl (ai mn))), (m3, .inl (cs 0, 180, .inl (ai sn)))]) hF.1 (k := 1) rfl) (mw_get (X := [(y, .inr (7, [.int (iI th), .ref m1, .ref m2, .ref m3, .int (iI pn), .ref m5, .ref m6, .ref m7, .ref m8, .ref m9, .ref m10, .ref m11, .ref m12, .ref m13, .int (iI rw_), .ref m15, .long (lI fu), .long (lI fb)])), (m1, .inl (cs 0, 11520, .inl (ai lm))), (m2, .inl (cs 0, 180, .inl (ai mn))), (m3, .inl (cs 0, 180, .inl (ai sn)))]) hF.1 (k := 2) rfl) (mw_get (X := [(y, .inr (7, [.int (iI th), .ref m1, .ref m2, .ref m3, .int (iI pn), .ref m5, .ref m6, .ref m7, .ref m8, .ref m9, .ref m10, .ref m11, .ref m12, .ref m13, .int (iI rw_), .ref m15, .long (lI fu), .long (lI fb)])), (m1, .inl (cs 0, 11520, .inl (ai lm))), (m2, .inl (cs 0, 180, .inl (ai mn))), (m3, .inl (cs 0, 180, .inl (ai sn)))]) hF.1 (k := 3) rfl) hx8 (by omega) hnx hn8 (fun h9 => hMx _ h9)) (cwV 2 hts (gw_V w_824 w_826 s_42 w_8 w_827) rfl rfl rfl (by decide +kernel) ⟨by rw [hRf]; exact Nat.le_of_ble_eq_true rfl, by rw [hRl]; exact Nat.le_of_ble_eq_true rfl⟩) ⟨K0.blind, B.recv (hF.2 _ (mw_key (k := 0) (X := [(y, .inr (7, [.int (iI th), .ref m1, .ref m2, .ref m3, .int (iI pn), .ref m5, .ref m6, .ref m7, .ref m8, .ref m9, .ref m10, .ref m11, .ref m12, .ref m13, .int (iI rw_), .ref m15, .long (lI fu), .long (lI fb)])), (m1, .inl (cs 0, 11520, .inl (ai lm))), (m2, .inl (cs 0, 180, .inl (ai mn))), (m3, .inl (cs 0, 180, .inl (ai sn)))]) rfl)) (mw_get (X := [(y, .inr (7, [.int (iI th), .ref m1, .ref m2, .ref m3, .int (iI pn), .ref m5, .ref m6, .ref m7, .ref m8, .ref m9, .ref m10, .ref m11, .ref m12, .ref m13, .int (iI rw_), .ref m15, .long (lI fu), .long (lI fb)])), (m1, .inl (cs 0, 11520, .inl (ai lm))), (m2, .inl (cs 0, 180, .inl (ai mn))), (m3, .inl (cs 0, 180, .inl (ai sn)))]) hF.1 (k := 0) rfl) rfl, B.pre _⟩ rfl rfl hl.1 rfl (lv_room (Nat.le_of_ble_eq_true rfl)) d_Mo_down_133 ⟨by rw [hRc]; omega, by rw [hRs]; omega⟩) (fun r133 g133 H locs hw B => ?_)
                                obtain ⟨rfl, rfl⟩ := hw
                                have B : Wb D vwCl (TY cs) L (mw f [(y, .inr (7, [.int (iI th), .ref m1, .ref m2, .ref m3, .int (iI pn), .ref m5, .ref m6, .ref m7, .ref m8, .ref m9, .ref m10, .ref m11, .ref m12, .ref m13, .int (iI rw_), .ref m15, .long (lI fu), .long (lI fb)])), (m1, .inl (cs 0, 11520, .inl (ai lm))), (m2, .inl (cs 0, 180, .inl (ai mn))), (m3, .inl (cs 0, 180, .inl (ai sn)))]) (AL L s.heap.size) s H _ := B
                                have hmr133 := mAt_range hMx (k)
                                refine x_lconst (z := 0) hx hb d_Mo_down_136 (by decide) ?_
                                refine x_lc_eq (tgt := 145) hx hb d_Mo_down_137 rfl d_Mo_down_138 (by decide) (by omega) (by omega) (fun h138 => ?_) (fun h138 => ?_)
                                · refine x_iconst hx hb d_Mo_down_145 ?_
                                  exact J146 0 (by rcases han with ⟨q1, q2⟩ | ⟨q1, q2⟩; exact Or.inl ⟨rfl, LowZ_succ.mpr ⟨q2, by omega⟩⟩; exfalso; omega) _ _ _ B (lv_sub hl [0, 1, 2, 3, 4, 5, 6, 7] rfl)
                                · refine x_iconst hx hb d_Mo_down_141 ?_
                                  refine lv_goto (tgt := 146) hx hb d_Mo_down_142 (by decide) ?_
                                  exact J146 1 (by rcases han with ⟨q1, q2⟩ | ⟨q1, q2⟩; (first | (exfalso; omega) | exact Or.inr ⟨rfl, fun h => absurd (LowZ_succ.mp h).2 (by omega)⟩); exact Or.inr ⟨rfl, fun h => q2 (LowZ_succ.mp h).1⟩) _ _ _ B (lv_sub hl [0, 1, 2, 3, 4, 5, 6, 7] rfl)
                        exact LP _ 0 0 (Nat.lt_succ_self _) (by omega) (Or.inl ⟨rfl, fun j hj => absurd hj (Nat.not_lt_zero j)⟩) _ _ _ B (lv_sub hl [0, 1, 2, 3, 4, 5, 6, 7] rfl)
                      · exfalso; omega
                    · exfalso; omega
                  · exfalso; omega
          · exfalso; omega
theorem c_Mo_down (l : Launch) (D : va_G) (cs : Nat → ClassId) (L : List Nat) (f : Nat → va_E) (sz : Nat) (y m1 m2 m3 m5 m6 m7 m8 m9 m10 m11 m12 m13 m15 : Nat) (th pn rw_ fu fb : Int) (lm mn sn Z : Nat → Int) (x nn : Nat) (hF : Fc L [y, m1, m2, m3]) (ha : f y = .inr (7, [.int (iI th), .ref m1, .ref m2, .ref m3, .int (iI pn), .ref m5, .ref m6, .ref m7, .ref m8, .ref m9, .ref m10, .ref m11, .ref m12, .ref m13, .int (iI rw_), .ref m15, .long (lI fu), .long (lI fb)])) (hm1 : f m1 = .inl (cs 0, 11520, .inl (ai lm))) (hm2 : f m2 = .inl (cs 0, 180, .inl (ai mn))) (hm3 : f m3 = .inl (cs 0, 180, .inl (ai sn))) (hRS : RS lm mn sn Z) (hx8 : x < 180) (hnn : nn ≤ 256) (hV : ((Z x).natAbs : Int) / 2 ^ nn < 9223372036854775808) : Met l (⟨"RealRootsModel", "down", "(II)J"⟩ : MethodName) (.code (⟨"RealRootsModel", "down", "(II)J"⟩ : MethodName) prog_9_method_52_code 10 (Option.some Jvm.ClassFile.FieldType.long) :: gw) ({ frames := 2, cells := 0, slots := 0, locals := 50 }) (va_Pc [.ref y, .int (iI ((x : Int))), .int (iI ((nn : Int)))] (K0 D vwCl (TY cs) L f sz)) (va_Ql (fun (r : Int64) (g : Nat → va_E) => r = lI (Z x / 2 ^ nn) ∧ g = f) (K1 D vwCl (TY cs) (AL L sz) L) (AL L sz)) 0 0 (AL L sz) := by
  rcases Nat.eq_zero_or_pos (nn % 32) with h | h
  · exact c_Mo_down_0 l D cs L f sz y m1 m2 m3 m5 m6 m7 m8 m9 m10 m11 m12 m13 m15 th pn rw_ fu fb lm mn sn Z x nn hF ha hm1 hm2 hm3 hRS hx8 hnn hV h
  · exact c_Mo_down_b l D cs L f sz y m1 m2 m3 m5 m6 m7 m8 m9 m10 m11 m12 m13 m15 th pn rw_ fu fb lm mn sn Z x nn hF ha hm1 hm2 hm3 hRS hx8 hnn hV h
