/-! changes of sign along a row -/
def lst (s : Nat → Int) : Nat → Int
  | 0 => 0
  | k + 1 => if s k ≠ 0 then s k else lst s k
def tn (s : Nat → Int) : Nat → Int
  | 0 => 0
  | k + 1 => tn s k + (if s k * lst s k < 0 then 1 else 0)
/-- changes, and one more if the first is 0 -/
def tn0 (s : Nat → Int) (n : Nat) : Int := tn s n + (if s 0 = 0 then 1 else 0)
theorem lst_mem {s : Nat → Int} (h : ∀ k, s k = 1 ∨ s k = 0 ∨ s k = -1) (k : Nat) : lst s k = 1 ∨ lst s k = 0 ∨ lst s k = -1 := by
  induction k with
  | zero => exact Or.inr (Or.inl rfl)
  | succ k ih =>
    rw [lst]
    split
    · exact h k
    · exact ih
theorem tn_range (s : Nat → Int) (k : Nat) : 0 ≤ tn s k ∧ tn s k ≤ k := by
  induction k with
  | zero => exact ⟨Int.le_refl _, Int.le_refl _⟩
  | succ k ih =>
    rw [tn]
    split <;> omega
theorem tn_congr {s t : Nat → Int} {n : Nat} (h : ∀ k, k < n → s k = t k) : tn s n = tn t n ∧ lst s n = lst t n := by
  induction n with
  | zero => exact ⟨rfl, rfl⟩
  | succ n ih =>
    obtain ⟨h1, h2⟩ := ih (fun k hk => h k (by omega))
    rw [tn, tn, lst, lst, h1, h2, h n (by omega)]
    exact ⟨rfl, rfl⟩
theorem tn0_congr {s t : Nat → Int} {n : Nat} (hn : 0 < n) (h : ∀ k, k < n → s k = t k) : tn0 s n = tn0 t n := by
  rw [tn0, tn0, (tn_congr h).1, h 0 hn]
/-- one step of the count: a comparison of signs that are not 0 -/
theorem tn_mul {a b : Int} (ha : a = 1 ∨ a = 0 ∨ a = -1) (hb : b = 1 ∨ b = 0 ∨ b = -1) : a * b < 0 ↔ a ≠ 0 ∧ b ≠ 0 ∧ a ≠ b := by
  rcases ha with rfl | rfl | rfl <;> rcases hb with rfl | rfl | rfl <;> decide
theorem es_front (c : Nat → Int) (n : Nat) (x : Rat) : es c (n + 1) x = (c 0 : Rat) + x * es (fun k => c (k + 1)) n x := by
  induction n with
  | zero => simp only [es]; grind
  | succ n ih =>
    rw [es, ih, es]
    have : x ^ (n + 1) = x ^ n * x := Rat.pow_succ x n
    rw [this]
    grind
theorem hsum_es (c : Nat → Int) (n : Nat) (u v : Int) (hv : 0 < v) : ∀ i, i ≤ n → ((hsum c n u v i : Int) : Rat) = (v : Rat) ^ i * es (fun k => c (n - i + k)) (i + 1) ((u : Rat) / (v : Rat)) := by
  have hv' : (v : Rat) ≠ 0 := fun h => by
    have : v = 0 := by exact_mod_cast h
    omega
  have hx : (u : Rat) / (v : Rat) * (v : Rat) = (u : Rat) := Rat.div_mul_cancel hv'
  intro i
  induction i with
  | zero => intro _; simp only [hsum, es, Nat.sub_zero]; simp; grind
  | succ i ih =>
    intro hi
    rw [hsum, es_front, Rat.intCast_add, Rat.intCast_mul, Rat.intCast_mul, ih (by omega)]
    have e1 : (fun k => c (n - (i + 1) + (k + 1))) = fun k => c (n - i + k) := funext (fun k => by rw [show n - (i + 1) + (k + 1) = n - i + k by omega])
    rw [e1, show n - (i + 1) + 0 = n - 1 - i by omega]
    have e2 : ((v ^ (i + 1) : Int) : Rat) = (v : Rat) ^ (i + 1) := by
      have : ∀ m : Nat, ((v ^ m : Int) : Rat) = (v : Rat) ^ m := fun m => by
        induction m with
        | zero => simp
        | succ m ih2 => rw [Int.pow_succ, Rat.intCast_mul, ih2, Rat.pow_succ]
      exact this _
    rw [e2]
    have e3 : (v : Rat) ^ (i + 1) = (v : Rat) ^ i * (v : Rat) := Rat.pow_succ _ _
    rw [e3]
    generalize es (fun k => c (n - i + k)) (i + 1) ((u : Rat) / (v : Rat)) = T at *
    generalize (u : Rat) / (v : Rat) = x at *
    grind
theorem sg_int (z : Int) : sg (z : Rat) = z.sign := by
  rcases Int.lt_trichotomy z 0 with h | h | h
  · rw [Int.sign_eq_neg_one_of_neg h]; exact sg_neg (by exact_mod_cast h)
  · rw [h]; rfl
  · rw [Int.sign_eq_one_of_pos h]; exact sg_pos (by exact_mod_cast h)
theorem rpow_pos {x : Rat} (h : 0 < x) (n : Nat) : 0 < x ^ n := by
  induction n with
  | zero => rw [Rat.pow_zero]; decide
  | succ n ih => rw [Rat.pow_succ]; exact Rat.mul_pos ih h
theorem sg_pmul {a b : Rat} (ha : 0 < a) : sg (a * b) = sg b := by rw [sg_mul, sg_pos ha, Int.one_mul]
/-- what signAt answers: the sign of the polynomial at u / v -/
theorem sgn_at {c : Nat → Int} {k : Nat} {u v : Int} (hv : 0 < v) (hk : k ≤ 6) (hz : ∀ j, k ≤ j → j < 6 → c j = 0) : (if k = 0 then 0 else (hsum c (k - 1) u v (k - 1)).sign) = sg (es c 6 ((u : Rat) / (v : Rat))) := by
  split
  · rename_i h0
    rw [es_zero (fun j hj => hz j (by omega) hj)]
    rfl
  · rename_i h0
    have h1 := hsum_es c (k - 1) u v hv (k - 1) (Nat.le_refl _)
    have e1 : (fun j => c (k - 1 - (k - 1) + j)) = c := funext (fun j => by rw [show k - 1 - (k - 1) + j = j by omega])
    rw [e1, show k - 1 + 1 = k by omega, ← es_more ((u : Rat) / (v : Rat)) 6 hk hz] at h1
    rw [← sg_int, h1, sg_pmul (rpow_pos (by exact_mod_cast hv) _)]
/-- degree and one, by the highest place that is not 0 -/
def dgn (c : Nat → Int) : Nat → Nat
  | 0 => 0
  | n + 1 => if c n ≠ 0 then n + 1 else dgn c n
theorem dgn_eq {c : Nat → Int} {k : Nat} (hl : 0 < k → c (k - 1) ≠ 0) : ∀ n, k ≤ n → (∀ j, k ≤ j → j < n → c j = 0) → dgn c n = k
  | 0, h, _ => by rw [dgn]; omega
  | n + 1, h, hz => by
    rw [dgn]
    by_cases hk : k = n + 1
    · rw [if_pos (by have := hl (by omega); rwa [show k - 1 = n by omega] at this), hk]
    · rw [if_neg (by rw [hz n (by omega) (by omega)]; simp)]
      exact dgn_eq hl n (by omega) (fun j h1 h2 => hz j h1 (by omega))
/-- the sign right of all roots, and left of them -/
def sgR (c : Nat → Int) : Int := (c (dgn c 6 - 1)).sign
def sgL (c : Nat → Int) : Int := if (dgn c 6 - 1) % 2 = 0 then sgR c else -sgR c
/-- the sign of row k of the reference at a place -/
def Sat (Z : Nat → Int) (x : Rat) (k : Nat) : Int := sg (es (fun j => Z (60 + 6 * k + j)) 6 x)
theorem Sat_congr {Z Z' : Nat → Int} {x : Rat} {k : Nat} (h : ∀ j, j < 6 → Z' (60 + 6 * k + j) = Z (60 + 6 * k + j)) : Sat Z' x k = Sat Z x k := by
  unfold Sat
  rw [es_congr h]
theorem sgR_mem (c : Nat → Int) : sgR c = 1 ∨ sgR c = 0 ∨ sgR c = -1 := by
  have := sign_cases (c (dgn c 6 - 1))
  unfold sgR
  omega
theorem sgL_mem (c : Nat → Int) : sgL c = 1 ∨ sgL c = 0 ∨ sgL c = -1 := by
  have := sgR_mem c
  unfold sgL
  split <;> omega
theorem pow2_lt {i j : Nat} (h : i < j) : (2 : Int) ^ i < 2 ^ j := by
  have : (2 : Nat) ^ i < 2 ^ j := Nat.pow_lt_pow_right (by decide) h
  exact_mod_cast this
theorem d_Mo_changesAt_0 : decode prog_9_method_41_code 0 = .ok (.iconst 0, 1) := by decide +kernel
theorem d_Mo_changesAt_1 : decode prog_9_method_41_code 1 = .ok (.istore_n 1, 1) := by decide +kernel
theorem d_Mo_changesAt_2 : decode prog_9_method_41_code 2 = .ok (.iconst 0, 1) := by decide +kernel
theorem d_Mo_changesAt_3 : decode prog_9_method_41_code 3 = .ok (.istore_n 2, 1) := by decide +kernel
theorem d_Mo_changesAt_4 : decode prog_9_method_41_code 4 = .ok (.iconst 0, 1) := by decide +kernel
theorem d_Mo_changesAt_5 : decode prog_9_method_41_code 5 = .ok (.istore_n 3, 1) := by decide +kernel
theorem d_Mo_changesAt_6 : decode prog_9_method_41_code 6 = .ok (.iload_n 3, 1) := by decide +kernel
theorem d_Mo_changesAt_7 : decode prog_9_method_41_code 7 = .ok (.aload_n 0, 1) := by decide +kernel
theorem d_Mo_changesAt_8 : decode prog_9_method_41_code 8 = .ok (.getfield 177, 3) := by decide +kernel
theorem d_Mo_changesAt_11 : decode prog_9_method_41_code 11 = .ok (.if_icmp .ge 57, 3) := by decide +kernel
theorem d_Mo_changesAt_14 : decode prog_9_method_41_code 14 = .ok (.aload_n 0, 1) := by decide +kernel
theorem d_Mo_changesAt_15 : decode prog_9_method_41_code 15 = .ok (.bipush 60, 2) := by decide +kernel
theorem d_Mo_changesAt_17 : decode prog_9_method_41_code 17 = .ok (.bipush 6, 2) := by decide +kernel
theorem d_Mo_changesAt_19 : decode prog_9_method_41_code 19 = .ok (.iload_n 3, 1) := by decide +kernel
theorem d_Mo_changesAt_20 : decode prog_9_method_41_code 20 = .ok (.imul, 1) := by decide +kernel
theorem d_Mo_changesAt_21 : decode prog_9_method_41_code 21 = .ok (.iadd, 1) := by decide +kernel
theorem d_Mo_changesAt_22 : decode prog_9_method_41_code 22 = .ok (.invokevirtual 180, 3) := by decide +kernel
theorem d_Mo_changesAt_25 : decode prog_9_method_41_code 25 = .ok (.istore 4, 2) := by decide +kernel
theorem d_Mo_changesAt_27 : decode prog_9_method_41_code 27 = .ok (.iload_n 2, 1) := by decide +kernel
theorem d_Mo_changesAt_28 : decode prog_9_method_41_code 28 = .ok (.iload 4, 2) := by decide +kernel
theorem d_Mo_changesAt_30 : decode prog_9_method_41_code 30 = .ok (.ifCond .eq 17, 3) := by decide +kernel
theorem d_Mo_changesAt_33 : decode prog_9_method_41_code 33 = .ok (.iload_n 1, 1) := by decide +kernel
theorem d_Mo_changesAt_34 : decode prog_9_method_41_code 34 = .ok (.ifCond .eq 13, 3) := by decide +kernel
theorem d_Mo_changesAt_37 : decode prog_9_method_41_code 37 = .ok (.iload 4, 2) := by decide +kernel
theorem d_Mo_changesAt_39 : decode prog_9_method_41_code 39 = .ok (.iload_n 1, 1) := by decide +kernel
theorem d_Mo_changesAt_40 : decode prog_9_method_41_code 40 = .ok (.if_icmp .eq 7, 3) := by decide +kernel
theorem d_Mo_changesAt_43 : decode prog_9_method_41_code 43 = .ok (.iconst 1, 1) := by decide +kernel
theorem d_Mo_changesAt_44 : decode prog_9_method_41_code 44 = .ok (.goto 4, 3) := by decide +kernel
theorem d_Mo_changesAt_47 : decode prog_9_method_41_code 47 = .ok (.iconst 0, 1) := by decide +kernel
theorem d_Mo_changesAt_48 : decode prog_9_method_41_code 48 = .ok (.iadd, 1) := by decide +kernel
theorem d_Mo_changesAt_49 : decode prog_9_method_41_code 49 = .ok (.istore_n 2, 1) := by decide +kernel
theorem d_Mo_changesAt_50 : decode prog_9_method_41_code 50 = .ok (.iload 4, 2) := by decide +kernel
theorem d_Mo_changesAt_52 : decode prog_9_method_41_code 52 = .ok (.ifCond .eq 8, 3) := by decide +kernel
theorem d_Mo_changesAt_55 : decode prog_9_method_41_code 55 = .ok (.iload 4, 2) := by decide +kernel
theorem d_Mo_changesAt_57 : decode prog_9_method_41_code 57 = .ok (.goto 4, 3) := by decide +kernel
theorem d_Mo_changesAt_60 : decode prog_9_method_41_code 60 = .ok (.iload_n 1, 1) := by decide +kernel
theorem d_Mo_changesAt_61 : decode prog_9_method_41_code 61 = .ok (.istore_n 1, 1) := by decide +kernel
theorem d_Mo_changesAt_62 : decode prog_9_method_41_code 62 = .ok (.iinc 3 1, 3) := by decide +kernel
theorem d_Mo_changesAt_65 : decode prog_9_method_41_code 65 = .ok (.goto (-59), 3) := by decide +kernel
theorem d_Mo_changesAt_68 : decode prog_9_method_41_code 68 = .ok (.iload_n 2, 1) := by decide +kernel
theorem d_Mo_changesAt_69 : decode prog_9_method_41_code 69 = .ok (.ireturn, 1) := by decide +kernel
set_option maxHeartbeats 8000000 in
set_option maxRecDepth 100000 in
theorem c_Mo_changesAt (l : Launch) (D : va_G) (cs : Nat → ClassId) (L : List Nat) (f : Nat → va_E) (sz : Nat) (y m1 m2 m3 m5 m6 m7 m8 m9 m10 m11 m12 m13 m15 : Nat) (th pn fu fb : Int) (lm mn sn Z : Nat → Int) (n : Nat) (hF : Fc L [y, m1, m2, m3]) (ha : f y = .inr (7, [.int (iI th), .ref m1, .ref m2, .ref m3, .int (iI pn), .ref m5, .ref m6, .ref m7, .ref m8, .ref m9, .ref m10, .ref m11, .ref m12, .ref m13, .int (iI ((n : Int))), .ref m15, .long (lI fu), .long (lI fb)])) (hm1 : f m1 = .inl (cs 0, 11520, .inl (ai lm))) (hm2 : f m2 = .inl (cs 0, 180, .inl (ai mn))) (hm3 : f m3 = .inl (cs 0, 180, .inl (ai sn))) (hRS : RS lm mn sn Z) (hn7 : n ≤ 6) (hBt : Bts (fun k j => Z (60 + 6 * k + j)) n) (hv0 : 0 < Z 151) (hub : ((Z 150).natAbs : Int) < 2 ^ 269) (hvb : ((Z 151).natAbs : Int) < 2 ^ 269) : Met l (⟨"RealRootsModel", "changesAt", "()I"⟩ : MethodName) (.code (⟨"RealRootsModel", "changesAt", "()I"⟩ : MethodName) prog_9_method_41_code 5 (Option.some Jvm.ClassFile.FieldType.int) :: gw) ({ frames := 4, cells := 0, slots := 0, locals := 160 }) (va_Pc [.ref y] (K0 D vwCl (TY cs) L f sz)) (va_Qi (fun (r : Int32) (g : Nat → va_E) => ∃ (lm' mn' sn' Z' : Nat → Int), r = iI (tn (Sat Z ((Z 150 : Rat) / (Z 151 : Rat))) n) ∧ RS lm' mn' sn' Z' ∧ (∀ w, w ≠ 152 → w ≠ 153 → w ≠ 154 → w ≠ 178 → Z' w = Z w) ∧ g = mw f [(m1, .inl (cs 0, 11520, .inl (ai (lm')))), (m2, .inl (cs 0, 180, .inl (ai (mn')))), (m3, .inl (cs 0, 180, .inl (ai (sn'))))]) (K1 D vwCl (TY cs) (AL L sz) L) (AL L sz)) 0 0 (AL L sz) := by
  refine Met.ofW (cc := prog_9_method_41_code) (maxL := 5) (ret := (Option.some Jvm.ClassFile.FieldType.int)) (by decide) rfl ?_
  intro p e s m args below meth c s₁ Bd hml hv
  obtain ⟨rfl, hk0⟩ := hv
  obtain ⟨hsz, B⟩ := hk0.start
  subst hsz
  have hx := Bd.exec
  have hb := Bd.bytes
  have hr := Bd.returns
  have hlocks := Bd.notSynchronized
  have hts0 := atoms_spec Bd.pre
  have hown : s.vm.findClass RX7 = some m.cls := findClass_of_methodNamed Bd.named
  have hA : ∀ q, s.heap.size ≤ q → AL L s.heap.size q := fun _ h => Or.inr h
  have hl := lv_entry ([.ref y]) (n := 5) (Nat.le_of_ble_eq_true rfl)
  rw [lg_entry_eq]
  generalize (lg_sl ([.ref y]) ++ List.replicate (5 - (lg_sl ([.ref y])).length) Slot.unset).toArray = ls at hl ⊢
  refine absQ (fun Q R av hQ hR hav => ?_)
  have hts : ∀ w ∈ gw, w.before av s = true := by rw [hav]; exact fun w h => hts0 w (List.mem_cons_of_mem _ h)
  have hRf : R.frames = 4 := by rw [hR]; rfl
  have hRl : R.locals = 160 := by rw [hR]; rfl
  have hRc : R.cells = 0 := by rw [hR]; rfl
  have hRs : R.slots = 0 := by rw [hR]; rfl
  clear hR hts0 Bd
  have hl : lv_has ls 5 [(0, .ref y)] := hl
  obtain ⟨S, hSd⟩ : ∃ S, S = Sat Z ((Z 150 : Rat) / (Z 151 : Rat)) := ⟨_, rfl⟩
  have hSm : ∀ k, S k = 1 ∨ S k = 0 ∨ S k = -1 := fun k => by rw [hSd]; exact sg_mem _
  have hfx : ∀ q ∈ ([(y, .inr (7, [.int (iI th), .ref m1, .ref m2, .ref m3, .int (iI pn), .ref m5, .ref m6, .ref m7, .ref m8, .ref m9, .ref m10, .ref m11, .ref m12, .ref m13, .int (iI ((n : Int))), .ref m15, .long (lI fu), .long (lI fb)])), (m1, .inl (cs 0, 11520, .inl (ai lm))), (m2, .inl (cs 0, 180, .inl (ai mn))), (m3, .inl (cs 0, 180, .inl (ai sn)))] : List (Nat × va_E)), f q.1 = q.2 := fun q hq => by
    simp only [List.mem_cons, List.not_mem_nil, or_false] at hq
    rcases hq with rfl | rfl | rfl | rfl
    · exact ha
    · exact hm1
    · exact hm2
    · exact hm3
  have hmw : mw f [(y, .inr (7, [.int (iI th), .ref m1, .ref m2, .ref m3, .int (iI pn), .ref m5, .ref m6, .ref m7, .ref m8, .ref m9, .ref m10, .ref m11, .ref m12, .ref m13, .int (iI ((n : Int))), .ref m15, .long (lI fu), .long (lI fb)])), (m1, .inl (cs 0, 11520, .inl (ai lm))), (m2, .inl (cs 0, 180, .inl (ai mn))), (m3, .inl (cs 0, 180, .inl (ai sn)))] = f := mw_self (fun k a e hk => hfx (a, e) (List.mem_of_getElem? hk))
  have B := B.focus [(y, .inr (7, [.int (iI th), .ref m1, .ref m2, .ref m3, .int (iI pn), .ref m5, .ref m6, .ref m7, .ref m8, .ref m9, .ref m10, .ref m11, .ref m12, .ref m13, .int (iI ((n : Int))), .ref m15, .long (lI fu), .long (lI fb)])), (m1, .inl (cs 0, 11520, .inl (ai lm))), (m2, .inl (cs 0, 180, .inl (ai mn))), (m3, .inl (cs 0, 180, .inl (ai sn)))] hfx
  refine x_iconst hx hb d_Mo_changesAt_0 ?_
  refine lv_istore_n (lv' := [(1, .int (iI 0)), (0, .ref y)]) hx hb d_Mo_changesAt_1 rfl hl (by decide) rfl (fun ls hl => ?_)
  refine x_iconst hx hb d_Mo_changesAt_2 ?_
  refine lv_istore_n (lv' := [(2, .int (iI 0)), (1, .int (iI 0)), (0, .ref y)]) hx hb d_Mo_changesAt_3 rfl hl (by decide) rfl (fun ls hl => ?_)
  refine x_iconst hx hb d_Mo_changesAt_4 ?_
  refine lv_istore_n (lv' := [(3, .int (iI 0)), (2, .int (iI 0)), (1, .int (iI 0)), (0, .ref y)]) hx hb d_Mo_changesAt_5 rfl hl (by decide) rfl (fun ls hl => ?_)
  have LP : ∀ (fuel : Nat) (k : Nat) (lm2 : Nat → Int) (mn2 : Nat → Int) (sn2 : Nat → Int) (Z2 : Nat → Int), n - k < fuel → (k ≤ n) → (RS lm2 mn2 sn2 Z2) → (∀ w, w ≠ 152 → w ≠ 153 → w ≠ 154 → w ≠ 178 → Z2 w = Z w) → ∀ (H : Heap) (locs : List Loc) (ls : Array Slot), Wb D vwCl (TY cs) L (mw f [(y, .inr (7, [.int (iI th), .ref m1, .ref m2, .ref m3, .int (iI pn), .ref m5, .ref m6, .ref m7, .ref m8, .ref m9, .ref m10, .ref m11, .ref m12, .ref m13, .int (iI ((n : Int))), .ref m15, .long (lI fu), .long (lI fb)])), (m1, .inl (cs 0, 11520, .inl (ai lm2))), (m2, .inl (cs 0, 180, .inl (ai mn2))), (m3, .inl (cs 0, 180, .inl (ai sn2)))]) (AL L s.heap.size) s H locs → lv_has ls 5 [(3, .int (iI ((k : Int)))), (2, .int (iI (tn S k))), (1, .int (iI (lst S k))), (0, .ref y)] → W p l e R s m av below meth c H locs (0) (0) Q (F0 m 6 ls []) := by
    intro fuel
    induction fuel with
    | zero => intro k lm2 mn2 sn2 Z2 hfu; exact absurd hfu (Nat.not_lt_zero _)
    | succ fuel ih_LP =>
      intro k lm2 mn2 sn2 Z2 hfu_LP hk hR ho H locs ls B hl
      have hS1 := hSm k
      have hl1 := lst_mem hSm k
      refine lv_iload_n hx hb d_Mo_changesAt_6 rfl (lv_at hl 0 rfl) ?_
      refine lv_aload_n hx hb d_Mo_changesAt_7 rfl (lv_at hl 3 rfl) ?_
      refine x_get (C := RX7) (T := TX7) (N := 18) hx hb hts inX7 hown B hF 0 rfl rfl 14 (by decide) (hts _ w_691) (fun _ h9 => h9) rfl d_Mo_changesAt_8 ?_
      refine x_icmp_ge (tgt := 68) hx hb d_Mo_changesAt_11 (by decide) (by omega) (by omega) (fun h11 => ?_) (fun h11 => ?_)
      · refine lv_iload_n hx hb d_Mo_changesAt_68 rfl (lv_at hl 1 rfl) ?_
        subst hQ hav
        exact x_iret hx hb hr hlocks B d_Mo_changesAt_69 (⟨_, _, _, Z2, by rw [← hSd, show k = n by omega], hR, ho, mw_drop (f := f) (X := [(m1, .inl (cs 0, 11520, .inl (ai lm2))), (m2, .inl (cs 0, 180, .inl (ai mn2))), (m3, .inl (cs 0, 180, .inl (ai sn2)))]) ha (List.nodup_cons.mp hF.1).1⟩)
      · refine lv_aload_n hx hb d_Mo_changesAt_14 rfl (lv_at hl 3 rfl) ?_
        refine x_bipush hx hb d_Mo_changesAt_15 (by decide) ?_
        refine x_bipush hx hb d_Mo_changesAt_17 (by decide) ?_
        refine lv_iload_n hx hb d_Mo_changesAt_19 rfl (lv_at hl 0 rfl) ?_
        refine x_imul hx hb d_Mo_changesAt_20 ?_
        refine x_iadd hx hb d_Mo_changesAt_21 ?_
        rw [show 60 + (6 * ((k : Int))) = ((60 + 6 * k : Nat) : Int) by omega]
        obtain ⟨d9, a9, hd5, hdz, hda, hdr⟩ := hBt k (by omega)
        have hrw : ∀ j, j < 6 → Z2 (60 + 6 * k + j) = Z (60 + 6 * k + j) := fun j hj => ho _ (by omega) (by omega) (by omega) (by omega)
        have h150 : Z2 150 = Z 150 := ho _ (by omega) (by omega) (by omega) (by omega)
        have h151 : Z2 151 = Z 151 := ho _ (by omega) (by omega) (by omega) (by omega)
        refine x_calli B hA (va_runV (As := [.int (iI (((60 + 6 * k : Nat) : Int)))]) (rest := []) ⟨hx, hb, hml, hown, hts⟩ (c_Mo_signAt l D cs _ _ _ y m1 m2 m3 m5 m6 m7 m8 m9 m10 m11 m12 m13 m15 th pn ((n : Int)) fu fb lm2 mn2 sn2 Z2 (60 + 6 * k) d9 a9 269 (hF.pick [0, 1, 2, 3] rfl rfl) (mw_get (X := [(y, .inr (7, [.int (iI th), .ref m1, .ref m2, .ref m3, .int (iI pn), .ref m5, .ref m6, .ref m7, .ref m8, .ref m9, .ref m10, .ref m11, .ref m12, .ref m13, .int (iI ((n : Int))), .ref m15, .long (lI fu), .long (lI fb)])), (m1, .inl (cs 0, 11520, .inl (ai lm2))), (m2, .inl (cs 0, 180, .inl (ai mn2))), (m3, .inl (cs 0, 180, .inl (ai sn2)))]) hF.1 (k := 0) rfl) (mw_get (X := [(y, .inr (7, [.int (iI th), .ref m1, .ref m2, .ref m3, .int (iI pn), .ref m5, .ref m6, .ref m7, .ref m8, .ref m9, .ref m10, .ref m11, .ref m12, .ref m13, .int (iI ((n : Int))), .ref m15, .long (lI fu), .long (lI fb)])), (m1, .inl (cs 0, 11520, .inl (ai lm2))), (m2, .inl (cs 0, 180, .inl (ai mn2))), (m3, .inl (cs 0, 180, .inl (ai sn2)))]) hF.1 (k := 1) rfl) (mw_get (X := [(y, .inr (7, [.int (iI th), .ref m1, .ref m2, .ref m3, .int (iI pn), .ref m5, .ref m6, .ref m7, .ref m8, .ref m9, .ref m10, .ref m11, .ref m12, .ref m13, .int (iI ((n : Int))), .ref m15, .long (lI fu), .long (lI fb)])), (m1, .inl (cs 0, 11520, .inl (ai lm2))), (m2, .inl (cs 0, 180, .inl (ai mn2))), (m3, .inl (cs 0, 180, .inl (ai sn2)))]) hF.1 (k := 2) rfl) (mw_get (X := [(y, .inr (7, [.int (iI th), .ref m1, .ref m2, .ref m3, .int (iI pn), .ref m5, .ref m6, .ref m7, .ref m8, .ref m9, .ref m10, .ref m11, .ref m12, .ref m13, .int (iI ((n : Int))), .ref m15, .long (lI fu), .long (lI fb)])), (m1, .inl (cs 0, 11520, .inl (ai lm2))), (m2, .inl (cs 0, 180, .inl (ai mn2))), (m3, .inl (cs 0, 180, .inl (ai sn2)))]) hF.1 (k := 3) rfl) hR (by omega) (fun j h1 h2 => by rw [hrw j h2]; exact hdz j h1 h2) (fun j hj => by rw [hrw j hj]; exact hda j hj) (by rw [h150]; exact hub) (by rw [h151]; exact hvb) hdr) (cwV 1 hts (gw_V w_911 w_913 s_60 w_8 w_914) rfl rfl rfl (by decide +kernel) ⟨by rw [hRf]; exact Nat.le_of_ble_eq_true rfl, by rw [hRl]; exact Nat.le_of_ble_eq_true rfl⟩) ⟨K0.blind, B.recv (hF.2 _ (mw_key (k := 0) (X := [(y, .inr (7, [.int (iI th), .ref m1, .ref m2, .ref m3, .int (iI pn), .ref m5, .ref m6, .ref m7, .ref m8, .ref m9, .ref m10, .ref m11, .ref m12, .ref m13, .int (iI ((n : Int))), .ref m15, .long (lI fu), .long (lI fb)])), (m1, .inl (cs 0, 11520, .inl (ai lm2))), (m2, .inl (cs 0, 180, .inl (ai mn2))), (m3, .inl (cs 0, 180, .inl (ai sn2)))]) rfl)) (mw_get (X := [(y, .inr (7, [.int (iI th), .ref m1, .ref m2, .ref m3, .int (iI pn), .ref m5, .ref m6, .ref m7, .ref m8, .ref m9, .ref m10, .ref m11, .ref m12, .ref m13, .int (iI ((n : Int))), .ref m15, .long (lI fu), .long (lI fb)])), (m1, .inl (cs 0, 11520, .inl (ai lm2))), (m2, .inl (cs 0, 180, .inl (ai mn2))), (m3, .inl (cs 0, 180, .inl (ai sn2)))]) hF.1 (k := 0) rfl) rfl, B.pre _⟩ rfl rfl hl.1 rfl (lv_room (Nat.le_of_ble_eq_true rfl)) d_Mo_changesAt_22 ⟨by rw [hRc]; omega, by rw [hRs]; omega⟩) (fun r22 g22 H locs hw B => ?_)
        obtain ⟨lm22, mn22, sn22, Z3, k3, rfl, hk36, hk3z, hk3l, hR3, h3s, h3o, rfl⟩ := hw
        have B := B.of_eq (mw_put3 (X := [(y, .inr (7, [.int (iI th), .ref m1, .ref m2, .ref m3, .int (iI pn), .ref m5, .ref m6, .ref m7, .ref m8, .ref m9, .ref m10, .ref m11, .ref m12, .ref m13, .int (iI ((n : Int))), .ref m15, .long (lI fu), .long (lI fb)])), (m1, .inl (cs 0, 11520, .inl (ai lm2))), (m2, .inl (cs 0, 180, .inl (ai mn2))), (m3, .inl (cs 0, 180, .inl (ai sn2)))]) hF.1 (k1 := 1) (k2 := 2) (k3 := 3) rfl rfl rfl)
        have B : Wb D vwCl (TY cs) L (mw f [(y, .inr (7, [.int (iI th), .ref m1, .ref m2, .ref m3, .int (iI pn), .ref m5, .ref m6, .ref m7, .ref m8, .ref m9, .ref m10, .ref m11, .ref m12, .ref m13, .int (iI ((n : Int))), .ref m15, .long (lI fu), .long (lI fb)])), (m1, .inl (cs 0, 11520, .inl (ai lm22))), (m2, .inl (cs 0, 180, .inl (ai mn22))), (m3, .inl (cs 0, 180, .inl (ai sn22)))]) (AL L s.heap.size) s H _ := B
        have hs9 : (if k3 = 0 then 0 else (hsum (fun j => Z2 (60 + 6 * k + j)) (k3 - 1) (Z2 150) (Z2 151) (k3 - 1)).sign) = S k := by rw [sgn_at (c := fun j => Z2 (60 + 6 * k + j)) (by rw [h151]; exact hv0) hk36 hk3z, h150, h151, hSd]; exact Sat_congr hrw
        rw [hs9]
        refine lv_istore (lv' := [(4, .int (iI (S k))), (3, .int (iI ((k : Int)))), (2, .int (iI (tn S k))), (1, .int (iI (lst S k))), (0, .ref y)]) hx hb d_Mo_changesAt_25 hl (by decide) rfl (fun ls hl => ?_)
        have J48 : ∀ (t : Int), (t = if S k * lst S k < 0 then 1 else 0) → ∀ (H : Heap) (locs : List Loc) (ls : Array Slot), Wb D vwCl (TY cs) L (mw f [(y, .inr (7, [.int (iI th), .ref m1, .ref m2, .ref m3, .int (iI pn), .ref m5, .ref m6, .ref m7, .ref m8, .ref m9, .ref m10, .ref m11, .ref m12, .ref m13, .int (iI ((n : Int))), .ref m15, .long (lI fu), .long (lI fb)])), (m1, .inl (cs 0, 11520, .inl (ai lm22))), (m2, .inl (cs 0, 180, .inl (ai mn22))), (m3, .inl (cs 0, 180, .inl (ai sn22)))]) (AL L s.heap.size) s H locs → lv_has ls 5 [(4, .int (iI (S k))), (3, .int (iI ((k : Int)))), (2, .int (iI (tn S k))), (1, .int (iI (lst S k))), (0, .ref y)] → W p l e R s m av below meth c H locs (0) (0) Q (F0 m 48 ls [.int (iI t), .int (iI (tn S k))]) := by
          intro t ht H locs ls B hl
          refine x_iadd hx hb d_Mo_changesAt_48 ?_
          refine lv_istore_n (lv' := [(2, .int (iI ((tn S k) + t))), (4, .int (iI (S k))), (3, .int (iI ((k : Int)))), (1, .int (iI (lst S k))), (0, .ref y)]) hx hb d_Mo_changesAt_49 rfl hl (by decide) rfl (fun ls hl => ?_)
          have J61 : ∀ (v2 : Int), (v2 = lst S (k + 1)) → ∀ (H : Heap) (locs : List Loc) (ls : Array Slot), Wb D vwCl (TY cs) L (mw f [(y, .inr (7, [.int (iI th), .ref m1, .ref m2, .ref m3, .int (iI pn), .ref m5, .ref m6, .ref m7, .ref m8, .ref m9, .ref m10, .ref m11, .ref m12, .ref m13, .int (iI ((n : Int))), .ref m15, .long (lI fu), .long (lI fb)])), (m1, .inl (cs 0, 11520, .inl (ai lm22))), (m2, .inl (cs 0, 180, .inl (ai mn22))), (m3, .inl (cs 0, 180, .inl (ai sn22)))]) (AL L s.heap.size) s H locs → lv_has ls 5 [(2, .int (iI ((tn S k) + t))), (4, .int (iI (S k))), (3, .int (iI ((k : Int)))), (1, .int (iI (lst S k))), (0, .ref y)] → W p l e R s m av below meth c H locs (0) (0) Q (F0 m 61 ls [.int (iI v2)]) := by
            intro v2 hv2 H locs ls B hl
            refine lv_istore_n (lv' := [(1, .int (iI v2)), (2, .int (iI ((tn S k) + t))), (4, .int (iI (S k))), (3, .int (iI ((k : Int)))), (0, .ref y)]) hx hb d_Mo_changesAt_61 rfl hl (by decide) rfl (fun ls hl => ?_)
            refine x_iinc (lv' := [(3, .int (iI (((k : Int)) + 1))), (1, .int (iI v2)), (2, .int (iI ((tn S k) + t))), (4, .int (iI (S k))), (0, .ref y)]) hx hb d_Mo_changesAt_62 hl (q := 3) rfl rfl (by decide) rfl (fun ls hl => ?_)
            refine lv_goto (tgt := 6) hx hb d_Mo_changesAt_65 (by decide) ?_
            subst ht hv2
            exact ih_LP (k + 1) lm22 mn22 sn22 Z3 (by omega) (by omega) hR3 (fun w h1 h2 h3 h4 => by rw [h3o w h1 h2 h3 h4]; exact ho w h1 h2 h3 h4) _ _ _ B (lv_sub hl [0, 2, 1, 4] rfl)
          refine lv_iload hx hb d_Mo_changesAt_50 (lv_at hl 1 rfl) ?_
          refine x_if_eq (tgt := 60) hx hb d_Mo_changesAt_52 (by decide) (by omega) (fun h52 => ?_) (fun h52 => ?_)
          · refine lv_iload_n hx hb d_Mo_changesAt_60 rfl (lv_at hl 3 rfl) ?_
            exact J61 (lst S k) (by first | rw [lst, if_pos (show S k ≠ 0 by omega)] | rw [lst, if_neg (show ¬ S k ≠ 0 by omega)]) _ _ _ B (lv_sub hl [0, 1, 2, 3, 4] rfl)
          · refine lv_iload hx hb d_Mo_changesAt_55 (lv_at hl 1 rfl) ?_
            refine lv_goto (tgt := 61) hx hb d_Mo_changesAt_57 (by decide) ?_
            exact J61 (S k) (by first | rw [lst, if_pos (show S k ≠ 0 by omega)] | rw [lst, if_neg (show ¬ S k ≠ 0 by omega)]) _ _ _ B (lv_sub hl [0, 1, 2, 3, 4] rfl)
        refine lv_iload_n hx hb d_Mo_changesAt_27 rfl (lv_at hl 2 rfl) ?_
        refine lv_iload hx hb d_Mo_changesAt_28 (lv_at hl 0 rfl) ?_
        refine x_if_eq (tgt := 47) hx hb d_Mo_changesAt_30 (by decide) (by omega) (fun h30 => ?_) (fun h30 => ?_)
        · refine x_iconst hx hb d_Mo_changesAt_47 ?_
          exact J48 0 (by have h9 := tn_mul hS1 hl1; first | rw [if_pos (h9.mpr ⟨by omega, by omega, by omega⟩)] | rw [if_neg (fun h8 => by have h7 := h9.mp h8; omega)]) _ _ _ B (lv_sub hl [0, 1, 2, 3, 4] rfl)
        · refine lv_iload_n hx hb d_Mo_changesAt_33 rfl (lv_at hl 3 rfl) ?_
          refine x_if_eq (tgt := 47) hx hb d_Mo_changesAt_34 (by decide) (by omega) (fun h34 => ?_) (fun h34 => ?_)
          · refine x_iconst hx hb d_Mo_changesAt_47 ?_
            exact J48 0 (by have h9 := tn_mul hS1 hl1; first | rw [if_pos (h9.mpr ⟨by omega, by omega, by omega⟩)] | rw [if_neg (fun h8 => by have h7 := h9.mp h8; omega)]) _ _ _ B (lv_sub hl [0, 1, 2, 3, 4] rfl)
          · refine lv_iload hx hb d_Mo_changesAt_37 (lv_at hl 0 rfl) ?_
            refine lv_iload_n hx hb d_Mo_changesAt_39 rfl (lv_at hl 3 rfl) ?_
            refine x_icmp_eq (tgt := 47) hx hb d_Mo_changesAt_40 (by decide) (by omega) (by omega) (fun h40 => ?_) (fun h40 => ?_)
            · refine x_iconst hx hb d_Mo_changesAt_47 ?_
              exact J48 0 (by have h9 := tn_mul hS1 hl1; first | rw [if_pos (h9.mpr ⟨by omega, by omega, by omega⟩)] | rw [if_neg (fun h8 => by have h7 := h9.mp h8; omega)]) _ _ _ B (lv_sub hl [0, 1, 2, 3, 4] rfl)
            · refine x_iconst hx hb d_Mo_changesAt_43 ?_
              refine lv_goto (tgt := 48) hx hb d_Mo_changesAt_44 (by decide) ?_
              exact J48 1 (by have h9 := tn_mul hS1 hl1; first | rw [if_pos (h9.mpr ⟨by omega, by omega, by omega⟩)] | rw [if_neg (fun h8 => by have h7 := h9.mp h8; omega)]) _ _ _ B (lv_sub hl [0, 1, 2, 3, 4] rfl)
  exact LP _ 0 lm mn sn Z (Nat.lt_succ_self _) (by omega) hRS (fun w _ _ _ _ => rfl) _ _ _ B (lv_sub hl [0, 1, 2, 3] rfl)
theorem d_Mo_changesFarLeft_0 : decode prog_9_method_42_code 0 = .ok (.iconst 0, 1) := by decide +kernel
theorem d_Mo_changesFarLeft_1 : decode prog_9_method_42_code 1 = .ok (.istore_n 1, 1) := by decide +kernel
theorem d_Mo_changesFarLeft_2 : decode prog_9_method_42_code 2 = .ok (.iconst 0, 1) := by decide +kernel
theorem d_Mo_changesFarLeft_3 : decode prog_9_method_42_code 3 = .ok (.istore_n 2, 1) := by decide +kernel
theorem d_Mo_changesFarLeft_4 : decode prog_9_method_42_code 4 = .ok (.iconst 0, 1) := by decide +kernel
theorem d_Mo_changesFarLeft_5 : decode prog_9_method_42_code 5 = .ok (.istore_n 3, 1) := by decide +kernel
theorem d_Mo_changesFarLeft_6 : decode prog_9_method_42_code 6 = .ok (.iload_n 3, 1) := by decide +kernel
theorem d_Mo_changesFarLeft_7 : decode prog_9_method_42_code 7 = .ok (.aload_n 0, 1) := by decide +kernel
theorem d_Mo_changesFarLeft_8 : decode prog_9_method_42_code 8 = .ok (.getfield 177, 3) := by decide +kernel
theorem d_Mo_changesFarLeft_11 : decode prog_9_method_42_code 11 = .ok (.if_icmp .ge 86, 3) := by decide +kernel
theorem d_Mo_changesFarLeft_14 : decode prog_9_method_42_code 14 = .ok (.aload_n 0, 1) := by decide +kernel
theorem d_Mo_changesFarLeft_15 : decode prog_9_method_42_code 15 = .ok (.bipush 60, 2) := by decide +kernel
theorem d_Mo_changesFarLeft_17 : decode prog_9_method_42_code 17 = .ok (.bipush 6, 2) := by decide +kernel
theorem d_Mo_changesFarLeft_19 : decode prog_9_method_42_code 19 = .ok (.iload_n 3, 1) := by decide +kernel
theorem d_Mo_changesFarLeft_20 : decode prog_9_method_42_code 20 = .ok (.imul, 1) := by decide +kernel
theorem d_Mo_changesFarLeft_21 : decode prog_9_method_42_code 21 = .ok (.iadd, 1) := by decide +kernel
theorem d_Mo_changesFarLeft_22 : decode prog_9_method_42_code 22 = .ok (.invokevirtual 99, 3) := by decide +kernel
theorem d_Mo_changesFarLeft_25 : decode prog_9_method_42_code 25 = .ok (.istore 4, 2) := by decide +kernel
theorem d_Mo_changesFarLeft_27 : decode prog_9_method_42_code 27 = .ok (.iload 4, 2) := by decide +kernel
theorem d_Mo_changesFarLeft_29 : decode prog_9_method_42_code 29 = .ok (.iconst 2, 1) := by decide +kernel
theorem d_Mo_changesFarLeft_30 : decode prog_9_method_42_code 30 = .ok (.irem, 1) := by decide +kernel
theorem d_Mo_changesFarLeft_31 : decode prog_9_method_42_code 31 = .ok (.ifCond .ne 21, 3) := by decide +kernel
theorem d_Mo_changesFarLeft_34 : decode prog_9_method_42_code 34 = .ok (.aload_n 0, 1) := by decide +kernel
theorem d_Mo_changesFarLeft_35 : decode prog_9_method_42_code 35 = .ok (.getfield 16, 3) := by decide +kernel
theorem d_Mo_changesFarLeft_38 : decode prog_9_method_42_code 38 = .ok (.bipush 60, 2) := by decide +kernel
theorem d_Mo_changesFarLeft_40 : decode prog_9_method_42_code 40 = .ok (.bipush 6, 2) := by decide +kernel
theorem d_Mo_changesFarLeft_42 : decode prog_9_method_42_code 42 = .ok (.iload_n 3, 1) := by decide +kernel
theorem d_Mo_changesFarLeft_43 : decode prog_9_method_42_code 43 = .ok (.imul, 1) := by decide +kernel
theorem d_Mo_changesFarLeft_44 : decode prog_9_method_42_code 44 = .ok (.iadd, 1) := by decide +kernel
theorem d_Mo_changesFarLeft_45 : decode prog_9_method_42_code 45 = .ok (.iload 4, 2) := by decide +kernel
theorem d_Mo_changesFarLeft_47 : decode prog_9_method_42_code 47 = .ok (.iadd, 1) := by decide +kernel
theorem d_Mo_changesFarLeft_48 : decode prog_9_method_42_code 48 = .ok (.iaload, 1) := by decide +kernel
theorem d_Mo_changesFarLeft_49 : decode prog_9_method_42_code 49 = .ok (.goto 19, 3) := by decide +kernel
theorem d_Mo_changesFarLeft_52 : decode prog_9_method_42_code 52 = .ok (.aload_n 0, 1) := by decide +kernel
theorem d_Mo_changesFarLeft_53 : decode prog_9_method_42_code 53 = .ok (.getfield 16, 3) := by decide +kernel
theorem d_Mo_changesFarLeft_56 : decode prog_9_method_42_code 56 = .ok (.bipush 60, 2) := by decide +kernel
theorem d_Mo_changesFarLeft_58 : decode prog_9_method_42_code 58 = .ok (.bipush 6, 2) := by decide +kernel
theorem d_Mo_changesFarLeft_60 : decode prog_9_method_42_code 60 = .ok (.iload_n 3, 1) := by decide +kernel
theorem d_Mo_changesFarLeft_61 : decode prog_9_method_42_code 61 = .ok (.imul, 1) := by decide +kernel
theorem d_Mo_changesFarLeft_62 : decode prog_9_method_42_code 62 = .ok (.iadd, 1) := by decide +kernel
theorem d_Mo_changesFarLeft_63 : decode prog_9_method_42_code 63 = .ok (.iload 4, 2) := by decide +kernel
theorem d_Mo_changesFarLeft_65 : decode prog_9_method_42_code 65 = .ok (.iadd, 1) := by decide +kernel
theorem d_Mo_changesFarLeft_66 : decode prog_9_method_42_code 66 = .ok (.iaload, 1) := by decide +kernel
theorem d_Mo_changesFarLeft_67 : decode prog_9_method_42_code 67 = .ok (.ineg, 1) := by decide +kernel
theorem d_Mo_changesFarLeft_68 : decode prog_9_method_42_code 68 = .ok (.istore 5, 2) := by decide +kernel
theorem d_Mo_changesFarLeft_70 : decode prog_9_method_42_code 70 = .ok (.iload_n 2, 1) := by decide +kernel
theorem d_Mo_changesFarLeft_71 : decode prog_9_method_42_code 71 = .ok (.iload_n 1, 1) := by decide +kernel
theorem d_Mo_changesFarLeft_72 : decode prog_9_method_42_code 72 = .ok (.ifCond .eq 13, 3) := by decide +kernel
theorem d_Mo_changesFarLeft_75 : decode prog_9_method_42_code 75 = .ok (.iload 5, 2) := by decide +kernel
theorem d_Mo_changesFarLeft_77 : decode prog_9_method_42_code 77 = .ok (.iload_n 1, 1) := by decide +kernel
theorem d_Mo_changesFarLeft_78 : decode prog_9_method_42_code 78 = .ok (.if_icmp .eq 7, 3) := by decide +kernel
theorem d_Mo_changesFarLeft_81 : decode prog_9_method_42_code 81 = .ok (.iconst 1, 1) := by decide +kernel
theorem d_Mo_changesFarLeft_82 : decode prog_9_method_42_code 82 = .ok (.goto 4, 3) := by decide +kernel
theorem d_Mo_changesFarLeft_85 : decode prog_9_method_42_code 85 = .ok (.iconst 0, 1) := by decide +kernel
theorem d_Mo_changesFarLeft_86 : decode prog_9_method_42_code 86 = .ok (.iadd, 1) := by decide +kernel
theorem d_Mo_changesFarLeft_87 : decode prog_9_method_42_code 87 = .ok (.istore_n 2, 1) := by decide +kernel
theorem d_Mo_changesFarLeft_88 : decode prog_9_method_42_code 88 = .ok (.iload 5, 2) := by decide +kernel
theorem d_Mo_changesFarLeft_90 : decode prog_9_method_42_code 90 = .ok (.istore_n 1, 1) := by decide +kernel
theorem d_Mo_changesFarLeft_91 : decode prog_9_method_42_code 91 = .ok (.iinc 3 1, 3) := by decide +kernel
theorem d_Mo_changesFarLeft_94 : decode prog_9_method_42_code 94 = .ok (.goto (-88), 3) := by decide +kernel
theorem d_Mo_changesFarLeft_97 : decode prog_9_method_42_code 97 = .ok (.iload_n 2, 1) := by decide +kernel
theorem d_Mo_changesFarLeft_98 : decode prog_9_method_42_code 98 = .ok (.ireturn, 1) := by decide +kernel
set_option maxHeartbeats 8000000 in
set_option maxRecDepth 100000 in
theorem c_Mo_changesFarLeft (l : Launch) (D : va_G) (cs : Nat → ClassId) (L : List Nat) (f : Nat → va_E) (sz : Nat) (y m1 m2 m3 m5 m6 m7 m8 m9 m10 m11 m12 m13 m15 : Nat) (th pn fu fb : Int) (lm mn sn Z : Nat → Int) (n : Nat) (hF : Fc L [y, m1, m2, m3]) (ha : f y = .inr (7, [.int (iI th), .ref m1, .ref m2, .ref m3, .int (iI pn), .ref m5, .ref m6, .ref m7, .ref m8, .ref m9, .ref m10, .ref m11, .ref m12, .ref m13, .int (iI ((n : Int))), .ref m15, .long (lI fu), .long (lI fb)])) (hm1 : f m1 = .inl (cs 0, 11520, .inl (ai lm))) (hm2 : f m2 = .inl (cs 0, 180, .inl (ai mn))) (hm3 : f m3 = .inl (cs 0, 180, .inl (ai sn))) (hRS : RS lm mn sn Z) (hn7 : n ≤ 6) (hNz : ∀ k, k < n → Nz (fun j => Z (60 + 6 * k + j))) : Met l (⟨"RealRootsModel", "changesFarLeft", "()I"⟩ : MethodName) (.code (⟨"RealRootsModel", "changesFarLeft", "()I"⟩ : MethodName) prog_9_method_42_code 6 (Option.some Jvm.ClassFile.FieldType.int) :: gw) ({ frames := 1, cells := 0, slots := 0, locals := 40 }) (va_Pc [.ref y] (K0 D vwCl (TY cs) L f sz)) (va_Qi (fun (r : Int32) (g : Nat → va_E) => r = iI (tn (fun k => sgL (fun j => Z (60 + 6 * k + j))) n) ∧ g = f) (K1 D vwCl (TY cs) (AL L sz) L) (AL L sz)) 0 0 (AL L sz) := by
  refine Met.ofW (cc := prog_9_method_42_code) (maxL := 6) (ret := (Option.some Jvm.ClassFile.FieldType.int)) (by decide) rfl ?_
  intro p e s m args below meth c s₁ Bd hml hv
  obtain ⟨rfl, hk0⟩ := hv
  obtain ⟨hsz, B⟩ := hk0.start
  subst hsz
  have hx := Bd.exec
  have hb := Bd.bytes
  have hr := Bd.returns
  have hlocks := Bd.notSynchronized
  have hts0 := atoms_spec Bd.pre
  have hown : s.vm.findClass RX7 = some m.cls := findClass_of_methodNamed Bd.named
  have hA : ∀ q, s.heap.size ≤ q → AL L s.heap.size q := fun _ h => Or.inr h
  have hl := lv_entry ([.ref y]) (n := 6) (Nat.le_of_ble_eq_true rfl)
  rw [lg_entry_eq]
  generalize (lg_sl ([.ref y]) ++ List.replicate (6 - (lg_sl ([.ref y])).length) Slot.unset).toArray = ls at hl ⊢
  refine absQ (fun Q R av hQ hR hav => ?_)
  have hts : ∀ w ∈ gw, w.before av s = true := by rw [hav]; exact fun w h => hts0 w (List.mem_cons_of_mem _ h)
  have hRf : R.frames = 1 := by rw [hR]; rfl
  have hRl : R.locals = 40 := by rw [hR]; rfl
  have hRc : R.cells = 0 := by rw [hR]; rfl
  have hRs : R.slots = 0 := by rw [hR]; rfl
  clear hR hts0 Bd
  have hl : lv_has ls 6 [(0, .ref y)] := hl
  obtain ⟨S, hSd⟩ : ∃ S, S = fun k => sgL (fun j => Z (60 + 6 * k + j)) := ⟨_, rfl⟩
  have hSm : ∀ k, S k = 1 ∨ S k = 0 ∨ S k = -1 := fun k => by rw [hSd]; exact sgL_mem _
  have hfx : ∀ q ∈ ([(y, .inr (7, [.int (iI th), .ref m1, .ref m2, .ref m3, .int (iI pn), .ref m5, .ref m6, .ref m7, .ref m8, .ref m9, .ref m10, .ref m11, .ref m12, .ref m13, .int (iI ((n : Int))), .ref m15, .long (lI fu), .long (lI fb)])), (m1, .inl (cs 0, 11520, .inl (ai lm))), (m2, .inl (cs 0, 180, .inl (ai mn))), (m3, .inl (cs 0, 180, .inl (ai sn)))] : List (Nat × va_E)), f q.1 = q.2 := fun q hq => by
    simp only [List.mem_cons, List.not_mem_nil, or_false] at hq
    rcases hq with rfl | rfl | rfl | rfl
    · exact ha
    · exact hm1
    · exact hm2
    · exact hm3
  have hmw : mw f [(y, .inr (7, [.int (iI th), .ref m1, .ref m2, .ref m3, .int (iI pn), .ref m5, .ref m6, .ref m7, .ref m8, .ref m9, .ref m10, .ref m11, .ref m12, .ref m13, .int (iI ((n : Int))), .ref m15, .long (lI fu), .long (lI fb)])), (m1, .inl (cs 0, 11520, .inl (ai lm))), (m2, .inl (cs 0, 180, .inl (ai mn))), (m3, .inl (cs 0, 180, .inl (ai sn)))] = f := mw_self (fun k a e hk => hfx (a, e) (List.mem_of_getElem? hk))
  have B := B.focus [(y, .inr (7, [.int (iI th), .ref m1, .ref m2, .ref m3, .int (iI pn), .ref m5, .ref m6, .ref m7, .ref m8, .ref m9, .ref m10, .ref m11, .ref m12, .ref m13, .int (iI ((n : Int))), .ref m15, .long (lI fu), .long (lI fb)])), (m1, .inl (cs 0, 11520, .inl (ai lm))), (m2, .inl (cs 0, 180, .inl (ai mn))), (m3, .inl (cs 0, 180, .inl (ai sn)))] hfx
  refine x_iconst hx hb d_Mo_changesFarLeft_0 ?_
  refine lv_istore_n (lv' := [(1, .int (iI 0)), (0, .ref y)]) hx hb d_Mo_changesFarLeft_1 rfl hl (by decide) rfl (fun ls hl => ?_)
  refine x_iconst hx hb d_Mo_changesFarLeft_2 ?_
  refine lv_istore_n (lv' := [(2, .int (iI 0)), (1, .int (iI 0)), (0, .ref y)]) hx hb d_Mo_changesFarLeft_3 rfl hl (by decide) rfl (fun ls hl => ?_)
  refine x_iconst hx hb d_Mo_changesFarLeft_4 ?_
  refine lv_istore_n (lv' := [(3, .int (iI 0)), (2, .int (iI 0)), (1, .int (iI 0)), (0, .ref y)]) hx hb d_Mo_changesFarLeft_5 rfl hl (by decide) rfl (fun ls hl => ?_)
  have LP : ∀ (fuel : Nat) (k : Nat), n - k < fuel → (k ≤ n) → ∀ (H : Heap) (locs : List Loc) (ls : Array Slot), Wb D vwCl (TY cs) L (mw f [(y, .inr (7, [.int (iI th), .ref m1, .ref m2, .ref m3, .int (iI pn), .ref m5, .ref m6, .ref m7, .ref m8, .ref m9, .ref m10, .ref m11, .ref m12, .ref m13, .int (iI ((n : Int))), .ref m15, .long (lI fu), .long (lI fb)])), (m1, .inl (cs 0, 11520, .inl (ai lm))), (m2, .inl (cs 0, 180, .inl (ai mn))), (m3, .inl (cs 0, 180, .inl (ai sn)))]) (AL L s.heap.size) s H locs → lv_has ls 6 [(3, .int (iI ((k : Int)))), (2, .int (iI (tn S k))), (1, .int (iI (lst S k))), (0, .ref y)] → W p l e R s m av below meth c H locs (0) (0) Q (F0 m 6 ls []) := by
    intro fuel
    induction fuel with
    | zero => intro k hfu; exact absurd hfu (Nat.not_lt_zero _)
    | succ fuel ih_LP =>
      intro k hfu_LP hk H locs ls B hl
      have hS1 := hSm k
      have hl1 := lst_mem hSm k
      refine lv_iload_n hx hb d_Mo_changesFarLeft_6 rfl (lv_at hl 0 rfl) ?_
      refine lv_aload_n hx hb d_Mo_changesFarLeft_7 rfl (lv_at hl 3 rfl) ?_
      refine x_get (C := RX7) (T := TX7) (N := 18) hx hb hts inX7 hown B hF 0 rfl rfl 14 (by decide) (hts _ w_691) (fun _ h9 => h9) rfl d_Mo_changesFarLeft_8 ?_
      refine x_icmp_ge (tgt := 97) hx hb d_Mo_changesFarLeft_11 (by decide) (by omega) (by omega) (fun h11 => ?_) (fun h11 => ?_)
      · refine lv_iload_n hx hb d_Mo_changesFarLeft_97 rfl (lv_at hl 1 rfl) ?_
        have B := B.of_eq hmw
        subst hQ hav
        exact x_iret hx hb hr hlocks B d_Mo_changesFarLeft_98 (⟨by rw [← hSd, show k = n by omega], rfl⟩)
      · refine lv_aload_n hx hb d_Mo_changesFarLeft_14 rfl (lv_at hl 3 rfl) ?_
        refine x_bipush hx hb d_Mo_changesFarLeft_15 (by decide) ?_
        refine x_bipush hx hb d_Mo_changesFarLeft_17 (by decide) ?_
        refine lv_iload_n hx hb d_Mo_changesFarLeft_19 rfl (lv_at hl 0 rfl) ?_
        refine x_imul hx hb d_Mo_changesFarLeft_20 ?_
        refine x_iadd hx hb d_Mo_changesFarLeft_21 ?_
        rw [show 60 + (6 * ((k : Int))) = ((60 + 6 * k : Nat) : Int) by omega]
        refine x_calli B hA (va_runV (As := [.int (iI (((60 + 6 * k : Nat) : Int)))]) (rest := []) ⟨hx, hb, hml, hown, hts⟩ (c_Mo_degreeAt l D cs _ _ _ y m1 m2 m3 m5 m6 m7 m8 m9 m10 m11 m12 m13 m15 th pn ((n : Int)) fu fb lm mn sn Z (60 + 6 * k) (hF.pick [0, 1, 2, 3] rfl rfl) (mw_get (X := [(y, .inr (7, [.int (iI th), .ref m1, .ref m2, .ref m3, .int (iI pn), .ref m5, .ref m6, .ref m7, .ref m8, .ref m9, .ref m10, .ref m11, .ref m12, .ref m13, .int (iI ((n : Int))), .ref m15, .long (lI fu), .long (lI fb)])), (m1, .inl (cs 0, 11520, .inl (ai lm))), (m2, .inl (cs 0, 180, .inl (ai mn))), (m3, .inl (cs 0, 180, .inl (ai sn)))]) hF.1 (k := 0) rfl) (mw_get (X := [(y, .inr (7, [.int (iI th), .ref m1, .ref m2, .ref m3, .int (iI pn), .ref m5, .ref m6, .ref m7, .ref m8, .ref m9, .ref m10, .ref m11, .ref m12, .ref m13, .int (iI ((n : Int))), .ref m15, .long (lI fu), .long (lI fb)])), (m1, .inl (cs 0, 11520, .inl (ai lm))), (m2, .inl (cs 0, 180, .inl (ai mn))), (m3, .inl (cs 0, 180, .inl (ai sn)))]) hF.1 (k := 1) rfl) (mw_get (X := [(y, .inr (7, [.int (iI th), .ref m1, .ref m2, .ref m3, .int (iI pn), .ref m5, .ref m6, .ref m7, .ref m8, .ref m9, .ref m10, .ref m11, .ref m12, .ref m13, .int (iI ((n : Int))), .ref m15, .long (lI fu), .long (lI fb)])), (m1, .inl (cs 0, 11520, .inl (ai lm))), (m2, .inl (cs 0, 180, .inl (ai mn))), (m3, .inl (cs 0, 180, .inl (ai sn)))]) hF.1 (k := 2) rfl) (mw_get (X := [(y, .inr (7, [.int (iI th), .ref m1, .ref m2, .ref m3, .int (iI pn), .ref m5, .ref m6, .ref m7, .ref m8, .ref m9, .ref m10, .ref m11, .ref m12, .ref m13, .int (iI ((n : Int))), .ref m15, .long (lI fu), .long (lI fb)])), (m1, .inl (cs 0, 11520, .inl (ai lm))), (m2, .inl (cs 0, 180, .inl (ai mn))), (m3, .inl (cs 0, 180, .inl (ai sn)))]) hF.1 (k := 3) rfl) hRS (by omega)) (cwV 1 hts (gw_V w_796 w_798 s_36 w_8 w_799) rfl rfl rfl (by decide +kernel) ⟨by rw [hRf]; exact Nat.le_of_ble_eq_true rfl, by rw [hRl]; exact Nat.le_of_ble_eq_true rfl⟩) ⟨K0.blind, B.recv (hF.2 _ (mw_key (k := 0) (X := [(y, .inr (7, [.int (iI th), .ref m1, .ref m2, .ref m3, .int (iI pn), .ref m5, .ref m6, .ref m7, .ref m8, .ref m9, .ref m10, .ref m11, .ref m12, .ref m13, .int (iI ((n : Int))), .ref m15, .long (lI fu), .long (lI fb)])), (m1, .inl (cs 0, 11520, .inl (ai lm))), (m2, .inl (cs 0, 180, .inl (ai mn))), (m3, .inl (cs 0, 180, .inl (ai sn)))]) rfl)) (mw_get (X := [(y, .inr (7, [.int (iI th), .ref m1, .ref m2, .ref m3, .int (iI pn), .ref m5, .ref m6, .ref m7, .ref m8, .ref m9, .ref m10, .ref m11, .ref m12, .ref m13, .int (iI ((n : Int))), .ref m15, .long (lI fu), .long (lI fb)])), (m1, .inl (cs 0, 11520, .inl (ai lm))), (m2, .inl (cs 0, 180, .inl (ai mn))), (m3, .inl (cs 0, 180, .inl (ai sn)))]) hF.1 (k := 0) rfl) rfl, B.pre _⟩ rfl rfl hl.1 rfl (lv_room (Nat.le_of_ble_eq_true rfl)) d_Mo_changesFarLeft_22 ⟨by rw [hRc]; omega, by rw [hRs]; omega⟩) (fun r22 g22 H locs hw B => ?_)
        obtain ⟨kq, rfl, hk6, hkz, hkl, rfl⟩ := hw
        have B : Wb D vwCl (TY cs) L (mw f [(y, .inr (7, [.int (iI th), .ref m1, .ref m2, .ref m3, .int (iI pn), .ref m5, .ref m6, .ref m7, .ref m8, .ref m9, .ref m10, .ref m11, .ref m12, .ref m13, .int (iI ((n : Int))), .ref m15, .long (lI fu), .long (lI fb)])), (m1, .inl (cs 0, 11520, .inl (ai lm))), (m2, .inl (cs 0, 180, .inl (ai mn))), (m3, .inl (cs 0, 180, .inl (ai sn)))]) (AL L s.heap.size) s H _ := B
        have hkq0 : 0 < kq := by
          rcases Nat.eq_zero_or_pos kq with h | h
          · obtain ⟨j, hj, hjn⟩ := hNz k (by omega)
            exact absurd (hkz j (by omega) hj) hjn
          · exact h
        obtain ⟨nq, hnq⟩ : ∃ nq, kq = nq + 1 := ⟨kq - 1, by omega⟩
        have hql := hkl (by omega)
        rw [show kq - 1 = nq by omega] at hql
        have hdg : dgn (fun j => Z (60 + 6 * k + j)) 6 = kq := dgn_eq (c := fun j => Z (60 + 6 * k + j)) hkl 6 hk6 hkz
        have hsn : sn (60 + 6 * k + nq) = sgR (fun j => Z (60 + 6 * k + j)) := by rw [(hRS (60 + 6 * k + nq) (by omega)).2.2.2.2.1, sgR, hdg, show kq - 1 = nq by omega]
        have hmod : (nq : Int).tmod 2 = ((nq % 2 : Nat) : Int) := by rw [Int.tmod_eq_emod_of_nonneg (by omega)]; omega
        have hsR : sgR (fun j => Z (60 + 6 * k + j)) ≠ 0 := by rw [← hsn, (hRS (60 + 6 * k + nq) (by omega)).2.2.2.2.1]; exact fun h => hql (Int.sign_eq_zero_iff_zero.mp h)
        have hsRm := sign_cases (Z (60 + 6 * k + nq))
        rw [← (hRS (60 + 6 * k + nq) (by omega)).2.2.2.2.1, hsn] at hsRm
        have hSk : S k = sgL (fun j => Z (60 + 6 * k + j)) := by rw [hSd]
        rw [show (kq : Int) - 1 = (nq : Int) by omega]
        refine lv_istore (lv' := [(4, .int (iI ((nq : Int)))), (3, .int (iI ((k : Int)))), (2, .int (iI (tn S k))), (1, .int (iI (lst S k))), (0, .ref y)]) hx hb d_Mo_changesFarLeft_25 hl (by decide) rfl (fun ls hl => ?_)
        have J68 : ∀ (v : Int), (v = S k) → (v ≠ 0) → ∀ (H : Heap) (locs : List Loc) (ls : Array Slot), Wb D vwCl (TY cs) L (mw f [(y, .inr (7, [.int (iI th), .ref m1, .ref m2, .ref m3, .int (iI pn), .ref m5, .ref m6, .ref m7, .ref m8, .ref m9, .ref m10, .ref m11, .ref m12, .ref m13, .int (iI ((n : Int))), .ref m15, .long (lI fu), .long (lI fb)])), (m1, .inl (cs 0, 11520, .inl (ai lm))), (m2, .inl (cs 0, 180, .inl (ai mn))), (m3, .inl (cs 0, 180, .inl (ai sn)))]) (AL L s.heap.size) s H locs → lv_has ls 6 [(4, .int (iI ((nq : Int)))), (3, .int (iI ((k : Int)))), (2, .int (iI (tn S k))), (1, .int (iI (lst S k))), (0, .ref y)] → W p l e R s m av below meth c H locs (0) (0) Q (F0 m 68 ls [.int (iI v)]) := by
          intro v hv hv0 H locs ls B hl
          refine lv_istore (lv' := [(5, .int (iI v)), (4, .int (iI ((nq : Int)))), (3, .int (iI ((k : Int)))), (2, .int (iI (tn S k))), (1, .int (iI (lst S k))), (0, .ref y)]) hx hb d_Mo_changesFarLeft_68 hl (by decide) rfl (fun ls hl => ?_)
          have JT : ∀ (t : Int), (t = if S k * lst S k < 0 then 1 else 0) → ∀ (H : Heap) (locs : List Loc) (ls : Array Slot), Wb D vwCl (TY cs) L (mw f [(y, .inr (7, [.int (iI th), .ref m1, .ref m2, .ref m3, .int (iI pn), .ref m5, .ref m6, .ref m7, .ref m8, .ref m9, .ref m10, .ref m11, .ref m12, .ref m13, .int (iI ((n : Int))), .ref m15, .long (lI fu), .long (lI fb)])), (m1, .inl (cs 0, 11520, .inl (ai lm))), (m2, .inl (cs 0, 180, .inl (ai mn))), (m3, .inl (cs 0, 180, .inl (ai sn)))]) (AL L s.heap.size) s H locs → lv_has ls 6 [(5, .int (iI v)), (4, .int (iI ((nq : Int)))), (3, .int (iI ((k : Int)))), (2, .int (iI (tn S k))), (1, .int (iI (lst S k))), (0, .ref y)] → W p l e R s m av below meth c H locs (0) (0) Q (F0 m 86 ls [.int (iI t), .int (iI (tn S k))]) := by
            intro t ht H locs ls B hl
            refine x_iadd hx hb d_Mo_changesFarLeft_86 ?_
            refine lv_istore_n (lv' := [(2, .int (iI ((tn S k) + t))), (5, .int (iI v)), (4, .int (iI ((nq : Int)))), (3, .int (iI ((k : Int)))), (1, .int (iI (lst S k))), (0, .ref y)]) hx hb d_Mo_changesFarLeft_87 rfl hl (by decide) rfl (fun ls hl => ?_)
            refine lv_iload hx hb d_Mo_changesFarLeft_88 (lv_at hl 1 rfl) ?_
            refine lv_istore_n (lv' := [(1, .int (iI v)), (2, .int (iI ((tn S k) + t))), (5, .int (iI v)), (4, .int (iI ((nq : Int)))), (3, .int (iI ((k : Int)))), (0, .ref y)]) hx hb d_Mo_changesFarLeft_90 rfl hl (by decide) rfl (fun ls hl => ?_)
            refine x_iinc (lv' := [(3, .int (iI (((k : Int)) + 1))), (1, .int (iI v)), (2, .int (iI ((tn S k) + t))), (5, .int (iI v)), (4, .int (iI ((nq : Int)))), (0, .ref y)]) hx hb d_Mo_changesFarLeft_91 hl (q := 4) rfl rfl (by decide) rfl (fun ls hl => ?_)
            refine lv_goto (tgt := 6) hx hb d_Mo_changesFarLeft_94 (by decide) ?_
            subst ht
            have hv2 : v = lst S (k + 1) := by rw [lst, if_pos (show S k ≠ 0 by omega)]; exact hv
            subst hv2
            exact ih_LP (k + 1) (by omega) (by omega) _ _ _ B (lv_sub hl [0, 2, 1, 5] rfl)
          refine lv_iload_n hx hb d_Mo_changesFarLeft_70 rfl (lv_at hl 3 rfl) ?_
          refine lv_iload_n hx hb d_Mo_changesFarLeft_71 rfl (lv_at hl 4 rfl) ?_
          refine x_if_eq (tgt := 85) hx hb d_Mo_changesFarLeft_72 (by decide) (by omega) (fun h72 => ?_) (fun h72 => ?_)
          · refine x_iconst hx hb d_Mo_changesFarLeft_85 ?_
            exact JT 0 (by have h9 := tn_mul hS1 hl1; first | rw [if_pos (h9.mpr ⟨by omega, by omega, by omega⟩)] | rw [if_neg (fun h8 => by have h7 := h9.mp h8; omega)]) _ _ _ B (lv_sub hl [0, 1, 2, 3, 4, 5] rfl)
          · refine lv_iload hx hb d_Mo_changesFarLeft_75 (lv_at hl 0 rfl) ?_
            refine lv_iload_n hx hb d_Mo_changesFarLeft_77 rfl (lv_at hl 4 rfl) ?_
            refine x_icmp_eq (tgt := 85) hx hb d_Mo_changesFarLeft_78 (by decide) (by omega) (by omega) (fun h78 => ?_) (fun h78 => ?_)
            · refine x_iconst hx hb d_Mo_changesFarLeft_85 ?_
              exact JT 0 (by have h9 := tn_mul hS1 hl1; first | rw [if_pos (h9.mpr ⟨by omega, by omega, by omega⟩)] | rw [if_neg (fun h8 => by have h7 := h9.mp h8; omega)]) _ _ _ B (lv_sub hl [0, 1, 2, 3, 4, 5] rfl)
            · refine x_iconst hx hb d_Mo_changesFarLeft_81 ?_
              refine lv_goto (tgt := 86) hx hb d_Mo_changesFarLeft_82 (by decide) ?_
              exact JT 1 (by have h9 := tn_mul hS1 hl1; first | rw [if_pos (h9.mpr ⟨by omega, by omega, by omega⟩)] | rw [if_neg (fun h8 => by have h7 := h9.mp h8; omega)]) _ _ _ B (lv_sub hl [0, 1, 2, 3, 4, 5] rfl)
        refine lv_iload hx hb d_Mo_changesFarLeft_27 (lv_at hl 0 rfl) ?_
        refine x_iconst hx hb d_Mo_changesFarLeft_29 ?_
        refine x_irem hx hb d_Mo_changesFarLeft_30 (by omega) (by omega) (by omega) ?_
        refine x_if_ne (tgt := 52) hx hb d_Mo_changesFarLeft_31 (by decide) (by rw [hmod]; omega) (fun h31 => ?_) (fun h31 => ?_)
        · refine lv_aload_n hx hb d_Mo_changesFarLeft_52 rfl (lv_at hl 4 rfl) ?_
          refine x_get (C := RX7) (T := TX7) (N := 18) hx hb hts inX7 hown B hF 0 rfl rfl 3 (by decide) (hts _ w_680) (fun _ h9 => h9) rfl d_Mo_changesFarLeft_53 ?_
          refine x_bipush hx hb d_Mo_changesFarLeft_56 (by decide) ?_
          refine x_bipush hx hb d_Mo_changesFarLeft_58 (by decide) ?_
          refine lv_iload_n hx hb d_Mo_changesFarLeft_60 rfl (lv_at hl 1 rfl) ?_
          refine x_imul hx hb d_Mo_changesFarLeft_61 ?_
          refine x_iadd hx hb d_Mo_changesFarLeft_62 ?_
          refine lv_iload hx hb d_Mo_changesFarLeft_63 (lv_at hl 0 rfl) ?_
          refine x_iadd hx hb d_Mo_changesFarLeft_65 ?_
          refine x_iald hx hb B hF 3 0 rfl rfl (60 + 6 * k + nq) (by omega) (by omega) (by decide) d_Mo_changesFarLeft_66 ?_
          refine x_ineg hx hb d_Mo_changesFarLeft_67 ?_
          exact J68 (-(sn (60 + 6 * k + nq))) (by rw [hSk, sgL, hdg, hsn]; first | rw [if_pos (show (kq - 1) % 2 = 0 by omega)] | rw [if_neg (show ¬ (kq - 1) % 2 = 0 by omega)]) (by omega) _ _ _ B (lv_sub hl [0, 1, 2, 3, 4] rfl)
        · refine lv_aload_n hx hb d_Mo_changesFarLeft_34 rfl (lv_at hl 4 rfl) ?_
          refine x_get (C := RX7) (T := TX7) (N := 18) hx hb hts inX7 hown B hF 0 rfl rfl 3 (by decide) (hts _ w_680) (fun _ h9 => h9) rfl d_Mo_changesFarLeft_35 ?_
          refine x_bipush hx hb d_Mo_changesFarLeft_38 (by decide) ?_
          refine x_bipush hx hb d_Mo_changesFarLeft_40 (by decide) ?_
          refine lv_iload_n hx hb d_Mo_changesFarLeft_42 rfl (lv_at hl 1 rfl) ?_
          refine x_imul hx hb d_Mo_changesFarLeft_43 ?_
          refine x_iadd hx hb d_Mo_changesFarLeft_44 ?_
          refine lv_iload hx hb d_Mo_changesFarLeft_45 (lv_at hl 0 rfl) ?_
          refine x_iadd hx hb d_Mo_changesFarLeft_47 ?_
          refine x_iald hx hb B hF 3 0 rfl rfl (60 + 6 * k + nq) (by omega) (by omega) (by decide) d_Mo_changesFarLeft_48 ?_
          refine lv_goto (tgt := 68) hx hb d_Mo_changesFarLeft_49 (by decide) ?_
          exact J68 (sn (60 + 6 * k + nq)) (by rw [hSk, sgL, hdg, hsn]; first | rw [if_pos (show (kq - 1) % 2 = 0 by omega)] | rw [if_neg (show ¬ (kq - 1) % 2 = 0 by omega)]) (by omega) _ _ _ B (lv_sub hl [0, 1, 2, 3, 4] rfl)
  exact LP _ 0 (Nat.lt_succ_self _) (by omega) _ _ _ B (lv_sub hl [0, 1, 2, 3] rfl)
theorem d_Mo_changesFarRight_0 : decode prog_9_method_43_code 0 = .ok (.iconst 0, 1) := by decide +kernel
theorem d_Mo_changesFarRight_1 : decode prog_9_method_43_code 1 = .ok (.istore_n 1, 1) := by decide +kernel
theorem d_Mo_changesFarRight_2 : decode prog_9_method_43_code 2 = .ok (.iconst 0, 1) := by decide +kernel
theorem d_Mo_changesFarRight_3 : decode prog_9_method_43_code 3 = .ok (.istore_n 2, 1) := by decide +kernel
theorem d_Mo_changesFarRight_4 : decode prog_9_method_43_code 4 = .ok (.iconst 0, 1) := by decide +kernel
theorem d_Mo_changesFarRight_5 : decode prog_9_method_43_code 5 = .ok (.istore_n 3, 1) := by decide +kernel
theorem d_Mo_changesFarRight_6 : decode prog_9_method_43_code 6 = .ok (.iload_n 3, 1) := by decide +kernel
theorem d_Mo_changesFarRight_7 : decode prog_9_method_43_code 7 = .ok (.aload_n 0, 1) := by decide +kernel
theorem d_Mo_changesFarRight_8 : decode prog_9_method_43_code 8 = .ok (.getfield 177, 3) := by decide +kernel
theorem d_Mo_changesFarRight_11 : decode prog_9_method_43_code 11 = .ok (.if_icmp .ge 56, 3) := by decide +kernel
theorem d_Mo_changesFarRight_14 : decode prog_9_method_43_code 14 = .ok (.aload_n 0, 1) := by decide +kernel
theorem d_Mo_changesFarRight_15 : decode prog_9_method_43_code 15 = .ok (.getfield 16, 3) := by decide +kernel
theorem d_Mo_changesFarRight_18 : decode prog_9_method_43_code 18 = .ok (.bipush 60, 2) := by decide +kernel
theorem d_Mo_changesFarRight_20 : decode prog_9_method_43_code 20 = .ok (.bipush 6, 2) := by decide +kernel
theorem d_Mo_changesFarRight_22 : decode prog_9_method_43_code 22 = .ok (.iload_n 3, 1) := by decide +kernel
theorem d_Mo_changesFarRight_23 : decode prog_9_method_43_code 23 = .ok (.imul, 1) := by decide +kernel
theorem d_Mo_changesFarRight_24 : decode prog_9_method_43_code 24 = .ok (.iadd, 1) := by decide +kernel
theorem d_Mo_changesFarRight_25 : decode prog_9_method_43_code 25 = .ok (.aload_n 0, 1) := by decide +kernel
theorem d_Mo_changesFarRight_26 : decode prog_9_method_43_code 26 = .ok (.bipush 60, 2) := by decide +kernel
theorem d_Mo_changesFarRight_28 : decode prog_9_method_43_code 28 = .ok (.bipush 6, 2) := by decide +kernel
theorem d_Mo_changesFarRight_30 : decode prog_9_method_43_code 30 = .ok (.iload_n 3, 1) := by decide +kernel
theorem d_Mo_changesFarRight_31 : decode prog_9_method_43_code 31 = .ok (.imul, 1) := by decide +kernel
theorem d_Mo_changesFarRight_32 : decode prog_9_method_43_code 32 = .ok (.iadd, 1) := by decide +kernel
theorem d_Mo_changesFarRight_33 : decode prog_9_method_43_code 33 = .ok (.invokevirtual 99, 3) := by decide +kernel
theorem d_Mo_changesFarRight_36 : decode prog_9_method_43_code 36 = .ok (.iadd, 1) := by decide +kernel
theorem d_Mo_changesFarRight_37 : decode prog_9_method_43_code 37 = .ok (.iaload, 1) := by decide +kernel
theorem d_Mo_changesFarRight_38 : decode prog_9_method_43_code 38 = .ok (.istore 4, 2) := by decide +kernel
theorem d_Mo_changesFarRight_40 : decode prog_9_method_43_code 40 = .ok (.iload_n 2, 1) := by decide +kernel
theorem d_Mo_changesFarRight_41 : decode prog_9_method_43_code 41 = .ok (.iload_n 1, 1) := by decide +kernel
theorem d_Mo_changesFarRight_42 : decode prog_9_method_43_code 42 = .ok (.ifCond .eq 13, 3) := by decide +kernel
theorem d_Mo_changesFarRight_45 : decode prog_9_method_43_code 45 = .ok (.iload 4, 2) := by decide +kernel
theorem d_Mo_changesFarRight_47 : decode prog_9_method_43_code 47 = .ok (.iload_n 1, 1) := by decide +kernel
theorem d_Mo_changesFarRight_48 : decode prog_9_method_43_code 48 = .ok (.if_icmp .eq 7, 3) := by decide +kernel
theorem d_Mo_changesFarRight_51 : decode prog_9_method_43_code 51 = .ok (.iconst 1, 1) := by decide +kernel
theorem d_Mo_changesFarRight_52 : decode prog_9_method_43_code 52 = .ok (.goto 4, 3) := by decide +kernel
theorem d_Mo_changesFarRight_55 : decode prog_9_method_43_code 55 = .ok (.iconst 0, 1) := by decide +kernel
theorem d_Mo_changesFarRight_56 : decode prog_9_method_43_code 56 = .ok (.iadd, 1) := by decide +kernel
theorem d_Mo_changesFarRight_57 : decode prog_9_method_43_code 57 = .ok (.istore_n 2, 1) := by decide +kernel
theorem d_Mo_changesFarRight_58 : decode prog_9_method_43_code 58 = .ok (.iload 4, 2) := by decide +kernel
theorem d_Mo_changesFarRight_60 : decode prog_9_method_43_code 60 = .ok (.istore_n 1, 1) := by decide +kernel
theorem d_Mo_changesFarRight_61 : decode prog_9_method_43_code 61 = .ok (.iinc 3 1, 3) := by decide +kernel
theorem d_Mo_changesFarRight_64 : decode prog_9_method_43_code 64 = .ok (.goto (-58), 3) := by decide +kernel
theorem d_Mo_changesFarRight_67 : decode prog_9_method_43_code 67 = .ok (.iload_n 2, 1) := by decide +kernel
theorem d_Mo_changesFarRight_68 : decode prog_9_method_43_code 68 = .ok (.ireturn, 1) := by decide +kernel
set_option maxHeartbeats 8000000 in
set_option maxRecDepth 100000 in
theorem c_Mo_changesFarRight (l : Launch) (D : va_G) (cs : Nat → ClassId) (L : List Nat) (f : Nat → va_E) (sz : Nat) (y m1 m2 m3 m5 m6 m7 m8 m9 m10 m11 m12 m13 m15 : Nat) (th pn fu fb : Int) (lm mn sn Z : Nat → Int) (n : Nat) (hF : Fc L [y, m1, m2, m3]) (ha : f y = .inr (7, [.int (iI th), .ref m1, .ref m2, .ref m3, .int (iI pn), .ref m5, .ref m6, .ref m7, .ref m8, .ref m9, .ref m10, .ref m11, .ref m12, .ref m13, .int (iI ((n : Int))), .ref m15, .long (lI fu), .long (lI fb)])) (hm1 : f m1 = .inl (cs 0, 11520, .inl (ai lm))) (hm2 : f m2 = .inl (cs 0, 180, .inl (ai mn))) (hm3 : f m3 = .inl (cs 0, 180, .inl (ai sn))) (hRS : RS lm mn sn Z) (hn7 : n ≤ 6) (hNz : ∀ k, k < n → Nz (fun j => Z (60 + 6 * k + j))) : Met l (⟨"RealRootsModel", "changesFarRight", "()I"⟩ : MethodName) (.code (⟨"RealRootsModel", "changesFarRight", "()I"⟩ : MethodName) prog_9_method_43_code 5 (Option.some Jvm.ClassFile.FieldType.int) :: gw) ({ frames := 1, cells := 0, slots := 0, locals := 40 }) (va_Pc [.ref y] (K0 D vwCl (TY cs) L f sz)) (va_Qi (fun (r : Int32) (g : Nat → va_E) => r = iI (tn (fun k => sgR (fun j => Z (60 + 6 * k + j))) n) ∧ g = f) (K1 D vwCl (TY cs) (AL L sz) L) (AL L sz)) 0 0 (AL L sz) := by
  refine Met.ofW (cc := prog_9_method_43_code) (maxL := 5) (ret := (Option.some Jvm.ClassFile.FieldType.int)) (by decide) rfl ?_
  intro p e s m args below meth c s₁ Bd hml hv
  obtain ⟨rfl, hk0⟩ := hv
  obtain ⟨hsz, B⟩ := hk0.start
  subst hsz
  have hx := Bd.exec
  have hb := Bd.bytes
  have hr := Bd.returns
  have hlocks := Bd.notSynchronized
  have hts0 := atoms_spec Bd.pre
  have hown : s.vm.findClass RX7 = some m.cls := findClass_of_methodNamed Bd.named
  have hA : ∀ q, s.heap.size ≤ q → AL L s.heap.size q := fun _ h => Or.inr h
  have hl := lv_entry ([.ref y]) (n := 5) (Nat.le_of_ble_eq_true rfl)
  rw [lg_entry_eq]
  generalize (lg_sl ([.ref y]) ++ List.replicate (5 - (lg_sl ([.ref y])).length) Slot.unset).toArray = ls at hl ⊢
  refine absQ (fun Q R av hQ hR hav => ?_)
  have hts : ∀ w ∈ gw, w.before av s = true := by rw [hav]; exact fun w h => hts0 w (List.mem_cons_of_mem _ h)
  have hRf : R.frames = 1 := by rw [hR]; rfl
  have hRl : R.locals = 40 := by rw [hR]; rfl
  have hRc : R.cells = 0 := by rw [hR]; rfl
  have hRs : R.slots = 0 := by rw [hR]; rfl
  clear hR hts0 Bd
  have hl : lv_has ls 5 [(0, .ref y)] := hl
  obtain ⟨S, hSd⟩ : ∃ S, S = fun k => sgR (fun j => Z (60 + 6 * k + j)) := ⟨_, rfl⟩
  have hSm : ∀ k, S k = 1 ∨ S k = 0 ∨ S k = -1 := fun k => by rw [hSd]; exact sgR_mem _
  have hfx : ∀ q ∈ ([(y, .inr (7, [.int (iI th), .ref m1, .ref m2, .ref m3, .int (iI pn), .ref m5, .ref m6, .ref m7, .ref m8, .ref m9, .ref m10, .ref m11, .ref m12, .ref m13, .int (iI ((n : Int))), .ref m15, .long (lI fu), .long (lI fb)])), (m1, .inl (cs 0, 11520, .inl (ai lm))), (m2, .inl (cs 0, 180, .inl (ai mn))), (m3, .inl (cs 0, 180, .inl (ai sn)))] : List (Nat × va_E)), f q.1 = q.2 := fun q hq => by
    simp only [List.mem_cons, List.not_mem_nil, or_false] at hq
    rcases hq with rfl | rfl | rfl | rfl
    · exact ha
    · exact hm1
    · exact hm2
    · exact hm3
  have hmw : mw f [(y, .inr (7, [.int (iI th), .ref m1, .ref m2, .ref m3, .int (iI pn), .ref m5, .ref m6, .ref m7, .ref m8, .ref m9, .ref m10, .ref m11, .ref m12, .ref m13, .int (iI ((n : Int))), .ref m15, .long (lI fu), .long (lI fb)])), (m1, .inl (cs 0, 11520, .inl (ai lm))), (m2, .inl (cs 0, 180, .inl (ai mn))), (m3, .inl (cs 0, 180, .inl (ai sn)))] = f := mw_self (fun k a e hk => hfx (a, e) (List.mem_of_getElem? hk))
  have B := B.focus [(y, .inr (7, [.int (iI th), .ref m1, .ref m2, .ref m3, .int (iI pn), .ref m5, .ref m6, .ref m7, .ref m8, .ref m9, .ref m10, .ref m11, .ref m12, .ref m13, .int (iI ((n : Int))), .ref m15, .long (lI fu), .long (lI fb)])), (m1, .inl (cs 0, 11520, .inl (ai lm))), (m2, .inl (cs 0, 180, .inl (ai mn))), (m3, .inl (cs 0, 180, .inl (ai sn)))] hfx
  refine x_iconst hx hb d_Mo_changesFarRight_0 ?_
  refine lv_istore_n (lv' := [(1, .int (iI 0)), (0, .ref y)]) hx hb d_Mo_changesFarRight_1 rfl hl (by decide) rfl (fun ls hl => ?_)
  refine x_iconst hx hb d_Mo_changesFarRight_2 ?_
  refine lv_istore_n (lv' := [(2, .int (iI 0)), (1, .int (iI 0)), (0, .ref y)]) hx hb d_Mo_changesFarRight_3 rfl hl (by decide) rfl (fun ls hl => ?_)
  refine x_iconst hx hb d_Mo_changesFarRight_4 ?_
  refine lv_istore_n (lv' := [(3, .int (iI 0)), (2, .int (iI 0)), (1, .int (iI 0)), (0, .ref y)]) hx hb d_Mo_changesFarRight_5 rfl hl (by decide) rfl (fun ls hl => ?_)
  have LP : ∀ (fuel : Nat) (k : Nat), n - k < fuel → (k ≤ n) → ∀ (H : Heap) (locs : List Loc) (ls : Array Slot), Wb D vwCl (TY cs) L (mw f [(y, .inr (7, [.int (iI th), .ref m1, .ref m2, .ref m3, .int (iI pn), .ref m5, .ref m6, .ref m7, .ref m8, .ref m9, .ref m10, .ref m11, .ref m12, .ref m13, .int (iI ((n : Int))), .ref m15, .long (lI fu), .long (lI fb)])), (m1, .inl (cs 0, 11520, .inl (ai lm))), (m2, .inl (cs 0, 180, .inl (ai mn))), (m3, .inl (cs 0, 180, .inl (ai sn)))]) (AL L s.heap.size) s H locs → lv_has ls 5 [(3, .int (iI ((k : Int)))), (2, .int (iI (tn S k))), (1, .int (iI (lst S k))), (0, .ref y)] → W p l e R s m av below meth c H locs (0) (0) Q (F0 m 6 ls []) := by
    intro fuel
    induction fuel with
    | zero => intro k hfu; exact absurd hfu (Nat.not_lt_zero _)
    | succ fuel ih_LP =>
      intro k hfu_LP hk H locs ls B hl
      have hS1 := hSm k
      have hl1 := lst_mem hSm k
      refine lv_iload_n hx hb d_Mo_changesFarRight_6 rfl (lv_at hl 0 rfl) ?_
      refine lv_aload_n hx hb d_Mo_changesFarRight_7 rfl (lv_at hl 3 rfl) ?_
      refine x_get (C := RX7) (T := TX7) (N := 18) hx hb hts inX7 hown B hF 0 rfl rfl 14 (by decide) (hts _ w_691) (fun _ h9 => h9) rfl d_Mo_changesFarRight_8 ?_
      refine x_icmp_ge (tgt := 67) hx hb d_Mo_changesFarRight_11 (by decide) (by omega) (by omega) (fun h11 => ?_) (fun h11 => ?_)
      · refine lv_iload_n hx hb d_Mo_changesFarRight_67 rfl (lv_at hl 1 rfl) ?_
        have B := B.of_eq hmw
        subst hQ hav
        exact x_iret hx hb hr hlocks B d_Mo_changesFarRight_68 (⟨by rw [← hSd, show k = n by omega], rfl⟩)
      · refine lv_aload_n hx hb d_Mo_changesFarRight_14 rfl (lv_at hl 3 rfl) ?_
        refine x_get (C := RX7) (T := TX7) (N := 18) hx hb hts inX7 hown B hF 0 rfl rfl 3 (by decide) (hts _ w_680) (fun _ h9 => h9) rfl d_Mo_changesFarRight_15 ?_
        refine x_bipush hx hb d_Mo_changesFarRight_18 (by decide) ?_
        refine x_bipush hx hb d_Mo_changesFarRight_20 (by decide) ?_
        refine lv_iload_n hx hb d_Mo_changesFarRight_22 rfl (lv_at hl 0 rfl) ?_
        refine x_imul hx hb d_Mo_changesFarRight_23 ?_
        refine x_iadd hx hb d_Mo_changesFarRight_24 ?_
        refine lv_aload_n hx hb d_Mo_changesFarRight_25 rfl (lv_at hl 3 rfl) ?_
        refine x_bipush hx hb d_Mo_changesFarRight_26 (by decide) ?_
        refine x_bipush hx hb d_Mo_changesFarRight_28 (by decide) ?_
        refine lv_iload_n hx hb d_Mo_changesFarRight_30 rfl (lv_at hl 0 rfl) ?_
        refine x_imul hx hb d_Mo_changesFarRight_31 ?_
        refine x_iadd hx hb d_Mo_changesFarRight_32 ?_
        rw [show 60 + (6 * ((k : Int))) = ((60 + 6 * k : Nat) : Int) by omega]
        refine x_calli B hA (va_runV (As := [.int (iI (((60 + 6 * k : Nat) : Int)))]) (rest := [.int (iI (60 + (6 * ((k : Int))))), .ref m3]) ⟨hx, hb, hml, hown, hts⟩ (c_Mo_degreeAt l D cs _ _ _ y m1 m2 m3 m5 m6 m7 m8 m9 m10 m11 m12 m13 m15 th pn ((n : Int)) fu fb lm mn sn Z (60 + 6 * k) (hF.pick [0, 1, 2, 3] rfl rfl) (mw_get (X := [(y, .inr (7, [.int (iI th), .ref m1, .ref m2, .ref m3, .int (iI pn), .ref m5, .ref m6, .ref m7, .ref m8, .ref m9, .ref m10, .ref m11, .ref m12, .ref m13, .int (iI ((n : Int))), .ref m15, .long (lI fu), .long (lI fb)])), (m1, .inl (cs 0, 11520, .inl (ai lm))), (m2, .inl (cs 0, 180, .inl (ai mn))), (m3, .inl (cs 0, 180, .inl (ai sn)))]) hF.1 (k := 0) rfl) (mw_get (X := [(y, .inr (7, [.int (iI th), .ref m1, .ref m2, .ref m3, .int (iI pn), .ref m5, .ref m6, .ref m7, .ref m8, .ref m9, .ref m10, .ref m11, .ref m12, .ref m13, .int (iI ((n : Int))), .ref m15, .long (lI fu), .long (lI fb)])), (m1, .inl (cs 0, 11520, .inl (ai lm))), (m2, .inl (cs 0, 180, .inl (ai mn))), (m3, .inl (cs 0, 180, .inl (ai sn)))]) hF.1 (k := 1) rfl) (mw_get (X := [(y, .inr (7, [.int (iI th), .ref m1, .ref m2, .ref m3, .int (iI pn), .ref m5, .ref m6, .ref m7, .ref m8, .ref m9, .ref m10, .ref m11, .ref m12, .ref m13, .int (iI ((n : Int))), .ref m15, .long (lI fu), .long (lI fb)])), (m1, .inl (cs 0, 11520, .inl (ai lm))), (m2, .inl (cs 0, 180, .inl (ai mn))), (m3, .inl (cs 0, 180, .inl (ai sn)))]) hF.1 (k := 2) rfl) (mw_get (X := [(y, .inr (7, [.int (iI th), .ref m1, .ref m2, .ref m3, .int (iI pn), .ref m5, .ref m6, .ref m7, .ref m8, .ref m9, .ref m10, .ref m11, .ref m12, .ref m13, .int (iI ((n : Int))), .ref m15, .long (lI fu), .long (lI fb)])), (m1, .inl (cs 0, 11520, .inl (ai lm))), (m2, .inl (cs 0, 180, .inl (ai mn))), (m3, .inl (cs 0, 180, .inl (ai sn)))]) hF.1 (k := 3) rfl) hRS (by omega)) (cwV 1 hts (gw_V w_796 w_798 s_36 w_8 w_799) rfl rfl rfl (by decide +kernel) ⟨by rw [hRf]; exact Nat.le_of_ble_eq_true rfl, by rw [hRl]; exact Nat.le_of_ble_eq_true rfl⟩) ⟨K0.blind, B.recv (hF.2 _ (mw_key (k := 0) (X := [(y, .inr (7, [.int (iI th), .ref m1, .ref m2, .ref m3, .int (iI pn), .ref m5, .ref m6, .ref m7, .ref m8, .ref m9, .ref m10, .ref m11, .ref m12, .ref m13, .int (iI ((n : Int))), .ref m15, .long (lI fu), .long (lI fb)])), (m1, .inl (cs 0, 11520, .inl (ai lm))), (m2, .inl (cs 0, 180, .inl (ai mn))), (m3, .inl (cs 0, 180, .inl (ai sn)))]) rfl)) (mw_get (X := [(y, .inr (7, [.int (iI th), .ref m1, .ref m2, .ref m3, .int (iI pn), .ref m5, .ref m6, .ref m7, .ref m8, .ref m9, .ref m10, .ref m11, .ref m12, .ref m13, .int (iI ((n : Int))), .ref m15, .long (lI fu), .long (lI fb)])), (m1, .inl (cs 0, 11520, .inl (ai lm))), (m2, .inl (cs 0, 180, .inl (ai mn))), (m3, .inl (cs 0, 180, .inl (ai sn)))]) hF.1 (k := 0) rfl) rfl, B.pre _⟩ rfl rfl hl.1 rfl (lv_room (Nat.le_of_ble_eq_true rfl)) d_Mo_changesFarRight_33 ⟨by rw [hRc]; omega, by rw [hRs]; omega⟩) (fun r33 g33 H locs hw B => ?_)
        obtain ⟨kq, rfl, hk6, hkz, hkl, rfl⟩ := hw
        have B : Wb D vwCl (TY cs) L (mw f [(y, .inr (7, [.int (iI th), .ref m1, .ref m2, .ref m3, .int (iI pn), .ref m5, .ref m6, .ref m7, .ref m8, .ref m9, .ref m10, .ref m11, .ref m12, .ref m13, .int (iI ((n : Int))), .ref m15, .long (lI fu), .long (lI fb)])), (m1, .inl (cs 0, 11520, .inl (ai lm))), (m2, .inl (cs 0, 180, .inl (ai mn))), (m3, .inl (cs 0, 180, .inl (ai sn)))]) (AL L s.heap.size) s H _ := B
        have hkq0 : 0 < kq := by
          rcases Nat.eq_zero_or_pos kq with h | h
          · obtain ⟨j, hj, hjn⟩ := hNz k (by omega)
            exact absurd (hkz j (by omega) hj) hjn
          · exact h
        obtain ⟨nq, hnq⟩ : ∃ nq, kq = nq + 1 := ⟨kq - 1, by omega⟩
        have hql := hkl (by omega)
        rw [show kq - 1 = nq by omega] at hql
        have hdg : dgn (fun j => Z (60 + 6 * k + j)) 6 = kq := dgn_eq (c := fun j => Z (60 + 6 * k + j)) hkl 6 hk6 hkz
        have hsn : sn (60 + 6 * k + nq) = sgR (fun j => Z (60 + 6 * k + j)) := by rw [(hRS (60 + 6 * k + nq) (by omega)).2.2.2.2.1, sgR, hdg, show kq - 1 = nq by omega]
        have hsR : sgR (fun j => Z (60 + 6 * k + j)) ≠ 0 := by rw [← hsn, (hRS (60 + 6 * k + nq) (by omega)).2.2.2.2.1]; exact fun h => hql (Int.sign_eq_zero_iff_zero.mp h)
        have hsRm := sign_cases (Z (60 + 6 * k + nq))
        rw [← (hRS (60 + 6 * k + nq) (by omega)).2.2.2.2.1, hsn] at hsRm
        have hSk : S k = sgR (fun j => Z (60 + 6 * k + j)) := by rw [hSd]
        rw [show (kq : Int) - 1 = (nq : Int) by omega]
        refine x_iadd hx hb d_Mo_changesFarRight_36 ?_
        refine x_iald hx hb B hF 3 0 rfl rfl (60 + 6 * k + nq) (by omega) (by omega) (by decide) d_Mo_changesFarRight_37 ?_
        have J38 : ∀ (v : Int), (v = S k) → (v ≠ 0) → ∀ (H : Heap) (locs : List Loc) (ls : Array Slot), Wb D vwCl (TY cs) L (mw f [(y, .inr (7, [.int (iI th), .ref m1, .ref m2, .ref m3, .int (iI pn), .ref m5, .ref m6, .ref m7, .ref m8, .ref m9, .ref m10, .ref m11, .ref m12, .ref m13, .int (iI ((n : Int))), .ref m15, .long (lI fu), .long (lI fb)])), (m1, .inl (cs 0, 11520, .inl (ai lm))), (m2, .inl (cs 0, 180, .inl (ai mn))), (m3, .inl (cs 0, 180, .inl (ai sn)))]) (AL L s.heap.size) s H locs → lv_has ls 5 [(3, .int (iI ((k : Int)))), (2, .int (iI (tn S k))), (1, .int (iI (lst S k))), (0, .ref y)] → W p l e R s m av below meth c H locs (0) (0) Q (F0 m 38 ls [.int (iI v)]) := by
          intro v hv hv0 H locs ls B hl
          refine lv_istore (lv' := [(4, .int (iI v)), (3, .int (iI ((k : Int)))), (2, .int (iI (tn S k))), (1, .int (iI (lst S k))), (0, .ref y)]) hx hb d_Mo_changesFarRight_38 hl (by decide) rfl (fun ls hl => ?_)
          have JT : ∀ (t : Int), (t = if S k * lst S k < 0 then 1 else 0) → ∀ (H : Heap) (locs : List Loc) (ls : Array Slot), Wb D vwCl (TY cs) L (mw f [(y, .inr (7, [.int (iI th), .ref m1, .ref m2, .ref m3, .int (iI pn), .ref m5, .ref m6, .ref m7, .ref m8, .ref m9, .ref m10, .ref m11, .ref m12, .ref m13, .int (iI ((n : Int))), .ref m15, .long (lI fu), .long (lI fb)])), (m1, .inl (cs 0, 11520, .inl (ai lm))), (m2, .inl (cs 0, 180, .inl (ai mn))), (m3, .inl (cs 0, 180, .inl (ai sn)))]) (AL L s.heap.size) s H locs → lv_has ls 5 [(4, .int (iI v)), (3, .int (iI ((k : Int)))), (2, .int (iI (tn S k))), (1, .int (iI (lst S k))), (0, .ref y)] → W p l e R s m av below meth c H locs (0) (0) Q (F0 m 56 ls [.int (iI t), .int (iI (tn S k))]) := by
            intro t ht H locs ls B hl
            refine x_iadd hx hb d_Mo_changesFarRight_56 ?_
            refine lv_istore_n (lv' := [(2, .int (iI ((tn S k) + t))), (4, .int (iI v)), (3, .int (iI ((k : Int)))), (1, .int (iI (lst S k))), (0, .ref y)]) hx hb d_Mo_changesFarRight_57 rfl hl (by decide) rfl (fun ls hl => ?_)
            refine lv_iload hx hb d_Mo_changesFarRight_58 (lv_at hl 1 rfl) ?_
            refine lv_istore_n (lv' := [(1, .int (iI v)), (2, .int (iI ((tn S k) + t))), (4, .int (iI v)), (3, .int (iI ((k : Int)))), (0, .ref y)]) hx hb d_Mo_changesFarRight_60 rfl hl (by decide) rfl (fun ls hl => ?_)
            refine x_iinc (lv' := [(3, .int (iI (((k : Int)) + 1))), (1, .int (iI v)), (2, .int (iI ((tn S k) + t))), (4, .int (iI v)), (0, .ref y)]) hx hb d_Mo_changesFarRight_61 hl (q := 3) rfl rfl (by decide) rfl (fun ls hl => ?_)
            refine lv_goto (tgt := 6) hx hb d_Mo_changesFarRight_64 (by decide) ?_
            subst ht
            have hv2 : v = lst S (k + 1) := by rw [lst, if_pos (show S k ≠ 0 by omega)]; exact hv
            subst hv2
            exact ih_LP (k + 1) (by omega) (by omega) _ _ _ B (lv_sub hl [0, 2, 1, 4] rfl)
          refine lv_iload_n hx hb d_Mo_changesFarRight_40 rfl (lv_at hl 2 rfl) ?_
          refine lv_iload_n hx hb d_Mo_changesFarRight_41 rfl (lv_at hl 3 rfl) ?_
          refine x_if_eq (tgt := 55) hx hb d_Mo_changesFarRight_42 (by decide) (by omega) (fun h42 => ?_) (fun h42 => ?_)
          · refine x_iconst hx hb d_Mo_changesFarRight_55 ?_
            exact JT 0 (by have h9 := tn_mul hS1 hl1; first | rw [if_pos (h9.mpr ⟨by omega, by omega, by omega⟩)] | rw [if_neg (fun h8 => by have h7 := h9.mp h8; omega)]) _ _ _ B (lv_sub hl [0, 1, 2, 3, 4] rfl)
          · refine lv_iload hx hb d_Mo_changesFarRight_45 (lv_at hl 0 rfl) ?_
            refine lv_iload_n hx hb d_Mo_changesFarRight_47 rfl (lv_at hl 3 rfl) ?_
            refine x_icmp_eq (tgt := 55) hx hb d_Mo_changesFarRight_48 (by decide) (by omega) (by omega) (fun h48 => ?_) (fun h48 => ?_)
            · refine x_iconst hx hb d_Mo_changesFarRight_55 ?_
              exact JT 0 (by have h9 := tn_mul hS1 hl1; first | rw [if_pos (h9.mpr ⟨by omega, by omega, by omega⟩)] | rw [if_neg (fun h8 => by have h7 := h9.mp h8; omega)]) _ _ _ B (lv_sub hl [0, 1, 2, 3, 4] rfl)
            · refine x_iconst hx hb d_Mo_changesFarRight_51 ?_
              refine lv_goto (tgt := 56) hx hb d_Mo_changesFarRight_52 (by decide) ?_
              exact JT 1 (by have h9 := tn_mul hS1 hl1; first | rw [if_pos (h9.mpr ⟨by omega, by omega, by omega⟩)] | rw [if_neg (fun h8 => by have h7 := h9.mp h8; omega)]) _ _ _ B (lv_sub hl [0, 1, 2, 3, 4] rfl)
        exact J38 (sn (60 + 6 * k + nq)) (by rw [hSk, hsn]) (by omega) _ _ _ B (lv_sub hl [0, 1, 2, 3] rfl)
  exact LP _ 0 (Nat.lt_succ_self _) (by omega) _ _ _ B (lv_sub hl [0, 1, 2, 3] rfl)
theorem d_Mo_below_0 : decode prog_9_method_45_code 0 = .ok (.aload_n 0, 1) := by decide +kernel
theorem d_Mo_below_1 : decode prog_9_method_45_code 1 = .ok (.sipush 150, 3) := by decide +kernel
theorem d_Mo_below_4 : decode prog_9_method_45_code 4 = .ok (.iload_n 2, 1) := by decide +kernel
theorem d_Mo_below_5 : decode prog_9_method_45_code 5 = .ok (.invokevirtual 65, 3) := by decide +kernel
theorem d_Mo_below_8 : decode prog_9_method_45_code 8 = .ok (.aload_n 0, 1) := by decide +kernel
theorem d_Mo_below_9 : decode prog_9_method_45_code 9 = .ok (.sipush 151, 3) := by decide +kernel
theorem d_Mo_below_12 : decode prog_9_method_45_code 12 = .ok (.lconst 1, 1) := by decide +kernel
theorem d_Mo_below_13 : decode prog_9_method_45_code 13 = .ok (.invokevirtual 77, 3) := by decide +kernel
theorem d_Mo_below_16 : decode prog_9_method_45_code 16 = .ok (.aload_n 0, 1) := by decide +kernel
theorem d_Mo_below_17 : decode prog_9_method_45_code 17 = .ok (.sipush 151, 3) := by decide +kernel
theorem d_Mo_below_20 : decode prog_9_method_45_code 20 = .ok (.iload_n 3, 1) := by decide +kernel
theorem d_Mo_below_21 : decode prog_9_method_45_code 21 = .ok (.invokevirtual 85, 3) := by decide +kernel
theorem d_Mo_below_24 : decode prog_9_method_45_code 24 = .ok (.iload_n 1, 1) := by decide +kernel
theorem d_Mo_below_25 : decode prog_9_method_45_code 25 = .ok (.aload_n 0, 1) := by decide +kernel
theorem d_Mo_below_26 : decode prog_9_method_45_code 26 = .ok (.invokevirtual 183, 3) := by decide +kernel
theorem d_Mo_below_29 : decode prog_9_method_45_code 29 = .ok (.isub, 1) := by decide +kernel
theorem d_Mo_below_30 : decode prog_9_method_45_code 30 = .ok (.istore 4, 2) := by decide +kernel
theorem d_Mo_below_32 : decode prog_9_method_45_code 32 = .ok (.aload_n 0, 1) := by decide +kernel
theorem d_Mo_below_33 : decode prog_9_method_45_code 33 = .ok (.bipush 60, 2) := by decide +kernel
theorem d_Mo_below_35 : decode prog_9_method_45_code 35 = .ok (.invokevirtual 180, 3) := by decide +kernel
theorem d_Mo_below_38 : decode prog_9_method_45_code 38 = .ok (.ifCond .ne 10, 3) := by decide +kernel
theorem d_Mo_below_41 : decode prog_9_method_45_code 41 = .ok (.iload 4, 2) := by decide +kernel
theorem d_Mo_below_43 : decode prog_9_method_45_code 43 = .ok (.iconst 1, 1) := by decide +kernel
theorem d_Mo_below_44 : decode prog_9_method_45_code 44 = .ok (.isub, 1) := by decide +kernel
theorem d_Mo_below_45 : decode prog_9_method_45_code 45 = .ok (.goto 5, 3) := by decide +kernel
theorem d_Mo_below_48 : decode prog_9_method_45_code 48 = .ok (.iload 4, 2) := by decide +kernel
theorem d_Mo_below_50 : decode prog_9_method_45_code 50 = .ok (.ireturn, 1) := by decide +kernel
set_option maxHeartbeats 8000000 in
set_option maxRecDepth 100000 in
theorem c_Mo_below (l : Launch) (D : va_G) (cs : Nat → ClassId) (L : List Nat) (f : Nat → va_E) (sz : Nat) (y m1 m2 m3 m5 m6 m7 m8 m9 m10 m11 m12 m13 m15 : Nat) (th pn fu fb : Int) (lm mn sn Z : Nat → Int) (n xc bt : Nat) (far : Int) (hF : Fc L [y, m1, m2, m3]) (ha : f y = .inr (7, [.int (iI th), .ref m1, .ref m2, .ref m3, .int (iI pn), .ref m5, .ref m6, .ref m7, .ref m8, .ref m9, .ref m10, .ref m11, .ref m12, .ref m13, .int (iI ((n : Int))), .ref m15, .long (lI fu), .long (lI fb)])) (hm1 : f m1 = .inl (cs 0, 11520, .inl (ai lm))) (hm2 : f m2 = .inl (cs 0, 180, .inl (ai mn))) (hm3 : f m3 = .inl (cs 0, 180, .inl (ai sn))) (hRS : RS lm mn sn Z) (hn7 : 1 ≤ n ∧ n ≤ 6) (hx8 : xc < 180) (hBt : Bts (fun k j => Z (60 + 6 * k + j)) n) (hbt : bt ≤ 268) (hub : ((Z xc).natAbs : Int) < 2 ^ 269) : Met l (⟨"RealRootsModel", "below", "(III)I"⟩ : MethodName) (.code (⟨"RealRootsModel", "below", "(III)I"⟩ : MethodName) prog_9_method_45_code 5 (Option.some Jvm.ClassFile.FieldType.int) :: gw) ({ frames := 5, cells := 0, slots := 0, locals := 200 }) (va_Pc [.ref y, .int (iI far), .int (iI ((xc : Int))), .int (iI ((bt : Int)))] (K0 D vwCl (TY cs) L f sz)) (va_Qi (fun (r : Int32) (g : Nat → va_E) => ∃ (lm' mn' sn' Z' : Nat → Int), r = iI (far - tn0 (Sat Z ((Z xc : Rat) / ((2 ^ bt : Int) : Rat))) n) ∧ RS lm' mn' sn' Z' ∧ (∀ w, (w < 150 ∨ 154 < w) → w ≠ 178 → Z' w = Z w) ∧ g = mw f [(m1, .inl (cs 0, 11520, .inl (ai (lm')))), (m2, .inl (cs 0, 180, .inl (ai (mn')))), (m3, .inl (cs 0, 180, .inl (ai (sn'))))]) (K1 D vwCl (TY cs) (AL L sz) L) (AL L sz)) 0 0 (AL L sz) := by
  refine Met.ofW (cc := prog_9_method_45_code) (maxL := 5) (ret := (Option.some Jvm.ClassFile.FieldType.int)) (by decide) rfl ?_
  intro p e s m args below meth c s₁ Bd hml hv
  obtain ⟨rfl, hk0⟩ := hv
  obtain ⟨hsz, B⟩ := hk0.start
  subst hsz
  have hx := Bd.exec
  have hb := Bd.bytes
  have hr := Bd.returns
  have hlocks := Bd.notSynchronized
  have hts0 := atoms_spec Bd.pre
  have hown : s.vm.findClass RX7 = some m.cls := findClass_of_methodNamed Bd.named
  have hA : ∀ q, s.heap.size ≤ q → AL L s.heap.size q := fun _ h => Or.inr h
  have hl := lv_entry ([.ref y, .int (iI far), .int (iI ((xc : Int))), .int (iI ((bt : Int)))]) (n := 5) (Nat.le_of_ble_eq_true rfl)
  rw [lg_entry_eq]
  generalize (lg_sl ([.ref y, .int (iI far), .int (iI ((xc : Int))), .int (iI ((bt : Int)))]) ++ List.replicate (5 - (lg_sl ([.ref y, .int (iI far), .int (iI ((xc : Int))), .int (iI ((bt : Int)))])).length) Slot.unset).toArray = ls at hl ⊢
  refine absQ (fun Q R av hQ hR hav => ?_)
  have hts : ∀ w ∈ gw, w.before av s = true := by rw [hav]; exact fun w h => hts0 w (List.mem_cons_of_mem _ h)
  have hRf : R.frames = 5 := by rw [hR]; rfl
  have hRl : R.locals = 200 := by rw [hR]; rfl
  have hRc : R.cells = 0 := by rw [hR]; rfl
  have hRs : R.slots = 0 := by rw [hR]; rfl
  clear hR hts0 Bd
  have hl : lv_has ls 5 [(0, .ref y), (1, .int (iI far)), (2, .int (iI ((xc : Int)))), (3, .int (iI ((bt : Int))))] := hl
  obtain ⟨hn1, hn7⟩ := hn7
  have hvb : (((2 : Int) ^ bt).natAbs : Int) < 2 ^ 269 := by have h9 : (2 : Int) ^ bt < 2 ^ 269 := pow2_lt (by omega); have := pw2 bt; omega
  have hsr : (((1 : Int).natAbs : Int)) * 2 ^ bt < Mp 63 := by have h9 := pow_Mp (i := bt) (by omega); have h8 : Mp 63 = 4294967296 * Mp 62 := Mp_succ 62; have := Mp_pos 62; simp only [Int.natAbs_one]; omega
  have hfx : ∀ q ∈ ([(y, .inr (7, [.int (iI th), .ref m1, .ref m2, .ref m3, .int (iI pn), .ref m5, .ref m6, .ref m7, .ref m8, .ref m9, .ref m10, .ref m11, .ref m12, .ref m13, .int (iI ((n : Int))), .ref m15, .long (lI fu), .long (lI fb)])), (m1, .inl (cs 0, 11520, .inl (ai lm))), (m2, .inl (cs 0, 180, .inl (ai mn))), (m3, .inl (cs 0, 180, .inl (ai sn)))] : List (Nat × va_E)), f q.1 = q.2 := fun q hq => by
    simp only [List.mem_cons, List.not_mem_nil, or_false] at hq
    rcases hq with rfl | rfl | rfl | rfl
    · exact ha
    · exact hm1
    · exact hm2
    · exact hm3
  have hmw : mw f [(y, .inr (7, [.int (iI th), .ref m1, .ref m2, .ref m3, .int (iI pn), .ref m5, .ref m6, .ref m7, .ref m8, .ref m9, .ref m10, .ref m11, .ref m12, .ref m13, .int (iI ((n : Int))), .ref m15, .long (lI fu), .long (lI fb)])), (m1, .inl (cs 0, 11520, .inl (ai lm))), (m2, .inl (cs 0, 180, .inl (ai mn))), (m3, .inl (cs 0, 180, .inl (ai sn)))] = f := mw_self (fun k a e hk => hfx (a, e) (List.mem_of_getElem? hk))
  have B := B.focus [(y, .inr (7, [.int (iI th), .ref m1, .ref m2, .ref m3, .int (iI pn), .ref m5, .ref m6, .ref m7, .ref m8, .ref m9, .ref m10, .ref m11, .ref m12, .ref m13, .int (iI ((n : Int))), .ref m15, .long (lI fu), .long (lI fb)])), (m1, .inl (cs 0, 11520, .inl (ai lm))), (m2, .inl (cs 0, 180, .inl (ai mn))), (m3, .inl (cs 0, 180, .inl (ai sn)))] hfx
  refine lv_aload_n hx hb d_Mo_below_0 rfl (lv_at hl 0 rfl) ?_
  refine x_sipush hx hb d_Mo_below_1 (by decide) ?_
  refine lv_iload_n hx hb d_Mo_below_4 rfl (lv_at hl 2 rfl) ?_
  refine x_callv B hA (va_runV (As := [.int (iI 150), .int (iI ((xc : Int)))]) (rest := []) ⟨hx, hb, hml, hown, hts⟩ (c_Mo_copy l D cs _ _ _ y m1 m2 m3 m5 m6 m7 m8 m9 m10 m11 m12 m13 m15 th pn ((n : Int)) fu fb lm mn sn Z 150 xc (hF.pick [0, 1, 2, 3] rfl rfl) (mw_get (X := [(y, .inr (7, [.int (iI th), .ref m1, .ref m2, .ref m3, .int (iI pn), .ref m5, .ref m6, .ref m7, .ref m8, .ref m9, .ref m10, .ref m11, .ref m12, .ref m13, .int (iI ((n : Int))), .ref m15, .long (lI fu), .long (lI fb)])), (m1, .inl (cs 0, 11520, .inl (ai lm))), (m2, .inl (cs 0, 180, .inl (ai mn))), (m3, .inl (cs 0, 180, .inl (ai sn)))]) hF.1 (k := 0) rfl) (mw_get (X := [(y, .inr (7, [.int (iI th), .ref m1, .ref m2, .ref m3, .int (iI pn), .ref m5, .ref m6, .ref m7, .ref m8, .ref m9, .ref m10, .ref m11, .ref m12, .ref m13, .int (iI ((n : Int))), .ref m15, .long (lI fu), .long (lI fb)])), (m1, .inl (cs 0, 11520, .inl (ai lm))), (m2, .inl (cs 0, 180, .inl (ai mn))), (m3, .inl (cs 0, 180, .inl (ai sn)))]) hF.1 (k := 1) rfl) (mw_get (X := [(y, .inr (7, [.int (iI th), .ref m1, .ref m2, .ref m3, .int (iI pn), .ref m5, .ref m6, .ref m7, .ref m8, .ref m9, .ref m10, .ref m11, .ref m12, .ref m13, .int (iI ((n : Int))), .ref m15, .long (lI fu), .long (lI fb)])), (m1, .inl (cs 0, 11520, .inl (ai lm))), (m2, .inl (cs 0, 180, .inl (ai mn))), (m3, .inl (cs 0, 180, .inl (ai sn)))]) hF.1 (k := 2) rfl) (mw_get (X := [(y, .inr (7, [.int (iI th), .ref m1, .ref m2, .ref m3, .int (iI pn), .ref m5, .ref m6, .ref m7, .ref m8, .ref m9, .ref m10, .ref m11, .ref m12, .ref m13, .int (iI ((n : Int))), .ref m15, .long (lI fu), .long (lI fb)])), (m1, .inl (cs 0, 11520, .inl (ai lm))), (m2, .inl (cs 0, 180, .inl (ai mn))), (m3, .inl (cs 0, 180, .inl (ai sn)))]) hF.1 (k := 3) rfl) hRS (by decide) (by omega)) (cwV 2 hts (gw_V w_804 w_806 s_38 w_8 w_807) rfl rfl rfl (by decide +kernel) ⟨by rw [hRf]; exact Nat.le_of_ble_eq_true rfl, by rw [hRl]; exact Nat.le_of_ble_eq_true rfl⟩) ⟨K0.blind, B.recv (hF.2 _ (mw_key (k := 0) (X := [(y, .inr (7, [.int (iI th), .ref m1, .ref m2, .ref m3, .int (iI pn), .ref m5, .ref m6, .ref m7, .ref m8, .ref m9, .ref m10, .ref m11, .ref m12, .ref m13, .int (iI ((n : Int))), .ref m15, .long (lI fu), .long (lI fb)])), (m1, .inl (cs 0, 11520, .inl (ai lm))), (m2, .inl (cs 0, 180, .inl (ai mn))), (m3, .inl (cs 0, 180, .inl (ai sn)))]) rfl)) (mw_get (X := [(y, .inr (7, [.int (iI th), .ref m1, .ref m2, .ref m3, .int (iI pn), .ref m5, .ref m6, .ref m7, .ref m8, .ref m9, .ref m10, .ref m11, .ref m12, .ref m13, .int (iI ((n : Int))), .ref m15, .long (lI fu), .long (lI fb)])), (m1, .inl (cs 0, 11520, .inl (ai lm))), (m2, .inl (cs 0, 180, .inl (ai mn))), (m3, .inl (cs 0, 180, .inl (ai sn)))]) hF.1 (k := 0) rfl) rfl, B.pre _⟩ rfl rfl hl.1 rfl (lv_room (Nat.le_of_ble_eq_true rfl)) d_Mo_below_5 ⟨by rw [hRc]; omega, by rw [hRs]; omega⟩) (fun g5 H locs hw B => ?_)
  obtain ⟨lm5, mn5, sn5, hR1, rfl⟩ := hw
  have B := B.of_eq (mw_put3 (X := [(y, .inr (7, [.int (iI th), .ref m1, .ref m2, .ref m3, .int (iI pn), .ref m5, .ref m6, .ref m7, .ref m8, .ref m9, .ref m10, .ref m11, .ref m12, .ref m13, .int (iI ((n : Int))), .ref m15, .long (lI fu), .long (lI fb)])), (m1, .inl (cs 0, 11520, .inl (ai lm))), (m2, .inl (cs 0, 180, .inl (ai mn))), (m3, .inl (cs 0, 180, .inl (ai sn)))]) hF.1 (k1 := 1) (k2 := 2) (k3 := 3) rfl rfl rfl)
  have B : Wb D vwCl (TY cs) L (mw f [(y, .inr (7, [.int (iI th), .ref m1, .ref m2, .ref m3, .int (iI pn), .ref m5, .ref m6, .ref m7, .ref m8, .ref m9, .ref m10, .ref m11, .ref m12, .ref m13, .int (iI ((n : Int))), .ref m15, .long (lI fu), .long (lI fb)])), (m1, .inl (cs 0, 11520, .inl (ai lm5))), (m2, .inl (cs 0, 180, .inl (ai mn5))), (m3, .inl (cs 0, 180, .inl (ai sn5)))]) (AL L s.heap.size) s H _ := B
  refine lv_aload_n hx hb d_Mo_below_8 rfl (lv_at hl 0 rfl) ?_
  refine x_sipush hx hb d_Mo_below_9 (by decide) ?_
  refine x_lconst (z := 1) hx hb d_Mo_below_12 (by decide) ?_
  refine x_callv B hA (va_runV (As := [.int (iI 151), .long (lI 1)]) (rest := []) ⟨hx, hb, hml, hown, hts⟩ (c_Mo_lay0 l D cs _ _ _ y m1 m2 m3 m5 m6 m7 m8 m9 m10 m11 m12 m13 m15 th pn ((n : Int)) fu fb lm5 mn5 sn5 (up Z 150 (Z xc)) 151 1 (hF.pick [0, 1, 2, 3] rfl rfl) (mw_get (X := [(y, .inr (7, [.int (iI th), .ref m1, .ref m2, .ref m3, .int (iI pn), .ref m5, .ref m6, .ref m7, .ref m8, .ref m9, .ref m10, .ref m11, .ref m12, .ref m13, .int (iI ((n : Int))), .ref m15, .long (lI fu), .long (lI fb)])), (m1, .inl (cs 0, 11520, .inl (ai lm5))), (m2, .inl (cs 0, 180, .inl (ai mn5))), (m3, .inl (cs 0, 180, .inl (ai sn5)))]) hF.1 (k := 0) rfl) (mw_get (X := [(y, .inr (7, [.int (iI th), .ref m1, .ref m2, .ref m3, .int (iI pn), .ref m5, .ref m6, .ref m7, .ref m8, .ref m9, .ref m10, .ref m11, .ref m12, .ref m13, .int (iI ((n : Int))), .ref m15, .long (lI fu), .long (lI fb)])), (m1, .inl (cs 0, 11520, .inl (ai lm5))), (m2, .inl (cs 0, 180, .inl (ai mn5))), (m3, .inl (cs 0, 180, .inl (ai sn5)))]) hF.1 (k := 1) rfl) (mw_get (X := [(y, .inr (7, [.int (iI th), .ref m1, .ref m2, .ref m3, .int (iI pn), .ref m5, .ref m6, .ref m7, .ref m8, .ref m9, .ref m10, .ref m11, .ref m12, .ref m13, .int (iI ((n : Int))), .ref m15, .long (lI fu), .long (lI fb)])), (m1, .inl (cs 0, 11520, .inl (ai lm5))), (m2, .inl (cs 0, 180, .inl (ai mn5))), (m3, .inl (cs 0, 180, .inl (ai sn5)))]) hF.1 (k := 2) rfl) (mw_get (X := [(y, .inr (7, [.int (iI th), .ref m1, .ref m2, .ref m3, .int (iI pn), .ref m5, .ref m6, .ref m7, .ref m8, .ref m9, .ref m10, .ref m11, .ref m12, .ref m13, .int (iI ((n : Int))), .ref m15, .long (lI fu), .long (lI fb)])), (m1, .inl (cs 0, 11520, .inl (ai lm5))), (m2, .inl (cs 0, 180, .inl (ai mn5))), (m3, .inl (cs 0, 180, .inl (ai sn5)))]) hF.1 (k := 3) rfl) hR1 (by decide) (by omega)) (cwV 2 hts (gw_V w_792 w_794 s_35 w_8 w_795) rfl rfl rfl (by decide +kernel) ⟨by rw [hRf]; exact Nat.le_of_ble_eq_true rfl, by rw [hRl]; exact Nat.le_of_ble_eq_true rfl⟩) ⟨K0.blind, B.recv (hF.2 _ (mw_key (k := 0) (X := [(y, .inr (7, [.int (iI th), .ref m1, .ref m2, .ref m3, .int (iI pn), .ref m5, .ref m6, .ref m7, .ref m8, .ref m9, .ref m10, .ref m11, .ref m12, .ref m13, .int (iI ((n : Int))), .ref m15, .long (lI fu), .long (lI fb)])), (m1, .inl (cs 0, 11520, .inl (ai lm5))), (m2, .inl (cs 0, 180, .inl (ai mn5))), (m3, .inl (cs 0, 180, .inl (ai sn5)))]) rfl)) (mw_get (X := [(y, .inr (7, [.int (iI th), .ref m1, .ref m2, .ref m3, .int (iI pn), .ref m5, .ref m6, .ref m7, .ref m8, .ref m9, .ref m10, .ref m11, .ref m12, .ref m13, .int (iI ((n : Int))), .ref m15, .long (lI fu), .long (lI fb)])), (m1, .inl (cs 0, 11520, .inl (ai lm5))), (m2, .inl (cs 0, 180, .inl (ai mn5))), (m3, .inl (cs 0, 180, .inl (ai sn5)))]) hF.1 (k := 0) rfl) rfl, B.pre _⟩ rfl rfl hl.1 rfl (lv_room (Nat.le_of_ble_eq_true rfl)) d_Mo_below_13 ⟨by rw [hRc]; omega, by rw [hRs]; omega⟩) (fun g13 H locs hw B => ?_)
  obtain ⟨lm13, mn13, sn13, hR2, rfl⟩ := hw
  have B := B.of_eq (mw_put3 (X := [(y, .inr (7, [.int (iI th), .ref m1, .ref m2, .ref m3, .int (iI pn), .ref m5, .ref m6, .ref m7, .ref m8, .ref m9, .ref m10, .ref m11, .ref m12, .ref m13, .int (iI ((n : Int))), .ref m15, .long (lI fu), .long (lI fb)])), (m1, .inl (cs 0, 11520, .inl (ai lm5))), (m2, .inl (cs 0, 180, .inl (ai mn5))), (m3, .inl (cs 0, 180, .inl (ai sn5)))]) hF.1 (k1 := 1) (k2 := 2) (k3 := 3) rfl rfl rfl)
  have B : Wb D vwCl (TY cs) L (mw f [(y, .inr (7, [.int (iI th), .ref m1, .ref m2, .ref m3, .int (iI pn), .ref m5, .ref m6, .ref m7, .ref m8, .ref m9, .ref m10, .ref m11, .ref m12, .ref m13, .int (iI ((n : Int))), .ref m15, .long (lI fu), .long (lI fb)])), (m1, .inl (cs 0, 11520, .inl (ai lm13))), (m2, .inl (cs 0, 180, .inl (ai mn13))), (m3, .inl (cs 0, 180, .inl (ai sn13)))]) (AL L s.heap.size) s H _ := B
  refine lv_aload_n hx hb d_Mo_below_16 rfl (lv_at hl 0 rfl) ?_
  refine x_sipush hx hb d_Mo_below_17 (by decide) ?_
  refine lv_iload_n hx hb d_Mo_below_20 rfl (lv_at hl 3 rfl) ?_
  refine x_callv B hA (va_runV (As := [.int (iI 151), .int (iI ((bt : Int)))]) (rest := []) ⟨hx, hb, hml, hown, hts⟩ (c_Mo_shift l D cs _ _ _ y m1 m2 m3 m5 m6 m7 m8 m9 m10 m11 m12 m13 m15 th pn ((n : Int)) fu fb lm13 mn13 sn13 (up (up Z 150 (Z xc)) 151 1) 151 bt (hF.pick [0, 1, 2, 3] rfl rfl) (mw_get (X := [(y, .inr (7, [.int (iI th), .ref m1, .ref m2, .ref m3, .int (iI pn), .ref m5, .ref m6, .ref m7, .ref m8, .ref m9, .ref m10, .ref m11, .ref m12, .ref m13, .int (iI ((n : Int))), .ref m15, .long (lI fu), .long (lI fb)])), (m1, .inl (cs 0, 11520, .inl (ai lm13))), (m2, .inl (cs 0, 180, .inl (ai mn13))), (m3, .inl (cs 0, 180, .inl (ai sn13)))]) hF.1 (k := 0) rfl) (mw_get (X := [(y, .inr (7, [.int (iI th), .ref m1, .ref m2, .ref m3, .int (iI pn), .ref m5, .ref m6, .ref m7, .ref m8, .ref m9, .ref m10, .ref m11, .ref m12, .ref m13, .int (iI ((n : Int))), .ref m15, .long (lI fu), .long (lI fb)])), (m1, .inl (cs 0, 11520, .inl (ai lm13))), (m2, .inl (cs 0, 180, .inl (ai mn13))), (m3, .inl (cs 0, 180, .inl (ai sn13)))]) hF.1 (k := 1) rfl) (mw_get (X := [(y, .inr (7, [.int (iI th), .ref m1, .ref m2, .ref m3, .int (iI pn), .ref m5, .ref m6, .ref m7, .ref m8, .ref m9, .ref m10, .ref m11, .ref m12, .ref m13, .int (iI ((n : Int))), .ref m15, .long (lI fu), .long (lI fb)])), (m1, .inl (cs 0, 11520, .inl (ai lm13))), (m2, .inl (cs 0, 180, .inl (ai mn13))), (m3, .inl (cs 0, 180, .inl (ai sn13)))]) hF.1 (k := 2) rfl) (mw_get (X := [(y, .inr (7, [.int (iI th), .ref m1, .ref m2, .ref m3, .int (iI pn), .ref m5, .ref m6, .ref m7, .ref m8, .ref m9, .ref m10, .ref m11, .ref m12, .ref m13, .int (iI ((n : Int))), .ref m15, .long (lI fu), .long (lI fb)])), (m1, .inl (cs 0, 11520, .inl (ai lm13))), (m2, .inl (cs 0, 180, .inl (ai mn13))), (m3, .inl (cs 0, 180, .inl (ai sn13)))]) hF.1 (k := 3) rfl) hR2 (by decide) (by omega) (by rw [up_self]; exact hsr)) (cwV 2 hts (gw_V w_848 w_850 s_48 w_8 w_851) rfl rfl rfl (by decide +kernel) ⟨by rw [hRf]; exact Nat.le_of_ble_eq_true rfl, by rw [hRl]; exact Nat.le_of_ble_eq_true rfl⟩) ⟨K0.blind, B.recv (hF.2 _ (mw_key (k := 0) (X := [(y, .inr (7, [.int (iI th), .ref m1, .ref m2, .ref m3, .int (iI pn), .ref m5, .ref m6, .ref m7, .ref m8, .ref m9, .ref m10, .ref m11, .ref m12, .ref m13, .int (iI ((n : Int))), .ref m15, .long (lI fu), .long (lI fb)])), (m1, .inl (cs 0, 11520, .inl (ai lm13))), (m2, .inl (cs 0, 180, .inl (ai mn13))), (m3, .inl (cs 0, 180, .inl (ai sn13)))]) rfl)) (mw_get (X := [(y, .inr (7, [.int (iI th), .ref m1, .ref m2, .ref m3, .int (iI pn), .ref m5, .ref m6, .ref m7, .ref m8, .ref m9, .ref m10, .ref m11, .ref m12, .ref m13, .int (iI ((n : Int))), .ref m15, .long (lI fu), .long (lI fb)])), (m1, .inl (cs 0, 11520, .inl (ai lm13))), (m2, .inl (cs 0, 180, .inl (ai mn13))), (m3, .inl (cs 0, 180, .inl (ai sn13)))]) hF.1 (k := 0) rfl) rfl, B.pre _⟩ rfl rfl hl.1 rfl (lv_room (Nat.le_of_ble_eq_true rfl)) d_Mo_below_21 ⟨by rw [hRc]; omega, by rw [hRs]; omega⟩) (fun g21 H locs hw B => ?_)
  obtain ⟨lm21, mn21, sn21, hR3, rfl⟩ := hw
  have B := B.of_eq (mw_put3 (X := [(y, .inr (7, [.int (iI th), .ref m1, .ref m2, .ref m3, .int (iI pn), .ref m5, .ref m6, .ref m7, .ref m8, .ref m9, .ref m10, .ref m11, .ref m12, .ref m13, .int (iI ((n : Int))), .ref m15, .long (lI fu), .long (lI fb)])), (m1, .inl (cs 0, 11520, .inl (ai lm13))), (m2, .inl (cs 0, 180, .inl (ai mn13))), (m3, .inl (cs 0, 180, .inl (ai sn13)))]) hF.1 (k1 := 1) (k2 := 2) (k3 := 3) rfl rfl rfl)
  have B : Wb D vwCl (TY cs) L (mw f [(y, .inr (7, [.int (iI th), .ref m1, .ref m2, .ref m3, .int (iI pn), .ref m5, .ref m6, .ref m7, .ref m8, .ref m9, .ref m10, .ref m11, .ref m12, .ref m13, .int (iI ((n : Int))), .ref m15, .long (lI fu), .long (lI fb)])), (m1, .inl (cs 0, 11520, .inl (ai lm21))), (m2, .inl (cs 0, 180, .inl (ai mn21))), (m3, .inl (cs 0, 180, .inl (ai sn21)))]) (AL L s.heap.size) s H _ := B
  rw [up_self, up_up, Int.one_mul] at hR3
  obtain ⟨Z3, hZ3⟩ : ∃ Z3, Z3 = up (up Z 150 (Z xc)) 151 (2 ^ bt) := ⟨_, rfl⟩
  rw [← hZ3] at hR3
  have h31 : Z3 151 = 2 ^ bt := by rw [hZ3, up_self]
  have h30 : Z3 150 = Z xc := by rw [hZ3, up_ne _ _ (by decide), up_self]
  have h3o : ∀ w, w ≠ 150 → w ≠ 151 → Z3 w = Z w := fun w h1 h2 => by rw [hZ3, up_ne _ _ h2, up_ne _ _ h1]
  have h3r : ∀ k, k < n → ∀ j, j < 6 → Z3 (60 + 6 * k + j) = Z (60 + 6 * k + j) := fun k hk j hj => h3o _ (by omega) (by omega)
  have hpw : (0 : Int) < 2 ^ bt := pw2 bt
  refine lv_iload_n hx hb d_Mo_below_24 rfl (lv_at hl 1 rfl) ?_
  refine lv_aload_n hx hb d_Mo_below_25 rfl (lv_at hl 0 rfl) ?_
  refine x_calli B hA (va_runV (As := []) (rest := [.int (iI far)]) ⟨hx, hb, hml, hown, hts⟩ (c_Mo_changesAt l D cs _ _ _ y m1 m2 m3 m5 m6 m7 m8 m9 m10 m11 m12 m13 m15 th pn fu fb lm21 mn21 sn21 Z3 n (hF.pick [0, 1, 2, 3] rfl rfl) (mw_get (X := [(y, .inr (7, [.int (iI th), .ref m1, .ref m2, .ref m3, .int (iI pn), .ref m5, .ref m6, .ref m7, .ref m8, .ref m9, .ref m10, .ref m11, .ref m12, .ref m13, .int (iI ((n : Int))), .ref m15, .long (lI fu), .long (lI fb)])), (m1, .inl (cs 0, 11520, .inl (ai lm21))), (m2, .inl (cs 0, 180, .inl (ai mn21))), (m3, .inl (cs 0, 180, .inl (ai sn21)))]) hF.1 (k := 0) rfl) (mw_get (X := [(y, .inr (7, [.int (iI th), .ref m1, .ref m2, .ref m3, .int (iI pn), .ref m5, .ref m6, .ref m7, .ref m8, .ref m9, .ref m10, .ref m11, .ref m12, .ref m13, .int (iI ((n : Int))), .ref m15, .long (lI fu), .long (lI fb)])), (m1, .inl (cs 0, 11520, .inl (ai lm21))), (m2, .inl (cs 0, 180, .inl (ai mn21))), (m3, .inl (cs 0, 180, .inl (ai sn21)))]) hF.1 (k := 1) rfl) (mw_get (X := [(y, .inr (7, [.int (iI th), .ref m1, .ref m2, .ref m3, .int (iI pn), .ref m5, .ref m6, .ref m7, .ref m8, .ref m9, .ref m10, .ref m11, .ref m12, .ref m13, .int (iI ((n : Int))), .ref m15, .long (lI fu), .long (lI fb)])), (m1, .inl (cs 0, 11520, .inl (ai lm21))), (m2, .inl (cs 0, 180, .inl (ai mn21))), (m3, .inl (cs 0, 180, .inl (ai sn21)))]) hF.1 (k := 2) rfl) (mw_get (X := [(y, .inr (7, [.int (iI th), .ref m1, .ref m2, .ref m3, .int (iI pn), .ref m5, .ref m6, .ref m7, .ref m8, .ref m9, .ref m10, .ref m11, .ref m12, .ref m13, .int (iI ((n : Int))), .ref m15, .long (lI fu), .long (lI fb)])), (m1, .inl (cs 0, 11520, .inl (ai lm21))), (m2, .inl (cs 0, 180, .inl (ai mn21))), (m3, .inl (cs 0, 180, .inl (ai sn21)))]) hF.1 (k := 3) rfl) hR3 hn7 (hBt.congr h3r) (by rw [h31]; exact hpw) (by rw [h30]; exact hub) (by rw [h31]; exact hvb)) (cwV 0 hts (gw_V w_907 w_909 s_59 w_8 w_910) rfl rfl rfl (by decide +kernel) ⟨by rw [hRf]; exact Nat.le_of_ble_eq_true rfl, by rw [hRl]; exact Nat.le_of_ble_eq_true rfl⟩) ⟨K0.blind, B.recv (hF.2 _ (mw_key (k := 0) (X := [(y, .inr (7, [.int (iI th), .ref m1, .ref m2, .ref m3, .int (iI pn), .ref m5, .ref m6, .ref m7, .ref m8, .ref m9, .ref m10, .ref m11, .ref m12, .ref m13, .int (iI ((n : Int))), .ref m15, .long (lI fu), .long (lI fb)])), (m1, .inl (cs 0, 11520, .inl (ai lm21))), (m2, .inl (cs 0, 180, .inl (ai mn21))), (m3, .inl (cs 0, 180, .inl (ai sn21)))]) rfl)) (mw_get (X := [(y, .inr (7, [.int (iI th), .ref m1, .ref m2, .ref m3, .int (iI pn), .ref m5, .ref m6, .ref m7, .ref m8, .ref m9, .ref m10, .ref m11, .ref m12, .ref m13, .int (iI ((n : Int))), .ref m15, .long (lI fu), .long (lI fb)])), (m1, .inl (cs 0, 11520, .inl (ai lm21))), (m2, .inl (cs 0, 180, .inl (ai mn21))), (m3, .inl (cs 0, 180, .inl (ai sn21)))]) hF.1 (k := 0) rfl) rfl, B.pre _⟩ rfl rfl hl.1 rfl (lv_room (Nat.le_of_ble_eq_true rfl)) d_Mo_below_26 ⟨by rw [hRc]; omega, by rw [hRs]; omega⟩) (fun r26 g26 H locs hw B => ?_)
  obtain ⟨lm26, mn26, sn26, Z4, rfl, hR4, h4o, rfl⟩ := hw
  have B := B.of_eq (mw_put3 (X := [(y, .inr (7, [.int (iI th), .ref m1, .ref m2, .ref m3, .int (iI pn), .ref m5, .ref m6, .ref m7, .ref m8, .ref m9, .ref m10, .ref m11, .ref m12, .ref m13, .int (iI ((n : Int))), .ref m15, .long (lI fu), .long (lI fb)])), (m1, .inl (cs 0, 11520, .inl (ai lm21))), (m2, .inl (cs 0, 180, .inl (ai mn21))), (m3, .inl (cs 0, 180, .inl (ai sn21)))]) hF.1 (k1 := 1) (k2 := 2) (k3 := 3) rfl rfl rfl)
  have B : Wb D vwCl (TY cs) L (mw f [(y, .inr (7, [.int (iI th), .ref m1, .ref m2, .ref m3, .int (iI pn), .ref m5, .ref m6, .ref m7, .ref m8, .ref m9, .ref m10, .ref m11, .ref m12, .ref m13, .int (iI ((n : Int))), .ref m15, .long (lI fu), .long (lI fb)])), (m1, .inl (cs 0, 11520, .inl (ai lm26))), (m2, .inl (cs 0, 180, .inl (ai mn26))), (m3, .inl (cs 0, 180, .inl (ai sn26)))]) (AL L s.heap.size) s H _ := B
  have ht4 : tn (Sat Z3 ((Z3 150 : Rat) / (Z3 151 : Rat))) n = tn (Sat Z ((Z xc : Rat) / ((2 ^ bt : Int) : Rat))) n := by rw [h30, h31]; exact (tn_congr (fun k hk => Sat_congr (h3r k hk))).1
  rw [ht4]
  refine x_isub hx hb d_Mo_below_29 ?_
  refine lv_istore (lv' := [(4, .int (iI (far - (tn (Sat Z ((Z xc : Rat) / ((2 ^ bt : Int) : Rat))) n)))), (0, .ref y), (1, .int (iI far)), (2, .int (iI ((xc : Int)))), (3, .int (iI ((bt : Int))))]) hx hb d_Mo_below_30 hl (by decide) rfl (fun ls hl => ?_)
  refine lv_aload_n hx hb d_Mo_below_32 rfl (lv_at hl 1 rfl) ?_
  refine x_bipush hx hb d_Mo_below_33 (by decide) ?_
  obtain ⟨d9, a9, hd5, hdz, hda, hdr⟩ := hBt 0 (by omega)
  have hrw : ∀ j, j < 6 → Z4 (60 + j) = Z (60 + 6 * 0 + j) := fun j hj => by rw [h4o _ (by omega) (by omega) (by omega) (by omega), h3o _ (by omega) (by omega)]
  have h40 : Z4 150 = Z xc := by rw [h4o _ (by omega) (by omega) (by omega) (by omega)]; exact h30
  have h41 : Z4 151 = 2 ^ bt := by rw [h4o _ (by omega) (by omega) (by omega) (by omega)]; exact h31
  refine x_calli B hA (va_runV (As := [.int (iI 60)]) (rest := []) ⟨hx, hb, hml, hown, hts⟩ (c_Mo_signAt l D cs _ _ _ y m1 m2 m3 m5 m6 m7 m8 m9 m10 m11 m12 m13 m15 th pn ((n : Int)) fu fb lm26 mn26 sn26 Z4 60 d9 a9 269 (hF.pick [0, 1, 2, 3] rfl rfl) (mw_get (X := [(y, .inr (7, [.int (iI th), .ref m1, .ref m2, .ref m3, .int (iI pn), .ref m5, .ref m6, .ref m7, .ref m8, .ref m9, .ref m10, .ref m11, .ref m12, .ref m13, .int (iI ((n : Int))), .ref m15, .long (lI fu), .long (lI fb)])), (m1, .inl (cs 0, 11520, .inl (ai lm26))), (m2, .inl (cs 0, 180, .inl (ai mn26))), (m3, .inl (cs 0, 180, .inl (ai sn26)))]) hF.1 (k := 0) rfl) (mw_get (X := [(y, .inr (7, [.int (iI th), .ref m1, .ref m2, .ref m3, .int (iI pn), .ref m5, .ref m6, .ref m7, .ref m8, .ref m9, .ref m10, .ref m11, .ref m12, .ref m13, .int (iI ((n : Int))), .ref m15, .long (lI fu), .long (lI fb)])), (m1, .inl (cs 0, 11520, .inl (ai lm26))), (m2, .inl (cs 0, 180, .inl (ai mn26))), (m3, .inl (cs 0, 180, .inl (ai sn26)))]) hF.1 (k := 1) rfl) (mw_get (X := [(y, .inr (7, [.int (iI th), .ref m1, .ref m2, .ref m3, .int (iI pn), .ref m5, .ref m6, .ref m7, .ref m8, .ref m9, .ref m10, .ref m11, .ref m12, .ref m13, .int (iI ((n : Int))), .ref m15, .long (lI fu), .long (lI fb)])), (m1, .inl (cs 0, 11520, .inl (ai lm26))), (m2, .inl (cs 0, 180, .inl (ai mn26))), (m3, .inl (cs 0, 180, .inl (ai sn26)))]) hF.1 (k := 2) rfl) (mw_get (X := [(y, .inr (7, [.int (iI th), .ref m1, .ref m2, .ref m3, .int (iI pn), .ref m5, .ref m6, .ref m7, .ref m8, .ref m9, .ref m10, .ref m11, .ref m12, .ref m13, .int (iI ((n : Int))), .ref m15, .long (lI fu), .long (lI fb)])), (m1, .inl (cs 0, 11520, .inl (ai lm26))), (m2, .inl (cs 0, 180, .inl (ai mn26))), (m3, .inl (cs 0, 180, .inl (ai sn26)))]) hF.1 (k := 3) rfl) hR4 (by omega) (fun j h1 h2 => by rw [hrw j h2]; exact hdz j h1 h2) (fun j hj => by rw [hrw j hj]; exact hda j hj) (by rw [h40]; exact hub) (by rw [h41]; exact hvb) hdr) (cwV 1 hts (gw_V w_911 w_913 s_60 w_8 w_914) rfl rfl rfl (by decide +kernel) ⟨by rw [hRf]; exact Nat.le_of_ble_eq_true rfl, by rw [hRl]; exact Nat.le_of_ble_eq_true rfl⟩) ⟨K0.blind, B.recv (hF.2 _ (mw_key (k := 0) (X := [(y, .inr (7, [.int (iI th), .ref m1, .ref m2, .ref m3, .int (iI pn), .ref m5, .ref m6, .ref m7, .ref m8, .ref m9, .ref m10, .ref m11, .ref m12, .ref m13, .int (iI ((n : Int))), .ref m15, .long (lI fu), .long (lI fb)])), (m1, .inl (cs 0, 11520, .inl (ai lm26))), (m2, .inl (cs 0, 180, .inl (ai mn26))), (m3, .inl (cs 0, 180, .inl (ai sn26)))]) rfl)) (mw_get (X := [(y, .inr (7, [.int (iI th), .ref m1, .ref m2, .ref m3, .int (iI pn), .ref m5, .ref m6, .ref m7, .ref m8, .ref m9, .ref m10, .ref m11, .ref m12, .ref m13, .int (iI ((n : Int))), .ref m15, .long (lI fu), .long (lI fb)])), (m1, .inl (cs 0, 11520, .inl (ai lm26))), (m2, .inl (cs 0, 180, .inl (ai mn26))), (m3, .inl (cs 0, 180, .inl (ai sn26)))]) hF.1 (k := 0) rfl) rfl, B.pre _⟩ rfl rfl hl.1 rfl (lv_room (Nat.le_of_ble_eq_true rfl)) d_Mo_below_35 ⟨by rw [hRc]; omega, by rw [hRs]; omega⟩) (fun r35 g35 H locs hw B => ?_)
  obtain ⟨lm35, mn35, sn35, Z5, k3, rfl, hk36, hk3z, hk3l, hR5, h5s, h5o, rfl⟩ := hw
  have B := B.of_eq (mw_put3 (X := [(y, .inr (7, [.int (iI th), .ref m1, .ref m2, .ref m3, .int (iI pn), .ref m5, .ref m6, .ref m7, .ref m8, .ref m9, .ref m10, .ref m11, .ref m12, .ref m13, .int (iI ((n : Int))), .ref m15, .long (lI fu), .long (lI fb)])), (m1, .inl (cs 0, 11520, .inl (ai lm26))), (m2, .inl (cs 0, 180, .inl (ai mn26))), (m3, .inl (cs 0, 180, .inl (ai sn26)))]) hF.1 (k1 := 1) (k2 := 2) (k3 := 3) rfl rfl rfl)
  have B : Wb D vwCl (TY cs) L (mw f [(y, .inr (7, [.int (iI th), .ref m1, .ref m2, .ref m3, .int (iI pn), .ref m5, .ref m6, .ref m7, .ref m8, .ref m9, .ref m10, .ref m11, .ref m12, .ref m13, .int (iI ((n : Int))), .ref m15, .long (lI fu), .long (lI fb)])), (m1, .inl (cs 0, 11520, .inl (ai lm35))), (m2, .inl (cs 0, 180, .inl (ai mn35))), (m3, .inl (cs 0, 180, .inl (ai sn35)))]) (AL L s.heap.size) s H _ := B
  have hs9 : (if k3 = 0 then 0 else (hsum (fun j => Z4 (60 + j)) (k3 - 1) (Z4 150) (Z4 151) (k3 - 1)).sign) = Sat Z ((Z xc : Rat) / ((2 ^ bt : Int) : Rat)) 0 := by rw [sgn_at (c := fun j => Z4 (60 + j)) (by rw [h41]; exact hpw) hk36 hk3z, h40, h41, Sat, es_congr hrw]
  have hs8 : Sat Z ((Z xc : Rat) / ((2 ^ bt : Int) : Rat)) 0 = 1 ∨ Sat Z ((Z xc : Rat) / ((2 ^ bt : Int) : Rat)) 0 = 0 ∨ Sat Z ((Z xc : Rat) / ((2 ^ bt : Int) : Rat)) 0 = -1 := sg_mem _
  rw [hs9]
  refine x_if_ne (tgt := 48) hx hb d_Mo_below_38 (by decide) (by omega) (fun h38 => ?_) (fun h38 => ?_)
  · refine lv_iload hx hb d_Mo_below_48 (lv_at hl 0 rfl) ?_
    subst hQ hav
    exact x_iret hx hb hr hlocks B d_Mo_below_50 (⟨_, _, _, Z5, by rw [tn0]; first | rw [if_pos (show Sat Z ((Z xc : Rat) / ((2 ^ bt : Int) : Rat)) 0 = 0 by omega), Int.sub_sub] | rw [if_neg (show ¬ Sat Z ((Z xc : Rat) / ((2 ^ bt : Int) : Rat)) 0 = 0 by omega), Int.add_zero], hR5, fun w h1 h2 => by rw [h5o w (by omega) (by omega) (by omega) h2, h4o w (by omega) (by omega) (by omega) h2]; exact h3o w (by omega) (by omega), mw_drop (f := f) (X := [(m1, .inl (cs 0, 11520, .inl (ai lm35))), (m2, .inl (cs 0, 180, .inl (ai mn35))), (m3, .inl (cs 0, 180, .inl (ai sn35)))]) ha (List.nodup_cons.mp hF.1).1⟩)
  · refine lv_iload hx hb d_Mo_below_41 (lv_at hl 0 rfl) ?_
    refine x_iconst hx hb d_Mo_below_43 ?_
    refine x_isub hx hb d_Mo_below_44 ?_
    refine lv_goto (tgt := 50) hx hb d_Mo_below_45 (by decide) ?_
    subst hQ hav
    exact x_iret hx hb hr hlocks B d_Mo_below_50 (⟨_, _, _, Z5, by rw [tn0]; first | rw [if_pos (show Sat Z ((Z xc : Rat) / ((2 ^ bt : Int) : Rat)) 0 = 0 by omega), Int.sub_sub] | rw [if_neg (show ¬ Sat Z ((Z xc : Rat) / ((2 ^ bt : Int) : Rat)) 0 = 0 by omega), Int.add_zero], hR5, fun w h1 h2 => by rw [h5o w (by omega) (by omega) (by omega) h2, h4o w (by omega) (by omega) (by omega) h2]; exact h3o w (by omega) (by omega), mw_drop (f := f) (X := [(m1, .inl (cs 0, 11520, .inl (ai lm35))), (m2, .inl (cs 0, 180, .inl (ai mn35))), (m3, .inl (cs 0, 180, .inl (ai sn35)))]) ha (List.nodup_cons.mp hF.1).1⟩)
