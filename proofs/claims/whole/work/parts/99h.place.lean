/-! the bits of a place, the greatest first -/
def Pw (wd : Nat → Int) : Nat → Int
  | 0 => 0
  | k + 1 => Pw wd k * 2147483648 + wd k
/-- the first bits of a place as a whole number -/
def wpre (wd : Nat → Int) (b : Nat) : Int := if b % 31 = 0 then Pw wd (b / 31) else Pw wd (b / 31) * 2 ^ (b % 31) + wd (b / 31) / 2 ^ (31 - b % 31)
theorem Pw_congr {u v : Nat → Int} {k : Nat} (h : ∀ j, j < k → u j = v j) : Pw u k = Pw v k := by
  induction k with
  | zero => rfl
  | succ k ih => rw [Pw, Pw, ih (fun j hj => h j (by omega)), h k (by omega)]
theorem Pw_lt {u v : Nat → Int} {k : Nat} : ∀ m, (∀ j, j < k + m → (0 ≤ u j ∧ u j < 2147483648) ∧ 0 ≤ v j ∧ v j < 2147483648) → Pw u k < Pw v k → Pw u (k + m) < Pw v (k + m)
  | 0, _, h => h
  | m + 1, hr, h => by
    have ih := Pw_lt m (fun j hj => hr j (by omega)) h
    have r := hr (k + m) (by omega)
    rw [← Nat.add_assoc, Pw, Pw]
    omega
theorem div31 {z : Int} {e : Nat} (he : e < 31) (hz : 0 ≤ z ∧ z < 2147483648) : 0 ≤ z / 2 ^ (31 - e) ∧ z / 2 ^ (31 - e) < 2 ^ e := by
  have hp := pw2 (31 - e)
  refine ⟨Int.ediv_nonneg hz.1 (Int.le_of_lt hp), (Int.ediv_lt_iff_lt_mul hp).mpr ?_⟩
  rw [← Int.pow_add, show e + (31 - e) = 31 by omega]
  exact hz.2
theorem wpre_lt {u v : Nat → Int} {w b : Nat} (hr : ∀ j, j < 8 → (0 ≤ u j ∧ u j < 2147483648) ∧ 0 ≤ v j ∧ v j < 2147483648) (hb : b ≤ 248) (hw : 31 * w ≤ b) (h : Pw u w < Pw v w) : wpre u b < wpre v b := by
  have hq : w ≤ b / 31 := by omega
  have h1 := Pw_lt (b / 31 - w) (fun j hj => hr j (by omega)) h
  rw [show w + (b / 31 - w) = b / 31 by omega] at h1
  unfold wpre
  split
  · exact h1
  · have r := hr (b / 31) (by omega)
    have d1 := div31 (e := b % 31) (by omega) r.1
    have d2 := div31 (e := b % 31) (by omega) r.2
    have hp := pw2 (b % 31)
    have h2 : (Pw u (b / 31) + 1) * 2 ^ (b % 31) ≤ Pw v (b / 31) * 2 ^ (b % 31) := Int.mul_le_mul_of_nonneg_right (by omega) (Int.le_of_lt hp)
    rw [Int.add_mul, Int.one_mul] at h2
    omega
/-- at word w, seen from its first bits on -/
theorem wpre_word {u v : Nat → Int} {w b d : Nat} (hr : ∀ j, j < 8 → (0 ≤ u j ∧ u j < 2147483648) ∧ 0 ≤ v j ∧ v j < 2147483648) (hb : b ≤ 248) (hw : 31 * w < b) (hd : d = 31 * (w + 1) - b) (he : ∀ j, j < w → u j = v j) (h : u w / 2 ^ d < v w / 2 ^ d) : wpre u b < wpre v b := by
  have e := Pw_congr he
  by_cases hl : 31 * (w + 1) ≤ b
  · have hd0 : d = 0 := by omega
    rw [hd0, Int.pow_zero, Int.ediv_one, Int.ediv_one] at h
    refine wpre_lt (w := w + 1) hr hb hl ?_
    rw [Pw, Pw, e]
    omega
  · have e1 : b / 31 = w := by omega
    have e2 : ¬ b % 31 = 0 := by omega
    have e3 : 31 - b % 31 = d := by omega
    unfold wpre
    rw [if_neg e2, if_neg e2, e1, e3, e]
    omega
theorem wpre_eq {u v : Nat → Int} {w b : Nat} (he : ∀ j, 31 * (j + 1) ≤ b → j < w → u j = v j) (hw : b ≤ 31 * w) (hl : b % 31 ≠ 0 → u (b / 31) / 2 ^ (31 - b % 31) = v (b / 31) / 2 ^ (31 - b % 31)) : wpre u b = wpre v b := by
  have e := Pw_congr (u := u) (v := v) (k := b / 31) (fun j hj => he j (by omega) (by omega))
  unfold wpre
  split
  · exact e
  · rename_i h
    rw [e, hl h]
theorem cmq_m1 {a b : Int} (h : a < b) : cmq a b = -1 := by unfold cmq; rw [if_pos h]
theorem cmq_p1 {a b : Int} (h : b < a) : cmq a b = 1 := by unfold cmq; rw [if_neg (by omega), if_neg (by omega)]
theorem cmq_00 {a b : Int} (h : a = b) : cmq a b = 0 := by unfold cmq; rw [if_neg (by omega), if_pos h]
theorem d_Place_against_0 : decode prog_5_method_5_code 0 = .ok (.aload_n 0, 1) := by decide +kernel
theorem d_Place_against_1 : decode prog_5_method_5_code 1 = .ok (.getfield 11, 3) := by decide +kernel
theorem d_Place_against_4 : decode prog_5_method_5_code 4 = .ok (.aload_n 1, 1) := by decide +kernel
theorem d_Place_against_5 : decode prog_5_method_5_code 5 = .ok (.getfield 11, 3) := by decide +kernel
theorem d_Place_against_8 : decode prog_5_method_5_code 8 = .ok (.if_icmp .eq 20, 3) := by decide +kernel
theorem d_Place_against_11 : decode prog_5_method_5_code 11 = .ok (.aload_n 0, 1) := by decide +kernel
theorem d_Place_against_12 : decode prog_5_method_5_code 12 = .ok (.getfield 11, 3) := by decide +kernel
theorem d_Place_against_15 : decode prog_5_method_5_code 15 = .ok (.aload_n 1, 1) := by decide +kernel
theorem d_Place_against_16 : decode prog_5_method_5_code 16 = .ok (.getfield 11, 3) := by decide +kernel
theorem d_Place_against_19 : decode prog_5_method_5_code 19 = .ok (.if_icmp .ge 7, 3) := by decide +kernel
theorem d_Place_against_22 : decode prog_5_method_5_code 22 = .ok (.iconst (-1), 1) := by decide +kernel
theorem d_Place_against_23 : decode prog_5_method_5_code 23 = .ok (.goto 4, 3) := by decide +kernel
theorem d_Place_against_26 : decode prog_5_method_5_code 26 = .ok (.iconst 1, 1) := by decide +kernel
theorem d_Place_against_27 : decode prog_5_method_5_code 27 = .ok (.ireturn, 1) := by decide +kernel
theorem d_Place_against_28 : decode prog_5_method_5_code 28 = .ok (.aload_n 0, 1) := by decide +kernel
theorem d_Place_against_29 : decode prog_5_method_5_code 29 = .ok (.getfield 15, 3) := by decide +kernel
theorem d_Place_against_32 : decode prog_5_method_5_code 32 = .ok (.aload_n 1, 1) := by decide +kernel
theorem d_Place_against_33 : decode prog_5_method_5_code 33 = .ok (.getfield 15, 3) := by decide +kernel
theorem d_Place_against_36 : decode prog_5_method_5_code 36 = .ok (.invokestatic 22, 3) := by decide +kernel
theorem d_Place_against_39 : decode prog_5_method_5_code 39 = .ok (.istore_n 2, 1) := by decide +kernel
theorem d_Place_against_40 : decode prog_5_method_5_code 40 = .ok (.iconst 0, 1) := by decide +kernel
theorem d_Place_against_41 : decode prog_5_method_5_code 41 = .ok (.istore_n 3, 1) := by decide +kernel
theorem d_Place_against_42 : decode prog_5_method_5_code 42 = .ok (.iload_n 3, 1) := by decide +kernel
theorem d_Place_against_43 : decode prog_5_method_5_code 43 = .ok (.bipush 8, 2) := by decide +kernel
theorem d_Place_against_45 : decode prog_5_method_5_code 45 = .ok (.if_icmp .ge 73, 3) := by decide +kernel
theorem d_Place_against_48 : decode prog_5_method_5_code 48 = .ok (.iload_n 3, 1) := by decide +kernel
theorem d_Place_against_49 : decode prog_5_method_5_code 49 = .ok (.bipush 31, 2) := by decide +kernel
theorem d_Place_against_51 : decode prog_5_method_5_code 51 = .ok (.imul, 1) := by decide +kernel
theorem d_Place_against_52 : decode prog_5_method_5_code 52 = .ok (.iload_n 2, 1) := by decide +kernel
theorem d_Place_against_53 : decode prog_5_method_5_code 53 = .ok (.if_icmp .ge 65, 3) := by decide +kernel
theorem d_Place_against_56 : decode prog_5_method_5_code 56 = .ok (.iconst 0, 1) := by decide +kernel
theorem d_Place_against_57 : decode prog_5_method_5_code 57 = .ok (.iload_n 3, 1) := by decide +kernel
theorem d_Place_against_58 : decode prog_5_method_5_code 58 = .ok (.iconst 1, 1) := by decide +kernel
theorem d_Place_against_59 : decode prog_5_method_5_code 59 = .ok (.iadd, 1) := by decide +kernel
theorem d_Place_against_60 : decode prog_5_method_5_code 60 = .ok (.bipush 31, 2) := by decide +kernel
theorem d_Place_against_62 : decode prog_5_method_5_code 62 = .ok (.imul, 1) := by decide +kernel
theorem d_Place_against_63 : decode prog_5_method_5_code 63 = .ok (.iload_n 2, 1) := by decide +kernel
theorem d_Place_against_64 : decode prog_5_method_5_code 64 = .ok (.isub, 1) := by decide +kernel
theorem d_Place_against_65 : decode prog_5_method_5_code 65 = .ok (.invokestatic 28, 3) := by decide +kernel
theorem d_Place_against_68 : decode prog_5_method_5_code 68 = .ok (.istore 4, 2) := by decide +kernel
theorem d_Place_against_70 : decode prog_5_method_5_code 70 = .ok (.aload_n 0, 1) := by decide +kernel
theorem d_Place_against_71 : decode prog_5_method_5_code 71 = .ok (.getfield 18, 3) := by decide +kernel
theorem d_Place_against_74 : decode prog_5_method_5_code 74 = .ok (.iload_n 3, 1) := by decide +kernel
theorem d_Place_against_75 : decode prog_5_method_5_code 75 = .ok (.iaload, 1) := by decide +kernel
theorem d_Place_against_76 : decode prog_5_method_5_code 76 = .ok (.iload 4, 2) := by decide +kernel
theorem d_Place_against_78 : decode prog_5_method_5_code 78 = .ok (.ishr, 1) := by decide +kernel
theorem d_Place_against_79 : decode prog_5_method_5_code 79 = .ok (.istore 5, 2) := by decide +kernel
theorem d_Place_against_81 : decode prog_5_method_5_code 81 = .ok (.aload_n 1, 1) := by decide +kernel
theorem d_Place_against_82 : decode prog_5_method_5_code 82 = .ok (.getfield 18, 3) := by decide +kernel
theorem d_Place_against_85 : decode prog_5_method_5_code 85 = .ok (.iload_n 3, 1) := by decide +kernel
theorem d_Place_against_86 : decode prog_5_method_5_code 86 = .ok (.iaload, 1) := by decide +kernel
theorem d_Place_against_87 : decode prog_5_method_5_code 87 = .ok (.iload 4, 2) := by decide +kernel
theorem d_Place_against_89 : decode prog_5_method_5_code 89 = .ok (.ishr, 1) := by decide +kernel
theorem d_Place_against_90 : decode prog_5_method_5_code 90 = .ok (.istore 6, 2) := by decide +kernel
theorem d_Place_against_92 : decode prog_5_method_5_code 92 = .ok (.iload 5, 2) := by decide +kernel
theorem d_Place_against_94 : decode prog_5_method_5_code 94 = .ok (.iload 6, 2) := by decide +kernel
theorem d_Place_against_96 : decode prog_5_method_5_code 96 = .ok (.if_icmp .eq 16, 3) := by decide +kernel
theorem d_Place_against_99 : decode prog_5_method_5_code 99 = .ok (.iload 5, 2) := by decide +kernel
theorem d_Place_against_101 : decode prog_5_method_5_code 101 = .ok (.iload 6, 2) := by decide +kernel
theorem d_Place_against_103 : decode prog_5_method_5_code 103 = .ok (.if_icmp .ge 7, 3) := by decide +kernel
theorem d_Place_against_106 : decode prog_5_method_5_code 106 = .ok (.iconst (-1), 1) := by decide +kernel
theorem d_Place_against_107 : decode prog_5_method_5_code 107 = .ok (.goto 4, 3) := by decide +kernel
theorem d_Place_against_110 : decode prog_5_method_5_code 110 = .ok (.iconst 1, 1) := by decide +kernel
theorem d_Place_against_111 : decode prog_5_method_5_code 111 = .ok (.ireturn, 1) := by decide +kernel
theorem d_Place_against_112 : decode prog_5_method_5_code 112 = .ok (.iinc 3 1, 3) := by decide +kernel
theorem d_Place_against_115 : decode prog_5_method_5_code 115 = .ok (.goto (-73), 3) := by decide +kernel
theorem d_Place_against_118 : decode prog_5_method_5_code 118 = .ok (.iconst 0, 1) := by decide +kernel
theorem d_Place_against_119 : decode prog_5_method_5_code 119 = .ok (.ireturn, 1) := by decide +kernel
set_option maxHeartbeats 8000000 in
set_option maxRecDepth 100000 in
theorem c_Place_against (l : Launch) (D : va_G) (cs : Nat → ClassId) (L : List Nat) (f : Nat → va_E) (sz : Nat) (pl wq ql vq dp dq : Nat) (wh wh2 : Int) (wd ud : Nat → Int) (hF : Fc L [pl, wq, ql, vq]) (ha : f pl = .inr (3, [.int (iI wh), .int (iI ((dp : Int))), .ref wq])) (hwq : f wq = .inl (cs 0, 8, .inl (ai wd))) (hql : f ql = .inr (3, [.int (iI wh2), .int (iI ((dq : Int))), .ref vq])) (hvq : f vq = .inl (cs 0, 8, .inl (ai ud))) (hwh : -2147483648 ≤ wh ∧ wh < 2147483648) (hwh2 : -2147483648 ≤ wh2 ∧ wh2 < 2147483648) (hdp : dp ≤ 248) (hdq : dq ≤ 248) (hrg : ∀ j, j < 8 → (0 ≤ wd j ∧ wd j < 2147483648) ∧ 0 ≤ ud j ∧ ud j < 2147483648) : Met l (⟨"RealRoots$Place", "against", "(LRealRoots$Place;)I"⟩ : MethodName) (.code (⟨"RealRoots$Place", "against", "(LRealRoots$Place;)I"⟩ : MethodName) prog_5_method_5_code 7 (Option.some Jvm.ClassFile.FieldType.int) :: gw) ({ frames := 1, cells := 0, slots := 0, locals := 40 }) (va_Pc [.ref pl, .ref ql] (K0 D vwCl (TY cs) L f sz)) (va_Qi (fun (r : Int32) (g : Nat → va_E) => r = iI (if wh = wh2 then cmq (wpre wd (min dp dq)) (wpre ud (min dp dq)) else cmq wh wh2) ∧ g = f) (K1 D vwCl (TY cs) (AL L sz) L) (AL L sz)) 0 0 (AL L sz) := by
  refine Met.ofW (cc := prog_5_method_5_code) (maxL := 7) (ret := (Option.some Jvm.ClassFile.FieldType.int)) (by decide) rfl ?_
  intro p e s m args below meth c s₁ Bd hml hv
  obtain ⟨rfl, hk0⟩ := hv
  obtain ⟨hsz, B⟩ := hk0.start
  subst hsz
  have hx := Bd.exec
  have hb := Bd.bytes
  have hr := Bd.returns
  have hlocks := Bd.notSynchronized
  have hts0 := atoms_spec Bd.pre
  have hown : s.vm.findClass RX3 = some m.cls := findClass_of_methodNamed Bd.named
  have hA : ∀ q, s.heap.size ≤ q → AL L s.heap.size q := fun _ h => Or.inr h
  have hl := lv_entry ([.ref pl, .ref ql]) (n := 7) (Nat.le_of_ble_eq_true rfl)
  rw [lg_entry_eq]
  generalize (lg_sl ([.ref pl, .ref ql]) ++ List.replicate (7 - (lg_sl ([.ref pl, .ref ql])).length) Slot.unset).toArray = ls at hl ⊢
  refine absQ (fun Q R av hQ hR hav => ?_)
  have hts : ∀ w ∈ gw, w.before av s = true := by rw [hav]; exact fun w h => hts0 w (List.mem_cons_of_mem _ h)
  have hRf : R.frames = 1 := by rw [hR]; rfl
  have hRl : R.locals = 40 := by rw [hR]; rfl
  have hRc : R.cells = 0 := by rw [hR]; rfl
  have hRs : R.slots = 0 := by rw [hR]; rfl
  clear hR hts0 Bd
  have hl : lv_has ls 7 [(0, .ref pl), (1, .ref ql)] := hl
  have hfx : ∀ q ∈ ([(pl, .inr (3, [.int (iI wh), .int (iI ((dp : Int))), .ref wq])), (wq, .inl (cs 0, 8, .inl (ai wd))), (ql, .inr (3, [.int (iI wh2), .int (iI ((dq : Int))), .ref vq])), (vq, .inl (cs 0, 8, .inl (ai ud)))] : List (Nat × va_E)), f q.1 = q.2 := fun q hq => by
    simp only [List.mem_cons, List.not_mem_nil, or_false] at hq
    rcases hq with rfl | rfl | rfl | rfl
    · exact ha
    · exact hwq
    · exact hql
    · exact hvq
  have hmw : mw f [(pl, .inr (3, [.int (iI wh), .int (iI ((dp : Int))), .ref wq])), (wq, .inl (cs 0, 8, .inl (ai wd))), (ql, .inr (3, [.int (iI wh2), .int (iI ((dq : Int))), .ref vq])), (vq, .inl (cs 0, 8, .inl (ai ud)))] = f := mw_self (fun k a e hk => hfx (a, e) (List.mem_of_getElem? hk))
  have B := B.focus [(pl, .inr (3, [.int (iI wh), .int (iI ((dp : Int))), .ref wq])), (wq, .inl (cs 0, 8, .inl (ai wd))), (ql, .inr (3, [.int (iI wh2), .int (iI ((dq : Int))), .ref vq])), (vq, .inl (cs 0, 8, .inl (ai ud)))] hfx
  refine lv_aload_n hx hb d_Place_against_0 rfl (lv_at hl 0 rfl) ?_
  refine x_get (C := RX3) (T := TX3) (N := 3) hx hb hts inX3 hown B hF 0 rfl rfl 0 (by decide) (hts _ w_160) (fun _ h9 => h9) rfl d_Place_against_1 ?_
  refine lv_aload_n hx hb d_Place_against_4 rfl (lv_at hl 1 rfl) ?_
  refine x_get (C := RX3) (T := TX3) (N := 3) hx hb hts inX3 hown B hF 2 rfl rfl 0 (by decide) (hts _ w_160) (fun _ h9 => h9) rfl d_Place_against_5 ?_
  refine x_icmp_eq (tgt := 28) hx hb d_Place_against_8 (by decide) (by omega) (by omega) (fun h8 => ?_) (fun h8 => ?_)
  · refine lv_aload_n hx hb d_Place_against_28 rfl (lv_at hl 0 rfl) ?_
    refine x_get (C := RX3) (T := TX3) (N := 3) hx hb hts inX3 hown B hF 0 rfl rfl 1 (by decide) (hts _ w_163) (fun _ h9 => h9) rfl d_Place_against_29 ?_
    refine lv_aload_n hx hb d_Place_against_32 rfl (lv_at hl 1 rfl) ?_
    refine x_get (C := RX3) (T := TX3) (N := 3) hx hb hts inX3 hown B hF 2 rfl rfl 1 (by decide) (hts _ w_163) (fun _ h9 => h9) rfl d_Place_against_33 ?_
    refine x_calli B hA (va_runS (As := [.int (iI ((dp : Int))), .int (iI ((dq : Int)))]) (rest := []) ⟨hx, hb, hml, hown, hts⟩ (c_Math_min l D cs _ _ _ ((dp : Int)) ((dq : Int)) (by omega) (by omega)) (va_cwS 2 hts (gw_S w_436 w_386 w_9 w_387) rfl rfl rfl (by decide +kernel) ⟨by rw [hRf]; exact Nat.le_of_ble_eq_true rfl, by rw [hRl]; exact Nat.le_of_ble_eq_true rfl⟩) ⟨K0.blind, B.pre _⟩ rfl rfl hl.1 rfl (lv_room (Nat.le_of_ble_eq_true rfl)) d_Place_against_36 ⟨by rw [hRc]; omega, by rw [hRs]; omega⟩) (fun r36 g36 H locs hw B => ?_)
    obtain ⟨rfl, rfl⟩ := hw
    have B : Wb D vwCl (TY cs) L (mw f [(pl, .inr (3, [.int (iI wh), .int (iI ((dp : Int))), .ref wq])), (wq, .inl (cs 0, 8, .inl (ai wd))), (ql, .inr (3, [.int (iI wh2), .int (iI ((dq : Int))), .ref vq])), (vq, .inl (cs 0, 8, .inl (ai ud)))]) (AL L s.heap.size) s H _ := B
    rw [show min (dp : Int) (dq : Int) = ((min dp dq : Nat) : Int) by omega]
    obtain ⟨bb, hbb⟩ : ∃ bb : Nat, bb = min dp dq := ⟨_, rfl⟩
    rw [← hbb]
    have hb248 : bb ≤ 248 := by omega
    refine lv_istore_n (lv' := [(2, .int (iI ((bb : Int)))), (0, .ref pl), (1, .ref ql)]) hx hb d_Place_against_39 rfl hl (by decide) rfl (fun ls hl => ?_)
    refine x_iconst hx hb d_Place_against_40 ?_
    refine lv_istore_n (lv' := [(3, .int (iI 0)), (2, .int (iI ((bb : Int)))), (0, .ref pl), (1, .ref ql)]) hx hb d_Place_against_41 rfl hl (by decide) rfl (fun ls hl => ?_)
    have LP : ∀ (fuel : Nat) (k : Nat), 8 - k < fuel → (k ≤ 8) → (∀ j, j < k → wd j / 2 ^ (31 * (j + 1) - bb) = ud j / 2 ^ (31 * (j + 1) - bb)) → ∀ (H : Heap) (locs : List Loc) (ls : Array Slot), Wb D vwCl (TY cs) L (mw f [(pl, .inr (3, [.int (iI wh), .int (iI ((dp : Int))), .ref wq])), (wq, .inl (cs 0, 8, .inl (ai wd))), (ql, .inr (3, [.int (iI wh2), .int (iI ((dq : Int))), .ref vq])), (vq, .inl (cs 0, 8, .inl (ai ud)))]) (AL L s.heap.size) s H locs → lv_has ls 7 [(3, .int (iI ((k : Int)))), (2, .int (iI ((bb : Int)))), (0, .ref pl), (1, .ref ql)] → W p l e R s m av below meth c H locs (0) (0) Q (F0 m 42 ls []) := by
      intro fuel
      induction fuel with
      | zero => intro k hfu; exact absurd hfu (Nat.not_lt_zero _)
      | succ fuel ih_LP =>
        intro k hfu_LP hk he H locs ls B hl
        refine lv_iload_n hx hb d_Place_against_42 rfl (lv_at hl 0 rfl) ?_
        refine x_bipush hx hb d_Place_against_43 (by decide) ?_
        refine x_icmp_ge (tgt := 118) hx hb d_Place_against_45 (by decide) (by omega) (by omega) (fun h45 => ?_) (fun h45 => ?_)
        · refine x_iconst hx hb d_Place_against_118 ?_
          have B := B.of_eq hmw
          subst hQ hav
          exact x_iret hx hb hr hlocks B d_Place_against_119 (⟨by rw [if_pos (show wh = wh2 by omega), ← hbb, cmq_00 (wpre_eq (w := k) (fun j h1 h2 => by have h9 := he j h2; rw [show 31 * (j + 1) - bb = 0 by omega, Int.pow_zero, Int.ediv_one, Int.ediv_one] at h9; exact h9) (by omega) (fun h => by have h9 := he (bb / 31) (by omega); rw [show 31 * (bb / 31 + 1) - bb = 31 - bb % 31 by omega] at h9; exact h9))], rfl⟩)
        · refine lv_iload_n hx hb d_Place_against_48 rfl (lv_at hl 0 rfl) ?_
          refine x_bipush hx hb d_Place_against_49 (by decide) ?_
          refine x_imul hx hb d_Place_against_51 ?_
          refine lv_iload_n hx hb d_Place_against_52 rfl (lv_at hl 1 rfl) ?_
          refine x_icmp_ge (tgt := 118) hx hb d_Place_against_53 (by decide) (by omega) (by omega) (fun h53 => ?_) (fun h53 => ?_)
          · refine x_iconst hx hb d_Place_against_118 ?_
            have B := B.of_eq hmw
            subst hQ hav
            exact x_iret hx hb hr hlocks B d_Place_against_119 (⟨by rw [if_pos (show wh = wh2 by omega), ← hbb, cmq_00 (wpre_eq (w := k) (fun j h1 h2 => by have h9 := he j h2; rw [show 31 * (j + 1) - bb = 0 by omega, Int.pow_zero, Int.ediv_one, Int.ediv_one] at h9; exact h9) (by omega) (fun h => by have h9 := he (bb / 31) (by omega); rw [show 31 * (bb / 31 + 1) - bb = 31 - bb % 31 by omega] at h9; exact h9))], rfl⟩)
          · refine x_iconst hx hb d_Place_against_56 ?_
            refine lv_iload_n hx hb d_Place_against_57 rfl (lv_at hl 0 rfl) ?_
            refine x_iconst hx hb d_Place_against_58 ?_
            refine x_iadd hx hb d_Place_against_59 ?_
            refine x_bipush hx hb d_Place_against_60 (by decide) ?_
            refine x_imul hx hb d_Place_against_62 ?_
            refine lv_iload_n hx hb d_Place_against_63 rfl (lv_at hl 1 rfl) ?_
            refine x_isub hx hb d_Place_against_64 ?_
            refine x_calli B hA (va_runS (As := [.int (iI 0), .int (iI (((((k : Int)) + 1) * 31) - ((bb : Int))))]) (rest := []) ⟨hx, hb, hml, hown, hts⟩ (c_Math_max l D cs _ _ _ 0 (((((k : Int)) + 1) * 31) - ((bb : Int))) (by omega) (by omega)) (va_cwS 2 hts (gw_S w_437 w_383 w_9 w_384) rfl rfl rfl (by decide +kernel) ⟨by rw [hRf]; exact Nat.le_of_ble_eq_true rfl, by rw [hRl]; exact Nat.le_of_ble_eq_true rfl⟩) ⟨K0.blind, B.pre _⟩ rfl rfl hl.1 rfl (lv_room (Nat.le_of_ble_eq_true rfl)) d_Place_against_65 ⟨by rw [hRc]; omega, by rw [hRs]; omega⟩) (fun r65 g65 H locs hw B => ?_)
            obtain ⟨rfl, rfl⟩ := hw
            have B : Wb D vwCl (TY cs) L (mw f [(pl, .inr (3, [.int (iI wh), .int (iI ((dp : Int))), .ref wq])), (wq, .inl (cs 0, 8, .inl (ai wd))), (ql, .inr (3, [.int (iI wh2), .int (iI ((dq : Int))), .ref vq])), (vq, .inl (cs 0, 8, .inl (ai ud)))]) (AL L s.heap.size) s H _ := B
            rw [show max 0 (((k : Int) + 1) * 31 - (bb : Int)) = ((31 * (k + 1) - bb : Nat) : Int) by omega]
            obtain ⟨dd, hdd⟩ : ∃ dd : Nat, dd = 31 * (k + 1) - bb := ⟨_, rfl⟩
            rw [← hdd]
            have hd31 : dd < 31 := by omega
            have hwk := hrg k (by omega)
            have m1 := div_pow_range (a := wd k) (lo := 0) (hi := 2147483648) dd (by omega) (by decide) (by decide)
            have m2 := div_pow_range (a := ud k) (lo := 0) (hi := 2147483648) dd (by omega) (by decide) (by decide)
            refine lv_istore (lv' := [(4, .int (iI ((dd : Int)))), (3, .int (iI ((k : Int)))), (2, .int (iI ((bb : Int)))), (0, .ref pl), (1, .ref ql)]) hx hb d_Place_against_68 hl (by decide) rfl (fun ls hl => ?_)
            refine lv_aload_n hx hb d_Place_against_70 rfl (lv_at hl 3 rfl) ?_
            refine x_get (C := RX3) (T := TX3) (N := 3) hx hb hts inX3 hown B hF 0 rfl rfl 2 (by decide) (hts _ w_166) (fun _ h9 => h9) rfl d_Place_against_71 ?_
            refine lv_iload_n hx hb d_Place_against_74 rfl (lv_at hl 1 rfl) ?_
            refine x_iald hx hb B hF 1 0 rfl rfl k (by omega) (by omega) (by decide) d_Place_against_75 ?_
            refine lv_iload hx hb d_Place_against_76 (lv_at hl 0 rfl) ?_
            refine x_ishrv hx hb dd (rfl) (by omega) d_Place_against_78 (by omega) ?_
            refine lv_istore (lv' := [(5, .int (iI ((wd k) / 2 ^ dd))), (4, .int (iI ((dd : Int)))), (3, .int (iI ((k : Int)))), (2, .int (iI ((bb : Int)))), (0, .ref pl), (1, .ref ql)]) hx hb d_Place_against_79 hl (by decide) rfl (fun ls hl => ?_)
            refine lv_aload_n hx hb d_Place_against_81 rfl (lv_at hl 5 rfl) ?_
            refine x_get (C := RX3) (T := TX3) (N := 3) hx hb hts inX3 hown B hF 2 rfl rfl 2 (by decide) (hts _ w_166) (fun _ h9 => h9) rfl d_Place_against_82 ?_
            refine lv_iload_n hx hb d_Place_against_85 rfl (lv_at hl 2 rfl) ?_
            refine x_iald hx hb B hF 3 0 rfl rfl k (by omega) (by omega) (by decide) d_Place_against_86 ?_
            refine lv_iload hx hb d_Place_against_87 (lv_at hl 1 rfl) ?_
            refine x_ishrv hx hb dd (rfl) (by omega) d_Place_against_89 (by omega) ?_
            refine lv_istore (lv' := [(6, .int (iI ((ud k) / 2 ^ dd))), (5, .int (iI ((wd k) / 2 ^ dd))), (4, .int (iI ((dd : Int)))), (3, .int (iI ((k : Int)))), (2, .int (iI ((bb : Int)))), (0, .ref pl), (1, .ref ql)]) hx hb d_Place_against_90 hl (by decide) rfl (fun ls hl => ?_)
            refine lv_iload hx hb d_Place_against_92 (lv_at hl 1 rfl) ?_
            refine lv_iload hx hb d_Place_against_94 (lv_at hl 0 rfl) ?_
            refine x_icmp_eq (tgt := 112) hx hb d_Place_against_96 (by decide) (by omega) (by omega) (fun h96 => ?_) (fun h96 => ?_)
            · refine x_iinc (lv' := [(3, .int (iI (((k : Int)) + 1))), (6, .int (iI ((ud k) / 2 ^ dd))), (5, .int (iI ((wd k) / 2 ^ dd))), (4, .int (iI ((dd : Int)))), (2, .int (iI ((bb : Int)))), (0, .ref pl), (1, .ref ql)]) hx hb d_Place_against_112 hl (q := 3) rfl rfl (by decide) rfl (fun ls hl => ?_)
              refine lv_goto (tgt := 42) hx hb d_Place_against_115 (by decide) ?_
              exact ih_LP (k + 1) (by omega) (by omega) (fun j hj => by
                            by_cases hjk : j = k
                            · rw [hjk, ← hdd]; exact h96
                            · exact he j (by omega)) _ _ _ B (lv_sub hl [0, 4, 5, 6] rfl)
            · refine lv_iload hx hb d_Place_against_99 (lv_at hl 1 rfl) ?_
              refine lv_iload hx hb d_Place_against_101 (lv_at hl 0 rfl) ?_
              refine x_icmp_ge (tgt := 110) hx hb d_Place_against_103 (by decide) (by omega) (by omega) (fun h103 => ?_) (fun h103 => ?_)
              · refine x_iconst hx hb d_Place_against_110 ?_
                have B := B.of_eq hmw
                subst hQ hav
                exact x_iret hx hb hr hlocks B d_Place_against_111 (⟨by rw [if_pos (show wh = wh2 by omega), ← hbb, cmq_p1 (wpre_word (u := ud) (v := wd) (w := k) (d := dd) (fun j hj => ⟨(hrg j hj).2, (hrg j hj).1⟩) hb248 (by omega) hdd (fun j hj => by have h9 := he j (by omega); rw [show 31 * (j + 1) - bb = 0 by omega, Int.pow_zero, Int.ediv_one, Int.ediv_one] at h9; exact h9.symm) (by omega))], rfl⟩)
              · refine x_iconst hx hb d_Place_against_106 ?_
                refine lv_goto (tgt := 111) hx hb d_Place_against_107 (by decide) ?_
                have B := B.of_eq hmw
                subst hQ hav
                exact x_iret hx hb hr hlocks B d_Place_against_111 (⟨by rw [if_pos (show wh = wh2 by omega), ← hbb, cmq_m1 (wpre_word hrg hb248 (by omega) hdd (fun j hj => by have h9 := he j (by omega); rw [show 31 * (j + 1) - bb = 0 by omega, Int.pow_zero, Int.ediv_one, Int.ediv_one] at h9; exact h9) (by omega))], rfl⟩)
    exact LP _ 0 (Nat.lt_succ_self _) (by omega) (fun j hj => by omega) _ _ _ B (lv_sub hl [0, 1, 2, 3] rfl)
  · refine lv_aload_n hx hb d_Place_against_11 rfl (lv_at hl 0 rfl) ?_
    refine x_get (C := RX3) (T := TX3) (N := 3) hx hb hts inX3 hown B hF 0 rfl rfl 0 (by decide) (hts _ w_160) (fun _ h9 => h9) rfl d_Place_against_12 ?_
    refine lv_aload_n hx hb d_Place_against_15 rfl (lv_at hl 1 rfl) ?_
    refine x_get (C := RX3) (T := TX3) (N := 3) hx hb hts inX3 hown B hF 2 rfl rfl 0 (by decide) (hts _ w_160) (fun _ h9 => h9) rfl d_Place_against_16 ?_
    refine x_icmp_ge (tgt := 26) hx hb d_Place_against_19 (by decide) (by omega) (by omega) (fun h19 => ?_) (fun h19 => ?_)
    · refine x_iconst hx hb d_Place_against_26 ?_
      have B := B.of_eq hmw
      subst hQ hav
      exact x_iret hx hb hr hlocks B d_Place_against_27 (⟨by rw [if_neg (show ¬ wh = wh2 by omega), cmq_p1 (by omega)], rfl⟩)
    · refine x_iconst hx hb d_Place_against_22 ?_
      refine lv_goto (tgt := 27) hx hb d_Place_against_23 (by decide) ?_
      have B := B.of_eq hmw
      subst hQ hav
      exact x_iret hx hb hr hlocks B d_Place_against_27 (⟨by rw [if_neg (show ¬ wh = wh2 by omega), cmq_m1 (by omega)], rfl⟩)
