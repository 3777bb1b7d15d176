/-- -1, 0, 1 -/
def cmq (a b : Int) : Int := if a < b then -1 else if a = b then 0 else 1
theorem RS.get {lm mn sn lm' mn' sn' Z : Nat → Int} {x : Nat} (h : RS lm mn sn Z) (ho : Off x lm mn sn lm' mn' sn') : ∀ w, w < 180 → w ≠ x → RV (sn' w) (mn' w) (fl lm' w) (Z w) := by
  intro w hw hwx
  obtain ⟨h1, h2, h3⟩ := ho w hw hwx
  have h4 := h w hw
  rw [h2, h3]
  exact h4.copy (fun j hj => h1 j (by have := h4.2.1; omega))
theorem mAt_of {g h : Nat → Int} {n k : Nat} (e : g k = h k) : mAt g n k = mAt h n k := by
  unfold mAt
  rw [e]
theorem cmq_sizes {a b : Nat → Int} {n m : Nat} {u v : Int} (ha : Mb a n) (hb : Mb b m) (ta : 0 < n → a (n - 1) ≠ 0) (tb : 0 < m → b (m - 1) ≠ 0) (ea : Ms a n = u) (eb : Ms b m = v) (h : n ≠ m) : cmq u v = if n < m then -1 else 1 := by
  unfold cmq
  rcases Nat.lt_or_ge n m with hlt | hge
  · have := Ms_size_lt ha hb (by omega) (tb (by omega)) hlt
    rw [if_pos (by omega), if_pos hlt]
  · have := Ms_size_lt hb ha (by omega) (ta (by omega)) (by omega)
    rw [if_neg (by omega), if_neg (by omega), if_neg (by omega)]
theorem cmq_limb {a b : Nat → Int} {n k : Nat} {u v : Int} (ha : Mb a n) (hb : Mb b n) (ea : Ms a n = u) (eb : Ms b n = v) (hk : k < n) (he : ∀ j, k < j → j < n → a j = b j) (h : a k ≠ b k) : cmq u v = if a k < b k then -1 else 1 := by
  unfold cmq
  by_cases hlt : a k < b k
  · have := Ms_lt ha hb hk hlt he
    rw [if_pos (by omega), if_pos hlt]
  · have := Ms_lt hb ha hk (by omega) (fun j h1 h2 => (he j h1 h2).symm)
    rw [if_neg (by omega), if_neg (by omega), if_neg (by omega)]
theorem cmq_eq {a b : Nat → Int} {n : Nat} {u v : Int} (ea : Ms a n = u) (eb : Ms b n = v) (he : ∀ j, j < n → a j = b j) : cmq u v = 0 := by
  have : u = v := by rw [← ea, ← eb]; exact Ms_congr he
  unfold cmq
  rw [if_neg (by omega), if_pos this]
/-- comparing two numbers by sign and size -/
theorem cmq_sign {u v su sv : Int} (hu : (su = 1 ∧ 0 < u) ∨ (su = 0 ∧ u = 0) ∨ (su = -1 ∧ u < 0)) (hv : (sv = 1 ∧ 0 < v) ∨ (sv = 0 ∧ v = 0) ∨ (sv = -1 ∧ v < 0)) (h : su ≠ sv) : cmq u v = if su < sv then -1 else 1 := by
  unfold cmq
  by_cases hs : su < sv
  · rw [if_pos (by omega), if_pos hs]
  · rw [if_neg (by omega), if_neg (by omega), if_neg hs]
theorem cmq_same {u v su sv : Int} (hu : (su = 1 ∧ 0 < u) ∨ (su = 0 ∧ u = 0) ∨ (su = -1 ∧ u < 0)) (hv : (sv = 1 ∧ 0 < v) ∨ (sv = 0 ∧ v = 0) ∨ (sv = -1 ∧ v < 0)) (h : su = sv) : cmq u v = if su < 0 then -cmq (u.natAbs : Int) (v.natAbs : Int) else cmq (u.natAbs : Int) (v.natAbs : Int) := by
  unfold cmq
  by_cases hs : su < 0
  · rw [if_pos hs]
    split
    · rw [if_neg (by omega), if_neg (by omega)]
    · split
      · rw [if_neg (by omega), if_pos (by omega)]; rfl
      · rw [if_pos (by omega)]; rfl
  · rw [if_neg hs]
    split
    · rw [if_pos (by omega)]
    · split
      · rw [if_neg (by omega), if_pos (by omega)]
      · rw [if_neg (by omega), if_neg (by omega)]
/-- sums of numbers with the same sign, and with different ones -/
theorem sum_same {u v s su sv w : Int} (hw : w = 1 ∨ w = -1) (hu : (su = 1 ∧ 0 < u) ∨ (su = 0 ∧ u = 0) ∨ (su = -1 ∧ u < 0)) (hv : (sv = 1 ∧ 0 < v) ∨ (sv = 0 ∧ v = 0) ∨ (sv = -1 ∧ v < 0)) (hs : s = sv * w) (h0 : s ≠ 0) (h : su = 0 ∨ su = s) : ((u + w * v).natAbs : Int) = (u.natAbs : Int) + (v.natAbs : Int) ∧ s = (u + w * v).sign := by
  rcases hw with rfl | rfl <;> rcases hv with ⟨rfl, h1⟩ | ⟨rfl, h1⟩ | ⟨rfl, h1⟩ <;> simp at hs <;> subst hs <;> (try (exfalso; omega)) <;> refine ⟨by omega, ?_⟩
  · rw [Int.sign_eq_one_of_pos (by omega)]
  · rw [Int.sign_eq_neg_one_of_neg (by omega)]
  · rw [Int.sign_eq_neg_one_of_neg (by omega)]
  · rw [Int.sign_eq_one_of_pos (by omega)]
theorem abs_or (z : Int) : (0 ≤ z ∧ (z.natAbs : Int) = z) ∨ (z < 0 ∧ (z.natAbs : Int) = -z) := by omega
theorem sum_diff {u v s su sv w : Int} (hw : w = 1 ∨ w = -1) (hu : (su = 1 ∧ 0 < u) ∨ (su = 0 ∧ u = 0) ∨ (su = -1 ∧ u < 0)) (hv : (sv = 1 ∧ 0 < v) ∨ (sv = 0 ∧ v = 0) ∨ (sv = -1 ∧ v < 0)) (hs : s = sv * w) (h0 : s ≠ 0) (h1 : su ≠ 0) (h2 : su ≠ s) : ((v.natAbs : Int) ≤ (u.natAbs : Int) → ((u + w * v).natAbs : Int) = (u.natAbs : Int) - (v.natAbs : Int) ∧ (u + w * v ≠ 0 → su = (u + w * v).sign)) ∧ ((u.natAbs : Int) ≤ (v.natAbs : Int) → ((u + w * v).natAbs : Int) = (v.natAbs : Int) - (u.natAbs : Int) ∧ (u + w * v ≠ 0 → s = (u + w * v).sign)) := by
  have sgp : ∀ z : Int, 0 < z → z.sign = 1 := fun z h => Int.sign_eq_one_of_pos h
  have sgn : ∀ z : Int, z < 0 → z.sign = -1 := fun z h => Int.sign_eq_neg_one_of_neg h
  -- su and s are 1 and -1, or -1 and 1; w * v has the sign s
  obtain ⟨x, hx⟩ : ∃ x, x = w * v := ⟨_, rfl⟩
  have hxs : (s = 1 ∧ 0 < x) ∨ (s = -1 ∧ x < 0) := by
    rcases hw with rfl | rfl <;> rcases hv with ⟨rfl, h3⟩ | ⟨rfl, h3⟩ | ⟨rfl, h3⟩ <;> omega
  have hxa : (x.natAbs : Int) = (v.natAbs : Int) := by
    rcases hw with rfl | rfl <;> omega
  rw [← hx, ← hxa]
  have a1 := abs_or u
  have a2 := abs_or x
  have a3 := abs_or (u + x)
  generalize (u.natAbs : Int) = U at *
  generalize (x.natAbs : Int) = X at *
  generalize ((u + x).natAbs : Int) = Y at *
  clear hv hs hw hx hxa
  rcases hxs with ⟨rfl, h3⟩ | ⟨rfl, h3⟩ <;> rcases hu with ⟨rfl, h4⟩ | ⟨rfl, h4⟩ | ⟨rfl, h4⟩ <;> (try (exfalso; omega)) <;> refine ⟨fun h5 => ⟨by omega, fun h6 => ?_⟩, fun h5 => ⟨by omega, fun h6 => ?_⟩⟩
  · rw [sgn _ (by omega)]
  · rw [sgp _ (by omega)]
  · rw [sgp _ (by omega)]
  · rw [sgn _ (by omega)]
theorem mw_keys {X : List (Nat × va_E)} {k a : Nat} {e0 e : va_E} (h1 : X[k]? = some (a, e0)) : (X.set k (a, e)).map Prod.fst = X.map Prod.fst := by
  rw [List.map_set]
  exact List.ext_getElem? (fun i => by
    rw [List.getElem?_set]
    split
    · rename_i hi
      subst hi
      rw [List.getElem?_map, h1]
      have : k < X.length := by
        rw [List.getElem?_eq_some_iff] at h1
        exact h1.1
      simp [this]
    · rfl)
theorem mw_put3 {f : Nat → va_E} {X : List (Nat × va_E)} (hN : (X.map Prod.fst).Nodup) {k1 k2 k3 a b d : Nat} {e1 e2 e3 d1 d2 d3 : va_E} (h3 : X[k3]? = some (d, e3)) (h2 : (X.set k3 (d, d3))[k2]? = some (b, e2)) (h1 : ((X.set k3 (d, d3)).set k2 (b, d2))[k1]? = some (a, e1)) : mw (mw f X) [(a, d1), (b, d2), (d, d3)] = mw f (((X.set k3 (d, d3)).set k2 (b, d2)).set k1 (a, d1)) := by
  rw [mw_set (by rw [mw_keys h2, mw_keys h3]; exact hN) h1, mw_set (by rw [mw_keys h3]; exact hN) h2, mw_set hN h3]
  rfl
theorem d_Mo_sizes_0 : decode prog_9_method_8_code 0 = .ok (.aload_n 0, 1) := by decide +kernel
theorem d_Mo_sizes_1 : decode prog_9_method_8_code 1 = .ok (.getfield 13, 3) := by decide +kernel
theorem d_Mo_sizes_4 : decode prog_9_method_8_code 4 = .ok (.iload_n 1, 1) := by decide +kernel
theorem d_Mo_sizes_5 : decode prog_9_method_8_code 5 = .ok (.iaload, 1) := by decide +kernel
theorem d_Mo_sizes_6 : decode prog_9_method_8_code 6 = .ok (.aload_n 0, 1) := by decide +kernel
theorem d_Mo_sizes_7 : decode prog_9_method_8_code 7 = .ok (.getfield 13, 3) := by decide +kernel
theorem d_Mo_sizes_10 : decode prog_9_method_8_code 10 = .ok (.iload_n 2, 1) := by decide +kernel
theorem d_Mo_sizes_11 : decode prog_9_method_8_code 11 = .ok (.iaload, 1) := by decide +kernel
theorem d_Mo_sizes_12 : decode prog_9_method_8_code 12 = .ok (.if_icmp .eq 24, 3) := by decide +kernel
theorem d_Mo_sizes_15 : decode prog_9_method_8_code 15 = .ok (.aload_n 0, 1) := by decide +kernel
theorem d_Mo_sizes_16 : decode prog_9_method_8_code 16 = .ok (.getfield 13, 3) := by decide +kernel
theorem d_Mo_sizes_19 : decode prog_9_method_8_code 19 = .ok (.iload_n 1, 1) := by decide +kernel
theorem d_Mo_sizes_20 : decode prog_9_method_8_code 20 = .ok (.iaload, 1) := by decide +kernel
theorem d_Mo_sizes_21 : decode prog_9_method_8_code 21 = .ok (.aload_n 0, 1) := by decide +kernel
theorem d_Mo_sizes_22 : decode prog_9_method_8_code 22 = .ok (.getfield 13, 3) := by decide +kernel
theorem d_Mo_sizes_25 : decode prog_9_method_8_code 25 = .ok (.iload_n 2, 1) := by decide +kernel
theorem d_Mo_sizes_26 : decode prog_9_method_8_code 26 = .ok (.iaload, 1) := by decide +kernel
theorem d_Mo_sizes_27 : decode prog_9_method_8_code 27 = .ok (.if_icmp .ge 7, 3) := by decide +kernel
theorem d_Mo_sizes_30 : decode prog_9_method_8_code 30 = .ok (.iconst (-1), 1) := by decide +kernel
theorem d_Mo_sizes_31 : decode prog_9_method_8_code 31 = .ok (.goto 4, 3) := by decide +kernel
theorem d_Mo_sizes_34 : decode prog_9_method_8_code 34 = .ok (.iconst 1, 1) := by decide +kernel
theorem d_Mo_sizes_35 : decode prog_9_method_8_code 35 = .ok (.ireturn, 1) := by decide +kernel
theorem d_Mo_sizes_36 : decode prog_9_method_8_code 36 = .ok (.aload_n 0, 1) := by decide +kernel
theorem d_Mo_sizes_37 : decode prog_9_method_8_code 37 = .ok (.getfield 13, 3) := by decide +kernel
theorem d_Mo_sizes_40 : decode prog_9_method_8_code 40 = .ok (.iload_n 1, 1) := by decide +kernel
theorem d_Mo_sizes_41 : decode prog_9_method_8_code 41 = .ok (.iaload, 1) := by decide +kernel
theorem d_Mo_sizes_42 : decode prog_9_method_8_code 42 = .ok (.iconst 1, 1) := by decide +kernel
theorem d_Mo_sizes_43 : decode prog_9_method_8_code 43 = .ok (.isub, 1) := by decide +kernel
theorem d_Mo_sizes_44 : decode prog_9_method_8_code 44 = .ok (.istore_n 3, 1) := by decide +kernel
theorem d_Mo_sizes_45 : decode prog_9_method_8_code 45 = .ok (.iload_n 3, 1) := by decide +kernel
theorem d_Mo_sizes_46 : decode prog_9_method_8_code 46 = .ok (.ifCond .lt 63, 3) := by decide +kernel
theorem d_Mo_sizes_49 : decode prog_9_method_8_code 49 = .ok (.aload_n 0, 1) := by decide +kernel
theorem d_Mo_sizes_50 : decode prog_9_method_8_code 50 = .ok (.getfield 7, 3) := by decide +kernel
theorem d_Mo_sizes_53 : decode prog_9_method_8_code 53 = .ok (.bipush 64, 2) := by decide +kernel
theorem d_Mo_sizes_55 : decode prog_9_method_8_code 55 = .ok (.iload_n 1, 1) := by decide +kernel
theorem d_Mo_sizes_56 : decode prog_9_method_8_code 56 = .ok (.imul, 1) := by decide +kernel
theorem d_Mo_sizes_57 : decode prog_9_method_8_code 57 = .ok (.iload_n 3, 1) := by decide +kernel
theorem d_Mo_sizes_58 : decode prog_9_method_8_code 58 = .ok (.iadd, 1) := by decide +kernel
theorem d_Mo_sizes_59 : decode prog_9_method_8_code 59 = .ok (.iaload, 1) := by decide +kernel
theorem d_Mo_sizes_60 : decode prog_9_method_8_code 60 = .ok (.invokestatic 57, 3) := by decide +kernel
theorem d_Mo_sizes_63 : decode prog_9_method_8_code 63 = .ok (.lstore 4, 2) := by decide +kernel
theorem d_Mo_sizes_65 : decode prog_9_method_8_code 65 = .ok (.aload_n 0, 1) := by decide +kernel
theorem d_Mo_sizes_66 : decode prog_9_method_8_code 66 = .ok (.getfield 7, 3) := by decide +kernel
theorem d_Mo_sizes_69 : decode prog_9_method_8_code 69 = .ok (.bipush 64, 2) := by decide +kernel
theorem d_Mo_sizes_71 : decode prog_9_method_8_code 71 = .ok (.iload_n 2, 1) := by decide +kernel
theorem d_Mo_sizes_72 : decode prog_9_method_8_code 72 = .ok (.imul, 1) := by decide +kernel
theorem d_Mo_sizes_73 : decode prog_9_method_8_code 73 = .ok (.iload_n 3, 1) := by decide +kernel
theorem d_Mo_sizes_74 : decode prog_9_method_8_code 74 = .ok (.iadd, 1) := by decide +kernel
theorem d_Mo_sizes_75 : decode prog_9_method_8_code 75 = .ok (.iaload, 1) := by decide +kernel
theorem d_Mo_sizes_76 : decode prog_9_method_8_code 76 = .ok (.invokestatic 57, 3) := by decide +kernel
theorem d_Mo_sizes_79 : decode prog_9_method_8_code 79 = .ok (.lstore 6, 2) := by decide +kernel
theorem d_Mo_sizes_81 : decode prog_9_method_8_code 81 = .ok (.lload 4, 2) := by decide +kernel
theorem d_Mo_sizes_83 : decode prog_9_method_8_code 83 = .ok (.lload 6, 2) := by decide +kernel
theorem d_Mo_sizes_85 : decode prog_9_method_8_code 85 = .ok (.lcmp, 1) := by decide +kernel
theorem d_Mo_sizes_86 : decode prog_9_method_8_code 86 = .ok (.ifCond .eq 17, 3) := by decide +kernel
theorem d_Mo_sizes_89 : decode prog_9_method_8_code 89 = .ok (.lload 4, 2) := by decide +kernel
theorem d_Mo_sizes_91 : decode prog_9_method_8_code 91 = .ok (.lload 6, 2) := by decide +kernel
theorem d_Mo_sizes_93 : decode prog_9_method_8_code 93 = .ok (.lcmp, 1) := by decide +kernel
theorem d_Mo_sizes_94 : decode prog_9_method_8_code 94 = .ok (.ifCond .ge 7, 3) := by decide +kernel
theorem d_Mo_sizes_97 : decode prog_9_method_8_code 97 = .ok (.iconst (-1), 1) := by decide +kernel
theorem d_Mo_sizes_98 : decode prog_9_method_8_code 98 = .ok (.goto 4, 3) := by decide +kernel
theorem d_Mo_sizes_101 : decode prog_9_method_8_code 101 = .ok (.iconst 1, 1) := by decide +kernel
theorem d_Mo_sizes_102 : decode prog_9_method_8_code 102 = .ok (.ireturn, 1) := by decide +kernel
theorem d_Mo_sizes_103 : decode prog_9_method_8_code 103 = .ok (.iinc 3 (-1), 3) := by decide +kernel
theorem d_Mo_sizes_106 : decode prog_9_method_8_code 106 = .ok (.goto (-61), 3) := by decide +kernel
theorem d_Mo_sizes_109 : decode prog_9_method_8_code 109 = .ok (.iconst 0, 1) := by decide +kernel
theorem d_Mo_sizes_110 : decode prog_9_method_8_code 110 = .ok (.ireturn, 1) := by decide +kernel
set_option maxHeartbeats 8000000 in
set_option maxRecDepth 100000 in
theorem c_Mo_sizes (l : Launch) (D : va_G) (cs : Nat → ClassId) (L : List Nat) (f : Nat → va_E) (sz : Nat) (y m1 m2 m3 m5 m6 m7 m8 m9 m10 m11 m12 m13 m15 : Nat) (th pn rw_ fu fb : Int) (lm mn sn Z : Nat → Int) (x w : Nat) (hF : Fc L [y, m1, m2, m3]) (ha : f y = .inr (7, [.int (iI th), .ref m1, .ref m2, .ref m3, .int (iI pn), .ref m5, .ref m6, .ref m7, .ref m8, .ref m9, .ref m10, .ref m11, .ref m12, .ref m13, .int (iI rw_), .ref m15, .long (lI fu), .long (lI fb)])) (hm1 : f m1 = .inl (cs 0, 11520, .inl (ai lm))) (hm2 : f m2 = .inl (cs 0, 180, .inl (ai mn))) (hm3 : f m3 = .inl (cs 0, 180, .inl (ai sn))) (hRS : RS lm mn sn Z) (hx8 : x < 180) (hw8 : w < 180) : Met l (⟨"RealRootsModel", "sizes", "(II)I"⟩ : MethodName) (.code (⟨"RealRootsModel", "sizes", "(II)I"⟩ : MethodName) prog_9_method_8_code 8 (Option.some Jvm.ClassFile.FieldType.int) :: gw) ({ frames := 1, cells := 0, slots := 0, locals := 20 }) (va_Pc [.ref y, .int (iI ((x : Int))), .int (iI ((w : Int)))] (K0 D vwCl (TY cs) L f sz)) (va_Qi (fun (r : Int32) (g : Nat → va_E) => r = iI (cmq ((Z x).natAbs : Int) ((Z w).natAbs : Int)) ∧ g = f) (K1 D vwCl (TY cs) (AL L sz) L) (AL L sz)) 0 0 (AL L sz) := by
  refine Met.ofW (cc := prog_9_method_8_code) (maxL := 8) (ret := (Option.some Jvm.ClassFile.FieldType.int)) (by decide) rfl ?_
  intro p e s m args below meth c s₁ Bd hml hv
  obtain ⟨rfl, hk0⟩ := hv
  obtain ⟨hsz, B⟩ := hk0.start
  subst hsz
  have hx := Bd.exec
  have hb := Bd.bytes
  have hr := Bd.returns
  have hlocks := Bd.notSynchronized
  have hts0 := atoms_spec Bd.pre
  have hown : s.vm.findClass RX7 = some m.cls := findClass_of_methodNamed Bd.named
  have hA : ∀ q, s.heap.size ≤ q → AL L s.heap.size q := fun _ h => Or.inr h
  have hl := lv_entry ([.ref y, .int (iI ((x : Int))), .int (iI ((w : Int)))]) (n := 8) (Nat.le_of_ble_eq_true rfl)
  rw [lg_entry_eq]
  generalize (lg_sl ([.ref y, .int (iI ((x : Int))), .int (iI ((w : Int)))]) ++ List.replicate (8 - (lg_sl ([.ref y, .int (iI ((x : Int))), .int (iI ((w : Int)))])).length) Slot.unset).toArray = ls at hl ⊢
  refine absQ (fun Q R av hQ hR hav => ?_)
  have hts : ∀ w ∈ gw, w.before av s = true := by rw [hav]; exact fun w h => hts0 w (List.mem_cons_of_mem _ h)
  have hRf : R.frames = 1 := by rw [hR]; rfl
  have hRl : R.locals = 20 := by rw [hR]; rfl
  have hRc : R.cells = 0 := by rw [hR]; rfl
  have hRs : R.slots = 0 := by rw [hR]; rfl
  clear hR hts0 Bd
  have hl : lv_has ls 8 [(0, .ref y), (1, .int (iI ((x : Int)))), (2, .int (iI ((w : Int))))] := hl
  obtain ⟨nx, hnx, hn8, hMx, htx, hvx⟩ := (hRS x hx8).nat
  obtain ⟨nw, hnw, hw64, hMw, htw, hvw⟩ := (hRS w hw8).nat
  have hfx : ∀ q ∈ ([(y, .inr (7, [.int (iI th), .ref m1, .ref m2, .ref m3, .int (iI pn), .ref m5, .ref m6, .ref m7, .ref m8, .ref m9, .ref m10, .ref m11, .ref m12, .ref m13, .int (iI rw_), .ref m15, .long (lI fu), .long (lI fb)])), (m1, .inl (cs 0, 11520, .inl (ai lm))), (m2, .inl (cs 0, 180, .inl (ai mn))), (m3, .inl (cs 0, 180, .inl (ai sn)))] : List (Nat × va_E)), f q.1 = q.2 := fun q hq => by
    simp only [List.mem_cons, List.not_mem_nil, or_false] at hq
    rcases hq with rfl | rfl | rfl | rfl
    · exact ha
    · exact hm1
    · exact hm2
    · exact hm3
  have hmw : mw f [(y, .inr (7, [.int (iI th), .ref m1, .ref m2, .ref m3, .int (iI pn), .ref m5, .ref m6, .ref m7, .ref m8, .ref m9, .ref m10, .ref m11, .ref m12, .ref m13, .int (iI rw_), .ref m15, .long (lI fu), .long (lI fb)])), (m1, .inl (cs 0, 11520, .inl (ai lm))), (m2, .inl (cs 0, 180, .inl (ai mn))), (m3, .inl (cs 0, 180, .inl (ai sn)))] = f := mw_self (fun k a e hk => hfx (a, e) (List.mem_of_getElem? hk))
  have B := B.focus [(y, .inr (7, [.int (iI th), .ref m1, .ref m2, .ref m3, .int (iI pn), .ref m5, .ref m6, .ref m7, .ref m8, .ref m9, .ref m10, .ref m11, .ref m12, .ref m13, .int (iI rw_), .ref m15, .long (lI fu), .long (lI fb)])), (m1, .inl (cs 0, 11520, .inl (ai lm))), (m2, .inl (cs 0, 180, .inl (ai mn))), (m3, .inl (cs 0, 180, .inl (ai sn)))] hfx
  refine lv_aload_n hx hb d_Mo_sizes_0 rfl (lv_at hl 0 rfl) ?_
  refine x_get (C := RX7) (T := TX7) (N := 18) hx hb hts inX7 hown B hF 0 rfl rfl 2 (by decide) (hts _ w_679) (fun _ h9 => h9) rfl d_Mo_sizes_1 ?_
  refine lv_iload_n hx hb d_Mo_sizes_4 rfl (lv_at hl 1 rfl) ?_
  refine x_iald hx hb B hF 2 0 rfl rfl x (by omega) (by omega) (by decide) d_Mo_sizes_5 ?_
  refine lv_aload_n hx hb d_Mo_sizes_6 rfl (lv_at hl 0 rfl) ?_
  refine x_get (C := RX7) (T := TX7) (N := 18) hx hb hts inX7 hown B hF 0 rfl rfl 2 (by decide) (hts _ w_679) (fun _ h9 => h9) rfl d_Mo_sizes_7 ?_
  refine lv_iload_n hx hb d_Mo_sizes_10 rfl (lv_at hl 2 rfl) ?_
  refine x_iald hx hb B hF 2 0 rfl rfl w (by omega) (by omega) (by decide) d_Mo_sizes_11 ?_
  refine x_icmp_eq (tgt := 36) hx hb d_Mo_sizes_12 (by decide) (by omega) (by omega) (fun h12 => ?_) (fun h12 => ?_)
  · have hnn : nx = nw := by omega
    refine lv_aload_n hx hb d_Mo_sizes_36 rfl (lv_at hl 0 rfl) ?_
    refine x_get (C := RX7) (T := TX7) (N := 18) hx hb hts inX7 hown B hF 0 rfl rfl 2 (by decide) (hts _ w_679) (fun _ h9 => h9) rfl d_Mo_sizes_37 ?_
    refine lv_iload_n hx hb d_Mo_sizes_40 rfl (lv_at hl 1 rfl) ?_
    refine x_iald hx hb B hF 2 0 rfl rfl x (by omega) (by omega) (by decide) d_Mo_sizes_41 ?_
    refine x_iconst hx hb d_Mo_sizes_42 ?_
    refine x_isub hx hb d_Mo_sizes_43 ?_
    refine lv_istore_n (lv' := [(3, .int (iI ((mn x) - 1))), (0, .ref y), (1, .int (iI ((x : Int)))), (2, .int (iI ((w : Int))))]) hx hb d_Mo_sizes_44 rfl hl (by decide) rfl (fun ls hl => ?_)
    have LP : ∀ (fuel : Nat) (k : Nat), k < fuel → (k ≤ nx) → (∀ j, k ≤ j → j < nx → fl lm x j = fl lm w j) → ∀ (H : Heap) (locs : List Loc) (ls : Array Slot), Wb D vwCl (TY cs) L (mw f [(y, .inr (7, [.int (iI th), .ref m1, .ref m2, .ref m3, .int (iI pn), .ref m5, .ref m6, .ref m7, .ref m8, .ref m9, .ref m10, .ref m11, .ref m12, .ref m13, .int (iI rw_), .ref m15, .long (lI fu), .long (lI fb)])), (m1, .inl (cs 0, 11520, .inl (ai lm))), (m2, .inl (cs 0, 180, .inl (ai mn))), (m3, .inl (cs 0, 180, .inl (ai sn)))]) (AL L s.heap.size) s H locs → lv_has ls 8 [(3, .int (iI ((k : Int) - 1))), (0, .ref y), (1, .int (iI ((x : Int)))), (2, .int (iI ((w : Int))))] → W p l e R s m av below meth c H locs (0) (0) Q (F0 m 45 ls []) := by
      intro fuel
      induction fuel with
      | zero => intro k hfu; exact absurd hfu (Nat.not_lt_zero _)
      | succ fuel ih_LP =>
        intro k hfu_LP hk he H locs ls B hl
        refine lv_iload_n hx hb d_Mo_sizes_45 rfl (lv_at hl 0 rfl) ?_
        refine x_if_lt (tgt := 109) hx hb d_Mo_sizes_46 (by decide) (by omega) (fun h46 => ?_) (fun h46 => ?_)
        · refine x_iconst hx hb d_Mo_sizes_109 ?_
          have B := B.of_eq hmw
          subst hQ hav
          exact x_iret hx hb hr hlocks B d_Mo_sizes_110 (⟨by rw [cmq_eq hvx (by rw [hnn]; exact hvw) (fun j hj => he j (by omega) hj)], rfl⟩)
        · have hx1 : 0 ≤ lm (64 * x + (k - 1)) ∧ lm (64 * x + (k - 1)) < 4294967296 := hMx (k - 1) (by omega)
          have hw1 : 0 ≤ lm (64 * w + (k - 1)) ∧ lm (64 * w + (k - 1)) < 4294967296 := hMw (k - 1) (by omega)
          refine lv_aload_n hx hb d_Mo_sizes_49 rfl (lv_at hl 1 rfl) ?_
          refine x_get (C := RX7) (T := TX7) (N := 18) hx hb hts inX7 hown B hF 0 rfl rfl 1 (by decide) (hts _ w_678) (fun _ h9 => h9) rfl d_Mo_sizes_50 ?_
          refine x_bipush hx hb d_Mo_sizes_53 (by decide) ?_
          refine lv_iload_n hx hb d_Mo_sizes_55 rfl (lv_at hl 2 rfl) ?_
          refine x_imul hx hb d_Mo_sizes_56 ?_
          refine lv_iload_n hx hb d_Mo_sizes_57 rfl (lv_at hl 0 rfl) ?_
          refine x_iadd hx hb d_Mo_sizes_58 ?_
          refine x_iald hx hb B hF 1 0 rfl rfl (64 * x + (k - 1)) (by omega) (by omega) (by decide) d_Mo_sizes_59 ?_
          refine x_calll B hA (va_runS (As := [.int (iI (lm (64 * x + (k - 1))))]) (rest := []) ⟨hx, hb, hml, hown, hts⟩ (c_Mo_low l D cs _ _ _ (lm (64 * x + (k - 1)))) (va_cwS 1 hts (gw_S w_812 w_813 w_8 w_814) rfl rfl rfl (by decide +kernel) ⟨by rw [hRf]; exact Nat.le_of_ble_eq_true rfl, by rw [hRl]; exact Nat.le_of_ble_eq_true rfl⟩) ⟨K0.blind, B.pre _⟩ rfl rfl hl.1 rfl (lv_room (Nat.le_of_ble_eq_true rfl)) d_Mo_sizes_60 ⟨by rw [hRc]; omega, by rw [hRs]; omega⟩) (fun r60 g60 H locs hw B => ?_)
          obtain ⟨rfl, rfl⟩ := hw
          have B : Wb D vwCl (TY cs) L (mw f [(y, .inr (7, [.int (iI th), .ref m1, .ref m2, .ref m3, .int (iI pn), .ref m5, .ref m6, .ref m7, .ref m8, .ref m9, .ref m10, .ref m11, .ref m12, .ref m13, .int (iI rw_), .ref m15, .long (lI fu), .long (lI fb)])), (m1, .inl (cs 0, 11520, .inl (ai lm))), (m2, .inl (cs 0, 180, .inl (ai mn))), (m3, .inl (cs 0, 180, .inl (ai sn)))]) (AL L s.heap.size) s H _ := B
          refine lv_lstore (lv' := [(4, .long (lI ((lm (64 * x + (k - 1))) % 4294967296))), (3, .int (iI ((k : Int) - 1))), (0, .ref y), (1, .int (iI ((x : Int)))), (2, .int (iI ((w : Int))))]) hx hb d_Mo_sizes_63 hl (by decide) rfl (fun ls hl => ?_)
          refine lv_aload_n hx hb d_Mo_sizes_65 rfl (lv_at hl 2 rfl) ?_
          refine x_get (C := RX7) (T := TX7) (N := 18) hx hb hts inX7 hown B hF 0 rfl rfl 1 (by decide) (hts _ w_678) (fun _ h9 => h9) rfl d_Mo_sizes_66 ?_
          refine x_bipush hx hb d_Mo_sizes_69 (by decide) ?_
          refine lv_iload_n hx hb d_Mo_sizes_71 rfl (lv_at hl 4 rfl) ?_
          refine x_imul hx hb d_Mo_sizes_72 ?_
          refine lv_iload_n hx hb d_Mo_sizes_73 rfl (lv_at hl 1 rfl) ?_
          refine x_iadd hx hb d_Mo_sizes_74 ?_
          refine x_iald hx hb B hF 1 0 rfl rfl (64 * w + (k - 1)) (by omega) (by omega) (by decide) d_Mo_sizes_75 ?_
          refine x_calll B hA (va_runS (As := [.int (iI (lm (64 * w + (k - 1))))]) (rest := []) ⟨hx, hb, hml, hown, hts⟩ (c_Mo_low l D cs _ _ _ (lm (64 * w + (k - 1)))) (va_cwS 1 hts (gw_S w_812 w_813 w_8 w_814) rfl rfl rfl (by decide +kernel) ⟨by rw [hRf]; exact Nat.le_of_ble_eq_true rfl, by rw [hRl]; exact Nat.le_of_ble_eq_true rfl⟩) ⟨K0.blind, B.pre _⟩ rfl rfl hl.1 rfl (lv_room (Nat.le_of_ble_eq_true rfl)) d_Mo_sizes_76 ⟨by rw [hRc]; omega, by rw [hRs]; omega⟩) (fun r76 g76 H locs hw B => ?_)
          obtain ⟨rfl, rfl⟩ := hw
          have B : Wb D vwCl (TY cs) L (mw f [(y, .inr (7, [.int (iI th), .ref m1, .ref m2, .ref m3, .int (iI pn), .ref m5, .ref m6, .ref m7, .ref m8, .ref m9, .ref m10, .ref m11, .ref m12, .ref m13, .int (iI rw_), .ref m15, .long (lI fu), .long (lI fb)])), (m1, .inl (cs 0, 11520, .inl (ai lm))), (m2, .inl (cs 0, 180, .inl (ai mn))), (m3, .inl (cs 0, 180, .inl (ai sn)))]) (AL L s.heap.size) s H _ := B
          refine lv_lstore (lv' := [(6, .long (lI ((lm (64 * w + (k - 1))) % 4294967296))), (4, .long (lI ((lm (64 * x + (k - 1))) % 4294967296))), (3, .int (iI ((k : Int) - 1))), (0, .ref y), (1, .int (iI ((x : Int)))), (2, .int (iI ((w : Int))))]) hx hb d_Mo_sizes_79 hl (by decide) rfl (fun ls hl => ?_)
          refine lv_lload hx hb d_Mo_sizes_81 (lv_at hl 1 rfl) ?_
          refine lv_lload hx hb d_Mo_sizes_83 (lv_at hl 0 rfl) ?_
          refine x_lc_eq (tgt := 103) hx hb d_Mo_sizes_85 rfl d_Mo_sizes_86 (by decide) (by omega) (by omega) (fun h86 => ?_) (fun h86 => ?_)
          · refine x_iinc (lv' := [(3, .int (iI (((k : Int) - 1) + (-1)))), (6, .long (lI ((lm (64 * w + (k - 1))) % 4294967296))), (4, .long (lI ((lm (64 * x + (k - 1))) % 4294967296))), (0, .ref y), (1, .int (iI ((x : Int)))), (2, .int (iI ((w : Int))))]) hx hb d_Mo_sizes_103 hl (q := 2) rfl rfl (by decide) rfl (fun ls hl => ?_)
            refine lv_goto (tgt := 45) hx hb d_Mo_sizes_106 (by decide) ?_
            rw [show (k : Int) - 1 + (-1) = ((k - 1 : Nat) : Int) - 1 by omega] at hl
            exact ih_LP (k - 1) (by omega) (by omega) (fun j h1 h2 => by
          by_cases hj : k ≤ j
          · exact he j hj h2
          · rw [show j = k - 1 by omega]; exact (show lm (64 * x + (k - 1)) = lm (64 * w + (k - 1)) by omega)) _ _ _ B (lv_sub hl [0, 3, 4, 5] rfl)
          · refine lv_lload hx hb d_Mo_sizes_89 (lv_at hl 1 rfl) ?_
            refine lv_lload hx hb d_Mo_sizes_91 (lv_at hl 0 rfl) ?_
            refine x_lc_ge (tgt := 101) hx hb d_Mo_sizes_93 rfl d_Mo_sizes_94 (by decide) (by omega) (by omega) (fun h94 => ?_) (fun h94 => ?_)
            · refine x_iconst hx hb d_Mo_sizes_101 ?_
              have B := B.of_eq hmw
              subst hQ hav
              exact x_iret hx hb hr hlocks B d_Mo_sizes_102 (⟨by rw [cmq_limb (k := k - 1) hMx (by rw [hnn]; exact hMw) hvx (by rw [hnn]; exact hvw) (by omega) (fun j h1 h2 => he j (by omega) h2) (show lm (64 * x + (k - 1)) ≠ lm (64 * w + (k - 1)) by omega), if_neg (show ¬ fl lm x (k - 1) < fl lm w (k - 1) from (show ¬ lm (64 * x + (k - 1)) < lm (64 * w + (k - 1)) by omega))], rfl⟩)
            · refine x_iconst hx hb d_Mo_sizes_97 ?_
              refine lv_goto (tgt := 102) hx hb d_Mo_sizes_98 (by decide) ?_
              have B := B.of_eq hmw
              subst hQ hav
              exact x_iret hx hb hr hlocks B d_Mo_sizes_102 (⟨by rw [cmq_limb (k := k - 1) hMx (by rw [hnn]; exact hMw) hvx (by rw [hnn]; exact hvw) (by omega) (fun j h1 h2 => he j (by omega) h2) (show lm (64 * x + (k - 1)) ≠ lm (64 * w + (k - 1)) by omega), if_pos (show fl lm x (k - 1) < fl lm w (k - 1) from (show lm (64 * x + (k - 1)) < lm (64 * w + (k - 1)) by omega))], rfl⟩)
    rw [hnx] at hl
    exact LP _ nx (Nat.lt_succ_self _) (by omega) (fun j h1 h2 => by omega) _ _ _ B (lv_sub hl [0, 1, 2, 3] rfl)
  · refine lv_aload_n hx hb d_Mo_sizes_15 rfl (lv_at hl 0 rfl) ?_
    refine x_get (C := RX7) (T := TX7) (N := 18) hx hb hts inX7 hown B hF 0 rfl rfl 2 (by decide) (hts _ w_679) (fun _ h9 => h9) rfl d_Mo_sizes_16 ?_
    refine lv_iload_n hx hb d_Mo_sizes_19 rfl (lv_at hl 1 rfl) ?_
    refine x_iald hx hb B hF 2 0 rfl rfl x (by omega) (by omega) (by decide) d_Mo_sizes_20 ?_
    refine lv_aload_n hx hb d_Mo_sizes_21 rfl (lv_at hl 0 rfl) ?_
    refine x_get (C := RX7) (T := TX7) (N := 18) hx hb hts inX7 hown B hF 0 rfl rfl 2 (by decide) (hts _ w_679) (fun _ h9 => h9) rfl d_Mo_sizes_22 ?_
    refine lv_iload_n hx hb d_Mo_sizes_25 rfl (lv_at hl 2 rfl) ?_
    refine x_iald hx hb B hF 2 0 rfl rfl w (by omega) (by omega) (by decide) d_Mo_sizes_26 ?_
    refine x_icmp_ge (tgt := 34) hx hb d_Mo_sizes_27 (by decide) (by omega) (by omega) (fun h27 => ?_) (fun h27 => ?_)
    · refine x_iconst hx hb d_Mo_sizes_34 ?_
      have B := B.of_eq hmw
      subst hQ hav
      exact x_iret hx hb hr hlocks B d_Mo_sizes_35 (⟨by rw [cmq_sizes hMx hMw htx htw hvx hvw (by omega), if_neg (by omega)], rfl⟩)
    · refine x_iconst hx hb d_Mo_sizes_30 ?_
      refine lv_goto (tgt := 35) hx hb d_Mo_sizes_31 (by decide) ?_
      have B := B.of_eq hmw
      subst hQ hav
      exact x_iret hx hb hr hlocks B d_Mo_sizes_35 (⟨by rw [cmq_sizes hMx hMw htx htw hvx hvw (by omega), if_pos (by omega)], rfl⟩)
theorem d_Mo_compareNumbers_0 : decode prog_9_method_9_code 0 = .ok (.aload_n 0, 1) := by decide +kernel
theorem d_Mo_compareNumbers_1 : decode prog_9_method_9_code 1 = .ok (.getfield 16, 3) := by decide +kernel
theorem d_Mo_compareNumbers_4 : decode prog_9_method_9_code 4 = .ok (.iload_n 1, 1) := by decide +kernel
theorem d_Mo_compareNumbers_5 : decode prog_9_method_9_code 5 = .ok (.iaload, 1) := by decide +kernel
theorem d_Mo_compareNumbers_6 : decode prog_9_method_9_code 6 = .ok (.aload_n 0, 1) := by decide +kernel
theorem d_Mo_compareNumbers_7 : decode prog_9_method_9_code 7 = .ok (.getfield 16, 3) := by decide +kernel
theorem d_Mo_compareNumbers_10 : decode prog_9_method_9_code 10 = .ok (.iload_n 2, 1) := by decide +kernel
theorem d_Mo_compareNumbers_11 : decode prog_9_method_9_code 11 = .ok (.iaload, 1) := by decide +kernel
theorem d_Mo_compareNumbers_12 : decode prog_9_method_9_code 12 = .ok (.if_icmp .eq 24, 3) := by decide +kernel
theorem d_Mo_compareNumbers_15 : decode prog_9_method_9_code 15 = .ok (.aload_n 0, 1) := by decide +kernel
theorem d_Mo_compareNumbers_16 : decode prog_9_method_9_code 16 = .ok (.getfield 16, 3) := by decide +kernel
theorem d_Mo_compareNumbers_19 : decode prog_9_method_9_code 19 = .ok (.iload_n 1, 1) := by decide +kernel
theorem d_Mo_compareNumbers_20 : decode prog_9_method_9_code 20 = .ok (.iaload, 1) := by decide +kernel
theorem d_Mo_compareNumbers_21 : decode prog_9_method_9_code 21 = .ok (.aload_n 0, 1) := by decide +kernel
theorem d_Mo_compareNumbers_22 : decode prog_9_method_9_code 22 = .ok (.getfield 16, 3) := by decide +kernel
theorem d_Mo_compareNumbers_25 : decode prog_9_method_9_code 25 = .ok (.iload_n 2, 1) := by decide +kernel
theorem d_Mo_compareNumbers_26 : decode prog_9_method_9_code 26 = .ok (.iaload, 1) := by decide +kernel
theorem d_Mo_compareNumbers_27 : decode prog_9_method_9_code 27 = .ok (.if_icmp .ge 7, 3) := by decide +kernel
theorem d_Mo_compareNumbers_30 : decode prog_9_method_9_code 30 = .ok (.iconst (-1), 1) := by decide +kernel
theorem d_Mo_compareNumbers_31 : decode prog_9_method_9_code 31 = .ok (.goto 4, 3) := by decide +kernel
theorem d_Mo_compareNumbers_34 : decode prog_9_method_9_code 34 = .ok (.iconst 1, 1) := by decide +kernel
theorem d_Mo_compareNumbers_35 : decode prog_9_method_9_code 35 = .ok (.ireturn, 1) := by decide +kernel
theorem d_Mo_compareNumbers_36 : decode prog_9_method_9_code 36 = .ok (.aload_n 0, 1) := by decide +kernel
theorem d_Mo_compareNumbers_37 : decode prog_9_method_9_code 37 = .ok (.getfield 16, 3) := by decide +kernel
theorem d_Mo_compareNumbers_40 : decode prog_9_method_9_code 40 = .ok (.iload_n 1, 1) := by decide +kernel
theorem d_Mo_compareNumbers_41 : decode prog_9_method_9_code 41 = .ok (.iaload, 1) := by decide +kernel
theorem d_Mo_compareNumbers_42 : decode prog_9_method_9_code 42 = .ok (.ifCond .ge 13, 3) := by decide +kernel
theorem d_Mo_compareNumbers_45 : decode prog_9_method_9_code 45 = .ok (.aload_n 0, 1) := by decide +kernel
theorem d_Mo_compareNumbers_46 : decode prog_9_method_9_code 46 = .ok (.iload_n 1, 1) := by decide +kernel
theorem d_Mo_compareNumbers_47 : decode prog_9_method_9_code 47 = .ok (.iload_n 2, 1) := by decide +kernel
theorem d_Mo_compareNumbers_48 : decode prog_9_method_9_code 48 = .ok (.invokevirtual 61, 3) := by decide +kernel
theorem d_Mo_compareNumbers_51 : decode prog_9_method_9_code 51 = .ok (.ineg, 1) := by decide +kernel
theorem d_Mo_compareNumbers_52 : decode prog_9_method_9_code 52 = .ok (.goto 9, 3) := by decide +kernel
theorem d_Mo_compareNumbers_55 : decode prog_9_method_9_code 55 = .ok (.aload_n 0, 1) := by decide +kernel
theorem d_Mo_compareNumbers_56 : decode prog_9_method_9_code 56 = .ok (.iload_n 1, 1) := by decide +kernel
theorem d_Mo_compareNumbers_57 : decode prog_9_method_9_code 57 = .ok (.iload_n 2, 1) := by decide +kernel
theorem d_Mo_compareNumbers_58 : decode prog_9_method_9_code 58 = .ok (.invokevirtual 61, 3) := by decide +kernel
theorem d_Mo_compareNumbers_61 : decode prog_9_method_9_code 61 = .ok (.ireturn, 1) := by decide +kernel
set_option maxHeartbeats 8000000 in
set_option maxRecDepth 100000 in
theorem c_Mo_compareNumbers (l : Launch) (D : va_G) (cs : Nat → ClassId) (L : List Nat) (f : Nat → va_E) (sz : Nat) (y m1 m2 m3 m5 m6 m7 m8 m9 m10 m11 m12 m13 m15 : Nat) (th pn rw_ fu fb : Int) (lm mn sn Z : Nat → Int) (x w : Nat) (hF : Fc L [y, m1, m2, m3]) (ha : f y = .inr (7, [.int (iI th), .ref m1, .ref m2, .ref m3, .int (iI pn), .ref m5, .ref m6, .ref m7, .ref m8, .ref m9, .ref m10, .ref m11, .ref m12, .ref m13, .int (iI rw_), .ref m15, .long (lI fu), .long (lI fb)])) (hm1 : f m1 = .inl (cs 0, 11520, .inl (ai lm))) (hm2 : f m2 = .inl (cs 0, 180, .inl (ai mn))) (hm3 : f m3 = .inl (cs 0, 180, .inl (ai sn))) (hRS : RS lm mn sn Z) (hx8 : x < 180) (hw8 : w < 180) : Met l (⟨"RealRootsModel", "compareNumbers", "(II)I"⟩ : MethodName) (.code (⟨"RealRootsModel", "compareNumbers", "(II)I"⟩ : MethodName) prog_9_method_9_code 3 (Option.some Jvm.ClassFile.FieldType.int) :: gw) ({ frames := 2, cells := 0, slots := 0, locals := 47 }) (va_Pc [.ref y, .int (iI ((x : Int))), .int (iI ((w : Int)))] (K0 D vwCl (TY cs) L f sz)) (va_Qi (fun (r : Int32) (g : Nat → va_E) => r = iI (cmq (Z x) (Z w)) ∧ g = f) (K1 D vwCl (TY cs) (AL L sz) L) (AL L sz)) 0 0 (AL L sz) := by
  refine Met.ofW (cc := prog_9_method_9_code) (maxL := 3) (ret := (Option.some Jvm.ClassFile.FieldType.int)) (by decide) rfl ?_
  intro p e s m args below meth c s₁ Bd hml hv
  obtain ⟨rfl, hk0⟩ := hv
  obtain ⟨hsz, B⟩ := hk0.start
  subst hsz
  have hx := Bd.exec
  have hb := Bd.bytes
  have hr := Bd.returns
  have hlocks := Bd.notSynchronized
  have hts0 := atoms_spec Bd.pre
  have hown : s.vm.findClass RX7 = some m.cls := findClass_of_methodNamed Bd.named
  have hA : ∀ q, s.heap.size ≤ q → AL L s.heap.size q := fun _ h => Or.inr h
  have hl := lv_entry ([.ref y, .int (iI ((x : Int))), .int (iI ((w : Int)))]) (n := 3) (Nat.le_of_ble_eq_true rfl)
  rw [lg_entry_eq]
  generalize (lg_sl ([.ref y, .int (iI ((x : Int))), .int (iI ((w : Int)))]) ++ List.replicate (3 - (lg_sl ([.ref y, .int (iI ((x : Int))), .int (iI ((w : Int)))])).length) Slot.unset).toArray = ls at hl ⊢
  refine absQ (fun Q R av hQ hR hav => ?_)
  have hts : ∀ w ∈ gw, w.before av s = true := by rw [hav]; exact fun w h => hts0 w (List.mem_cons_of_mem _ h)
  have hRf : R.frames = 2 := by rw [hR]; rfl
  have hRl : R.locals = 47 := by rw [hR]; rfl
  have hRc : R.cells = 0 := by rw [hR]; rfl
  have hRs : R.slots = 0 := by rw [hR]; rfl
  clear hR hts0 Bd
  have hl : lv_has ls 3 [(0, .ref y), (1, .int (iI ((x : Int)))), (2, .int (iI ((w : Int))))] := hl
  have hsx := (hRS x hx8).side
  have hsw := (hRS w hw8).side
  have hfx : ∀ q ∈ ([(y, .inr (7, [.int (iI th), .ref m1, .ref m2, .ref m3, .int (iI pn), .ref m5, .ref m6, .ref m7, .ref m8, .ref m9, .ref m10, .ref m11, .ref m12, .ref m13, .int (iI rw_), .ref m15, .long (lI fu), .long (lI fb)])), (m1, .inl (cs 0, 11520, .inl (ai lm))), (m2, .inl (cs 0, 180, .inl (ai mn))), (m3, .inl (cs 0, 180, .inl (ai sn)))] : List (Nat × va_E)), f q.1 = q.2 := fun q hq => by
    simp only [List.mem_cons, List.not_mem_nil, or_false] at hq
    rcases hq with rfl | rfl | rfl | rfl
    · exact ha
    · exact hm1
    · exact hm2
    · exact hm3
  have hmw : mw f [(y, .inr (7, [.int (iI th), .ref m1, .ref m2, .ref m3, .int (iI pn), .ref m5, .ref m6, .ref m7, .ref m8, .ref m9, .ref m10, .ref m11, .ref m12, .ref m13, .int (iI rw_), .ref m15, .long (lI fu), .long (lI fb)])), (m1, .inl (cs 0, 11520, .inl (ai lm))), (m2, .inl (cs 0, 180, .inl (ai mn))), (m3, .inl (cs 0, 180, .inl (ai sn)))] = f := mw_self (fun k a e hk => hfx (a, e) (List.mem_of_getElem? hk))
  have B := B.focus [(y, .inr (7, [.int (iI th), .ref m1, .ref m2, .ref m3, .int (iI pn), .ref m5, .ref m6, .ref m7, .ref m8, .ref m9, .ref m10, .ref m11, .ref m12, .ref m13, .int (iI rw_), .ref m15, .long (lI fu), .long (lI fb)])), (m1, .inl (cs 0, 11520, .inl (ai lm))), (m2, .inl (cs 0, 180, .inl (ai mn))), (m3, .inl (cs 0, 180, .inl (ai sn)))] hfx
  refine lv_aload_n hx hb d_Mo_compareNumbers_0 rfl (lv_at hl 0 rfl) ?_
  refine x_get (C := RX7) (T := TX7) (N := 18) hx hb hts inX7 hown B hF 0 rfl rfl 3 (by decide) (hts _ w_680) (fun _ h9 => h9) rfl d_Mo_compareNumbers_1 ?_
  refine lv_iload_n hx hb d_Mo_compareNumbers_4 rfl (lv_at hl 1 rfl) ?_
  refine x_iald hx hb B hF 3 0 rfl rfl x (by omega) (by omega) (by decide) d_Mo_compareNumbers_5 ?_
  refine lv_aload_n hx hb d_Mo_compareNumbers_6 rfl (lv_at hl 0 rfl) ?_
  refine x_get (C := RX7) (T := TX7) (N := 18) hx hb hts inX7 hown B hF 0 rfl rfl 3 (by decide) (hts _ w_680) (fun _ h9 => h9) rfl d_Mo_compareNumbers_7 ?_
  refine lv_iload_n hx hb d_Mo_compareNumbers_10 rfl (lv_at hl 2 rfl) ?_
  refine x_iald hx hb B hF 3 0 rfl rfl w (by omega) (by omega) (by decide) d_Mo_compareNumbers_11 ?_
  refine x_icmp_eq (tgt := 36) hx hb d_Mo_compareNumbers_12 (by decide) (by omega) (by omega) (fun h12 => ?_) (fun h12 => ?_)
  · refine lv_aload_n hx hb d_Mo_compareNumbers_36 rfl (lv_at hl 0 rfl) ?_
    refine x_get (C := RX7) (T := TX7) (N := 18) hx hb hts inX7 hown B hF 0 rfl rfl 3 (by decide) (hts _ w_680) (fun _ h9 => h9) rfl d_Mo_compareNumbers_37 ?_
    refine lv_iload_n hx hb d_Mo_compareNumbers_40 rfl (lv_at hl 1 rfl) ?_
    refine x_iald hx hb B hF 3 0 rfl rfl x (by omega) (by omega) (by decide) d_Mo_compareNumbers_41 ?_
    refine x_if_ge (tgt := 55) hx hb d_Mo_compareNumbers_42 (by decide) (by omega) (fun h42 => ?_) (fun h42 => ?_)
    · refine lv_aload_n hx hb d_Mo_compareNumbers_55 rfl (lv_at hl 0 rfl) ?_
      refine lv_iload_n hx hb d_Mo_compareNumbers_56 rfl (lv_at hl 1 rfl) ?_
      refine lv_iload_n hx hb d_Mo_compareNumbers_57 rfl (lv_at hl 2 rfl) ?_
      refine x_calli B hA (va_runV (As := [.int (iI ((x : Int))), .int (iI ((w : Int)))]) (rest := []) ⟨hx, hb, hml, hown, hts⟩ (c_Mo_sizes l D cs _ _ _ y m1 m2 m3 m5 m6 m7 m8 m9 m10 m11 m12 m13 m15 th pn rw_ fu fb lm mn sn Z x w hF (mw_get (X := [(y, .inr (7, [.int (iI th), .ref m1, .ref m2, .ref m3, .int (iI pn), .ref m5, .ref m6, .ref m7, .ref m8, .ref m9, .ref m10, .ref m11, .ref m12, .ref m13, .int (iI rw_), .ref m15, .long (lI fu), .long (lI fb)])), (m1, .inl (cs 0, 11520, .inl (ai lm))), (m2, .inl (cs 0, 180, .inl (ai mn))), (m3, .inl (cs 0, 180, .inl (ai sn)))]) hF.1 (k := 0) rfl) (mw_get (X := [(y, .inr (7, [.int (iI th), .ref m1, .ref m2, .ref m3, .int (iI pn), .ref m5, .ref m6, .ref m7, .ref m8, .ref m9, .ref m10, .ref m11, .ref m12, .ref m13, .int (iI rw_), .ref m15, .long (lI fu), .long (lI fb)])), (m1, .inl (cs 0, 11520, .inl (ai lm))), (m2, .inl (cs 0, 180, .inl (ai mn))), (m3, .inl (cs 0, 180, .inl (ai sn)))]) hF.1 (k := 1) rfl) (mw_get (X := [(y, .inr (7, [.int (iI th), .ref m1, .ref m2, .ref m3, .int (iI pn), .ref m5, .ref m6, .ref m7, .ref m8, .ref m9, .ref m10, .ref m11, .ref m12, .ref m13, .int (iI rw_), .ref m15, .long (lI fu), .long (lI fb)])), (m1, .inl (cs 0, 11520, .inl (ai lm))), (m2, .inl (cs 0, 180, .inl (ai mn))), (m3, .inl (cs 0, 180, .inl (ai sn)))]) hF.1 (k := 2) rfl) (mw_get (X := [(y, .inr (7, [.int (iI th), .ref m1, .ref m2, .ref m3, .int (iI pn), .ref m5, .ref m6, .ref m7, .ref m8, .ref m9, .ref m10, .ref m11, .ref m12, .ref m13, .int (iI rw_), .ref m15, .long (lI fu), .long (lI fb)])), (m1, .inl (cs 0, 11520, .inl (ai lm))), (m2, .inl (cs 0, 180, .inl (ai mn))), (m3, .inl (cs 0, 180, .inl (ai sn)))]) hF.1 (k := 3) rfl) hRS hx8 hw8) (cwV 2 hts (gw_V w_828 w_830 s_43 w_8 w_831) rfl rfl rfl (by decide +kernel) ⟨by rw [hRf]; exact Nat.le_of_ble_eq_true rfl, by rw [hRl]; exact Nat.le_of_ble_eq_true rfl⟩) ⟨K0.blind, B.recv (hF.2 _ (mw_key (k := 0) (X := [(y, .inr (7, [.int (iI th), .ref m1, .ref m2, .ref m3, .int (iI pn), .ref m5, .ref m6, .ref m7, .ref m8, .ref m9, .ref m10, .ref m11, .ref m12, .ref m13, .int (iI rw_), .ref m15, .long (lI fu), .long (lI fb)])), (m1, .inl (cs 0, 11520, .inl (ai lm))), (m2, .inl (cs 0, 180, .inl (ai mn))), (m3, .inl (cs 0, 180, .inl (ai sn)))]) rfl)) (mw_get (X := [(y, .inr (7, [.int (iI th), .ref m1, .ref m2, .ref m3, .int (iI pn), .ref m5, .ref m6, .ref m7, .ref m8, .ref m9, .ref m10, .ref m11, .ref m12, .ref m13, .int (iI rw_), .ref m15, .long (lI fu), .long (lI fb)])), (m1, .inl (cs 0, 11520, .inl (ai lm))), (m2, .inl (cs 0, 180, .inl (ai mn))), (m3, .inl (cs 0, 180, .inl (ai sn)))]) hF.1 (k := 0) rfl) rfl, B.pre _⟩ rfl rfl hl.1 rfl (lv_room (Nat.le_of_ble_eq_true rfl)) d_Mo_compareNumbers_58 ⟨by rw [hRc]; omega, by rw [hRs]; omega⟩) (fun r58 g58 H locs hw B => ?_)
      obtain ⟨rfl, rfl⟩ := hw
      have B : Wb D vwCl (TY cs) L (mw f [(y, .inr (7, [.int (iI th), .ref m1, .ref m2, .ref m3, .int (iI pn), .ref m5, .ref m6, .ref m7, .ref m8, .ref m9, .ref m10, .ref m11, .ref m12, .ref m13, .int (iI rw_), .ref m15, .long (lI fu), .long (lI fb)])), (m1, .inl (cs 0, 11520, .inl (ai lm))), (m2, .inl (cs 0, 180, .inl (ai mn))), (m3, .inl (cs 0, 180, .inl (ai sn)))]) (AL L s.heap.size) s H _ := B
      have B := B.of_eq hmw
      subst hQ hav
      exact x_iret hx hb hr hlocks B d_Mo_compareNumbers_61 (⟨by rw [cmq_same (hRS x hx8).side (hRS w hw8).side (by omega), if_neg (by omega)], rfl⟩)
    · refine lv_aload_n hx hb d_Mo_compareNumbers_45 rfl (lv_at hl 0 rfl) ?_
      refine lv_iload_n hx hb d_Mo_compareNumbers_46 rfl (lv_at hl 1 rfl) ?_
      refine lv_iload_n hx hb d_Mo_compareNumbers_47 rfl (lv_at hl 2 rfl) ?_
      refine x_calli B hA (va_runV (As := [.int (iI ((x : Int))), .int (iI ((w : Int)))]) (rest := []) ⟨hx, hb, hml, hown, hts⟩ (c_Mo_sizes l D cs _ _ _ y m1 m2 m3 m5 m6 m7 m8 m9 m10 m11 m12 m13 m15 th pn rw_ fu fb lm mn sn Z x w hF (mw_get (X := [(y, .inr (7, [.int (iI th), .ref m1, .ref m2, .ref m3, .int (iI pn), .ref m5, .ref m6, .ref m7, .ref m8, .ref m9, .ref m10, .ref m11, .ref m12, .ref m13, .int (iI rw_), .ref m15, .long (lI fu), .long (lI fb)])), (m1, .inl (cs 0, 11520, .inl (ai lm))), (m2, .inl (cs 0, 180, .inl (ai mn))), (m3, .inl (cs 0, 180, .inl (ai sn)))]) hF.1 (k := 0) rfl) (mw_get (X := [(y, .inr (7, [.int (iI th), .ref m1, .ref m2, .ref m3, .int (iI pn), .ref m5, .ref m6, .ref m7, .ref m8, .ref m9, .ref m10, .ref m11, .ref m12, .ref m13, .int (iI rw_), .ref m15, .long (lI fu), .long (lI fb)])), (m1, .inl (cs 0, 11520, .inl (ai lm))), (m2, .inl (cs 0, 180, .inl (ai mn))), (m3, .inl (cs 0, 180, .inl (ai sn)))]) hF.1 (k := 1) rfl) (mw_get (X := [(y, .inr (7, [.int (iI th), .ref m1, .ref m2, .ref m3, .int (iI pn), .ref m5, .ref m6, .ref m7, .ref m8, .ref m9, .ref m10, .ref m11, .ref m12, .ref m13, .int (iI rw_), .ref m15, .long (lI fu), .long (lI fb)])), (m1, .inl (cs 0, 11520, .inl (ai lm))), (m2, .inl (cs 0, 180, .inl (ai mn))), (m3, .inl (cs 0, 180, .inl (ai sn)))]) hF.1 (k := 2) rfl) (mw_get (X := [(y, .inr (7, [.int (iI th), .ref m1, .ref m2, .ref m3, .int (iI pn), .ref m5, .ref m6, .ref m7, .ref m8, .ref m9, .ref m10, .ref m11, .ref m12, .ref m13, .int (iI rw_), .ref m15, .long (lI fu), .long (lI fb)])), (m1, .inl (cs 0, 11520, .inl (ai lm))), (m2, .inl (cs 0, 180, .inl (ai mn))), (m3, .inl (cs 0, 180, .inl (ai sn)))]) hF.1 (k := 3) rfl) hRS hx8 hw8) (cwV 2 hts (gw_V w_828 w_830 s_43 w_8 w_831) rfl rfl rfl (by decide +kernel) ⟨by rw [hRf]; exact Nat.le_of_ble_eq_true rfl, by rw [hRl]; exact Nat.le_of_ble_eq_true rfl⟩) ⟨K0.blind, B.recv (hF.2 _ (mw_key (k := 0) (X := [(y, .inr (7, [.int (iI th), .ref m1, .ref m2, .ref m3, .int (iI pn), .ref m5, .ref m6, .ref m7, .ref m8, .ref m9, .ref m10, .ref m11, .ref m12, .ref m13, .int (iI rw_), .ref m15, .long (lI fu), .long (lI fb)])), (m1, .inl (cs 0, 11520, .inl (ai lm))), (m2, .inl (cs 0, 180, .inl (ai mn))), (m3, .inl (cs 0, 180, .inl (ai sn)))]) rfl)) (mw_get (X := [(y, .inr (7, [.int (iI th), .ref m1, .ref m2, .ref m3, .int (iI pn), .ref m5, .ref m6, .ref m7, .ref m8, .ref m9, .ref m10, .ref m11, .ref m12, .ref m13, .int (iI rw_), .ref m15, .long (lI fu), .long (lI fb)])), (m1, .inl (cs 0, 11520, .inl (ai lm))), (m2, .inl (cs 0, 180, .inl (ai mn))), (m3, .inl (cs 0, 180, .inl (ai sn)))]) hF.1 (k := 0) rfl) rfl, B.pre _⟩ rfl rfl hl.1 rfl (lv_room (Nat.le_of_ble_eq_true rfl)) d_Mo_compareNumbers_48 ⟨by rw [hRc]; omega, by rw [hRs]; omega⟩) (fun r48 g48 H locs hw B => ?_)
      obtain ⟨rfl, rfl⟩ := hw
      have B : Wb D vwCl (TY cs) L (mw f [(y, .inr (7, [.int (iI th), .ref m1, .ref m2, .ref m3, .int (iI pn), .ref m5, .ref m6, .ref m7, .ref m8, .ref m9, .ref m10, .ref m11, .ref m12, .ref m13, .int (iI rw_), .ref m15, .long (lI fu), .long (lI fb)])), (m1, .inl (cs 0, 11520, .inl (ai lm))), (m2, .inl (cs 0, 180, .inl (ai mn))), (m3, .inl (cs 0, 180, .inl (ai sn)))]) (AL L s.heap.size) s H _ := B
      refine x_ineg hx hb d_Mo_compareNumbers_51 ?_
      refine lv_goto (tgt := 61) hx hb d_Mo_compareNumbers_52 (by decide) ?_
      have B := B.of_eq hmw
      subst hQ hav
      exact x_iret hx hb hr hlocks B d_Mo_compareNumbers_61 (⟨by rw [cmq_same (hRS x hx8).side (hRS w hw8).side (by omega), if_pos (by omega)], rfl⟩)
  · refine lv_aload_n hx hb d_Mo_compareNumbers_15 rfl (lv_at hl 0 rfl) ?_
    refine x_get (C := RX7) (T := TX7) (N := 18) hx hb hts inX7 hown B hF 0 rfl rfl 3 (by decide) (hts _ w_680) (fun _ h9 => h9) rfl d_Mo_compareNumbers_16 ?_
    refine lv_iload_n hx hb d_Mo_compareNumbers_19 rfl (lv_at hl 1 rfl) ?_
    refine x_iald hx hb B hF 3 0 rfl rfl x (by omega) (by omega) (by decide) d_Mo_compareNumbers_20 ?_
    refine lv_aload_n hx hb d_Mo_compareNumbers_21 rfl (lv_at hl 0 rfl) ?_
    refine x_get (C := RX7) (T := TX7) (N := 18) hx hb hts inX7 hown B hF 0 rfl rfl 3 (by decide) (hts _ w_680) (fun _ h9 => h9) rfl d_Mo_compareNumbers_22 ?_
    refine lv_iload_n hx hb d_Mo_compareNumbers_25 rfl (lv_at hl 2 rfl) ?_
    refine x_iald hx hb B hF 3 0 rfl rfl w (by omega) (by omega) (by decide) d_Mo_compareNumbers_26 ?_
    refine x_icmp_ge (tgt := 34) hx hb d_Mo_compareNumbers_27 (by decide) (by omega) (by omega) (fun h27 => ?_) (fun h27 => ?_)
    · refine x_iconst hx hb d_Mo_compareNumbers_34 ?_
      have B := B.of_eq hmw
      subst hQ hav
      exact x_iret hx hb hr hlocks B d_Mo_compareNumbers_35 (⟨by rw [cmq_sign (hRS x hx8).side (hRS w hw8).side (by omega), if_neg (by omega)], rfl⟩)
    · refine x_iconst hx hb d_Mo_compareNumbers_30 ?_
      refine lv_goto (tgt := 35) hx hb d_Mo_compareNumbers_31 (by decide) ?_
      have B := B.of_eq hmw
      subst hQ hav
      exact x_iret hx hb hr hlocks B d_Mo_compareNumbers_35 (⟨by rw [cmq_sign (hRS x hx8).side (hRS w hw8).side (by omega), if_pos (by omega)], rfl⟩)
