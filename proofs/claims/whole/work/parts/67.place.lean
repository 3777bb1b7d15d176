theorem d_Place_begin_0 : decode prog_5_method_2_code 0 = .ok (.aload_n 0, 1) := by decide +kernel
theorem d_Place_begin_1 : decode prog_5_method_2_code 1 = .ok (.iload_n 1, 1) := by decide +kernel
theorem d_Place_begin_2 : decode prog_5_method_2_code 2 = .ok (.putfield 11, 3) := by decide +kernel
theorem d_Place_begin_5 : decode prog_5_method_2_code 5 = .ok (.aload_n 0, 1) := by decide +kernel
theorem d_Place_begin_6 : decode prog_5_method_2_code 6 = .ok (.iconst 0, 1) := by decide +kernel
theorem d_Place_begin_7 : decode prog_5_method_2_code 7 = .ok (.putfield 15, 3) := by decide +kernel
theorem d_Place_begin_10 : decode prog_5_method_2_code 10 = .ok (.iconst 0, 1) := by decide +kernel
theorem d_Place_begin_11 : decode prog_5_method_2_code 11 = .ok (.istore_n 2, 1) := by decide +kernel
theorem d_Place_begin_12 : decode prog_5_method_2_code 12 = .ok (.iload_n 2, 1) := by decide +kernel
theorem d_Place_begin_13 : decode prog_5_method_2_code 13 = .ok (.bipush 8, 2) := by decide +kernel
theorem d_Place_begin_15 : decode prog_5_method_2_code 15 = .ok (.if_icmp .ge 16, 3) := by decide +kernel
theorem d_Place_begin_18 : decode prog_5_method_2_code 18 = .ok (.aload_n 0, 1) := by decide +kernel
theorem d_Place_begin_19 : decode prog_5_method_2_code 19 = .ok (.getfield 18, 3) := by decide +kernel
theorem d_Place_begin_22 : decode prog_5_method_2_code 22 = .ok (.iload_n 2, 1) := by decide +kernel
theorem d_Place_begin_23 : decode prog_5_method_2_code 23 = .ok (.iconst 0, 1) := by decide +kernel
theorem d_Place_begin_24 : decode prog_5_method_2_code 24 = .ok (.iastore, 1) := by decide +kernel
theorem d_Place_begin_25 : decode prog_5_method_2_code 25 = .ok (.iinc 2 1, 3) := by decide +kernel
theorem d_Place_begin_28 : decode prog_5_method_2_code 28 = .ok (.goto (-16), 3) := by decide +kernel
theorem d_Place_begin_31 : decode prog_5_method_2_code 31 = .ok (.return_, 1) := by decide +kernel
set_option maxHeartbeats 8000000 in
set_option maxRecDepth 100000 in
theorem c_Place_begin (l : Launch) (D : va_G) (cs : Nat → ClassId) (L : List Nat) (f : Nat → va_E) (sz : Nat) (x qw : Nat) (wh dp : Int) (wd : Nat → Int) (fl1 : Int) (hF : Fc L [x, qw]) (ha : f x = .inr (3, [.int (iI wh), .int (iI dp), .ref qw])) (hqw : f qw = .inl (cs 0, 8, .inl (ai wd))) : Met l (⟨"RealRoots$Place", "begin", "(I)V"⟩ : MethodName) (.code (⟨"RealRoots$Place", "begin", "(I)V"⟩ : MethodName) prog_5_method_2_code 3 (Option.none : Option Jvm.ClassFile.FieldType) :: gw) ({ frames := 0, cells := 0, slots := 0, locals := 0 }) (va_Pc [.ref x, .int (iI fl1)] (K0 D vwCl (TY cs) L f sz)) (va_Qv (fun (g : Nat → va_E) => ∃ z' : Nat → Int, (∀ j, j < 8 → z' j = 0) ∧ g = mw f [(x, .inr (3, [.int (iI fl1), .int (iI 0), .ref qw])), (qw, .inl (cs 0, 8, .inl (ai (z'))))]) (K1 D vwCl (TY cs) (AL L sz) L) (AL L sz)) 0 0 (AL L sz) := by
  refine Met.ofW (cc := prog_5_method_2_code) (maxL := 3) (ret := (Option.none : Option Jvm.ClassFile.FieldType)) (by decide) rfl ?_
  intro p e s m args below meth c s₁ Bd hml hv
  obtain ⟨rfl, hk0⟩ := hv
  obtain ⟨hsz, B⟩ := hk0.start
  subst hsz
  have hx := Bd.exec
  have hb := Bd.bytes
  have hr := Bd.returns
  have hlocks := Bd.notSynchronized
  have hts0 := atoms_spec Bd.pre
  have hown : s.vm.findClass RX3 = some m.cls := findClass_of_methodNamed Bd.named
  have hA : ∀ q, s.heap.size ≤ q → AL L s.heap.size q := fun _ h => Or.inr h
  have hl := lv_entry ([.ref x, .int (iI fl1)]) (n := 3) (Nat.le_of_ble_eq_true rfl)
  rw [lg_entry_eq]
  generalize (lg_sl ([.ref x, .int (iI fl1)]) ++ List.replicate (3 - (lg_sl ([.ref x, .int (iI fl1)])).length) Slot.unset).toArray = ls at hl ⊢
  refine absQ (fun Q R av hQ hR hav => ?_)
  have hts : ∀ w ∈ gw, w.before av s = true := by rw [hav]; exact fun w h => hts0 w (List.mem_cons_of_mem _ h)
  have hRf : R.frames = 0 := by rw [hR]; rfl
  have hRl : R.locals = 0 := by rw [hR]; rfl
  have hRc : R.cells = 0 := by rw [hR]; rfl
  have hRs : R.slots = 0 := by rw [hR]; rfl
  clear hR hts0 Bd
  have hl : lv_has ls 3 [(0, .ref x), (1, .int (iI fl1))] := hl
  have hfx : ∀ q ∈ ([(x, .inr (3, [.int (iI wh), .int (iI dp), .ref qw])), (qw, .inl (cs 0, 8, .inl (ai wd)))] : List (Nat × va_E)), f q.1 = q.2 := fun q hq => by
    simp only [List.mem_cons, List.not_mem_nil, or_false] at hq
    rcases hq with rfl | rfl
    · exact ha
    · exact hqw
  have hmw : mw f [(x, .inr (3, [.int (iI wh), .int (iI dp), .ref qw])), (qw, .inl (cs 0, 8, .inl (ai wd)))] = f := mw_self (fun k a e hk => hfx (a, e) (List.mem_of_getElem? hk))
  have B := B.focus [(x, .inr (3, [.int (iI wh), .int (iI dp), .ref qw])), (qw, .inl (cs 0, 8, .inl (ai wd)))] hfx
  refine lv_aload_n hx hb d_Place_begin_0 rfl (lv_at hl 0 rfl) ?_
  refine lv_iload_n hx hb d_Place_begin_1 rfl (lv_at hl 1 rfl) ?_
  refine x_put (C := RX3) (T := TX3) (N := 3) hx hb hts inX3 tyX3 tyX3_ok nmX3 hown B hF 0 rfl rfl 0 (by decide) (hts _ w_160) (fun _ h9 => h9) rfl (tyX3_ok 0 (by decide)) rfl rfl (Nat.le_of_ble_eq_true rfl) d_Place_begin_2 (fun H locs B => ?_)
  have B : Wb D vwCl (TY cs) L (mw f [(x, .inr (3, [.int (iI fl1), .int (iI dp), .ref qw])), (qw, .inl (cs 0, 8, .inl (ai wd)))]) (AL L s.heap.size) s H _ := B
  refine lv_aload_n hx hb d_Place_begin_5 rfl (lv_at hl 0 rfl) ?_
  refine x_iconst hx hb d_Place_begin_6 ?_
  refine x_put (C := RX3) (T := TX3) (N := 3) hx hb hts inX3 tyX3 tyX3_ok nmX3 hown B hF 0 rfl rfl 1 (by decide) (hts _ w_163) (fun _ h9 => h9) rfl (tyX3_ok 1 (by decide)) rfl rfl (Nat.le_of_ble_eq_true rfl) d_Place_begin_7 (fun H locs B => ?_)
  have B : Wb D vwCl (TY cs) L (mw f [(x, .inr (3, [.int (iI fl1), .int (iI 0), .ref qw])), (qw, .inl (cs 0, 8, .inl (ai wd)))]) (AL L s.heap.size) s H _ := B
  refine x_iconst hx hb d_Place_begin_10 ?_
  refine lv_istore_n (lv' := [(2, .int (iI 0)), (0, .ref x), (1, .int (iI fl1))]) hx hb d_Place_begin_11 rfl hl (by decide) rfl (fun ls hl => ?_)
  have LP : ∀ (fuel : Nat) (k : Nat) (z : Nat → Int), 8 - k < fuel → (k ≤ 8) → (∀ j, j < k → z j = 0) → ∀ (H : Heap) (locs : List Loc) (ls : Array Slot), Wb D vwCl (TY cs) L (mw f [(x, .inr (3, [.int (iI fl1), .int (iI 0), .ref qw])), (qw, .inl (cs 0, 8, .inl (ai z)))]) (AL L s.heap.size) s H locs → lv_has ls 3 [(2, .int (iI ((k : Int)))), (0, .ref x)] → W p l e R s m av below meth c H locs (0) (0) Q (F0 m 12 ls []) := by
    intro fuel
    induction fuel with
    | zero => intro k z hfu; exact absurd hfu (Nat.not_lt_zero _)
    | succ fuel ih_LP =>
      intro k z hfu_LP hk hI H locs ls B hl
      refine lv_iload_n hx hb d_Place_begin_12 rfl (lv_at hl 0 rfl) ?_
      refine x_bipush hx hb d_Place_begin_13 (by decide) ?_
      refine x_icmp_ge (tgt := 31) hx hb d_Place_begin_15 (by decide) (by omega) (by omega) (fun h15 => ?_) (fun h15 => ?_)
      · subst hQ hav
        exact x_vret hx hb hr hlocks B d_Place_begin_31 (⟨_, fun j hj => hI j (by omega), rfl⟩)
      · refine lv_aload_n hx hb d_Place_begin_18 rfl (lv_at hl 1 rfl) ?_
        refine x_get (C := RX3) (T := TX3) (N := 3) hx hb hts inX3 hown B hF 0 rfl rfl 2 (by decide) (hts _ w_166) (fun _ h9 => h9) rfl d_Place_begin_19 ?_
        refine lv_iload_n hx hb d_Place_begin_22 rfl (lv_at hl 0 rfl) ?_
        refine x_iconst hx hb d_Place_begin_23 ?_
        refine x_iast hx hb B hF 1 0 rfl rfl k (by omega) (by omega) (by decide) d_Place_begin_24 (fun H locs B => ?_)
        have B : Wb D vwCl (TY cs) L (mw f [(x, .inr (3, [.int (iI fl1), .int (iI 0), .ref qw])), (qw, .inl (cs 0, 8, .inl (ai (up z k 0))))]) (AL L s.heap.size) s H _ := B
        refine x_iinc (lv' := [(2, .int (iI (((k : Int)) + 1))), (0, .ref x)]) hx hb d_Place_begin_25 hl (q := 0) rfl rfl (by decide) rfl (fun ls hl => ?_)
        refine lv_goto (tgt := 12) hx hb d_Place_begin_28 (by decide) ?_
        exact ih_LP (k + 1) (up z k 0) (by omega) (by omega) (fun j hj => by
          by_cases hjk : j = k
          · rw [hjk, up_self]
          · rw [up_ne _ _ hjk]; exact hI j (by omega)) _ _ _ B (lv_sub hl [0, 1] rfl)
  exact LP _ 0 wd (Nat.lt_succ_self _) (by omega) (fun j hj => by omega) _ _ _ B (lv_sub hl [0, 1] rfl)
theorem d_Place_scaled_0 : decode prog_5_method_6_code 0 = .ok (.aload_n 0, 1) := by decide +kernel
theorem d_Place_scaled_1 : decode prog_5_method_6_code 1 = .ok (.getfield 18, 3) := by decide +kernel
theorem d_Place_scaled_4 : decode prog_5_method_6_code 4 = .ok (.iconst 0, 1) := by decide +kernel
theorem d_Place_scaled_5 : decode prog_5_method_6_code 5 = .ok (.iaload, 1) := by decide +kernel
theorem d_Place_scaled_6 : decode prog_5_method_6_code 6 = .ok (.i2l, 1) := by decide +kernel
theorem d_Place_scaled_7 : decode prog_5_method_6_code 7 = .ok (.bipush 31, 2) := by decide +kernel
theorem d_Place_scaled_9 : decode prog_5_method_6_code 9 = .ok (.lshl, 1) := by decide +kernel
theorem d_Place_scaled_10 : decode prog_5_method_6_code 10 = .ok (.aload_n 0, 1) := by decide +kernel
theorem d_Place_scaled_11 : decode prog_5_method_6_code 11 = .ok (.getfield 18, 3) := by decide +kernel
theorem d_Place_scaled_14 : decode prog_5_method_6_code 14 = .ok (.iconst 1, 1) := by decide +kernel
theorem d_Place_scaled_15 : decode prog_5_method_6_code 15 = .ok (.iaload, 1) := by decide +kernel
theorem d_Place_scaled_16 : decode prog_5_method_6_code 16 = .ok (.i2l, 1) := by decide +kernel
theorem d_Place_scaled_17 : decode prog_5_method_6_code 17 = .ok (.lor, 1) := by decide +kernel
theorem d_Place_scaled_18 : decode prog_5_method_6_code 18 = .ok (.lstore_n 2, 1) := by decide +kernel
theorem d_Place_scaled_19 : decode prog_5_method_6_code 19 = .ok (.aload_n 0, 1) := by decide +kernel
theorem d_Place_scaled_20 : decode prog_5_method_6_code 20 = .ok (.getfield 11, 3) := by decide +kernel
theorem d_Place_scaled_23 : decode prog_5_method_6_code 23 = .ok (.i2l, 1) := by decide +kernel
theorem d_Place_scaled_24 : decode prog_5_method_6_code 24 = .ok (.lconst 1, 1) := by decide +kernel
theorem d_Place_scaled_25 : decode prog_5_method_6_code 25 = .ok (.iload_n 1, 1) := by decide +kernel
theorem d_Place_scaled_26 : decode prog_5_method_6_code 26 = .ok (.lshl, 1) := by decide +kernel
theorem d_Place_scaled_27 : decode prog_5_method_6_code 27 = .ok (.lmul, 1) := by decide +kernel
theorem d_Place_scaled_28 : decode prog_5_method_6_code 28 = .ok (.lload_n 2, 1) := by decide +kernel
theorem d_Place_scaled_29 : decode prog_5_method_6_code 29 = .ok (.bipush 62, 2) := by decide +kernel
theorem d_Place_scaled_31 : decode prog_5_method_6_code 31 = .ok (.iload_n 1, 1) := by decide +kernel
theorem d_Place_scaled_32 : decode prog_5_method_6_code 32 = .ok (.isub, 1) := by decide +kernel
theorem d_Place_scaled_33 : decode prog_5_method_6_code 33 = .ok (.lshr, 1) := by decide +kernel
theorem d_Place_scaled_34 : decode prog_5_method_6_code 34 = .ok (.ladd, 1) := by decide +kernel
theorem d_Place_scaled_35 : decode prog_5_method_6_code 35 = .ok (.lreturn, 1) := by decide +kernel
set_option maxHeartbeats 8000000 in
set_option maxRecDepth 100000 in
theorem c_Place_scaled (l : Launch) (D : va_G) (cs : Nat → ClassId) (L : List Nat) (f : Nat → va_E) (sz : Nat) (x qw : Nat) (wh dp : Int) (wd : Nat → Int) (bt : Nat) (hF : Fc L [x, qw]) (ha : f x = .inr (3, [.int (iI wh), .int (iI dp), .ref qw])) (hqw : f qw = .inl (cs 0, 8, .inl (ai wd))) (hb40 : bt ≤ 40) (hwh : -2147483648 ≤ wh ∧ wh < 2147483648) (hw0 : 0 ≤ wd 0 ∧ wd 0 < 2147483648) (hw1 : 0 ≤ wd 1 ∧ wd 1 < 2147483648) : Met l (⟨"RealRoots$Place", "scaled", "(I)J"⟩ : MethodName) (.code (⟨"RealRoots$Place", "scaled", "(I)J"⟩ : MethodName) prog_5_method_6_code 4 (Option.some Jvm.ClassFile.FieldType.long) :: gw) ({ frames := 0, cells := 0, slots := 0, locals := 0 }) (va_Pc [.ref x, .int (iI ((bt : Int)))] (K0 D vwCl (TY cs) L f sz)) (va_Ql (fun (r : Int64) (g : Nat → va_E) => r = lI (wh * (1 * 2 ^ bt) + (wd 0 * 2147483648 + wd 1) / 2 ^ (62 - bt)) ∧ g = f) (K1 D vwCl (TY cs) (AL L sz) L) (AL L sz)) 0 0 (AL L sz) := by
  refine Met.ofW (cc := prog_5_method_6_code) (maxL := 4) (ret := (Option.some Jvm.ClassFile.FieldType.long)) (by decide) rfl ?_
  intro p e s m args below meth c s₁ Bd hml hv
  obtain ⟨rfl, hk0⟩ := hv
  obtain ⟨hsz, B⟩ := hk0.start
  subst hsz
  have hx := Bd.exec
  have hb := Bd.bytes
  have hr := Bd.returns
  have hlocks := Bd.notSynchronized
  have hts0 := atoms_spec Bd.pre
  have hown : s.vm.findClass RX3 = some m.cls := findClass_of_methodNamed Bd.named
  have hA : ∀ q, s.heap.size ≤ q → AL L s.heap.size q := fun _ h => Or.inr h
  have hl := lv_entry ([.ref x, .int (iI ((bt : Int)))]) (n := 4) (Nat.le_of_ble_eq_true rfl)
  rw [lg_entry_eq]
  generalize (lg_sl ([.ref x, .int (iI ((bt : Int)))]) ++ List.replicate (4 - (lg_sl ([.ref x, .int (iI ((bt : Int)))])).length) Slot.unset).toArray = ls at hl ⊢
  refine absQ (fun Q R av hQ hR hav => ?_)
  have hts : ∀ w ∈ gw, w.before av s = true := by rw [hav]; exact fun w h => hts0 w (List.mem_cons_of_mem _ h)
  have hRf : R.frames = 0 := by rw [hR]; rfl
  have hRl : R.locals = 0 := by rw [hR]; rfl
  have hRc : R.cells = 0 := by rw [hR]; rfl
  have hRs : R.slots = 0 := by rw [hR]; rfl
  clear hR hts0 Bd
  have hl : lv_has ls 4 [(0, .ref x), (1, .int (iI ((bt : Int))))] := hl
  have hfx : ∀ q ∈ ([(x, .inr (3, [.int (iI wh), .int (iI dp), .ref qw])), (qw, .inl (cs 0, 8, .inl (ai wd)))] : List (Nat × va_E)), f q.1 = q.2 := fun q hq => by
    simp only [List.mem_cons, List.not_mem_nil, or_false] at hq
    rcases hq with rfl | rfl
    · exact ha
    · exact hqw
  have hmw : mw f [(x, .inr (3, [.int (iI wh), .int (iI dp), .ref qw])), (qw, .inl (cs 0, 8, .inl (ai wd)))] = f := mw_self (fun k a e hk => hfx (a, e) (List.mem_of_getElem? hk))
  have B := B.focus [(x, .inr (3, [.int (iI wh), .int (iI dp), .ref qw])), (qw, .inl (cs 0, 8, .inl (ai wd)))] hfx
  refine lv_aload_n hx hb d_Place_scaled_0 rfl (lv_at hl 0 rfl) ?_
  refine x_get (C := RX3) (T := TX3) (N := 3) hx hb hts inX3 hown B hF 0 rfl rfl 2 (by decide) (hts _ w_166) (fun _ h9 => h9) rfl d_Place_scaled_1 ?_
  refine x_iconst hx hb d_Place_scaled_4 ?_
  refine x_iald hx hb B hF 1 0 rfl rfl 0 (by omega) (by omega) (by decide) d_Place_scaled_5 ?_
  refine x_i2l hx hb d_Place_scaled_6 (by omega) ?_
  refine x_bipush hx hb d_Place_scaled_7 (by decide) ?_
  refine x_lshl31 hx hb d_Place_scaled_9 ?_
  refine lv_aload_n hx hb d_Place_scaled_10 rfl (lv_at hl 0 rfl) ?_
  refine x_get (C := RX3) (T := TX3) (N := 3) hx hb hts inX3 hown B hF 0 rfl rfl 2 (by decide) (hts _ w_166) (fun _ h9 => h9) rfl d_Place_scaled_11 ?_
  refine x_iconst hx hb d_Place_scaled_14 ?_
  refine x_iald hx hb B hF 1 0 rfl rfl 1 (by omega) (by omega) (by decide) d_Place_scaled_15 ?_
  refine x_i2l hx hb d_Place_scaled_16 (by omega) ?_
  refine x_lor31 hx hb d_Place_scaled_17 (by omega) (by omega) ?_
  refine lv_lstore_n (lv' := [(2, .long (lI ((wd 0) * 2147483648 + (wd 1)))), (0, .ref x), (1, .int (iI ((bt : Int))))]) hx hb d_Place_scaled_18 rfl hl (by decide) rfl (fun ls hl => ?_)
  refine lv_aload_n hx hb d_Place_scaled_19 rfl (lv_at hl 1 rfl) ?_
  refine x_get (C := RX3) (T := TX3) (N := 3) hx hb hts inX3 hown B hF 0 rfl rfl 0 (by decide) (hts _ w_160) (fun _ h9 => h9) rfl d_Place_scaled_20 ?_
  refine x_i2l hx hb d_Place_scaled_23 (by omega) ?_
  refine x_lconst (z := 1) hx hb d_Place_scaled_24 (by decide) ?_
  refine lv_iload_n hx hb d_Place_scaled_25 rfl (lv_at hl 2 rfl) ?_
  refine x_lshlv hx hb bt (rfl) (by omega) d_Place_scaled_26 ?_
  refine x_lmul hx hb d_Place_scaled_27 ?_
  refine lv_lload_n hx hb d_Place_scaled_28 rfl (lv_at hl 0 rfl) ?_
  refine x_bipush hx hb d_Place_scaled_29 (by decide) ?_
  refine lv_iload_n hx hb d_Place_scaled_31 rfl (lv_at hl 2 rfl) ?_
  refine x_isub hx hb d_Place_scaled_32 ?_
  refine x_lshrv hx hb (62 - bt) (by omega) (by omega) d_Place_scaled_33 (by omega) ?_
  refine x_ladd hx hb d_Place_scaled_34 ?_
  have B := B.of_eq hmw
  subst hQ hav
  exact x_lret hx hb hr hlocks B d_Place_scaled_35 (⟨rfl, rfl⟩)
