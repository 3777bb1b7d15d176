theorem d_RR_stretched_0 : decode prog_1_method_31_code 0 = .ok (.lconst 1, 1) := by decide +kernel
theorem d_RR_stretched_1 : decode prog_1_method_31_code 1 = .ok (.lstore_n 3, 1) := by decide +kernel
theorem d_RR_stretched_2 : decode prog_1_method_31_code 2 = .ok (.iconst 0, 1) := by decide +kernel
theorem d_RR_stretched_3 : decode prog_1_method_31_code 3 = .ok (.istore 5, 2) := by decide +kernel
theorem d_RR_stretched_5 : decode prog_1_method_31_code 5 = .ok (.iload 5, 2) := by decide +kernel
theorem d_RR_stretched_7 : decode prog_1_method_31_code 7 = .ok (.bipush 6, 2) := by decide +kernel
theorem d_RR_stretched_9 : decode prog_1_method_31_code 9 = .ok (.if_icmp .ge 28, 3) := by decide +kernel
theorem d_RR_stretched_12 : decode prog_1_method_31_code 12 = .ok (.aload_n 0, 1) := by decide +kernel
theorem d_RR_stretched_13 : decode prog_1_method_31_code 13 = .ok (.getfield 40, 3) := by decide +kernel
theorem d_RR_stretched_16 : decode prog_1_method_31_code 16 = .ok (.iload 5, 2) := by decide +kernel
theorem d_RR_stretched_18 : decode prog_1_method_31_code 18 = .ok (.aload_n 1, 1) := by decide +kernel
theorem d_RR_stretched_19 : decode prog_1_method_31_code 19 = .ok (.iload 5, 2) := by decide +kernel
theorem d_RR_stretched_21 : decode prog_1_method_31_code 21 = .ok (.iaload, 1) := by decide +kernel
theorem d_RR_stretched_22 : decode prog_1_method_31_code 22 = .ok (.i2l, 1) := by decide +kernel
theorem d_RR_stretched_23 : decode prog_1_method_31_code 23 = .ok (.lload_n 3, 1) := by decide +kernel
theorem d_RR_stretched_24 : decode prog_1_method_31_code 24 = .ok (.lmul, 1) := by decide +kernel
theorem d_RR_stretched_25 : decode prog_1_method_31_code 25 = .ok (.lastore, 1) := by decide +kernel
theorem d_RR_stretched_26 : decode prog_1_method_31_code 26 = .ok (.lload_n 3, 1) := by decide +kernel
theorem d_RR_stretched_27 : decode prog_1_method_31_code 27 = .ok (.iload_n 2, 1) := by decide +kernel
theorem d_RR_stretched_28 : decode prog_1_method_31_code 28 = .ok (.i2l, 1) := by decide +kernel
theorem d_RR_stretched_29 : decode prog_1_method_31_code 29 = .ok (.lmul, 1) := by decide +kernel
theorem d_RR_stretched_30 : decode prog_1_method_31_code 30 = .ok (.lstore_n 3, 1) := by decide +kernel
theorem d_RR_stretched_31 : decode prog_1_method_31_code 31 = .ok (.iinc 5 1, 3) := by decide +kernel
theorem d_RR_stretched_34 : decode prog_1_method_31_code 34 = .ok (.goto (-29), 3) := by decide +kernel
theorem d_RR_stretched_37 : decode prog_1_method_31_code 37 = .ok (.return_, 1) := by decide +kernel
set_option maxHeartbeats 8000000 in
set_option maxRecDepth 100000 in
theorem c_RR_stretched (l : Launch) (D : va_G) (cs : Nat → ClassId) (L : List Nat) (f : Nat → va_E) (sz : Nat) (x c0 c2 c3 c4 c5 c6 c7 c8 c9 c10 c11 : Nat) (hd ll ln : Int) (va : Nat) (wd aw : Nat → Int) (b : Int) (hF : Fc L [x, c5, va]) (ha : f x = .inr (6, [.ref c0, .int (iI hd), .ref c2, .ref c3, .ref c4, .ref c5, .ref c6, .ref c7, .ref c8, .ref c9, .ref c10, .ref c11, .int (iI ll), .int (iI ln)])) (hc5 : f c5 = .inl (cs 1, 12, .inr (.inl (al wd)))) (hva : f va = .inl (cs 0, 6, .inl (ai aw))) (haw : ∀ j, j < 6 → -1000 ≤ aw j ∧ aw j ≤ 1000) (hb0 : -1000 ≤ b ∧ b ≤ 1000) : Met l (⟨"RealRoots", "stretched", "([II)V"⟩ : MethodName) (.code (⟨"RealRoots", "stretched", "([II)V"⟩ : MethodName) prog_1_method_31_code 6 (Option.none : Option Jvm.ClassFile.FieldType) :: gw) ({ frames := 0, cells := 0, slots := 0, locals := 0 }) (va_Pc [.ref x, .ref va, .int (iI b)] (K0 D vwCl (TY cs) L f sz)) (va_Qv (fun (g : Nat → va_E) => ∃ w' : Nat → Int, (∀ j, j < 6 → w' j = aw j * b ^ j) ∧ (∀ j, 6 ≤ j → w' j = wd j) ∧ g = mw f [(c5, .inl (cs 1, 12, .inr (.inl (al (w')))))]) (K1 D vwCl (TY cs) (AL L sz) L) (AL L sz)) 0 0 (AL L sz) := by
  refine Met.ofW (cc := prog_1_method_31_code) (maxL := 6) (ret := (Option.none : Option Jvm.ClassFile.FieldType)) (by decide) rfl ?_
  intro p e s m args below meth c s₁ Bd hml hv
  obtain ⟨rfl, hk0⟩ := hv
  obtain ⟨hsz, B⟩ := hk0.start
  subst hsz
  have hx := Bd.exec
  have hb := Bd.bytes
  have hr := Bd.returns
  have hlocks := Bd.notSynchronized
  have hts0 := atoms_spec Bd.pre
  have hown : s.vm.findClass RX6 = some m.cls := findClass_of_methodNamed Bd.named
  have hA : ∀ q, s.heap.size ≤ q → AL L s.heap.size q := fun _ h => Or.inr h
  have hl := lv_entry ([.ref x, .ref va, .int (iI b)]) (n := 6) (Nat.le_of_ble_eq_true rfl)
  rw [lg_entry_eq]
  generalize (lg_sl ([.ref x, .ref va, .int (iI b)]) ++ List.replicate (6 - (lg_sl ([.ref x, .ref va, .int (iI b)])).length) Slot.unset).toArray = ls at hl ⊢
  refine absQ (fun Q R av hQ hR hav => ?_)
  have hts : ∀ w ∈ gw, w.before av s = true := by rw [hav]; exact fun w h => hts0 w (List.mem_cons_of_mem _ h)
  have hRf : R.frames = 0 := by rw [hR]; rfl
  have hRl : R.locals = 0 := by rw [hR]; rfl
  have hRc : R.cells = 0 := by rw [hR]; rfl
  have hRs : R.slots = 0 := by rw [hR]; rfl
  clear hR hts0 Bd
  have hl : lv_has ls 6 [(0, .ref x), (1, .ref va), (2, .int (iI b))] := hl
  have hfx : ∀ q ∈ ([(x, .inr (6, [.ref c0, .int (iI hd), .ref c2, .ref c3, .ref c4, .ref c5, .ref c6, .ref c7, .ref c8, .ref c9, .ref c10, .ref c11, .int (iI ll), .int (iI ln)])), (c5, .inl (cs 1, 12, .inr (.inl (al wd)))), (va, .inl (cs 0, 6, .inl (ai aw)))] : List (Nat × va_E)), f q.1 = q.2 := fun q hq => by
    simp only [List.mem_cons, List.not_mem_nil, or_false] at hq
    rcases hq with rfl | rfl | rfl
    · exact ha
    · exact hc5
    · exact hva
  have hmw : mw f [(x, .inr (6, [.ref c0, .int (iI hd), .ref c2, .ref c3, .ref c4, .ref c5, .ref c6, .ref c7, .ref c8, .ref c9, .ref c10, .ref c11, .int (iI ll), .int (iI ln)])), (c5, .inl (cs 1, 12, .inr (.inl (al wd)))), (va, .inl (cs 0, 6, .inl (ai aw)))] = f := mw_self (fun k a e hk => hfx (a, e) (List.mem_of_getElem? hk))
  have B := B.focus [(x, .inr (6, [.ref c0, .int (iI hd), .ref c2, .ref c3, .ref c4, .ref c5, .ref c6, .ref c7, .ref c8, .ref c9, .ref c10, .ref c11, .int (iI ll), .int (iI ln)])), (c5, .inl (cs 1, 12, .inr (.inl (al wd)))), (va, .inl (cs 0, 6, .inl (ai aw)))] hfx
  refine x_lconst (z := 1) hx hb d_RR_stretched_0 (by decide) ?_
  refine lv_lstore_n (lv' := [(3, .long (lI 1)), (0, .ref x), (1, .ref va), (2, .int (iI b))]) hx hb d_RR_stretched_1 rfl hl (by decide) rfl (fun ls hl => ?_)
  refine x_iconst hx hb d_RR_stretched_2 ?_
  refine lv_istore (lv' := [(5, .int (iI 0)), (3, .long (lI 1)), (0, .ref x), (1, .ref va), (2, .int (iI b))]) hx hb d_RR_stretched_3 hl (by decide) rfl (fun ls hl => ?_)
  have LP : ∀ (fuel : Nat) (k : Nat) (pw : Int) (w2 : Nat → Int), 6 - k < fuel → (k ≤ 6) → (pw = b ^ k) → (∀ j, j < k → w2 j = aw j * b ^ j) → (∀ j, k ≤ j → w2 j = wd j) → ∀ (H : Heap) (locs : List Loc) (ls : Array Slot), Wb D vwCl (TY cs) L (mw f [(x, .inr (6, [.ref c0, .int (iI hd), .ref c2, .ref c3, .ref c4, .ref c5, .ref c6, .ref c7, .ref c8, .ref c9, .ref c10, .ref c11, .int (iI ll), .int (iI ln)])), (c5, .inl (cs 1, 12, .inr (.inl (al w2)))), (va, .inl (cs 0, 6, .inl (ai aw)))]) (AL L s.heap.size) s H locs → lv_has ls 6 [(5, .int (iI ((k : Int)))), (3, .long (lI pw)), (0, .ref x), (1, .ref va), (2, .int (iI b))] → W p l e R s m av below meth c H locs (0) (0) Q (F0 m 5 ls []) := by
    intro fuel
    induction fuel with
    | zero => intro k pw w2 hfu; exact absurd hfu (Nat.not_lt_zero _)
    | succ fuel ih_LP =>
      intro k pw w2 hfu_LP hk hpw hI hJ H locs ls B hl
      refine lv_iload hx hb d_RR_stretched_5 (lv_at hl 0 rfl) ?_
      refine x_bipush hx hb d_RR_stretched_7 (by decide) ?_
      refine x_icmp_ge (tgt := 37) hx hb d_RR_stretched_9 (by decide) (by omega) (by omega) (fun h9 => ?_) (fun h9 => ?_)
      · subst hQ hav
        exact x_vret hx hb hr hlocks B d_RR_stretched_37 (⟨w2, fun j hj => hI j (by omega), fun j hj => hJ j (by omega), Eq.trans (mw_drop (f := f) (X := [(c5, .inl (cs 1, 12, .inr (.inl (al w2)))), (va, .inl (cs 0, 6, .inl (ai aw)))]) ha (List.nodup_cons.mp hF.1).1) (mw_tail (X := [(c5, .inl (cs 1, 12, .inr (.inl (al w2))))]) (Y := [(va, .inl (cs 0, 6, .inl (ai aw)))]) (fun p hp => hfx p (List.mem_cons_of_mem _ (List.mem_cons_of_mem _ hp))))⟩)
      · have h9k := haw k (by omega)
        refine lv_aload_n hx hb d_RR_stretched_12 rfl (lv_at hl 2 rfl) ?_
        refine x_get (C := RX6) (T := TX6) (N := 14) hx hb hts inX6 hown B hF 0 rfl rfl 5 (by decide) (hts _ w_202) (fun _ h9 => h9) rfl d_RR_stretched_13 ?_
        refine lv_iload hx hb d_RR_stretched_16 (lv_at hl 0 rfl) ?_
        refine lv_aload_n hx hb d_RR_stretched_18 rfl (lv_at hl 3 rfl) ?_
        refine lv_iload hx hb d_RR_stretched_19 (lv_at hl 0 rfl) ?_
        refine x_iald hx hb B hF 2 0 rfl rfl k (by omega) (by omega) (by decide) d_RR_stretched_21 ?_
        refine x_i2l hx hb d_RR_stretched_22 (by omega) ?_
        refine lv_lload_n hx hb d_RR_stretched_23 rfl (lv_at hl 1 rfl) ?_
        refine x_lmul hx hb d_RR_stretched_24 ?_
        refine x_last hx hb B hF 1 1 rfl rfl k (by omega) (by omega) (by decide) d_RR_stretched_25 (fun H locs B => ?_)
        have B : Wb D vwCl (TY cs) L (mw f [(x, .inr (6, [.ref c0, .int (iI hd), .ref c2, .ref c3, .ref c4, .ref c5, .ref c6, .ref c7, .ref c8, .ref c9, .ref c10, .ref c11, .int (iI ll), .int (iI ln)])), (c5, .inl (cs 1, 12, .inr (.inl (al (up w2 k ((aw k) * pw)))))), (va, .inl (cs 0, 6, .inl (ai aw)))]) (AL L s.heap.size) s H _ := B
        refine lv_lload_n hx hb d_RR_stretched_26 rfl (lv_at hl 1 rfl) ?_
        refine lv_iload_n hx hb d_RR_stretched_27 rfl (lv_at hl 4 rfl) ?_
        refine x_i2l hx hb d_RR_stretched_28 (by omega) ?_
        refine x_lmul hx hb d_RR_stretched_29 ?_
        refine lv_lstore_n (lv' := [(3, .long (lI (pw * b))), (5, .int (iI ((k : Int)))), (0, .ref x), (1, .ref va), (2, .int (iI b))]) hx hb d_RR_stretched_30 rfl hl (by decide) rfl (fun ls hl => ?_)
        refine x_iinc (lv' := [(5, .int (iI (((k : Int)) + 1))), (3, .long (lI (pw * b))), (0, .ref x), (1, .ref va), (2, .int (iI b))]) hx hb d_RR_stretched_31 hl (q := 1) rfl rfl (by decide) rfl (fun ls hl => ?_)
        refine lv_goto (tgt := 5) hx hb d_RR_stretched_34 (by decide) ?_
        exact ih_LP (k + 1) (pw * b) (up w2 k ((aw k) * pw)) (by omega) (by omega) (by rw [Int.pow_succ, hpw]) (fun j hj => by
                    by_cases hjk : j = k
                    · rw [hjk, up_self, hpw]
                    · rw [up_ne _ _ hjk]; exact hI j (by omega)) (fun j hj => by rw [up_ne _ _ (by omega)]; exact hJ j (by omega)) _ _ _ B (lv_sub hl [0, 1, 2, 3, 4] rfl)
  exact LP _ 0 1 wd (Nat.lt_succ_self _) (by omega) (by rw [Int.pow_zero]) (fun j hj => by omega) (fun j _ => rfl) _ _ _ B (lv_sub hl [0, 1, 2, 3, 4] rfl)
theorem d_RR_moved_0 : decode prog_1_method_30_code 0 = .ok (.iconst 5, 1) := by decide +kernel
theorem d_RR_moved_1 : decode prog_1_method_30_code 1 = .ok (.istore_n 3, 1) := by decide +kernel
theorem d_RR_moved_2 : decode prog_1_method_30_code 2 = .ok (.iload_n 3, 1) := by decide +kernel
theorem d_RR_moved_3 : decode prog_1_method_30_code 3 = .ok (.ifCond .lt 70, 3) := by decide +kernel
theorem d_RR_moved_6 : decode prog_1_method_30_code 6 = .ok (.iconst 5, 1) := by decide +kernel
theorem d_RR_moved_7 : decode prog_1_method_30_code 7 = .ok (.istore 4, 2) := by decide +kernel
theorem d_RR_moved_9 : decode prog_1_method_30_code 9 = .ok (.iload 4, 2) := by decide +kernel
theorem d_RR_moved_11 : decode prog_1_method_30_code 11 = .ok (.ifCond .le 36, 3) := by decide +kernel
theorem d_RR_moved_14 : decode prog_1_method_30_code 14 = .ok (.aload_n 0, 1) := by decide +kernel
theorem d_RR_moved_15 : decode prog_1_method_30_code 15 = .ok (.getfield 40, 3) := by decide +kernel
theorem d_RR_moved_18 : decode prog_1_method_30_code 18 = .ok (.iload 4, 2) := by decide +kernel
theorem d_RR_moved_20 : decode prog_1_method_30_code 20 = .ok (.aload_n 0, 1) := by decide +kernel
theorem d_RR_moved_21 : decode prog_1_method_30_code 21 = .ok (.getfield 40, 3) := by decide +kernel
theorem d_RR_moved_24 : decode prog_1_method_30_code 24 = .ok (.iload 4, 2) := by decide +kernel
theorem d_RR_moved_26 : decode prog_1_method_30_code 26 = .ok (.laload, 1) := by decide +kernel
theorem d_RR_moved_27 : decode prog_1_method_30_code 27 = .ok (.iload_n 2, 1) := by decide +kernel
theorem d_RR_moved_28 : decode prog_1_method_30_code 28 = .ok (.i2l, 1) := by decide +kernel
theorem d_RR_moved_29 : decode prog_1_method_30_code 29 = .ok (.lmul, 1) := by decide +kernel
theorem d_RR_moved_30 : decode prog_1_method_30_code 30 = .ok (.aload_n 0, 1) := by decide +kernel
theorem d_RR_moved_31 : decode prog_1_method_30_code 31 = .ok (.getfield 40, 3) := by decide +kernel
theorem d_RR_moved_34 : decode prog_1_method_30_code 34 = .ok (.iload 4, 2) := by decide +kernel
theorem d_RR_moved_36 : decode prog_1_method_30_code 36 = .ok (.iconst 1, 1) := by decide +kernel
theorem d_RR_moved_37 : decode prog_1_method_30_code 37 = .ok (.isub, 1) := by decide +kernel
theorem d_RR_moved_38 : decode prog_1_method_30_code 38 = .ok (.laload, 1) := by decide +kernel
theorem d_RR_moved_39 : decode prog_1_method_30_code 39 = .ok (.ladd, 1) := by decide +kernel
theorem d_RR_moved_40 : decode prog_1_method_30_code 40 = .ok (.lastore, 1) := by decide +kernel
theorem d_RR_moved_41 : decode prog_1_method_30_code 41 = .ok (.iinc 4 (-1), 3) := by decide +kernel
theorem d_RR_moved_44 : decode prog_1_method_30_code 44 = .ok (.goto (-35), 3) := by decide +kernel
theorem d_RR_moved_47 : decode prog_1_method_30_code 47 = .ok (.aload_n 0, 1) := by decide +kernel
theorem d_RR_moved_48 : decode prog_1_method_30_code 48 = .ok (.getfield 40, 3) := by decide +kernel
theorem d_RR_moved_51 : decode prog_1_method_30_code 51 = .ok (.iconst 0, 1) := by decide +kernel
theorem d_RR_moved_52 : decode prog_1_method_30_code 52 = .ok (.aload_n 0, 1) := by decide +kernel
theorem d_RR_moved_53 : decode prog_1_method_30_code 53 = .ok (.getfield 40, 3) := by decide +kernel
theorem d_RR_moved_56 : decode prog_1_method_30_code 56 = .ok (.iconst 0, 1) := by decide +kernel
theorem d_RR_moved_57 : decode prog_1_method_30_code 57 = .ok (.laload, 1) := by decide +kernel
theorem d_RR_moved_58 : decode prog_1_method_30_code 58 = .ok (.iload_n 2, 1) := by decide +kernel
theorem d_RR_moved_59 : decode prog_1_method_30_code 59 = .ok (.i2l, 1) := by decide +kernel
theorem d_RR_moved_60 : decode prog_1_method_30_code 60 = .ok (.lmul, 1) := by decide +kernel
theorem d_RR_moved_61 : decode prog_1_method_30_code 61 = .ok (.aload_n 1, 1) := by decide +kernel
theorem d_RR_moved_62 : decode prog_1_method_30_code 62 = .ok (.iload_n 3, 1) := by decide +kernel
theorem d_RR_moved_63 : decode prog_1_method_30_code 63 = .ok (.iaload, 1) := by decide +kernel
theorem d_RR_moved_64 : decode prog_1_method_30_code 64 = .ok (.i2l, 1) := by decide +kernel
theorem d_RR_moved_65 : decode prog_1_method_30_code 65 = .ok (.ladd, 1) := by decide +kernel
theorem d_RR_moved_66 : decode prog_1_method_30_code 66 = .ok (.lastore, 1) := by decide +kernel
theorem d_RR_moved_67 : decode prog_1_method_30_code 67 = .ok (.iinc 3 (-1), 3) := by decide +kernel
theorem d_RR_moved_70 : decode prog_1_method_30_code 70 = .ok (.goto (-68), 3) := by decide +kernel
theorem d_RR_moved_73 : decode prog_1_method_30_code 73 = .ok (.return_, 1) := by decide +kernel
set_option maxHeartbeats 8000000 in
set_option maxRecDepth 100000 in
theorem c_RR_moved (l : Launch) (D : va_G) (cs : Nat → ClassId) (L : List Nat) (f : Nat → va_E) (sz : Nat) (x c0 c2 c3 c4 c5 c6 c7 c8 c9 c10 c11 : Nat) (hd ll ln : Int) (va : Nat) (wd aw : Nat → Int) (b : Int) (hF : Fc L [x, c5, va]) (ha : f x = .inr (6, [.ref c0, .int (iI hd), .ref c2, .ref c3, .ref c4, .ref c5, .ref c6, .ref c7, .ref c8, .ref c9, .ref c10, .ref c11, .int (iI ll), .int (iI ln)])) (hc5 : f c5 = .inl (cs 1, 12, .inr (.inl (al wd)))) (hva : f va = .inl (cs 0, 6, .inl (ai aw))) (haw : ∀ j, j < 6 → -1000 ≤ aw j ∧ aw j ≤ 1000) (hb0 : -1000 ≤ b ∧ b ≤ 1000) (hwd : ∀ j, j < 6 → wd j = 0) : Met l (⟨"RealRoots", "moved", "([II)V"⟩ : MethodName) (.code (⟨"RealRoots", "moved", "([II)V"⟩ : MethodName) prog_1_method_30_code 5 (Option.none : Option Jvm.ClassFile.FieldType) :: gw) ({ frames := 0, cells := 0, slots := 0, locals := 0 }) (va_Pc [.ref x, .ref va, .int (iI b)] (K0 D vwCl (TY cs) L f sz)) (va_Qv (fun (g : Nat → va_E) => ∃ w' : Nat → Int, (∀ j, j < 6 → w' j = hrn aw b 6 j) ∧ (∀ j, 6 ≤ j → w' j = wd j) ∧ g = mw f [(c5, .inl (cs 1, 12, .inr (.inl (al (w')))))]) (K1 D vwCl (TY cs) (AL L sz) L) (AL L sz)) 0 0 (AL L sz) := by
  refine Met.ofW (cc := prog_1_method_30_code) (maxL := 5) (ret := (Option.none : Option Jvm.ClassFile.FieldType)) (by decide) rfl ?_
  intro p e s m args below meth c s₁ Bd hml hv
  obtain ⟨rfl, hk0⟩ := hv
  obtain ⟨hsz, B⟩ := hk0.start
  subst hsz
  have hx := Bd.exec
  have hb := Bd.bytes
  have hr := Bd.returns
  have hlocks := Bd.notSynchronized
  have hts0 := atoms_spec Bd.pre
  have hown : s.vm.findClass RX6 = some m.cls := findClass_of_methodNamed Bd.named
  have hA : ∀ q, s.heap.size ≤ q → AL L s.heap.size q := fun _ h => Or.inr h
  have hl := lv_entry ([.ref x, .ref va, .int (iI b)]) (n := 5) (Nat.le_of_ble_eq_true rfl)
  rw [lg_entry_eq]
  generalize (lg_sl ([.ref x, .ref va, .int (iI b)]) ++ List.replicate (5 - (lg_sl ([.ref x, .ref va, .int (iI b)])).length) Slot.unset).toArray = ls at hl ⊢
  refine absQ (fun Q R av hQ hR hav => ?_)
  have hts : ∀ w ∈ gw, w.before av s = true := by rw [hav]; exact fun w h => hts0 w (List.mem_cons_of_mem _ h)
  have hRf : R.frames = 0 := by rw [hR]; rfl
  have hRl : R.locals = 0 := by rw [hR]; rfl
  have hRc : R.cells = 0 := by rw [hR]; rfl
  have hRs : R.slots = 0 := by rw [hR]; rfl
  clear hR hts0 Bd
  have hl : lv_has ls 5 [(0, .ref x), (1, .ref va), (2, .int (iI b))] := hl
  have hfx : ∀ q ∈ ([(x, .inr (6, [.ref c0, .int (iI hd), .ref c2, .ref c3, .ref c4, .ref c5, .ref c6, .ref c7, .ref c8, .ref c9, .ref c10, .ref c11, .int (iI ll), .int (iI ln)])), (c5, .inl (cs 1, 12, .inr (.inl (al wd)))), (va, .inl (cs 0, 6, .inl (ai aw)))] : List (Nat × va_E)), f q.1 = q.2 := fun q hq => by
    simp only [List.mem_cons, List.not_mem_nil, or_false] at hq
    rcases hq with rfl | rfl | rfl
    · exact ha
    · exact hc5
    · exact hva
  have hmw : mw f [(x, .inr (6, [.ref c0, .int (iI hd), .ref c2, .ref c3, .ref c4, .ref c5, .ref c6, .ref c7, .ref c8, .ref c9, .ref c10, .ref c11, .int (iI ll), .int (iI ln)])), (c5, .inl (cs 1, 12, .inr (.inl (al wd)))), (va, .inl (cs 0, 6, .inl (ai aw)))] = f := mw_self (fun k a e hk => hfx (a, e) (List.mem_of_getElem? hk))
  have B := B.focus [(x, .inr (6, [.ref c0, .int (iI hd), .ref c2, .ref c3, .ref c4, .ref c5, .ref c6, .ref c7, .ref c8, .ref c9, .ref c10, .ref c11, .int (iI ll), .int (iI ln)])), (c5, .inl (cs 1, 12, .inr (.inl (al wd)))), (va, .inl (cs 0, 6, .inl (ai aw)))] hfx
  refine x_iconst hx hb d_RR_moved_0 ?_
  refine lv_istore_n (lv' := [(3, .int (iI 5)), (0, .ref x), (1, .ref va), (2, .int (iI b))]) hx hb d_RR_moved_1 rfl hl (by decide) rfl (fun ls hl => ?_)
  have L1 : ∀ (fuel : Nat) (kk : Nat) (w2 : Nat → Int), kk < fuel → (kk ≤ 6) → (∀ j, j < 6 → w2 j = hrn aw b (6 - kk) j) → (∀ j, 6 ≤ j → w2 j = wd j) → ∀ (H : Heap) (locs : List Loc) (ls : Array Slot), Wb D vwCl (TY cs) L (mw f [(x, .inr (6, [.ref c0, .int (iI hd), .ref c2, .ref c3, .ref c4, .ref c5, .ref c6, .ref c7, .ref c8, .ref c9, .ref c10, .ref c11, .int (iI ll), .int (iI ln)])), (c5, .inl (cs 1, 12, .inr (.inl (al w2)))), (va, .inl (cs 0, 6, .inl (ai aw)))]) (AL L s.heap.size) s H locs → lv_has ls 5 [(3, .int (iI ((kk : Int) - 1))), (0, .ref x), (1, .ref va), (2, .int (iI b))] → W p l e R s m av below meth c H locs (0) (0) Q (F0 m 2 ls []) := by
    intro fuel
    induction fuel with
    | zero => intro kk w2 hfu; exact absurd hfu (Nat.not_lt_zero _)
    | succ fuel ih_L1 =>
      intro kk w2 hfu_L1 hkk hI hoo H locs ls B hl
      refine lv_iload_n hx hb d_RR_moved_2 rfl (lv_at hl 0 rfl) ?_
      refine x_if_lt (tgt := 73) hx hb d_RR_moved_3 (by decide) (by omega) (fun h3 => ?_) (fun h3 => ?_)
      · subst hQ hav
        exact x_vret hx hb hr hlocks B d_RR_moved_73 (⟨w2, fun j hj => by rw [hI j hj, show 6 - kk = 6 by omega], hoo, Eq.trans (mw_drop (f := f) (X := [(c5, .inl (cs 1, 12, .inr (.inl (al w2)))), (va, .inl (cs 0, 6, .inl (ai aw)))]) ha (List.nodup_cons.mp hF.1).1) (mw_tail (X := [(c5, .inl (cs 1, 12, .inr (.inl (al w2))))]) (Y := [(va, .inl (cs 0, 6, .inl (ai aw)))]) (fun p hp => hfx p (List.mem_cons_of_mem _ (List.mem_cons_of_mem _ hp))))⟩)
      · refine x_iconst hx hb d_RR_moved_6 ?_
        refine lv_istore (lv' := [(4, .int (iI 5)), (3, .int (iI ((kk : Int) - 1))), (0, .ref x), (1, .ref va), (2, .int (iI b))]) hx hb d_RR_moved_7 hl (by decide) rfl (fun ls hl => ?_)
        have L2 : ∀ (fuel : Nat) (ii : Nat) (w3 : Nat → Int), ii < fuel → (ii ≤ 5) → (∀ j, ii < j → j < 6 → w3 j = hrn aw b (6 - kk + 1) j) → (∀ j, j ≤ ii → w3 j = hrn aw b (6 - kk) j) → (∀ j, 6 ≤ j → w3 j = wd j) → ∀ (H : Heap) (locs : List Loc) (ls : Array Slot), Wb D vwCl (TY cs) L (mw f [(x, .inr (6, [.ref c0, .int (iI hd), .ref c2, .ref c3, .ref c4, .ref c5, .ref c6, .ref c7, .ref c8, .ref c9, .ref c10, .ref c11, .int (iI ll), .int (iI ln)])), (c5, .inl (cs 1, 12, .inr (.inl (al w3)))), (va, .inl (cs 0, 6, .inl (ai aw)))]) (AL L s.heap.size) s H locs → lv_has ls 5 [(4, .int (iI ((ii : Int)))), (3, .int (iI ((kk : Int) - 1))), (0, .ref x), (1, .ref va), (2, .int (iI b))] → W p l e R s m av below meth c H locs (0) (0) Q (F0 m 9 ls []) := by
          intro fuel
          induction fuel with
          | zero => intro ii w3 hfu; exact absurd hfu (Nat.not_lt_zero _)
          | succ fuel ih_L2 =>
            intro ii w3 hfu_L2 hii hJ hJl hoi H locs ls B hl
            refine lv_iload hx hb d_RR_moved_9 (lv_at hl 0 rfl) ?_
            refine x_if_le (tgt := 47) hx hb d_RR_moved_11 (by decide) (by omega) (fun h11 => ?_) (fun h11 => ?_)
            · have h9k := haw (kk - 1) (by omega)
              refine lv_aload_n hx hb d_RR_moved_47 rfl (lv_at hl 2 rfl) ?_
              refine x_get (C := RX6) (T := TX6) (N := 14) hx hb hts inX6 hown B hF 0 rfl rfl 5 (by decide) (hts _ w_202) (fun _ h9 => h9) rfl d_RR_moved_48 ?_
              refine x_iconst hx hb d_RR_moved_51 ?_
              refine lv_aload_n hx hb d_RR_moved_52 rfl (lv_at hl 2 rfl) ?_
              refine x_get (C := RX6) (T := TX6) (N := 14) hx hb hts inX6 hown B hF 0 rfl rfl 5 (by decide) (hts _ w_202) (fun _ h9 => h9) rfl d_RR_moved_53 ?_
              refine x_iconst hx hb d_RR_moved_56 ?_
              refine x_lald hx hb B hF 1 1 rfl rfl 0 (by omega) (by omega) (by decide) d_RR_moved_57 ?_
              refine lv_iload_n hx hb d_RR_moved_58 rfl (lv_at hl 4 rfl) ?_
              refine x_i2l hx hb d_RR_moved_59 (by omega) ?_
              refine x_lmul hx hb d_RR_moved_60 ?_
              refine lv_aload_n hx hb d_RR_moved_61 rfl (lv_at hl 3 rfl) ?_
              refine lv_iload_n hx hb d_RR_moved_62 rfl (lv_at hl 1 rfl) ?_
              refine x_iald hx hb B hF 2 0 rfl rfl (kk - 1) (by omega) (by omega) (by decide) d_RR_moved_63 ?_
              refine x_i2l hx hb d_RR_moved_64 (by omega) ?_
              refine x_ladd hx hb d_RR_moved_65 ?_
              refine x_last hx hb B hF 1 1 rfl rfl 0 (by omega) (by omega) (by decide) d_RR_moved_66 (fun H locs B => ?_)
              have B : Wb D vwCl (TY cs) L (mw f [(x, .inr (6, [.ref c0, .int (iI hd), .ref c2, .ref c3, .ref c4, .ref c5, .ref c6, .ref c7, .ref c8, .ref c9, .ref c10, .ref c11, .int (iI ll), .int (iI ln)])), (c5, .inl (cs 1, 12, .inr (.inl (al (up w3 0 (((w3 0) * b) + (aw (kk - 1)))))))), (va, .inl (cs 0, 6, .inl (ai aw)))]) (AL L s.heap.size) s H _ := B
              refine x_iinc (lv' := [(3, .int (iI (((kk : Int) - 1) + (-1)))), (4, .int (iI ((ii : Int)))), (0, .ref x), (1, .ref va), (2, .int (iI b))]) hx hb d_RR_moved_67 hl (q := 1) rfl rfl (by decide) rfl (fun ls hl => ?_)
              refine lv_goto (tgt := 2) hx hb d_RR_moved_70 (by decide) ?_
              rw [show (kk : Int) - 1 + (-1) = ((kk - 1 : Nat) : Int) - 1 by omega] at hl
              exact ih_L1 (kk - 1) (up w3 0 (((w3 0) * b) + (aw (kk - 1)))) (by omega) (by omega) (fun j hj => by
                          by_cases hj0 : j = 0
                          · rw [hj0, up_self, hJl 0 (by omega), show 6 - (kk - 1) = (6 - kk) + 1 by omega, hrn, if_pos rfl, show 5 - (6 - kk) = kk - 1 by omega]
                          · rw [up_ne _ _ hj0, hJ j (by omega) hj, show 6 - (kk - 1) = (6 - kk) + 1 by omega]) (fun j hj => by rw [up_ne _ _ (by omega)]; exact hoi j hj) _ _ _ B (lv_sub hl [0, 2, 3, 4] rfl)
            · refine lv_aload_n hx hb d_RR_moved_14 rfl (lv_at hl 2 rfl) ?_
              refine x_get (C := RX6) (T := TX6) (N := 14) hx hb hts inX6 hown B hF 0 rfl rfl 5 (by decide) (hts _ w_202) (fun _ h9 => h9) rfl d_RR_moved_15 ?_
              refine lv_iload hx hb d_RR_moved_18 (lv_at hl 0 rfl) ?_
              refine lv_aload_n hx hb d_RR_moved_20 rfl (lv_at hl 2 rfl) ?_
              refine x_get (C := RX6) (T := TX6) (N := 14) hx hb hts inX6 hown B hF 0 rfl rfl 5 (by decide) (hts _ w_202) (fun _ h9 => h9) rfl d_RR_moved_21 ?_
              refine lv_iload hx hb d_RR_moved_24 (lv_at hl 0 rfl) ?_
              refine x_lald hx hb B hF 1 1 rfl rfl ii (by omega) (by omega) (by decide) d_RR_moved_26 ?_
              refine lv_iload_n hx hb d_RR_moved_27 rfl (lv_at hl 4 rfl) ?_
              refine x_i2l hx hb d_RR_moved_28 (by omega) ?_
              refine x_lmul hx hb d_RR_moved_29 ?_
              refine lv_aload_n hx hb d_RR_moved_30 rfl (lv_at hl 2 rfl) ?_
              refine x_get (C := RX6) (T := TX6) (N := 14) hx hb hts inX6 hown B hF 0 rfl rfl 5 (by decide) (hts _ w_202) (fun _ h9 => h9) rfl d_RR_moved_31 ?_
              refine lv_iload hx hb d_RR_moved_34 (lv_at hl 0 rfl) ?_
              refine x_iconst hx hb d_RR_moved_36 ?_
              refine x_isub hx hb d_RR_moved_37 ?_
              refine x_lald hx hb B hF 1 1 rfl rfl (ii - 1) (by omega) (by omega) (by decide) d_RR_moved_38 ?_
              refine x_ladd hx hb d_RR_moved_39 ?_
              refine x_last hx hb B hF 1 1 rfl rfl ii (by omega) (by omega) (by decide) d_RR_moved_40 (fun H locs B => ?_)
              have B : Wb D vwCl (TY cs) L (mw f [(x, .inr (6, [.ref c0, .int (iI hd), .ref c2, .ref c3, .ref c4, .ref c5, .ref c6, .ref c7, .ref c8, .ref c9, .ref c10, .ref c11, .int (iI ll), .int (iI ln)])), (c5, .inl (cs 1, 12, .inr (.inl (al (up w3 ii (((w3 ii) * b) + (w3 (ii - 1)))))))), (va, .inl (cs 0, 6, .inl (ai aw)))]) (AL L s.heap.size) s H _ := B
              refine x_iinc (lv' := [(4, .int (iI (((ii : Int)) + (-1)))), (3, .int (iI ((kk : Int) - 1))), (0, .ref x), (1, .ref va), (2, .int (iI b))]) hx hb d_RR_moved_41 hl (q := 0) rfl rfl (by decide) rfl (fun ls hl => ?_)
              refine lv_goto (tgt := 9) hx hb d_RR_moved_44 (by decide) ?_
              rw [show (ii : Int) + (-1) = ((ii - 1 : Nat) : Int) by omega] at hl
              exact ih_L2 (ii - 1) (up w3 ii (((w3 ii) * b) + (w3 (ii - 1)))) (by omega) (by omega) (fun j h1 h2 => by
                                by_cases hji : j = ii
                                · rw [hji, up_self, hJl ii (by omega), hJl (ii - 1) (by omega), hrn, if_neg (by omega)]
                                · rw [up_ne _ _ hji]; exact hJ j (by omega) h2) (fun j hj => by rw [up_ne _ _ (by omega)]; exact hJl j (by omega)) (fun j hj => by rw [up_ne _ _ (by omega)]; exact hoi j hj) _ _ _ B (lv_sub hl [0, 1, 2, 3, 4] rfl)
        exact L2 _ 5 w2 (Nat.lt_succ_self _) (by omega) (fun j h1 h2 => by omega) (fun j hj => hI j (by omega)) hoo _ _ _ B (lv_sub hl [0, 1, 2, 3, 4] rfl)
  exact L1 _ 6 wd (Nat.lt_succ_self _) (by omega) (fun j hj => by rw [hwd j hj]; rfl) (fun j _ => rfl) _ _ _ B (lv_sub hl [0, 1, 2, 3] rfl)
