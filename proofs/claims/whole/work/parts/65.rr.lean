theorem prim_by {A C : Nat → Int} {ld by1 : Int} (hld : (ld = 0 ∧ ∀ j, j < 6 → A j = 0) ∨ (∃ t, t < 6 ∧ ld = A t ∧ A t ≠ 0 ∧ ∀ j, t < j → j < 6 → A j = 0)) (hby : by1 = if ld < 0 then -((cg A 0 6 : Nat) : Int) else ((cg A 0 6 : Nat) : Int)) (hC : by1 ≠ 0 → ∀ j, j < 6 → C j = (A j).tdiv by1) (hC0 : by1 = 0 → ∀ j, j < 6 → C j = A j) : PrimOf A C := by
  rcases hld with ⟨h1, h2⟩ | ⟨t, ht, h1, h2, h3⟩
  · left
    have hc : cg A 0 6 = 0 := by
      have : ∀ k, k ≤ 6 → cg A 0 k = 0 := by
        intro k
        induction k with
        | zero => intro _; rfl
        | succ k ih => intro hk; rw [cg, ih (by omega), Nat.zero_add, h2 k (by omega)]; rfl
      exact this 6 (Nat.le_refl _)
    have hb0 : by1 = 0 := by rw [hby, hc]; split <;> rfl
    exact ⟨h2, fun j hj => by rw [hC0 hb0 j hj]; exact h2 j hj⟩
  · have hc : cg A 0 6 ≠ 0 := fun h => h2 (by have := cg_zero h t ht; rwa [Nat.zero_add] at this)
    have hb0 : by1 ≠ 0 := by rw [hby]; split <;> omega
    have hA : A t = ((cg A 0 6 : Nat) : Int) * (A t).tdiv ((cg A 0 6 : Nat) : Int) := tdiv_cg ht hc
    have hpos : (0 : Int) < ((cg A 0 6 : Nat) : Int) := by omega
    refine prim_mk (k := t + 1) (B := fun j => (A j).tdiv ((cg A 0 6 : Nat) : Int)) (by omega) (by omega) (fun j h4 h5 => h3 j (by omega) h5) (by rw [Nat.add_sub_cancel]; exact h2) (fun j _ => rfl) ?_
    rw [Nat.add_sub_cancel]
    by_cases hneg : ld < 0
    · right
      rw [if_pos hneg] at hby
      refine ⟨?_, fun j hj => by rw [hC hb0 j hj, hby, Int.tdiv_neg]⟩
      rcases Int.lt_or_le ((A t).tdiv ((cg A 0 6 : Nat) : Int)) 0 with h | h
      · exact h
      · have := Int.mul_nonneg (Int.le_of_lt hpos) h
        omega
    · left
      rw [if_neg hneg] at hby
      refine ⟨?_, fun j hj => by rw [hC hb0 j hj, hby]⟩
      rcases Int.lt_or_le ((A t).tdiv ((cg A 0 6 : Nat) : Int)) 0 with h | h
      · have := Int.mul_neg_of_pos_of_neg hpos h
        omega
      · exact h
theorem gcd_bd {a b : Nat} (ha : (a : Int) < 4611686018427387904) (hb : (b : Int) < 4611686018427387904) : ((Nat.gcd a b : Nat) : Int) < 4611686018427387904 := by
  rcases Nat.eq_zero_or_pos a with h | h
  · rw [h, Nat.gcd_zero_left]; exact hb
  · have := Nat.gcd_le_left b h
    omega
theorem d_RR_widen_0 : decode prog_1_method_27_code 0 = .ok (.iconst 0, 1) := by decide +kernel
theorem d_RR_widen_1 : decode prog_1_method_27_code 1 = .ok (.istore_n 2, 1) := by decide +kernel
theorem d_RR_widen_2 : decode prog_1_method_27_code 2 = .ok (.iload_n 2, 1) := by decide +kernel
theorem d_RR_widen_3 : decode prog_1_method_27_code 3 = .ok (.aload_n 0, 1) := by decide +kernel
theorem d_RR_widen_4 : decode prog_1_method_27_code 4 = .ok (.getfield 40, 3) := by decide +kernel
theorem d_RR_widen_7 : decode prog_1_method_27_code 7 = .ok (.arraylength, 1) := by decide +kernel
theorem d_RR_widen_8 : decode prog_1_method_27_code 8 = .ok (.if_icmp .ge 29, 3) := by decide +kernel
theorem d_RR_widen_11 : decode prog_1_method_27_code 11 = .ok (.aload_n 0, 1) := by decide +kernel
theorem d_RR_widen_12 : decode prog_1_method_27_code 12 = .ok (.getfield 40, 3) := by decide +kernel
theorem d_RR_widen_15 : decode prog_1_method_27_code 15 = .ok (.iload_n 2, 1) := by decide +kernel
theorem d_RR_widen_16 : decode prog_1_method_27_code 16 = .ok (.iload_n 2, 1) := by decide +kernel
theorem d_RR_widen_17 : decode prog_1_method_27_code 17 = .ok (.bipush 6, 2) := by decide +kernel
theorem d_RR_widen_19 : decode prog_1_method_27_code 19 = .ok (.if_icmp .ge 10, 3) := by decide +kernel
theorem d_RR_widen_22 : decode prog_1_method_27_code 22 = .ok (.aload_n 1, 1) := by decide +kernel
theorem d_RR_widen_23 : decode prog_1_method_27_code 23 = .ok (.iload_n 2, 1) := by decide +kernel
theorem d_RR_widen_24 : decode prog_1_method_27_code 24 = .ok (.iaload, 1) := by decide +kernel
theorem d_RR_widen_25 : decode prog_1_method_27_code 25 = .ok (.i2l, 1) := by decide +kernel
theorem d_RR_widen_26 : decode prog_1_method_27_code 26 = .ok (.goto 4, 3) := by decide +kernel
theorem d_RR_widen_29 : decode prog_1_method_27_code 29 = .ok (.lconst 0, 1) := by decide +kernel
theorem d_RR_widen_30 : decode prog_1_method_27_code 30 = .ok (.lastore, 1) := by decide +kernel
theorem d_RR_widen_31 : decode prog_1_method_27_code 31 = .ok (.iinc 2 1, 3) := by decide +kernel
theorem d_RR_widen_34 : decode prog_1_method_27_code 34 = .ok (.goto (-32), 3) := by decide +kernel
theorem d_RR_widen_37 : decode prog_1_method_27_code 37 = .ok (.return_, 1) := by decide +kernel
set_option maxHeartbeats 8000000 in
set_option maxRecDepth 100000 in
theorem c_RR_widen (l : Launch) (D : va_G) (cs : Nat → ClassId) (L : List Nat) (f : Nat → va_E) (sz : Nat) (x c0 c2 c3 c4 c5 c6 c7 c8 c9 c10 c11 : Nat) (hd ll ln : Int) (ta : Nat) (ww aw : Nat → Int) (hF : Fc L [x, c5, ta]) (ha : f x = .inr (6, [.ref c0, .int (iI hd), .ref c2, .ref c3, .ref c4, .ref c5, .ref c6, .ref c7, .ref c8, .ref c9, .ref c10, .ref c11, .int (iI ll), .int (iI ln)])) (hhd : 0 ≤ hd ∧ hd ≤ 12) (hw5 : f c5 = .inl (cs 1, 12, .inr (.inl (al ww)))) (hta : f ta = .inl (cs 0, 6, .inl (ai aw))) (hvr : ∀ j, j < 6 → -2147483648 ≤ aw j ∧ aw j < 2147483648) : Met l (⟨"RealRoots", "widen", "([I)V"⟩ : MethodName) (.code (⟨"RealRoots", "widen", "([I)V"⟩ : MethodName) prog_1_method_27_code 3 (Option.none : Option Jvm.ClassFile.FieldType) :: gw) ({ frames := 0, cells := 0, slots := 0, locals := 0 }) (va_Pc [.ref x, .ref ta] (K0 D vwCl (TY cs) L f sz)) (va_Qv (fun (g : Nat → va_E) => ∃ z' : Nat → Int, (∀ j, j < 12 → z' j = if j < 6 then aw j else 0) ∧ g = mw f [(c5, .inl (cs 1, 12, .inr (.inl (al (z')))))]) (K1 D vwCl (TY cs) (AL L sz) L) (AL L sz)) 0 0 (AL L sz) := by
  refine Met.ofW (cc := prog_1_method_27_code) (maxL := 3) (ret := (Option.none : Option Jvm.ClassFile.FieldType)) (by decide) rfl ?_
  intro p e s m args below meth c s₁ Bd hml hv
  obtain ⟨rfl, hk0⟩ := hv
  obtain ⟨hsz, B⟩ := hk0.start
  subst hsz
  have hx := Bd.exec
  have hb := Bd.bytes
  have hr := Bd.returns
  have hlocks := Bd.notSynchronized
  have hts0 := atoms_spec Bd.pre
  have hown : s.vm.findClass RX6 = some m.cls := findClass_of_methodNamed Bd.named
  have hA : ∀ q, s.heap.size ≤ q → AL L s.heap.size q := fun _ h => Or.inr h
  have hl := lv_entry ([.ref x, .ref ta]) (n := 3) (Nat.le_of_ble_eq_true rfl)
  rw [lg_entry_eq]
  generalize (lg_sl ([.ref x, .ref ta]) ++ List.replicate (3 - (lg_sl ([.ref x, .ref ta])).length) Slot.unset).toArray = ls at hl ⊢
  refine absQ (fun Q R av hQ hR hav => ?_)
  have hts : ∀ w ∈ gw, w.before av s = true := by rw [hav]; exact fun w h => hts0 w (List.mem_cons_of_mem _ h)
  have hRf : R.frames = 0 := by rw [hR]; rfl
  have hRl : R.locals = 0 := by rw [hR]; rfl
  have hRc : R.cells = 0 := by rw [hR]; rfl
  have hRs : R.slots = 0 := by rw [hR]; rfl
  clear hR hts0 Bd
  have hl : lv_has ls 3 [(0, .ref x), (1, .ref ta)] := hl
  have hfx : ∀ q ∈ ([(x, .inr (6, [.ref c0, .int (iI hd), .ref c2, .ref c3, .ref c4, .ref c5, .ref c6, .ref c7, .ref c8, .ref c9, .ref c10, .ref c11, .int (iI ll), .int (iI ln)])), (c5, .inl (cs 1, 12, .inr (.inl (al ww)))), (ta, .inl (cs 0, 6, .inl (ai aw)))] : List (Nat × va_E)), f q.1 = q.2 := fun q hq => by
    simp only [List.mem_cons, List.not_mem_nil, or_false] at hq
    rcases hq with rfl | rfl | rfl
    · exact ha
    · exact hw5
    · exact hta
  have hmw : mw f [(x, .inr (6, [.ref c0, .int (iI hd), .ref c2, .ref c3, .ref c4, .ref c5, .ref c6, .ref c7, .ref c8, .ref c9, .ref c10, .ref c11, .int (iI ll), .int (iI ln)])), (c5, .inl (cs 1, 12, .inr (.inl (al ww)))), (ta, .inl (cs 0, 6, .inl (ai aw)))] = f := mw_self (fun k a e hk => hfx (a, e) (List.mem_of_getElem? hk))
  have B := B.focus [(x, .inr (6, [.ref c0, .int (iI hd), .ref c2, .ref c3, .ref c4, .ref c5, .ref c6, .ref c7, .ref c8, .ref c9, .ref c10, .ref c11, .int (iI ll), .int (iI ln)])), (c5, .inl (cs 1, 12, .inr (.inl (al ww)))), (ta, .inl (cs 0, 6, .inl (ai aw)))] hfx
  refine x_iconst hx hb d_RR_widen_0 ?_
  refine lv_istore_n (lv' := [(2, .int (iI 0)), (0, .ref x), (1, .ref ta)]) hx hb d_RR_widen_1 rfl hl (by decide) rfl (fun ls hl => ?_)
  have LP : ∀ (fuel : Nat) (k : Nat) (z : Nat → Int), 12 - k < fuel → (k ≤ 12) → (∀ j, j < k → z j = if j < 6 then aw j else 0) → ∀ (H : Heap) (locs : List Loc) (ls : Array Slot), Wb D vwCl (TY cs) L (mw f [(x, .inr (6, [.ref c0, .int (iI hd), .ref c2, .ref c3, .ref c4, .ref c5, .ref c6, .ref c7, .ref c8, .ref c9, .ref c10, .ref c11, .int (iI ll), .int (iI ln)])), (c5, .inl (cs 1, 12, .inr (.inl (al z)))), (ta, .inl (cs 0, 6, .inl (ai aw)))]) (AL L s.heap.size) s H locs → lv_has ls 3 [(2, .int (iI ((k : Int)))), (0, .ref x), (1, .ref ta)] → W p l e R s m av below meth c H locs (0) (0) Q (F0 m 2 ls []) := by
    intro fuel
    induction fuel with
    | zero => intro k z hfu; exact absurd hfu (Nat.not_lt_zero _)
    | succ fuel ih_LP =>
      intro k z hfu_LP hk hI H locs ls B hl
      refine lv_iload_n hx hb d_RR_widen_2 rfl (lv_at hl 0 rfl) ?_
      refine lv_aload_n hx hb d_RR_widen_3 rfl (lv_at hl 1 rfl) ?_
      refine x_get (C := RX6) (T := TX6) (N := 14) hx hb hts inX6 hown B hF 0 rfl rfl 5 (by decide) (hts _ w_202) (fun _ h9 => h9) rfl d_RR_widen_4 ?_
      refine x_alen hx hb B hF 1 1 rfl rfl d_RR_widen_7 ?_
      refine x_icmp_ge (tgt := 37) hx hb d_RR_widen_8 (by decide) (by omega) (by omega) (fun h8 => ?_) (fun h8 => ?_)
      · subst hQ hav
        exact x_vret hx hb hr hlocks B d_RR_widen_37 (⟨_, fun j hj => hI j (by omega), Eq.trans (mw_drop (f := f) (X := [(c5, .inl (cs 1, 12, .inr (.inl (al z)))), (ta, .inl (cs 0, 6, .inl (ai aw)))]) ha (List.nodup_cons.mp hF.1).1) (mw_tail (X := [(c5, .inl (cs 1, 12, .inr (.inl (al z))))]) (Y := [(ta, .inl (cs 0, 6, .inl (ai aw)))]) (fun p hp => hfx p (List.mem_cons_of_mem _ (List.mem_cons_of_mem _ hp))))⟩)
      · refine lv_aload_n hx hb d_RR_widen_11 rfl (lv_at hl 1 rfl) ?_
        refine x_get (C := RX6) (T := TX6) (N := 14) hx hb hts inX6 hown B hF 0 rfl rfl 5 (by decide) (hts _ w_202) (fun _ h9 => h9) rfl d_RR_widen_12 ?_
        refine lv_iload_n hx hb d_RR_widen_15 rfl (lv_at hl 0 rfl) ?_
        refine lv_iload_n hx hb d_RR_widen_16 rfl (lv_at hl 0 rfl) ?_
        refine x_bipush hx hb d_RR_widen_17 (by decide) ?_
        refine x_icmp_ge (tgt := 29) hx hb d_RR_widen_19 (by decide) (by omega) (by omega) (fun h19 => ?_) (fun h19 => ?_)
        · refine x_lconst (z := 0) hx hb d_RR_widen_29 (by decide) ?_
          refine x_last hx hb B hF 1 1 rfl rfl k (by omega) (by omega) (by decide) d_RR_widen_30 (fun H locs B => ?_)
          have B : Wb D vwCl (TY cs) L (mw f [(x, .inr (6, [.ref c0, .int (iI hd), .ref c2, .ref c3, .ref c4, .ref c5, .ref c6, .ref c7, .ref c8, .ref c9, .ref c10, .ref c11, .int (iI ll), .int (iI ln)])), (c5, .inl (cs 1, 12, .inr (.inl (al (up z k 0))))), (ta, .inl (cs 0, 6, .inl (ai aw)))]) (AL L s.heap.size) s H _ := B
          refine x_iinc (lv' := [(2, .int (iI (((k : Int)) + 1))), (0, .ref x), (1, .ref ta)]) hx hb d_RR_widen_31 hl (q := 0) rfl rfl (by decide) rfl (fun ls hl => ?_)
          refine lv_goto (tgt := 2) hx hb d_RR_widen_34 (by decide) ?_
          exact ih_LP (k + 1) (up z k 0) (by omega) (by omega) (fun j hj => by
          by_cases hjk : j = k
          · rw [hjk, up_self, if_neg (show ¬ k < 6 by omega)]
          · rw [up_ne _ _ hjk]; exact hI j (by omega)) _ _ _ B (lv_sub hl [0, 1, 2] rfl)
        · have hv9 := hvr k (by omega)
          refine lv_aload_n hx hb d_RR_widen_22 rfl (lv_at hl 2 rfl) ?_
          refine lv_iload_n hx hb d_RR_widen_23 rfl (lv_at hl 0 rfl) ?_
          refine x_iald hx hb B hF 2 0 rfl rfl k (by omega) (by omega) (by decide) d_RR_widen_24 ?_
          refine x_i2l hx hb d_RR_widen_25 (by omega) ?_
          refine lv_goto (tgt := 30) hx hb d_RR_widen_26 (by decide) ?_
          refine x_last hx hb B hF 1 1 rfl rfl k (by omega) (by omega) (by decide) d_RR_widen_30 (fun H locs B => ?_)
          have B : Wb D vwCl (TY cs) L (mw f [(x, .inr (6, [.ref c0, .int (iI hd), .ref c2, .ref c3, .ref c4, .ref c5, .ref c6, .ref c7, .ref c8, .ref c9, .ref c10, .ref c11, .int (iI ll), .int (iI ln)])), (c5, .inl (cs 1, 12, .inr (.inl (al (up z k (aw k)))))), (ta, .inl (cs 0, 6, .inl (ai aw)))]) (AL L s.heap.size) s H _ := B
          refine x_iinc (lv' := [(2, .int (iI (((k : Int)) + 1))), (0, .ref x), (1, .ref ta)]) hx hb d_RR_widen_31 hl (q := 0) rfl rfl (by decide) rfl (fun ls hl => ?_)
          refine lv_goto (tgt := 2) hx hb d_RR_widen_34 (by decide) ?_
          exact ih_LP (k + 1) (up z k (aw k)) (by omega) (by omega) (fun j hj => by
          by_cases hjk : j = k
          · rw [hjk, up_self, if_pos (show k < 6 by omega)]
          · rw [up_ne _ _ hjk]; exact hI j (by omega)) _ _ _ B (lv_sub hl [0, 1, 2] rfl)
  exact LP _ 0 ww (Nat.lt_succ_self _) (by omega) (fun j hj => by omega) _ _ _ B (lv_sub hl [0, 1, 2] rfl)
theorem d_RR_makeWidePrimitive_0 : decode prog_1_method_36_code 0 = .ok (.lconst 0, 1) := by decide +kernel
theorem d_RR_makeWidePrimitive_1 : decode prog_1_method_36_code 1 = .ok (.lstore_n 1, 1) := by decide +kernel
theorem d_RR_makeWidePrimitive_2 : decode prog_1_method_36_code 2 = .ok (.lconst 0, 1) := by decide +kernel
theorem d_RR_makeWidePrimitive_3 : decode prog_1_method_36_code 3 = .ok (.lstore_n 3, 1) := by decide +kernel
theorem d_RR_makeWidePrimitive_4 : decode prog_1_method_36_code 4 = .ok (.iconst 0, 1) := by decide +kernel
theorem d_RR_makeWidePrimitive_5 : decode prog_1_method_36_code 5 = .ok (.istore 5, 2) := by decide +kernel
theorem d_RR_makeWidePrimitive_7 : decode prog_1_method_36_code 7 = .ok (.iload 5, 2) := by decide +kernel
theorem d_RR_makeWidePrimitive_9 : decode prog_1_method_36_code 9 = .ok (.bipush 6, 2) := by decide +kernel
theorem d_RR_makeWidePrimitive_11 : decode prog_1_method_36_code 11 = .ok (.if_icmp .ge 45, 3) := by decide +kernel
theorem d_RR_makeWidePrimitive_14 : decode prog_1_method_36_code 14 = .ok (.lload_n 1, 1) := by decide +kernel
theorem d_RR_makeWidePrimitive_15 : decode prog_1_method_36_code 15 = .ok (.aload_n 0, 1) := by decide +kernel
theorem d_RR_makeWidePrimitive_16 : decode prog_1_method_36_code 16 = .ok (.getfield 40, 3) := by decide +kernel
theorem d_RR_makeWidePrimitive_19 : decode prog_1_method_36_code 19 = .ok (.iload 5, 2) := by decide +kernel
theorem d_RR_makeWidePrimitive_21 : decode prog_1_method_36_code 21 = .ok (.laload, 1) := by decide +kernel
theorem d_RR_makeWidePrimitive_22 : decode prog_1_method_36_code 22 = .ok (.invokestatic 262, 3) := by decide +kernel
theorem d_RR_makeWidePrimitive_25 : decode prog_1_method_36_code 25 = .ok (.lstore_n 1, 1) := by decide +kernel
theorem d_RR_makeWidePrimitive_26 : decode prog_1_method_36_code 26 = .ok (.aload_n 0, 1) := by decide +kernel
theorem d_RR_makeWidePrimitive_27 : decode prog_1_method_36_code 27 = .ok (.getfield 40, 3) := by decide +kernel
theorem d_RR_makeWidePrimitive_30 : decode prog_1_method_36_code 30 = .ok (.iload 5, 2) := by decide +kernel
theorem d_RR_makeWidePrimitive_32 : decode prog_1_method_36_code 32 = .ok (.laload, 1) := by decide +kernel
theorem d_RR_makeWidePrimitive_33 : decode prog_1_method_36_code 33 = .ok (.lconst 0, 1) := by decide +kernel
theorem d_RR_makeWidePrimitive_34 : decode prog_1_method_36_code 34 = .ok (.lcmp, 1) := by decide +kernel
theorem d_RR_makeWidePrimitive_35 : decode prog_1_method_36_code 35 = .ok (.ifCond .eq 13, 3) := by decide +kernel
theorem d_RR_makeWidePrimitive_38 : decode prog_1_method_36_code 38 = .ok (.aload_n 0, 1) := by decide +kernel
theorem d_RR_makeWidePrimitive_39 : decode prog_1_method_36_code 39 = .ok (.getfield 40, 3) := by decide +kernel
theorem d_RR_makeWidePrimitive_42 : decode prog_1_method_36_code 42 = .ok (.iload 5, 2) := by decide +kernel
theorem d_RR_makeWidePrimitive_44 : decode prog_1_method_36_code 44 = .ok (.laload, 1) := by decide +kernel
theorem d_RR_makeWidePrimitive_45 : decode prog_1_method_36_code 45 = .ok (.goto 4, 3) := by decide +kernel
theorem d_RR_makeWidePrimitive_48 : decode prog_1_method_36_code 48 = .ok (.lload_n 3, 1) := by decide +kernel
theorem d_RR_makeWidePrimitive_49 : decode prog_1_method_36_code 49 = .ok (.lstore_n 3, 1) := by decide +kernel
theorem d_RR_makeWidePrimitive_50 : decode prog_1_method_36_code 50 = .ok (.iinc 5 1, 3) := by decide +kernel
theorem d_RR_makeWidePrimitive_53 : decode prog_1_method_36_code 53 = .ok (.goto (-46), 3) := by decide +kernel
theorem d_RR_makeWidePrimitive_56 : decode prog_1_method_36_code 56 = .ok (.lload_n 3, 1) := by decide +kernel
theorem d_RR_makeWidePrimitive_57 : decode prog_1_method_36_code 57 = .ok (.lconst 0, 1) := by decide +kernel
theorem d_RR_makeWidePrimitive_58 : decode prog_1_method_36_code 58 = .ok (.lcmp, 1) := by decide +kernel
theorem d_RR_makeWidePrimitive_59 : decode prog_1_method_36_code 59 = .ok (.ifCond .ge 8, 3) := by decide +kernel
theorem d_RR_makeWidePrimitive_62 : decode prog_1_method_36_code 62 = .ok (.lload_n 1, 1) := by decide +kernel
theorem d_RR_makeWidePrimitive_63 : decode prog_1_method_36_code 63 = .ok (.lneg, 1) := by decide +kernel
theorem d_RR_makeWidePrimitive_64 : decode prog_1_method_36_code 64 = .ok (.goto 4, 3) := by decide +kernel
theorem d_RR_makeWidePrimitive_67 : decode prog_1_method_36_code 67 = .ok (.lload_n 1, 1) := by decide +kernel
theorem d_RR_makeWidePrimitive_68 : decode prog_1_method_36_code 68 = .ok (.lstore 5, 2) := by decide +kernel
theorem d_RR_makeWidePrimitive_70 : decode prog_1_method_36_code 70 = .ok (.iconst 0, 1) := by decide +kernel
theorem d_RR_makeWidePrimitive_71 : decode prog_1_method_36_code 71 = .ok (.istore 7, 2) := by decide +kernel
theorem d_RR_makeWidePrimitive_73 : decode prog_1_method_36_code 73 = .ok (.iload 7, 2) := by decide +kernel
theorem d_RR_makeWidePrimitive_75 : decode prog_1_method_36_code 75 = .ok (.bipush 6, 2) := by decide +kernel
theorem d_RR_makeWidePrimitive_77 : decode prog_1_method_36_code 77 = .ok (.if_icmp .ge 28, 3) := by decide +kernel
theorem d_RR_makeWidePrimitive_80 : decode prog_1_method_36_code 80 = .ok (.lload 5, 2) := by decide +kernel
theorem d_RR_makeWidePrimitive_82 : decode prog_1_method_36_code 82 = .ok (.lconst 0, 1) := by decide +kernel
theorem d_RR_makeWidePrimitive_83 : decode prog_1_method_36_code 83 = .ok (.lcmp, 1) := by decide +kernel
theorem d_RR_makeWidePrimitive_84 : decode prog_1_method_36_code 84 = .ok (.ifCond .eq 21, 3) := by decide +kernel
theorem d_RR_makeWidePrimitive_87 : decode prog_1_method_36_code 87 = .ok (.aload_n 0, 1) := by decide +kernel
theorem d_RR_makeWidePrimitive_88 : decode prog_1_method_36_code 88 = .ok (.getfield 40, 3) := by decide +kernel
theorem d_RR_makeWidePrimitive_91 : decode prog_1_method_36_code 91 = .ok (.iload 7, 2) := by decide +kernel
theorem d_RR_makeWidePrimitive_93 : decode prog_1_method_36_code 93 = .ok (.dup2, 1) := by decide +kernel
theorem d_RR_makeWidePrimitive_94 : decode prog_1_method_36_code 94 = .ok (.laload, 1) := by decide +kernel
theorem d_RR_makeWidePrimitive_95 : decode prog_1_method_36_code 95 = .ok (.lload 5, 2) := by decide +kernel
theorem d_RR_makeWidePrimitive_97 : decode prog_1_method_36_code 97 = .ok (.ldiv, 1) := by decide +kernel
theorem d_RR_makeWidePrimitive_98 : decode prog_1_method_36_code 98 = .ok (.lastore, 1) := by decide +kernel
theorem d_RR_makeWidePrimitive_99 : decode prog_1_method_36_code 99 = .ok (.iinc 7 1, 3) := by decide +kernel
theorem d_RR_makeWidePrimitive_102 : decode prog_1_method_36_code 102 = .ok (.goto (-29), 3) := by decide +kernel
theorem d_RR_makeWidePrimitive_105 : decode prog_1_method_36_code 105 = .ok (.return_, 1) := by decide +kernel
set_option maxHeartbeats 8000000 in
set_option maxRecDepth 100000 in
theorem c_RR_makeWidePrimitive (l : Launch) (D : va_G) (cs : Nat → ClassId) (L : List Nat) (f : Nat → va_E) (sz : Nat) (x c0 c2 c3 c4 c5 c6 c7 c8 c9 c10 c11 : Nat) (hd ll ln : Int) (ww : Nat → Int) (hF : Fc L [x, c5]) (ha : f x = .inr (6, [.ref c0, .int (iI hd), .ref c2, .ref c3, .ref c4, .ref c5, .ref c6, .ref c7, .ref c8, .ref c9, .ref c10, .ref c11, .int (iI ll), .int (iI ln)])) (hhd : 0 ≤ hd ∧ hd ≤ 12) (hw5 : f c5 = .inl (cs 1, 12, .inr (.inl (al ww)))) (hvr : ∀ j, j < 6 → -4611686018427387904 < ww j ∧ ww j < 4611686018427387904) : Met l (⟨"RealRoots", "makeWidePrimitive", "()V"⟩ : MethodName) (.code (⟨"RealRoots", "makeWidePrimitive", "()V"⟩ : MethodName) prog_1_method_36_code 8 (Option.none : Option Jvm.ClassFile.FieldType) :: gw) ({ frames := 1, cells := 0, slots := 0, locals := 40 }) (va_Pc [.ref x] (K0 D vwCl (TY cs) L f sz)) (va_Qv (fun (g : Nat → va_E) => ∃ z' : Nat → Int, PrimOf ww z' ∧ (∀ j, 6 ≤ j → z' j = ww j) ∧ g = mw f [(c5, .inl (cs 1, 12, .inr (.inl (al (z')))))]) (K1 D vwCl (TY cs) (AL L sz) L) (AL L sz)) 0 0 (AL L sz) := by
  refine Met.ofW (cc := prog_1_method_36_code) (maxL := 8) (ret := (Option.none : Option Jvm.ClassFile.FieldType)) (by decide) rfl ?_
  intro p e s m args below meth c s₁ Bd hml hv
  obtain ⟨rfl, hk0⟩ := hv
  obtain ⟨hsz, B⟩ := hk0.start
  subst hsz
  have hx := Bd.exec
  have hb := Bd.bytes
  have hr := Bd.returns
  have hlocks := Bd.notSynchronized
  have hts0 := atoms_spec Bd.pre
  have hown : s.vm.findClass RX6 = some m.cls := findClass_of_methodNamed Bd.named
  have hA : ∀ q, s.heap.size ≤ q → AL L s.heap.size q := fun _ h => Or.inr h
  have hl := lv_entry ([.ref x]) (n := 8) (Nat.le_of_ble_eq_true rfl)
  rw [lg_entry_eq]
  generalize (lg_sl ([.ref x]) ++ List.replicate (8 - (lg_sl ([.ref x])).length) Slot.unset).toArray = ls at hl ⊢
  refine absQ (fun Q R av hQ hR hav => ?_)
  have hts : ∀ w ∈ gw, w.before av s = true := by rw [hav]; exact fun w h => hts0 w (List.mem_cons_of_mem _ h)
  have hRf : R.frames = 1 := by rw [hR]; rfl
  have hRl : R.locals = 40 := by rw [hR]; rfl
  have hRc : R.cells = 0 := by rw [hR]; rfl
  have hRs : R.slots = 0 := by rw [hR]; rfl
  clear hR hts0 Bd
  have hl : lv_has ls 8 [(0, .ref x)] := hl
  have hfx : ∀ q ∈ ([(x, .inr (6, [.ref c0, .int (iI hd), .ref c2, .ref c3, .ref c4, .ref c5, .ref c6, .ref c7, .ref c8, .ref c9, .ref c10, .ref c11, .int (iI ll), .int (iI ln)])), (c5, .inl (cs 1, 12, .inr (.inl (al ww))))] : List (Nat × va_E)), f q.1 = q.2 := fun q hq => by
    simp only [List.mem_cons, List.not_mem_nil, or_false] at hq
    rcases hq with rfl | rfl
    · exact ha
    · exact hw5
  have hmw : mw f [(x, .inr (6, [.ref c0, .int (iI hd), .ref c2, .ref c3, .ref c4, .ref c5, .ref c6, .ref c7, .ref c8, .ref c9, .ref c10, .ref c11, .int (iI ll), .int (iI ln)])), (c5, .inl (cs 1, 12, .inr (.inl (al ww))))] = f := mw_self (fun k a e hk => hfx (a, e) (List.mem_of_getElem? hk))
  have B := B.focus [(x, .inr (6, [.ref c0, .int (iI hd), .ref c2, .ref c3, .ref c4, .ref c5, .ref c6, .ref c7, .ref c8, .ref c9, .ref c10, .ref c11, .int (iI ll), .int (iI ln)])), (c5, .inl (cs 1, 12, .inr (.inl (al ww))))] hfx
  refine x_lconst (z := 0) hx hb d_RR_makeWidePrimitive_0 (by decide) ?_
  refine lv_lstore_n (lv' := [(1, .long (lI 0)), (0, .ref x)]) hx hb d_RR_makeWidePrimitive_1 rfl hl (by decide) rfl (fun ls hl => ?_)
  refine x_lconst (z := 0) hx hb d_RR_makeWidePrimitive_2 (by decide) ?_
  refine lv_lstore_n (lv' := [(3, .long (lI 0)), (1, .long (lI 0)), (0, .ref x)]) hx hb d_RR_makeWidePrimitive_3 rfl hl (by decide) rfl (fun ls hl => ?_)
  refine x_iconst hx hb d_RR_makeWidePrimitive_4 ?_
  refine lv_istore (lv' := [(5, .int (iI 0)), (3, .long (lI 0)), (1, .long (lI 0)), (0, .ref x)]) hx hb d_RR_makeWidePrimitive_5 hl (by decide) rfl (fun ls hl => ?_)
  have L1 : ∀ (fuel : Nat) (k : Nat) (gg : Nat) (ld : Int), 6 - k < fuel → (k ≤ 6) → (gg = cg ww 0 k) → ((gg : Int) < 4611686018427387904) → ((ld = 0 ∧ ∀ j, j < k → ww j = 0) ∨ (∃ t, t < k ∧ ld = ww t ∧ ww t ≠ 0 ∧ ∀ j, t < j → j < k → ww j = 0)) → (-4611686018427387904 < ld ∧ ld < 4611686018427387904) → ∀ (H : Heap) (locs : List Loc) (ls : Array Slot), Wb D vwCl (TY cs) L (mw f [(x, .inr (6, [.ref c0, .int (iI hd), .ref c2, .ref c3, .ref c4, .ref c5, .ref c6, .ref c7, .ref c8, .ref c9, .ref c10, .ref c11, .int (iI ll), .int (iI ln)])), (c5, .inl (cs 1, 12, .inr (.inl (al ww))))]) (AL L s.heap.size) s H locs → lv_has ls 8 [(5, .int (iI ((k : Int)))), (3, .long (lI ld)), (1, .long (lI ((gg : Int)))), (0, .ref x)] → W p l e R s m av below meth c H locs (0) (0) Q (F0 m 7 ls []) := by
    intro fuel
    induction fuel with
    | zero => intro k gg ld hfu; exact absurd hfu (Nat.not_lt_zero _)
    | succ fuel ih_L1 =>
      intro k gg ld hfu_L1 hk hg hgr hld hlr H locs ls B hl
      refine lv_iload hx hb d_RR_makeWidePrimitive_7 (lv_at hl 0 rfl) ?_
      refine x_bipush hx hb d_RR_makeWidePrimitive_9 (by decide) ?_
      refine x_icmp_ge (tgt := 56) hx hb d_RR_makeWidePrimitive_11 (by decide) (by omega) (by omega) (fun h11 => ?_) (fun h11 => ?_)
      · have h6 : k = 6 := by omega
        have hg6 : gg = cg ww 0 6 := by rw [← h6]; exact hg
        have hld6 := hld
        rw [h6] at hld6
        have J68 : ∀ (by1 : Int), (by1 = if ld < 0 then -((cg ww 0 6 : Nat) : Int) else ((cg ww 0 6 : Nat) : Int)) → (-4611686018427387904 < by1 ∧ by1 < 4611686018427387904) → ∀ (H : Heap) (locs : List Loc) (ls : Array Slot), Wb D vwCl (TY cs) L (mw f [(x, .inr (6, [.ref c0, .int (iI hd), .ref c2, .ref c3, .ref c4, .ref c5, .ref c6, .ref c7, .ref c8, .ref c9, .ref c10, .ref c11, .int (iI ll), .int (iI ln)])), (c5, .inl (cs 1, 12, .inr (.inl (al ww))))]) (AL L s.heap.size) s H locs → lv_has ls 8 [(0, .ref x)] → W p l e R s m av below meth c H locs (0) (0) Q (F0 m 68 ls [.long (lI by1)]) := by
          intro by1 hby hbr H locs ls B hl
          refine lv_lstore (lv' := [(5, .long (lI by1)), (0, .ref x)]) hx hb d_RR_makeWidePrimitive_68 hl (by decide) rfl (fun ls hl => ?_)
          refine x_iconst hx hb d_RR_makeWidePrimitive_70 ?_
          refine lv_istore (lv' := [(7, .int (iI 0)), (5, .long (lI by1)), (0, .ref x)]) hx hb d_RR_makeWidePrimitive_71 hl (by decide) rfl (fun ls hl => ?_)
          have L2 : ∀ (fuel : Nat) (i : Nat) (z : Nat → Int), 6 - i < fuel → (i ≤ 6) → (by1 = 0 → i = 0) → (∀ j, j < i → z j = (ww j).tdiv by1) → (∀ j, i ≤ j → z j = ww j) → ∀ (H : Heap) (locs : List Loc) (ls : Array Slot), Wb D vwCl (TY cs) L (mw f [(x, .inr (6, [.ref c0, .int (iI hd), .ref c2, .ref c3, .ref c4, .ref c5, .ref c6, .ref c7, .ref c8, .ref c9, .ref c10, .ref c11, .int (iI ll), .int (iI ln)])), (c5, .inl (cs 1, 12, .inr (.inl (al z))))]) (AL L s.heap.size) s H locs → lv_has ls 8 [(7, .int (iI ((i : Int)))), (5, .long (lI by1)), (0, .ref x)] → W p l e R s m av below meth c H locs (0) (0) Q (F0 m 73 ls []) := by
            intro fuel
            induction fuel with
            | zero => intro i z hfu; exact absurd hfu (Nat.not_lt_zero _)
            | succ fuel ih_L2 =>
              intro i z hfu_L2 hi hi0 hI hJ H locs ls B hl
              refine lv_iload hx hb d_RR_makeWidePrimitive_73 (lv_at hl 0 rfl) ?_
              refine x_bipush hx hb d_RR_makeWidePrimitive_75 (by decide) ?_
              refine x_icmp_ge (tgt := 105) hx hb d_RR_makeWidePrimitive_77 (by decide) (by omega) (by omega) (fun h77 => ?_) (fun h77 => ?_)
              · subst hQ hav
                exact x_vret hx hb hr hlocks B d_RR_makeWidePrimitive_105 (⟨z, prim_by hld6 hby (fun h0 j hj => hI j (by omega)) (fun h0 j hj => hJ j (by have := hi0 h0; omega)), fun j hj => hJ j (by omega), mw_drop (f := f) (X := [(c5, .inl (cs 1, 12, .inr (.inl (al z))))]) ha (List.nodup_cons.mp hF.1).1⟩)
              · refine lv_lload hx hb d_RR_makeWidePrimitive_80 (lv_at hl 1 rfl) ?_
                refine x_lconst (z := 0) hx hb d_RR_makeWidePrimitive_82 (by decide) ?_
                refine x_lc_eq (tgt := 105) hx hb d_RR_makeWidePrimitive_83 rfl d_RR_makeWidePrimitive_84 (by decide) (by omega) (by omega) (fun h84 => ?_) (fun h84 => ?_)
                · subst hQ hav
                  exact x_vret hx hb hr hlocks B d_RR_makeWidePrimitive_105 (⟨z, prim_by hld6 hby (fun h0 j hj => hI j (by omega)) (fun h0 j hj => hJ j (by have := hi0 h0; omega)), fun j hj => hJ j (by omega), mw_drop (f := f) (X := [(c5, .inl (cs 1, 12, .inr (.inl (al z))))]) ha (List.nodup_cons.mp hF.1).1⟩)
                · have hvi := hvr i (by omega)
                  have hzi := hJ i (Nat.le_refl _)
                  refine lv_aload_n hx hb d_RR_makeWidePrimitive_87 rfl (lv_at hl 2 rfl) ?_
                  refine x_get (C := RX6) (T := TX6) (N := 14) hx hb hts inX6 hown B hF 0 rfl rfl 5 (by decide) (hts _ w_202) (fun _ h9 => h9) rfl d_RR_makeWidePrimitive_88 ?_
                  refine lv_iload hx hb d_RR_makeWidePrimitive_91 (lv_at hl 0 rfl) ?_
                  refine lv_dup2_11 hx hb d_RR_makeWidePrimitive_93 rfl rfl ?_
                  refine x_lald hx hb B hF 1 1 rfl rfl i (by omega) (by omega) (by decide) d_RR_makeWidePrimitive_94 ?_
                  refine lv_lload hx hb d_RR_makeWidePrimitive_95 (lv_at hl 1 rfl) ?_
                  refine x_ldiv hx hb d_RR_makeWidePrimitive_97 (by omega) (by omega) (by omega) ?_
                  refine x_last hx hb B hF 1 1 rfl rfl i (by omega) (by omega) (by decide) d_RR_makeWidePrimitive_98 (fun H locs B => ?_)
                  have B : Wb D vwCl (TY cs) L (mw f [(x, .inr (6, [.ref c0, .int (iI hd), .ref c2, .ref c3, .ref c4, .ref c5, .ref c6, .ref c7, .ref c8, .ref c9, .ref c10, .ref c11, .int (iI ll), .int (iI ln)])), (c5, .inl (cs 1, 12, .inr (.inl (al (up z i ((z i).tdiv by1))))))]) (AL L s.heap.size) s H _ := B
                  refine x_iinc (lv' := [(7, .int (iI (((i : Int)) + 1))), (5, .long (lI by1)), (0, .ref x)]) hx hb d_RR_makeWidePrimitive_99 hl (q := 0) rfl rfl (by decide) rfl (fun ls hl => ?_)
                  refine lv_goto (tgt := 73) hx hb d_RR_makeWidePrimitive_102 (by decide) ?_
                  exact ih_L2 (i + 1) (up z i ((z i).tdiv by1)) (by omega) (by omega) (fun h => by omega) (fun j hj => by
          by_cases hji : j = i
          · rw [hji, up_self, hJ i (Nat.le_refl _)]
          · rw [up_ne _ _ hji]; exact hI j (by omega)) (fun j hj => by rw [up_ne _ _ (by omega)]; exact hJ j (by omega)) _ _ _ B (lv_sub hl [0, 1, 2] rfl)
          exact L2 _ 0 ww (Nat.lt_succ_self _) (by omega) (fun _ => rfl) (fun j hj => by omega) (fun j _ => rfl) _ _ _ B (lv_sub hl [0, 1, 2] rfl)
        refine lv_lload_n hx hb d_RR_makeWidePrimitive_56 rfl (lv_at hl 1 rfl) ?_
        refine x_lconst (z := 0) hx hb d_RR_makeWidePrimitive_57 (by decide) ?_
        refine x_lc_ge (tgt := 67) hx hb d_RR_makeWidePrimitive_58 rfl d_RR_makeWidePrimitive_59 (by decide) (by omega) (by omega) (fun h59 => ?_) (fun h59 => ?_)
        · refine lv_lload_n hx hb d_RR_makeWidePrimitive_67 rfl (lv_at hl 2 rfl) ?_
          exact J68 ((gg : Int)) (by rw [if_neg (by omega), ← hg6]) (by omega) _ _ _ B (lv_sub hl [3] rfl)
        · refine lv_lload_n hx hb d_RR_makeWidePrimitive_62 rfl (lv_at hl 2 rfl) ?_
          refine x_lneg hx hb d_RR_makeWidePrimitive_63 ?_
          refine lv_goto (tgt := 68) hx hb d_RR_makeWidePrimitive_64 (by decide) ?_
          exact J68 (-((gg : Int))) (by rw [if_pos h59, ← hg6]) (by omega) _ _ _ B (lv_sub hl [3] rfl)
      · have hvk := hvr k (by omega)
        refine lv_lload_n hx hb d_RR_makeWidePrimitive_14 rfl (lv_at hl 2 rfl) ?_
        refine lv_aload_n hx hb d_RR_makeWidePrimitive_15 rfl (lv_at hl 3 rfl) ?_
        refine x_get (C := RX6) (T := TX6) (N := 14) hx hb hts inX6 hown B hF 0 rfl rfl 5 (by decide) (hts _ w_202) (fun _ h9 => h9) rfl d_RR_makeWidePrimitive_16 ?_
        refine lv_iload hx hb d_RR_makeWidePrimitive_19 (lv_at hl 0 rfl) ?_
        refine x_lald hx hb B hF 1 1 rfl rfl k (by omega) (by omega) (by decide) d_RR_makeWidePrimitive_21 ?_
        refine x_calll B hA (va_runS (As := [.long (lI ((gg : Int))), .long (lI (ww k))]) (rest := []) ⟨hx, hb, hml, hown, hts⟩ (c_RR_greatestDivisor l D cs _ _ _ (gg : Int) (ww k) (by omega) (by omega)) (va_cwS 2 hts (gw_S w_314 w_315 w_1 w_316) rfl rfl rfl (by decide +kernel) ⟨by rw [hRf]; exact Nat.le_of_ble_eq_true rfl, by rw [hRl]; exact Nat.le_of_ble_eq_true rfl⟩) ⟨K0.blind, B.pre _⟩ rfl rfl hl.1 rfl (lv_room (Nat.le_of_ble_eq_true rfl)) d_RR_makeWidePrimitive_22 ⟨by rw [hRc]; omega, by rw [hRs]; omega⟩) (fun r22 g22 H locs hw B => ?_)
        obtain ⟨rfl, rfl⟩ := hw
        rw [Int.natAbs_natCast]
        have B : Wb D vwCl (TY cs) L (mw f [(x, .inr (6, [.ref c0, .int (iI hd), .ref c2, .ref c3, .ref c4, .ref c5, .ref c6, .ref c7, .ref c8, .ref c9, .ref c10, .ref c11, .int (iI ll), .int (iI ln)])), (c5, .inl (cs 1, 12, .inr (.inl (al ww))))]) (AL L s.heap.size) s H _ := B
        refine lv_lstore_n (lv' := [(1, .long (lI (((Nat.gcd gg (ww k).natAbs : Nat) : Int)))), (5, .int (iI ((k : Int)))), (3, .long (lI ld)), (0, .ref x)]) hx hb d_RR_makeWidePrimitive_25 rfl hl (by decide) rfl (fun ls hl => ?_)
        refine lv_aload_n hx hb d_RR_makeWidePrimitive_26 rfl (lv_at hl 3 rfl) ?_
        refine x_get (C := RX6) (T := TX6) (N := 14) hx hb hts inX6 hown B hF 0 rfl rfl 5 (by decide) (hts _ w_202) (fun _ h9 => h9) rfl d_RR_makeWidePrimitive_27 ?_
        refine lv_iload hx hb d_RR_makeWidePrimitive_30 (lv_at hl 1 rfl) ?_
        refine x_lald hx hb B hF 1 1 rfl rfl k (by omega) (by omega) (by decide) d_RR_makeWidePrimitive_32 ?_
        refine x_lconst (z := 0) hx hb d_RR_makeWidePrimitive_33 (by decide) ?_
        refine x_lc_eq (tgt := 48) hx hb d_RR_makeWidePrimitive_34 rfl d_RR_makeWidePrimitive_35 (by decide) (by omega) (by omega) (fun h35 => ?_) (fun h35 => ?_)
        · refine lv_lload_n hx hb d_RR_makeWidePrimitive_48 rfl (lv_at hl 2 rfl) ?_
          refine lv_lstore_n (lv' := [(3, .long (lI ld)), (1, .long (lI (((Nat.gcd gg (ww k).natAbs : Nat) : Int)))), (5, .int (iI ((k : Int)))), (0, .ref x)]) hx hb d_RR_makeWidePrimitive_49 rfl hl (by decide) rfl (fun ls hl => ?_)
          refine x_iinc (lv' := [(5, .int (iI (((k : Int)) + 1))), (3, .long (lI ld)), (1, .long (lI (((Nat.gcd gg (ww k).natAbs : Nat) : Int)))), (0, .ref x)]) hx hb d_RR_makeWidePrimitive_50 hl (q := 2) rfl rfl (by decide) rfl (fun ls hl => ?_)
          refine lv_goto (tgt := 7) hx hb d_RR_makeWidePrimitive_53 (by decide) ?_
          exact ih_L1 (k + 1) (Nat.gcd gg (ww k).natAbs) ld (by clear hld; omega) (by clear hld; omega) (by rw [cg, ← hg, Nat.zero_add]) (by clear hld; exact gcd_bd hgr (by omega)) (by
          rcases hld with ⟨h1, h2⟩ | ⟨t, h1, h2, h3, h4⟩
          · exact Or.inl ⟨h1, fun j hj => by
              by_cases hjk : j = k
              · rw [hjk]; exact h35
              · exact h2 j (by omega)⟩
          · exact Or.inr ⟨t, by omega, h2, h3, fun j h5 h6 => by
              by_cases hjk : j = k
              · rw [hjk]; exact h35
              · exact h4 j h5 (by omega)⟩) (by clear hld; omega) _ _ _ B (lv_sub hl [0, 1, 2, 3] rfl)
        · refine lv_aload_n hx hb d_RR_makeWidePrimitive_38 rfl (lv_at hl 3 rfl) ?_
          refine x_get (C := RX6) (T := TX6) (N := 14) hx hb hts inX6 hown B hF 0 rfl rfl 5 (by decide) (hts _ w_202) (fun _ h9 => h9) rfl d_RR_makeWidePrimitive_39 ?_
          refine lv_iload hx hb d_RR_makeWidePrimitive_42 (lv_at hl 1 rfl) ?_
          refine x_lald hx hb B hF 1 1 rfl rfl k (by omega) (by omega) (by decide) d_RR_makeWidePrimitive_44 ?_
          refine lv_goto (tgt := 49) hx hb d_RR_makeWidePrimitive_45 (by decide) ?_
          refine lv_lstore_n (lv' := [(3, .long (lI (ww k))), (1, .long (lI (((Nat.gcd gg (ww k).natAbs : Nat) : Int)))), (5, .int (iI ((k : Int)))), (0, .ref x)]) hx hb d_RR_makeWidePrimitive_49 rfl hl (by decide) rfl (fun ls hl => ?_)
          refine x_iinc (lv' := [(5, .int (iI (((k : Int)) + 1))), (3, .long (lI (ww k))), (1, .long (lI (((Nat.gcd gg (ww k).natAbs : Nat) : Int)))), (0, .ref x)]) hx hb d_RR_makeWidePrimitive_50 hl (q := 2) rfl rfl (by decide) rfl (fun ls hl => ?_)
          refine lv_goto (tgt := 7) hx hb d_RR_makeWidePrimitive_53 (by decide) ?_
          exact ih_L1 (k + 1) (Nat.gcd gg (ww k).natAbs) (ww k) (by clear hld; omega) (by clear hld; omega) (by rw [cg, ← hg, Nat.zero_add]) (by clear hld; exact gcd_bd hgr (by omega)) (Or.inr ⟨k, by omega, rfl, h35, fun j h5 h6 => by omega⟩) (by clear hld; omega) _ _ _ B (lv_sub hl [0, 1, 2, 3] rfl)
  exact L1 _ 0 0 0 (Nat.lt_succ_self _) (by omega) rfl (by omega) (Or.inl ⟨rfl, fun j hj => by omega⟩) (by omega) _ _ _ B (lv_sub hl [0, 1, 2, 3] rfl)
