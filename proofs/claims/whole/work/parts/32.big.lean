theorem d_Big_put_0 : decode prog_2_method_2_code 0 = .ok (.aload_n 0, 1) := by decide +kernel
theorem d_Big_put_1 : decode prog_2_method_2_code 1 = .ok (.lload_n 1, 1) := by decide +kernel
theorem d_Big_put_2 : decode prog_2_method_2_code 2 = .ok (.lconst 0, 1) := by decide +kernel
theorem d_Big_put_3 : decode prog_2_method_2_code 3 = .ok (.lcmp, 1) := by decide +kernel
theorem d_Big_put_4 : decode prog_2_method_2_code 4 = .ok (.ifCond .ge 7, 3) := by decide +kernel
theorem d_Big_put_7 : decode prog_2_method_2_code 7 = .ok (.iconst (-1), 1) := by decide +kernel
theorem d_Big_put_8 : decode prog_2_method_2_code 8 = .ok (.goto 14, 3) := by decide +kernel
theorem d_Big_put_11 : decode prog_2_method_2_code 11 = .ok (.lload_n 1, 1) := by decide +kernel
theorem d_Big_put_12 : decode prog_2_method_2_code 12 = .ok (.lconst 0, 1) := by decide +kernel
theorem d_Big_put_13 : decode prog_2_method_2_code 13 = .ok (.lcmp, 1) := by decide +kernel
theorem d_Big_put_14 : decode prog_2_method_2_code 14 = .ok (.ifCond .le 7, 3) := by decide +kernel
theorem d_Big_put_17 : decode prog_2_method_2_code 17 = .ok (.iconst 1, 1) := by decide +kernel
theorem d_Big_put_18 : decode prog_2_method_2_code 18 = .ok (.goto 4, 3) := by decide +kernel
theorem d_Big_put_21 : decode prog_2_method_2_code 21 = .ok (.iconst 0, 1) := by decide +kernel
theorem d_Big_put_22 : decode prog_2_method_2_code 22 = .ok (.putfield 9, 3) := by decide +kernel
theorem d_Big_put_25 : decode prog_2_method_2_code 25 = .ok (.aload_n 0, 1) := by decide +kernel
theorem d_Big_put_26 : decode prog_2_method_2_code 26 = .ok (.iconst 0, 1) := by decide +kernel
theorem d_Big_put_27 : decode prog_2_method_2_code 27 = .ok (.putfield 13, 3) := by decide +kernel
theorem d_Big_put_30 : decode prog_2_method_2_code 30 = .ok (.lload_n 1, 1) := by decide +kernel
theorem d_Big_put_31 : decode prog_2_method_2_code 31 = .ok (.lconst 0, 1) := by decide +kernel
theorem d_Big_put_32 : decode prog_2_method_2_code 32 = .ok (.lcmp, 1) := by decide +kernel
theorem d_Big_put_33 : decode prog_2_method_2_code 33 = .ok (.ifCond .ge 8, 3) := by decide +kernel
theorem d_Big_put_36 : decode prog_2_method_2_code 36 = .ok (.lload_n 1, 1) := by decide +kernel
theorem d_Big_put_37 : decode prog_2_method_2_code 37 = .ok (.lneg, 1) := by decide +kernel
theorem d_Big_put_38 : decode prog_2_method_2_code 38 = .ok (.goto 4, 3) := by decide +kernel
theorem d_Big_put_41 : decode prog_2_method_2_code 41 = .ok (.lload_n 1, 1) := by decide +kernel
theorem d_Big_put_42 : decode prog_2_method_2_code 42 = .ok (.lstore_n 3, 1) := by decide +kernel
theorem d_Big_put_43 : decode prog_2_method_2_code 43 = .ok (.lload_n 3, 1) := by decide +kernel
theorem d_Big_put_44 : decode prog_2_method_2_code 44 = .ok (.lconst 0, 1) := by decide +kernel
theorem d_Big_put_45 : decode prog_2_method_2_code 45 = .ok (.lcmp, 1) := by decide +kernel
theorem d_Big_put_46 : decode prog_2_method_2_code 46 = .ok (.ifCond .eq 45, 3) := by decide +kernel
theorem d_Big_put_49 : decode prog_2_method_2_code 49 = .ok (.aload_n 0, 1) := by decide +kernel
theorem d_Big_put_50 : decode prog_2_method_2_code 50 = .ok (.getfield 13, 3) := by decide +kernel
theorem d_Big_put_53 : decode prog_2_method_2_code 53 = .ok (.bipush 48, 2) := by decide +kernel
theorem d_Big_put_55 : decode prog_2_method_2_code 55 = .ok (.if_icmp .ge 36, 3) := by decide +kernel
theorem d_Big_put_58 : decode prog_2_method_2_code 58 = .ok (.aload_n 0, 1) := by decide +kernel
theorem d_Big_put_59 : decode prog_2_method_2_code 59 = .ok (.getfield 16, 3) := by decide +kernel
theorem d_Big_put_62 : decode prog_2_method_2_code 62 = .ok (.aload_n 0, 1) := by decide +kernel
theorem d_Big_put_63 : decode prog_2_method_2_code 63 = .ok (.getfield 13, 3) := by decide +kernel
theorem d_Big_put_66 : decode prog_2_method_2_code 66 = .ok (.lload_n 3, 1) := by decide +kernel
theorem d_Big_put_67 : decode prog_2_method_2_code 67 = .ok (.ldc2_w 20, 3) := by decide +kernel
theorem d_Big_put_70 : decode prog_2_method_2_code 70 = .ok (.land, 1) := by decide +kernel
theorem d_Big_put_71 : decode prog_2_method_2_code 71 = .ok (.l2i, 1) := by decide +kernel
theorem d_Big_put_72 : decode prog_2_method_2_code 72 = .ok (.iastore, 1) := by decide +kernel
theorem d_Big_put_73 : decode prog_2_method_2_code 73 = .ok (.aload_n 0, 1) := by decide +kernel
theorem d_Big_put_74 : decode prog_2_method_2_code 74 = .ok (.dup, 1) := by decide +kernel
theorem d_Big_put_75 : decode prog_2_method_2_code 75 = .ok (.getfield 13, 3) := by decide +kernel
theorem d_Big_put_78 : decode prog_2_method_2_code 78 = .ok (.iconst 1, 1) := by decide +kernel
theorem d_Big_put_79 : decode prog_2_method_2_code 79 = .ok (.iadd, 1) := by decide +kernel
theorem d_Big_put_80 : decode prog_2_method_2_code 80 = .ok (.putfield 13, 3) := by decide +kernel
theorem d_Big_put_83 : decode prog_2_method_2_code 83 = .ok (.lload_n 3, 1) := by decide +kernel
theorem d_Big_put_84 : decode prog_2_method_2_code 84 = .ok (.bipush 31, 2) := by decide +kernel
theorem d_Big_put_86 : decode prog_2_method_2_code 86 = .ok (.lushr, 1) := by decide +kernel
theorem d_Big_put_87 : decode prog_2_method_2_code 87 = .ok (.lstore_n 3, 1) := by decide +kernel
theorem d_Big_put_88 : decode prog_2_method_2_code 88 = .ok (.goto (-45), 3) := by decide +kernel
theorem d_Big_put_91 : decode prog_2_method_2_code 91 = .ok (.return_, 1) := by decide +kernel
set_option maxHeartbeats 8000000 in
set_option maxRecDepth 100000 in
theorem c_Big_put (l : Launch) (D : va_G) (cs : Nat → ClassId) (L : List Nat) (f : Nat → va_E) (sz : Nat) (a qa : Nat) (sa : Int) (na : Nat) (la : Nat → Int) (v : Int) (hF : Fc L [a, qa]) (ha : f a = .inr (0, [.int (iI sa), .int (iI ((na : Int))), .ref qa])) (hq : f qa = .inl (cs 0, 48, .inl (ai la))) (hvr : -9223372036854775808 < v ∧ v < 9223372036854775808) : Met l (⟨"RealRoots$Big", "put", "(J)V"⟩ : MethodName) (.code (⟨"RealRoots$Big", "put", "(J)V"⟩ : MethodName) prog_2_method_2_code 5 (Option.none : Option Jvm.ClassFile.FieldType) :: gw) ({ frames := 0, cells := 0, slots := 0, locals := 0 }) (va_Pc [.ref a, .long (lI v)] (K0 D vwCl (TY cs) L f sz)) (va_Qv (fun (g : Nat → va_E) => ∃ (sd' : Int) (n' : Nat) (lm' : Nat → Int), BV sd' (n' : Int) lm' (v) ∧ g = mw f [(a, .inr (0, [.int (iI (sd')), .int (iI ((n' : Int))), .ref qa])), (qa, .inl (cs 0, 48, .inl (ai (lm'))))]) (K1 D vwCl (TY cs) (AL L sz) L) (AL L sz)) 0 0 (AL L sz) := by
  refine Met.ofW (cc := prog_2_method_2_code) (maxL := 5) (ret := (Option.none : Option Jvm.ClassFile.FieldType)) (by decide) rfl ?_
  intro p e s m args below meth c s₁ Bd hml hv
  obtain ⟨rfl, hk0⟩ := hv
  obtain ⟨hsz, B⟩ := hk0.start
  subst hsz
  have hx := Bd.exec
  have hb := Bd.bytes
  have hr := Bd.returns
  have hlocks := Bd.notSynchronized
  have hts0 := atoms_spec Bd.pre
  have hown : s.vm.findClass RX0 = some m.cls := findClass_of_methodNamed Bd.named
  have hA : ∀ q, s.heap.size ≤ q → AL L s.heap.size q := fun _ h => Or.inr h
  have hl := lv_entry ([.ref a, .long (lI v)]) (n := 5) (Nat.le_of_ble_eq_true rfl)
  rw [lg_entry_eq]
  generalize (lg_sl ([.ref a, .long (lI v)]) ++ List.replicate (5 - (lg_sl ([.ref a, .long (lI v)])).length) Slot.unset).toArray = ls at hl ⊢
  refine absQ (fun Q R av hQ hR hav => ?_)
  have hts : ∀ w ∈ gw, w.before av s = true := by rw [hav]; exact fun w h => hts0 w (List.mem_cons_of_mem _ h)
  have hRf : R.frames = 0 := by rw [hR]; rfl
  have hRl : R.locals = 0 := by rw [hR]; rfl
  have hRc : R.cells = 0 := by rw [hR]; rfl
  have hRs : R.slots = 0 := by rw [hR]; rfl
  clear hR hts0 Bd
  have hl : lv_has ls 5 [(0, .ref a), (1, .long (lI v))] := hl
  have hfx : ∀ q ∈ ([(a, .inr (0, [.int (iI sa), .int (iI ((na : Int))), .ref qa])), (qa, .inl (cs 0, 48, .inl (ai la)))] : List (Nat × va_E)), f q.1 = q.2 := fun q hq => by
    simp only [List.mem_cons, List.not_mem_nil, or_false] at hq
    rcases hq with rfl | rfl
    · exact ha
    · exact hq
  have hmw : mw f [(a, .inr (0, [.int (iI sa), .int (iI ((na : Int))), .ref qa])), (qa, .inl (cs 0, 48, .inl (ai la)))] = f := mw_self (fun k a e hk => hfx (a, e) (List.mem_of_getElem? hk))
  have B := B.focus [(a, .inr (0, [.int (iI sa), .int (iI ((na : Int))), .ref qa])), (qa, .inl (cs 0, 48, .inl (ai la)))] hfx
  have J1 : ∀ (t : Int), (t = v.sign) → ∀ (H : Heap) (locs : List Loc) (ls : Array Slot), Wb D vwCl (TY cs) L (mw f [(a, .inr (0, [.int (iI sa), .int (iI ((na : Int))), .ref qa])), (qa, .inl (cs 0, 48, .inl (ai la)))]) (AL L s.heap.size) s H locs → lv_has ls 5 [(0, .ref a), (1, .long (lI v))] → W p l e R s m av below meth c H locs (0) (0) Q (F0 m 22 ls [.int (iI t), .ref a]) := by
    intro t ht H locs ls B hl
    have ht1 : -1 ≤ t ∧ t ≤ 1 := by rcases Int.lt_trichotomy v 0 with h | h | h; rw [ht, Int.sign_eq_neg_one_of_neg h]; omega; rw [ht, h]; decide; rw [ht, Int.sign_eq_one_of_pos h]; omega
    refine x_put (C := RX0) (T := TX0) (N := 3) hx hb hts inX0 tyX0 tyX0_ok nmX0 hown B hF 0 rfl rfl 0 (by decide) (hts _ w_38) (fun _ h9 => h9) rfl (tyX0_ok 0 (by decide)) rfl rfl (Nat.le_of_ble_eq_true rfl) d_Big_put_22 (fun H locs B => ?_)
    have B : Wb D vwCl (TY cs) L (mw f [(a, .inr (0, [.int (iI t), .int (iI ((na : Int))), .ref qa])), (qa, .inl (cs 0, 48, .inl (ai la)))]) (AL L s.heap.size) s H _ := B
    refine lv_aload_n hx hb d_Big_put_25 rfl (lv_at hl 0 rfl) ?_
    refine x_iconst hx hb d_Big_put_26 ?_
    refine x_put (C := RX0) (T := TX0) (N := 3) hx hb hts inX0 tyX0 tyX0_ok nmX0 hown B hF 0 rfl rfl 1 (by decide) (hts _ w_42) (fun _ h9 => h9) rfl (tyX0_ok 1 (by decide)) rfl rfl (Nat.le_of_ble_eq_true rfl) d_Big_put_27 (fun H locs B => ?_)
    have B : Wb D vwCl (TY cs) L (mw f [(a, .inr (0, [.int (iI t), .int (iI 0), .ref qa])), (qa, .inl (cs 0, 48, .inl (ai la)))]) (AL L s.heap.size) s H _ := B
    have J2 : ∀ (r1 : Int), (r1 = (v.natAbs : Int)) → ∀ (H : Heap) (locs : List Loc) (ls : Array Slot), Wb D vwCl (TY cs) L (mw f [(a, .inr (0, [.int (iI t), .int (iI 0), .ref qa])), (qa, .inl (cs 0, 48, .inl (ai la)))]) (AL L s.heap.size) s H locs → lv_has ls 5 [(0, .ref a), (1, .long (lI v))] → W p l e R s m av below meth c H locs (0) (0) Q (F0 m 42 ls [.long (lI r1)]) := by
      intro r1 hr1 H locs ls B hl
      refine lv_lstore_n (lv' := [(3, .long (lI r1)), (0, .ref a), (1, .long (lI v))]) hx hb d_Big_put_42 rfl hl (by decide) rfl (fun ls hl => ?_)
      have LP : ∀ (fuel : Nat) (k : Nat) (r2 : Int) (x : Nat → Int), r2.toNat < fuel → (PutI v k r2 x) → ∀ (H : Heap) (locs : List Loc) (ls : Array Slot), Wb D vwCl (TY cs) L (mw f [(a, .inr (0, [.int (iI t), .int (iI ((k : Int))), .ref qa])), (qa, .inl (cs 0, 48, .inl (ai x)))]) (AL L s.heap.size) s H locs → lv_has ls 5 [(3, .long (lI r2)), (0, .ref a)] → W p l e R s m av below meth c H locs (0) (0) Q (F0 m 43 ls []) := by
        intro fuel
        induction fuel with
        | zero => intro k r2 x hfu; exact absurd hfu (Nat.not_lt_zero _)
        | succ fuel ih_LP =>
          intro k r2 x hfu_LP hI H locs ls B hl
          have hI1 := hI.1
          have hI2 := hI.2.1
          refine lv_lload_n hx hb d_Big_put_43 rfl (lv_at hl 0 rfl) ?_
          refine x_lconst (z := 0) hx hb d_Big_put_44 (by decide) ?_
          refine x_lc_eq (tgt := 91) hx hb d_Big_put_45 rfl d_Big_put_46 (by decide) (by omega) (by omega) (fun h46 => ?_) (fun h46 => ?_)
          · subst hQ hav
            exact x_vret hx hb hr hlocks B d_Big_put_91 (by first | exact ⟨_, _, _, PutI.last (by rw [← h46]; exact hI) (by omega) ht, rfl⟩ | (exfalso; omega))
          · have hk3 := hI.few (by omega) h46
            refine lv_aload_n hx hb d_Big_put_49 rfl (lv_at hl 1 rfl) ?_
            refine x_get (C := RX0) (T := TX0) (N := 3) hx hb hts inX0 hown B hF 0 rfl rfl 1 (by decide) (hts _ w_42) (fun _ h9 => h9) rfl d_Big_put_50 ?_
            refine x_bipush hx hb d_Big_put_53 (by decide) ?_
            refine x_icmp_ge (tgt := 91) hx hb d_Big_put_55 (by decide) (by omega) (by omega) (fun h55 => ?_) (fun h55 => ?_)
            · subst hQ hav
              exact x_vret hx hb hr hlocks B d_Big_put_91 (by first | exact ⟨_, _, _, PutI.last (by rw [← h46]; exact hI) (by omega) ht, rfl⟩ | (exfalso; omega))
            · refine lv_aload_n hx hb d_Big_put_58 rfl (lv_at hl 1 rfl) ?_
              refine x_get (C := RX0) (T := TX0) (N := 3) hx hb hts inX0 hown B hF 0 rfl rfl 2 (by decide) (hts _ w_43) (fun _ h9 => h9) rfl d_Big_put_59 ?_
              refine lv_aload_n hx hb d_Big_put_62 rfl (lv_at hl 1 rfl) ?_
              refine x_get (C := RX0) (T := TX0) (N := 3) hx hb hts inX0 hown B hF 0 rfl rfl 1 (by decide) (hts _ w_42) (fun _ h9 => h9) rfl d_Big_put_63 ?_
              refine lv_lload_n hx hb d_Big_put_66 rfl (lv_at hl 0 rfl) ?_
              refine x_ldc2 (z := 2147483647) hx hb hown (hts _ w_297) (by decide) d_Big_put_67 ?_
              refine x_land31 hx hb d_Big_put_70 ?_
              refine x_l2i hx hb d_Big_put_71 ?_
              refine x_iast hx hb B hF 1 0 rfl rfl k (by omega) (by omega) (by decide) d_Big_put_72 (fun H locs B => ?_)
              have B : Wb D vwCl (TY cs) L (mw f [(a, .inr (0, [.int (iI t), .int (iI ((k : Int))), .ref qa])), (qa, .inl (cs 0, 48, .inl (ai (up x k (r2 % 2147483648)))))]) (AL L s.heap.size) s H _ := B
              refine lv_aload_n hx hb d_Big_put_73 rfl (lv_at hl 1 rfl) ?_
              refine lv_dup hx hb d_Big_put_74 rfl ?_
              refine x_get (C := RX0) (T := TX0) (N := 3) hx hb hts inX0 hown B hF 0 rfl rfl 1 (by decide) (hts _ w_42) (fun _ h9 => h9) rfl d_Big_put_75 ?_
              refine x_iconst hx hb d_Big_put_78 ?_
              refine x_iadd hx hb d_Big_put_79 ?_
              refine x_put (C := RX0) (T := TX0) (N := 3) hx hb hts inX0 tyX0 tyX0_ok nmX0 hown B hF 0 rfl rfl 1 (by decide) (hts _ w_42) (fun _ h9 => h9) rfl (tyX0_ok 1 (by decide)) rfl rfl (Nat.le_of_ble_eq_true rfl) d_Big_put_80 (fun H locs B => ?_)
              have B : Wb D vwCl (TY cs) L (mw f [(a, .inr (0, [.int (iI t), .int (iI (((k : Int)) + 1)), .ref qa])), (qa, .inl (cs 0, 48, .inl (ai (up x k (r2 % 2147483648)))))]) (AL L s.heap.size) s H _ := B
              refine lv_lload_n hx hb d_Big_put_83 rfl (lv_at hl 0 rfl) ?_
              refine x_bipush hx hb d_Big_put_84 (by decide) ?_
              refine x_lushr31 hx hb d_Big_put_86 (by omega) ?_
              refine lv_lstore_n (lv' := [(3, .long (lI (r2 / 2147483648))), (0, .ref a)]) hx hb d_Big_put_87 rfl hl (by decide) rfl (fun ls hl => ?_)
              refine lv_goto (tgt := 43) hx hb d_Big_put_88 (by decide) ?_
              exact ih_LP (k + 1) (r2 / 2147483648) (up x k (r2 % 2147483648)) (by omega) (hI.step h46) _ _ _ B (lv_sub hl [0, 1] rfl)
      exact LP _ 0 r1 la (Nat.lt_succ_self _) (PutI.first hr1 (by omega)) _ _ _ B (lv_sub hl [0, 1] rfl)
    refine lv_lload_n hx hb d_Big_put_30 rfl (lv_at hl 1 rfl) ?_
    refine x_lconst (z := 0) hx hb d_Big_put_31 (by decide) ?_
    refine x_lc_ge (tgt := 41) hx hb d_Big_put_32 rfl d_Big_put_33 (by decide) (by omega) (by omega) (fun h33 => ?_) (fun h33 => ?_)
    · refine lv_lload_n hx hb d_Big_put_41 rfl (lv_at hl 1 rfl) ?_
      exact J2 v (by omega) _ _ _ B (lv_sub hl [0, 1] rfl)
    · refine lv_lload_n hx hb d_Big_put_36 rfl (lv_at hl 1 rfl) ?_
      refine x_lneg hx hb d_Big_put_37 ?_
      refine lv_goto (tgt := 42) hx hb d_Big_put_38 (by decide) ?_
      exact J2 (-v) (by omega) _ _ _ B (lv_sub hl [0, 1] rfl)
  refine lv_aload_n hx hb d_Big_put_0 rfl (lv_at hl 0 rfl) ?_
  refine lv_lload_n hx hb d_Big_put_1 rfl (lv_at hl 1 rfl) ?_
  refine x_lconst (z := 0) hx hb d_Big_put_2 (by decide) ?_
  refine x_lc_ge (tgt := 11) hx hb d_Big_put_3 rfl d_Big_put_4 (by decide) (by omega) (by omega) (fun h4 => ?_) (fun h4 => ?_)
  · refine lv_lload_n hx hb d_Big_put_11 rfl (lv_at hl 1 rfl) ?_
    refine x_lconst (z := 0) hx hb d_Big_put_12 (by decide) ?_
    refine x_lc_le (tgt := 21) hx hb d_Big_put_13 rfl d_Big_put_14 (by decide) (by omega) (by omega) (fun h14 => ?_) (fun h14 => ?_)
    · refine x_iconst hx hb d_Big_put_21 ?_
      exact J1 0 (by rw [show v = 0 by omega]; rfl) _ _ _ B (lv_sub hl [0, 1] rfl)
    · refine x_iconst hx hb d_Big_put_17 ?_
      refine lv_goto (tgt := 22) hx hb d_Big_put_18 (by decide) ?_
      exact J1 1 ((Int.sign_eq_one_of_pos (by omega)).symm) _ _ _ B (lv_sub hl [0, 1] rfl)
  · refine x_iconst hx hb d_Big_put_7 ?_
    refine lv_goto (tgt := 22) hx hb d_Big_put_8 (by decide) ?_
    exact J1 (-1) ((Int.sign_eq_neg_one_of_neg (by omega)).symm) _ _ _ B (lv_sub hl [0, 1] rfl)
theorem d_Big_putUnit_0 : decode prog_2_method_3_code 0 = .ok (.aload_n 0, 1) := by decide +kernel
theorem d_Big_putUnit_1 : decode prog_2_method_3_code 1 = .ok (.iconst 0, 1) := by decide +kernel
theorem d_Big_putUnit_2 : decode prog_2_method_3_code 2 = .ok (.putfield 13, 3) := by decide +kernel
theorem d_Big_putUnit_5 : decode prog_2_method_3_code 5 = .ok (.iconst 0, 1) := by decide +kernel
theorem d_Big_putUnit_6 : decode prog_2_method_3_code 6 = .ok (.istore_n 2, 1) := by decide +kernel
theorem d_Big_putUnit_7 : decode prog_2_method_3_code 7 = .ok (.iload_n 2, 1) := by decide +kernel
theorem d_Big_putUnit_8 : decode prog_2_method_3_code 8 = .ok (.iload_n 1, 1) := by decide +kernel
theorem d_Big_putUnit_9 : decode prog_2_method_3_code 9 = .ok (.if_icmp .gt 38, 3) := by decide +kernel
theorem d_Big_putUnit_12 : decode prog_2_method_3_code 12 = .ok (.iload_n 2, 1) := by decide +kernel
theorem d_Big_putUnit_13 : decode prog_2_method_3_code 13 = .ok (.bipush 48, 2) := by decide +kernel
theorem d_Big_putUnit_15 : decode prog_2_method_3_code 15 = .ok (.if_icmp .ge 32, 3) := by decide +kernel
theorem d_Big_putUnit_18 : decode prog_2_method_3_code 18 = .ok (.aload_n 0, 1) := by decide +kernel
theorem d_Big_putUnit_19 : decode prog_2_method_3_code 19 = .ok (.getfield 16, 3) := by decide +kernel
theorem d_Big_putUnit_22 : decode prog_2_method_3_code 22 = .ok (.iload_n 2, 1) := by decide +kernel
theorem d_Big_putUnit_23 : decode prog_2_method_3_code 23 = .ok (.iload_n 2, 1) := by decide +kernel
theorem d_Big_putUnit_24 : decode prog_2_method_3_code 24 = .ok (.iload_n 1, 1) := by decide +kernel
theorem d_Big_putUnit_25 : decode prog_2_method_3_code 25 = .ok (.if_icmp .ne 7, 3) := by decide +kernel
theorem d_Big_putUnit_28 : decode prog_2_method_3_code 28 = .ok (.iconst 1, 1) := by decide +kernel
theorem d_Big_putUnit_29 : decode prog_2_method_3_code 29 = .ok (.goto 4, 3) := by decide +kernel
theorem d_Big_putUnit_32 : decode prog_2_method_3_code 32 = .ok (.iconst 0, 1) := by decide +kernel
theorem d_Big_putUnit_33 : decode prog_2_method_3_code 33 = .ok (.iastore, 1) := by decide +kernel
theorem d_Big_putUnit_34 : decode prog_2_method_3_code 34 = .ok (.aload_n 0, 1) := by decide +kernel
theorem d_Big_putUnit_35 : decode prog_2_method_3_code 35 = .ok (.iload_n 2, 1) := by decide +kernel
theorem d_Big_putUnit_36 : decode prog_2_method_3_code 36 = .ok (.iconst 1, 1) := by decide +kernel
theorem d_Big_putUnit_37 : decode prog_2_method_3_code 37 = .ok (.iadd, 1) := by decide +kernel
theorem d_Big_putUnit_38 : decode prog_2_method_3_code 38 = .ok (.putfield 13, 3) := by decide +kernel
theorem d_Big_putUnit_41 : decode prog_2_method_3_code 41 = .ok (.iinc 2 1, 3) := by decide +kernel
theorem d_Big_putUnit_44 : decode prog_2_method_3_code 44 = .ok (.goto (-37), 3) := by decide +kernel
theorem d_Big_putUnit_47 : decode prog_2_method_3_code 47 = .ok (.aload_n 0, 1) := by decide +kernel
theorem d_Big_putUnit_48 : decode prog_2_method_3_code 48 = .ok (.iconst 1, 1) := by decide +kernel
theorem d_Big_putUnit_49 : decode prog_2_method_3_code 49 = .ok (.putfield 9, 3) := by decide +kernel
theorem d_Big_putUnit_52 : decode prog_2_method_3_code 52 = .ok (.return_, 1) := by decide +kernel
set_option maxHeartbeats 8000000 in
set_option maxRecDepth 100000 in
theorem c_Big_putUnit (l : Launch) (D : va_G) (cs : Nat → ClassId) (L : List Nat) (f : Nat → va_E) (sz : Nat) (a qa : Nat) (sa : Int) (na : Nat) (la : Nat → Int) (w : Nat) (hF : Fc L [a, qa]) (ha : f a = .inr (0, [.int (iI sa), .int (iI ((na : Int))), .ref qa])) (hq : f qa = .inl (cs 0, 48, .inl (ai la))) (hw : w < 48) : Met l (⟨"RealRoots$Big", "putUnit", "(I)V"⟩ : MethodName) (.code (⟨"RealRoots$Big", "putUnit", "(I)V"⟩ : MethodName) prog_2_method_3_code 3 (Option.none : Option Jvm.ClassFile.FieldType) :: gw) ({ frames := 0, cells := 0, slots := 0, locals := 0 }) (va_Pc [.ref a, .int (iI ((w : Int)))] (K0 D vwCl (TY cs) L f sz)) (va_Qv (fun (g : Nat → va_E) => ∃ (sd' : Int) (n' : Nat) (lm' : Nat → Int), BV sd' (n' : Int) lm' (Bp w) ∧ g = mw f [(a, .inr (0, [.int (iI (sd')), .int (iI ((n' : Int))), .ref qa])), (qa, .inl (cs 0, 48, .inl (ai (lm'))))]) (K1 D vwCl (TY cs) (AL L sz) L) (AL L sz)) 0 0 (AL L sz) := by
  refine Met.ofW (cc := prog_2_method_3_code) (maxL := 3) (ret := (Option.none : Option Jvm.ClassFile.FieldType)) (by decide) rfl ?_
  intro p e s m args below meth c s₁ Bd hml hv
  obtain ⟨rfl, hk0⟩ := hv
  obtain ⟨hsz, B⟩ := hk0.start
  subst hsz
  have hx := Bd.exec
  have hb := Bd.bytes
  have hr := Bd.returns
  have hlocks := Bd.notSynchronized
  have hts0 := atoms_spec Bd.pre
  have hown : s.vm.findClass RX0 = some m.cls := findClass_of_methodNamed Bd.named
  have hA : ∀ q, s.heap.size ≤ q → AL L s.heap.size q := fun _ h => Or.inr h
  have hl := lv_entry ([.ref a, .int (iI ((w : Int)))]) (n := 3) (Nat.le_of_ble_eq_true rfl)
  rw [lg_entry_eq]
  generalize (lg_sl ([.ref a, .int (iI ((w : Int)))]) ++ List.replicate (3 - (lg_sl ([.ref a, .int (iI ((w : Int)))])).length) Slot.unset).toArray = ls at hl ⊢
  refine absQ (fun Q R av hQ hR hav => ?_)
  have hts : ∀ w ∈ gw, w.before av s = true := by rw [hav]; exact fun w h => hts0 w (List.mem_cons_of_mem _ h)
  have hRf : R.frames = 0 := by rw [hR]; rfl
  have hRl : R.locals = 0 := by rw [hR]; rfl
  have hRc : R.cells = 0 := by rw [hR]; rfl
  have hRs : R.slots = 0 := by rw [hR]; rfl
  clear hR hts0 Bd
  have hl : lv_has ls 3 [(0, .ref a), (1, .int (iI ((w : Int))))] := hl
  have hfx : ∀ q ∈ ([(a, .inr (0, [.int (iI sa), .int (iI ((na : Int))), .ref qa])), (qa, .inl (cs 0, 48, .inl (ai la)))] : List (Nat × va_E)), f q.1 = q.2 := fun q hq => by
    simp only [List.mem_cons, List.not_mem_nil, or_false] at hq
    rcases hq with rfl | rfl
    · exact ha
    · exact hq
  have hmw : mw f [(a, .inr (0, [.int (iI sa), .int (iI ((na : Int))), .ref qa])), (qa, .inl (cs 0, 48, .inl (ai la)))] = f := mw_self (fun k a e hk => hfx (a, e) (List.mem_of_getElem? hk))
  have B := B.focus [(a, .inr (0, [.int (iI sa), .int (iI ((na : Int))), .ref qa])), (qa, .inl (cs 0, 48, .inl (ai la)))] hfx
  refine lv_aload_n hx hb d_Big_putUnit_0 rfl (lv_at hl 0 rfl) ?_
  refine x_iconst hx hb d_Big_putUnit_1 ?_
  refine x_put (C := RX0) (T := TX0) (N := 3) hx hb hts inX0 tyX0 tyX0_ok nmX0 hown B hF 0 rfl rfl 1 (by decide) (hts _ w_42) (fun _ h9 => h9) rfl (tyX0_ok 1 (by decide)) rfl rfl (Nat.le_of_ble_eq_true rfl) d_Big_putUnit_2 (fun H locs B => ?_)
  have B : Wb D vwCl (TY cs) L (mw f [(a, .inr (0, [.int (iI sa), .int (iI 0), .ref qa])), (qa, .inl (cs 0, 48, .inl (ai la)))]) (AL L s.heap.size) s H _ := B
  refine x_iconst hx hb d_Big_putUnit_5 ?_
  refine lv_istore_n (lv' := [(2, .int (iI 0)), (0, .ref a), (1, .int (iI ((w : Int))))]) hx hb d_Big_putUnit_6 rfl hl (by decide) rfl (fun ls hl => ?_)
  have LP : ∀ (fuel : Nat) (k : Nat) (x : Nat → Int), w + 1 - k < fuel → (UnitI w k x) → ∀ (H : Heap) (locs : List Loc) (ls : Array Slot), Wb D vwCl (TY cs) L (mw f [(a, .inr (0, [.int (iI sa), .int (iI ((k : Int))), .ref qa])), (qa, .inl (cs 0, 48, .inl (ai x)))]) (AL L s.heap.size) s H locs → lv_has ls 3 [(2, .int (iI ((k : Int)))), (0, .ref a), (1, .int (iI ((w : Int))))] → W p l e R s m av below meth c H locs (0) (0) Q (F0 m 7 ls []) := by
    intro fuel
    induction fuel with
    | zero => intro k x hfu; exact absurd hfu (Nat.not_lt_zero _)
    | succ fuel ih_LP =>
      intro k x hfu_LP hI H locs ls B hl
      have hI1 := hI.1
      refine lv_iload_n hx hb d_Big_putUnit_7 rfl (lv_at hl 0 rfl) ?_
      refine lv_iload_n hx hb d_Big_putUnit_8 rfl (lv_at hl 2 rfl) ?_
      refine x_icmp_gt (tgt := 47) hx hb d_Big_putUnit_9 (by decide) (by omega) (by omega) (fun h9 => ?_) (fun h9 => ?_)
      · refine lv_aload_n hx hb d_Big_putUnit_47 rfl (lv_at hl 1 rfl) ?_
        refine x_iconst hx hb d_Big_putUnit_48 ?_
        refine x_put (C := RX0) (T := TX0) (N := 3) hx hb hts inX0 tyX0 tyX0_ok nmX0 hown B hF 0 rfl rfl 0 (by decide) (hts _ w_38) (fun _ h9 => h9) rfl (tyX0_ok 0 (by decide)) rfl rfl (Nat.le_of_ble_eq_true rfl) d_Big_putUnit_49 (fun H locs B => ?_)
        have B : Wb D vwCl (TY cs) L (mw f [(a, .inr (0, [.int (iI 1), .int (iI ((k : Int))), .ref qa])), (qa, .inl (cs 0, 48, .inl (ai x)))]) (AL L s.heap.size) s H _ := B
        subst hQ hav
        exact x_vret hx hb hr hlocks B d_Big_putUnit_52 (by
      have hk : k = w + 1 := by omega
      subst hk
      exact ⟨_, _, _, hI.last hw, rfl⟩)
      · refine lv_iload_n hx hb d_Big_putUnit_12 rfl (lv_at hl 0 rfl) ?_
        refine x_bipush hx hb d_Big_putUnit_13 (by decide) ?_
        refine x_icmp_ge (tgt := 47) hx hb d_Big_putUnit_15 (by decide) (by omega) (by omega) (fun h15 => ?_) (fun h15 => ?_)
        · refine lv_aload_n hx hb d_Big_putUnit_47 rfl (lv_at hl 1 rfl) ?_
          refine x_iconst hx hb d_Big_putUnit_48 ?_
          refine x_put (C := RX0) (T := TX0) (N := 3) hx hb hts inX0 tyX0 tyX0_ok nmX0 hown B hF 0 rfl rfl 0 (by decide) (hts _ w_38) (fun _ h9 => h9) rfl (tyX0_ok 0 (by decide)) rfl rfl (Nat.le_of_ble_eq_true rfl) d_Big_putUnit_49 (fun H locs B => ?_)
          have B : Wb D vwCl (TY cs) L (mw f [(a, .inr (0, [.int (iI 1), .int (iI ((k : Int))), .ref qa])), (qa, .inl (cs 0, 48, .inl (ai x)))]) (AL L s.heap.size) s H _ := B
          subst hQ hav
          exact x_vret hx hb hr hlocks B d_Big_putUnit_52 (by
      have hk : k = w + 1 := by omega
      subst hk
      exact ⟨_, _, _, hI.last hw, rfl⟩)
        · refine lv_aload_n hx hb d_Big_putUnit_18 rfl (lv_at hl 1 rfl) ?_
          refine x_get (C := RX0) (T := TX0) (N := 3) hx hb hts inX0 hown B hF 0 rfl rfl 2 (by decide) (hts _ w_43) (fun _ h9 => h9) rfl d_Big_putUnit_19 ?_
          refine lv_iload_n hx hb d_Big_putUnit_22 rfl (lv_at hl 0 rfl) ?_
          refine lv_iload_n hx hb d_Big_putUnit_23 rfl (lv_at hl 0 rfl) ?_
          refine lv_iload_n hx hb d_Big_putUnit_24 rfl (lv_at hl 2 rfl) ?_
          refine x_icmp_ne (tgt := 32) hx hb d_Big_putUnit_25 (by decide) (by omega) (by omega) (fun h25 => ?_) (fun h25 => ?_)
          · refine x_iconst hx hb d_Big_putUnit_32 ?_
            refine x_iast hx hb B hF 1 0 rfl rfl k (by omega) (by omega) (by decide) d_Big_putUnit_33 (fun H locs B => ?_)
            have B : Wb D vwCl (TY cs) L (mw f [(a, .inr (0, [.int (iI sa), .int (iI ((k : Int))), .ref qa])), (qa, .inl (cs 0, 48, .inl (ai (up x k 0))))]) (AL L s.heap.size) s H _ := B
            refine lv_aload_n hx hb d_Big_putUnit_34 rfl (lv_at hl 1 rfl) ?_
            refine lv_iload_n hx hb d_Big_putUnit_35 rfl (lv_at hl 0 rfl) ?_
            refine x_iconst hx hb d_Big_putUnit_36 ?_
            refine x_iadd hx hb d_Big_putUnit_37 ?_
            refine x_put (C := RX0) (T := TX0) (N := 3) hx hb hts inX0 tyX0 tyX0_ok nmX0 hown B hF 0 rfl rfl 1 (by decide) (hts _ w_42) (fun _ h9 => h9) rfl (tyX0_ok 1 (by decide)) rfl rfl (Nat.le_of_ble_eq_true rfl) d_Big_putUnit_38 (fun H locs B => ?_)
            have B : Wb D vwCl (TY cs) L (mw f [(a, .inr (0, [.int (iI sa), .int (iI (((k : Int)) + 1)), .ref qa])), (qa, .inl (cs 0, 48, .inl (ai (up x k 0))))]) (AL L s.heap.size) s H _ := B
            refine x_iinc (lv' := [(2, .int (iI (((k : Int)) + 1))), (0, .ref a), (1, .int (iI ((w : Int))))]) hx hb d_Big_putUnit_41 hl (q := 0) rfl rfl (by decide) rfl (fun ls hl => ?_)
            refine lv_goto (tgt := 7) hx hb d_Big_putUnit_44 (by decide) ?_
            exact ih_LP (k + 1) (up x k 0) (by omega) (hI.step (by omega) (by first | rw [if_pos (by omega)] | rw [if_neg (by omega)])) _ _ _ B (lv_sub hl [0, 1, 2] rfl)
          · refine x_iconst hx hb d_Big_putUnit_28 ?_
            refine lv_goto (tgt := 33) hx hb d_Big_putUnit_29 (by decide) ?_
            refine x_iast hx hb B hF 1 0 rfl rfl k (by omega) (by omega) (by decide) d_Big_putUnit_33 (fun H locs B => ?_)
            have B : Wb D vwCl (TY cs) L (mw f [(a, .inr (0, [.int (iI sa), .int (iI ((k : Int))), .ref qa])), (qa, .inl (cs 0, 48, .inl (ai (up x k 1))))]) (AL L s.heap.size) s H _ := B
            refine lv_aload_n hx hb d_Big_putUnit_34 rfl (lv_at hl 1 rfl) ?_
            refine lv_iload_n hx hb d_Big_putUnit_35 rfl (lv_at hl 0 rfl) ?_
            refine x_iconst hx hb d_Big_putUnit_36 ?_
            refine x_iadd hx hb d_Big_putUnit_37 ?_
            refine x_put (C := RX0) (T := TX0) (N := 3) hx hb hts inX0 tyX0 tyX0_ok nmX0 hown B hF 0 rfl rfl 1 (by decide) (hts _ w_42) (fun _ h9 => h9) rfl (tyX0_ok 1 (by decide)) rfl rfl (Nat.le_of_ble_eq_true rfl) d_Big_putUnit_38 (fun H locs B => ?_)
            have B : Wb D vwCl (TY cs) L (mw f [(a, .inr (0, [.int (iI sa), .int (iI (((k : Int)) + 1)), .ref qa])), (qa, .inl (cs 0, 48, .inl (ai (up x k 1))))]) (AL L s.heap.size) s H _ := B
            refine x_iinc (lv' := [(2, .int (iI (((k : Int)) + 1))), (0, .ref a), (1, .int (iI ((w : Int))))]) hx hb d_Big_putUnit_41 hl (q := 0) rfl rfl (by decide) rfl (fun ls hl => ?_)
            refine lv_goto (tgt := 7) hx hb d_Big_putUnit_44 (by decide) ?_
            exact ih_LP (k + 1) (up x k 1) (by omega) (hI.step (by omega) (by first | rw [if_pos (by omega)] | rw [if_neg (by omega)])) _ _ _ B (lv_sub hl [0, 1, 2] rfl)
  exact LP _ 0 la (Nat.lt_succ_self _) UnitI.first _ _ _ B (lv_sub hl [0, 1, 2] rfl)
theorem d_Big_putWords_0 : decode prog_2_method_4_code 0 = .ok (.aload_n 0, 1) := by decide +kernel
theorem d_Big_putWords_1 : decode prog_2_method_4_code 1 = .ok (.iconst 0, 1) := by decide +kernel
theorem d_Big_putWords_2 : decode prog_2_method_4_code 2 = .ok (.putfield 13, 3) := by decide +kernel
theorem d_Big_putWords_5 : decode prog_2_method_4_code 5 = .ok (.iconst 0, 1) := by decide +kernel
theorem d_Big_putWords_6 : decode prog_2_method_4_code 6 = .ok (.istore_n 3, 1) := by decide +kernel
theorem d_Big_putWords_7 : decode prog_2_method_4_code 7 = .ok (.iload_n 3, 1) := by decide +kernel
theorem d_Big_putWords_8 : decode prog_2_method_4_code 8 = .ok (.iload_n 2, 1) := by decide +kernel
theorem d_Big_putWords_9 : decode prog_2_method_4_code 9 = .ok (.if_icmp .ge 66, 3) := by decide +kernel
theorem d_Big_putWords_12 : decode prog_2_method_4_code 12 = .ok (.iload_n 3, 1) := by decide +kernel
theorem d_Big_putWords_13 : decode prog_2_method_4_code 13 = .ok (.bipush 48, 2) := by decide +kernel
theorem d_Big_putWords_15 : decode prog_2_method_4_code 15 = .ok (.if_icmp .ge 60, 3) := by decide +kernel
theorem d_Big_putWords_18 : decode prog_2_method_4_code 18 = .ok (.iload_n 2, 1) := by decide +kernel
theorem d_Big_putWords_19 : decode prog_2_method_4_code 19 = .ok (.iconst 1, 1) := by decide +kernel
theorem d_Big_putWords_20 : decode prog_2_method_4_code 20 = .ok (.isub, 1) := by decide +kernel
theorem d_Big_putWords_21 : decode prog_2_method_4_code 21 = .ok (.iload_n 3, 1) := by decide +kernel
theorem d_Big_putWords_22 : decode prog_2_method_4_code 22 = .ok (.isub, 1) := by decide +kernel
theorem d_Big_putWords_23 : decode prog_2_method_4_code 23 = .ok (.istore 4, 2) := by decide +kernel
theorem d_Big_putWords_25 : decode prog_2_method_4_code 25 = .ok (.aload_n 0, 1) := by decide +kernel
theorem d_Big_putWords_26 : decode prog_2_method_4_code 26 = .ok (.getfield 16, 3) := by decide +kernel
theorem d_Big_putWords_29 : decode prog_2_method_4_code 29 = .ok (.iload_n 3, 1) := by decide +kernel
theorem d_Big_putWords_30 : decode prog_2_method_4_code 30 = .ok (.iload 4, 2) := by decide +kernel
theorem d_Big_putWords_32 : decode prog_2_method_4_code 32 = .ok (.aload_n 1, 1) := by decide +kernel
theorem d_Big_putWords_33 : decode prog_2_method_4_code 33 = .ok (.arraylength, 1) := by decide +kernel
theorem d_Big_putWords_34 : decode prog_2_method_4_code 34 = .ok (.if_icmp .ge 10, 3) := by decide +kernel
theorem d_Big_putWords_37 : decode prog_2_method_4_code 37 = .ok (.aload_n 1, 1) := by decide +kernel
theorem d_Big_putWords_38 : decode prog_2_method_4_code 38 = .ok (.iload 4, 2) := by decide +kernel
theorem d_Big_putWords_40 : decode prog_2_method_4_code 40 = .ok (.iaload, 1) := by decide +kernel
theorem d_Big_putWords_41 : decode prog_2_method_4_code 41 = .ok (.goto 4, 3) := by decide +kernel
theorem d_Big_putWords_44 : decode prog_2_method_4_code 44 = .ok (.iconst 0, 1) := by decide +kernel
theorem d_Big_putWords_45 : decode prog_2_method_4_code 45 = .ok (.iastore, 1) := by decide +kernel
theorem d_Big_putWords_46 : decode prog_2_method_4_code 46 = .ok (.aload_n 0, 1) := by decide +kernel
theorem d_Big_putWords_47 : decode prog_2_method_4_code 47 = .ok (.aload_n 0, 1) := by decide +kernel
theorem d_Big_putWords_48 : decode prog_2_method_4_code 48 = .ok (.getfield 16, 3) := by decide +kernel
theorem d_Big_putWords_51 : decode prog_2_method_4_code 51 = .ok (.iload_n 3, 1) := by decide +kernel
theorem d_Big_putWords_52 : decode prog_2_method_4_code 52 = .ok (.iaload, 1) := by decide +kernel
theorem d_Big_putWords_53 : decode prog_2_method_4_code 53 = .ok (.ifCond .eq 9, 3) := by decide +kernel
theorem d_Big_putWords_56 : decode prog_2_method_4_code 56 = .ok (.iload_n 3, 1) := by decide +kernel
theorem d_Big_putWords_57 : decode prog_2_method_4_code 57 = .ok (.iconst 1, 1) := by decide +kernel
theorem d_Big_putWords_58 : decode prog_2_method_4_code 58 = .ok (.iadd, 1) := by decide +kernel
theorem d_Big_putWords_59 : decode prog_2_method_4_code 59 = .ok (.goto 7, 3) := by decide +kernel
theorem d_Big_putWords_62 : decode prog_2_method_4_code 62 = .ok (.aload_n 0, 1) := by decide +kernel
theorem d_Big_putWords_63 : decode prog_2_method_4_code 63 = .ok (.getfield 13, 3) := by decide +kernel
theorem d_Big_putWords_66 : decode prog_2_method_4_code 66 = .ok (.putfield 13, 3) := by decide +kernel
theorem d_Big_putWords_69 : decode prog_2_method_4_code 69 = .ok (.iinc 3 1, 3) := by decide +kernel
theorem d_Big_putWords_72 : decode prog_2_method_4_code 72 = .ok (.goto (-65), 3) := by decide +kernel
theorem d_Big_putWords_75 : decode prog_2_method_4_code 75 = .ok (.aload_n 0, 1) := by decide +kernel
theorem d_Big_putWords_76 : decode prog_2_method_4_code 76 = .ok (.aload_n 0, 1) := by decide +kernel
theorem d_Big_putWords_77 : decode prog_2_method_4_code 77 = .ok (.getfield 13, 3) := by decide +kernel
theorem d_Big_putWords_80 : decode prog_2_method_4_code 80 = .ok (.ifCond .ne 7, 3) := by decide +kernel
theorem d_Big_putWords_83 : decode prog_2_method_4_code 83 = .ok (.iconst 0, 1) := by decide +kernel
theorem d_Big_putWords_84 : decode prog_2_method_4_code 84 = .ok (.goto 4, 3) := by decide +kernel
theorem d_Big_putWords_87 : decode prog_2_method_4_code 87 = .ok (.iconst 1, 1) := by decide +kernel
theorem d_Big_putWords_88 : decode prog_2_method_4_code 88 = .ok (.putfield 9, 3) := by decide +kernel
theorem d_Big_putWords_91 : decode prog_2_method_4_code 91 = .ok (.return_, 1) := by decide +kernel
set_option maxHeartbeats 8000000 in
set_option maxRecDepth 100000 in
theorem c_Big_putWords (l : Launch) (D : va_G) (cs : Nat → ClassId) (L : List Nat) (f : Nat → va_E) (sz : Nat) (a qa : Nat) (sa : Int) (na : Nat) (la : Nat → Int) (qd nd : Nat) (wd : Nat → Int) (hF : Fc L [a, qa, qd]) (ha : f a = .inr (0, [.int (iI sa), .int (iI ((na : Int))), .ref qa])) (hq : f qa = .inl (cs 0, 48, .inl (ai la))) (hfd : f qd = .inl (cs 0, 8, .inl (ai wd))) (hnd : nd ≤ 8) (hwd : Lb wd nd) : Met l (⟨"RealRoots$Big", "putWords", "([II)V"⟩ : MethodName) (.code (⟨"RealRoots$Big", "putWords", "([II)V"⟩ : MethodName) prog_2_method_4_code 5 (Option.none : Option Jvm.ClassFile.FieldType) :: gw) ({ frames := 0, cells := 0, slots := 0, locals := 0 }) (va_Pc [.ref a, .ref qd, .int (iI ((nd : Int)))] (K0 D vwCl (TY cs) L f sz)) (va_Qv (fun (g : Nat → va_E) => ∃ (sd' : Int) (n' : Nat) (lm' : Nat → Int), BV sd' (n' : Int) lm' (Wv wd nd) ∧ g = mw f [(a, .inr (0, [.int (iI (sd')), .int (iI ((n' : Int))), .ref qa])), (qa, .inl (cs 0, 48, .inl (ai (lm'))))]) (K1 D vwCl (TY cs) (AL L sz) L) (AL L sz)) 0 0 (AL L sz) := by
  refine Met.ofW (cc := prog_2_method_4_code) (maxL := 5) (ret := (Option.none : Option Jvm.ClassFile.FieldType)) (by decide) rfl ?_
  intro p e s m args below meth c s₁ Bd hml hv
  obtain ⟨rfl, hk0⟩ := hv
  obtain ⟨hsz, B⟩ := hk0.start
  subst hsz
  have hx := Bd.exec
  have hb := Bd.bytes
  have hr := Bd.returns
  have hlocks := Bd.notSynchronized
  have hts0 := atoms_spec Bd.pre
  have hown : s.vm.findClass RX0 = some m.cls := findClass_of_methodNamed Bd.named
  have hA : ∀ q, s.heap.size ≤ q → AL L s.heap.size q := fun _ h => Or.inr h
  have hl := lv_entry ([.ref a, .ref qd, .int (iI ((nd : Int)))]) (n := 5) (Nat.le_of_ble_eq_true rfl)
  rw [lg_entry_eq]
  generalize (lg_sl ([.ref a, .ref qd, .int (iI ((nd : Int)))]) ++ List.replicate (5 - (lg_sl ([.ref a, .ref qd, .int (iI ((nd : Int)))])).length) Slot.unset).toArray = ls at hl ⊢
  refine absQ (fun Q R av hQ hR hav => ?_)
  have hts : ∀ w ∈ gw, w.before av s = true := by rw [hav]; exact fun w h => hts0 w (List.mem_cons_of_mem _ h)
  have hRf : R.frames = 0 := by rw [hR]; rfl
  have hRl : R.locals = 0 := by rw [hR]; rfl
  have hRc : R.cells = 0 := by rw [hR]; rfl
  have hRs : R.slots = 0 := by rw [hR]; rfl
  clear hR hts0 Bd
  have hl : lv_has ls 5 [(0, .ref a), (1, .ref qd), (2, .int (iI ((nd : Int))))] := hl
  have hfx : ∀ q ∈ ([(a, .inr (0, [.int (iI sa), .int (iI ((na : Int))), .ref qa])), (qa, .inl (cs 0, 48, .inl (ai la))), (qd, .inl (cs 0, 8, .inl (ai wd)))] : List (Nat × va_E)), f q.1 = q.2 := fun q hq => by
    simp only [List.mem_cons, List.not_mem_nil, or_false] at hq
    rcases hq with rfl | rfl | rfl
    · exact ha
    · exact hq
    · exact hfd
  have hmw : mw f [(a, .inr (0, [.int (iI sa), .int (iI ((na : Int))), .ref qa])), (qa, .inl (cs 0, 48, .inl (ai la))), (qd, .inl (cs 0, 8, .inl (ai wd)))] = f := mw_self (fun k a e hk => hfx (a, e) (List.mem_of_getElem? hk))
  have B := B.focus [(a, .inr (0, [.int (iI sa), .int (iI ((na : Int))), .ref qa])), (qa, .inl (cs 0, 48, .inl (ai la))), (qd, .inl (cs 0, 8, .inl (ai wd)))] hfx
  refine lv_aload_n hx hb d_Big_putWords_0 rfl (lv_at hl 0 rfl) ?_
  refine x_iconst hx hb d_Big_putWords_1 ?_
  refine x_put (C := RX0) (T := TX0) (N := 3) hx hb hts inX0 tyX0 tyX0_ok nmX0 hown B hF 0 rfl rfl 1 (by decide) (hts _ w_42) (fun _ h9 => h9) rfl (tyX0_ok 1 (by decide)) rfl rfl (Nat.le_of_ble_eq_true rfl) d_Big_putWords_2 (fun H locs B => ?_)
  have B : Wb D vwCl (TY cs) L (mw f [(a, .inr (0, [.int (iI sa), .int (iI 0), .ref qa])), (qa, .inl (cs 0, 48, .inl (ai la))), (qd, .inl (cs 0, 8, .inl (ai wd)))]) (AL L s.heap.size) s H _ := B
  refine x_iconst hx hb d_Big_putWords_5 ?_
  refine lv_istore_n (lv' := [(3, .int (iI 0)), (0, .ref a), (1, .ref qd), (2, .int (iI ((nd : Int))))]) hx hb d_Big_putWords_6 rfl hl (by decide) rfl (fun ls hl => ?_)
  have LP : ∀ (fuel : Nat) (k : Nat) (z : Nat) (x : Nat → Int), nd - k < fuel → (WordsI wd nd k z x) → ∀ (H : Heap) (locs : List Loc) (ls : Array Slot), Wb D vwCl (TY cs) L (mw f [(a, .inr (0, [.int (iI sa), .int (iI ((z : Int))), .ref qa])), (qa, .inl (cs 0, 48, .inl (ai x))), (qd, .inl (cs 0, 8, .inl (ai wd)))]) (AL L s.heap.size) s H locs → lv_has ls 5 [(3, .int (iI ((k : Int)))), (0, .ref a), (1, .ref qd), (2, .int (iI ((nd : Int))))] → W p l e R s m av below meth c H locs (0) (0) Q (F0 m 7 ls []) := by
    intro fuel
    induction fuel with
    | zero => intro k z x hfu; exact absurd hfu (Nat.not_lt_zero _)
    | succ fuel ih_LP =>
      intro k z x hfu_LP hI H locs ls B hl
      have hI1 := hI.1
      have hI2 := hI.2.1
      refine lv_iload_n hx hb d_Big_putWords_7 rfl (lv_at hl 0 rfl) ?_
      refine lv_iload_n hx hb d_Big_putWords_8 rfl (lv_at hl 3 rfl) ?_
      refine x_icmp_ge (tgt := 75) hx hb d_Big_putWords_9 (by decide) (by omega) (by omega) (fun h9 => ?_) (fun h9 => ?_)
      · refine lv_aload_n hx hb d_Big_putWords_75 rfl (lv_at hl 1 rfl) ?_
        refine lv_aload_n hx hb d_Big_putWords_76 rfl (lv_at hl 1 rfl) ?_
        refine x_get (C := RX0) (T := TX0) (N := 3) hx hb hts inX0 hown B hF 0 rfl rfl 1 (by decide) (hts _ w_42) (fun _ h9 => h9) rfl d_Big_putWords_77 ?_
        refine x_if_ne (tgt := 87) hx hb d_Big_putWords_80 (by decide) (by omega) (fun h80 => ?_) (fun h80 => ?_)
        · refine x_iconst hx hb d_Big_putWords_87 ?_
          refine x_put (C := RX0) (T := TX0) (N := 3) hx hb hts inX0 tyX0 tyX0_ok nmX0 hown B hF 0 rfl rfl 0 (by decide) (hts _ w_38) (fun _ h9 => h9) rfl (tyX0_ok 0 (by decide)) rfl rfl (Nat.le_of_ble_eq_true rfl) d_Big_putWords_88 (fun H locs B => ?_)
          have B : Wb D vwCl (TY cs) L (mw f [(a, .inr (0, [.int (iI 1), .int (iI ((z : Int))), .ref qa])), (qa, .inl (cs 0, 48, .inl (ai x))), (qd, .inl (cs 0, 8, .inl (ai wd)))]) (AL L s.heap.size) s H _ := B
          subst hQ hav
          exact x_vret hx hb hr hlocks B d_Big_putWords_91 (by
      have hk : k = nd := by omega
      subst hk
      exact ⟨_, _, _, hI.last hwd (by omega) (if_neg (show ¬ z = 0 by omega)).symm, mw_tail (X := [(a, .inr (0, [.int (iI 1), .int (iI ((z : Int))), .ref qa])), (qa, .inl (cs 0, 48, .inl (ai x)))]) (Y := [(qd, .inl (cs 0, 8, .inl (ai wd)))]) (fun p hp => hfx p (List.mem_cons_of_mem _ (List.mem_cons_of_mem _ (hp))))⟩)
        · refine x_iconst hx hb d_Big_putWords_83 ?_
          refine lv_goto (tgt := 88) hx hb d_Big_putWords_84 (by decide) ?_
          refine x_put (C := RX0) (T := TX0) (N := 3) hx hb hts inX0 tyX0 tyX0_ok nmX0 hown B hF 0 rfl rfl 0 (by decide) (hts _ w_38) (fun _ h9 => h9) rfl (tyX0_ok 0 (by decide)) rfl rfl (Nat.le_of_ble_eq_true rfl) d_Big_putWords_88 (fun H locs B => ?_)
          have B : Wb D vwCl (TY cs) L (mw f [(a, .inr (0, [.int (iI 0), .int (iI ((z : Int))), .ref qa])), (qa, .inl (cs 0, 48, .inl (ai x))), (qd, .inl (cs 0, 8, .inl (ai wd)))]) (AL L s.heap.size) s H _ := B
          subst hQ hav
          exact x_vret hx hb hr hlocks B d_Big_putWords_91 (by
      have hk : k = nd := by omega
      subst hk
      exact ⟨_, _, _, hI.last hwd (by omega) (if_pos (show z = 0 by omega)).symm, mw_tail (X := [(a, .inr (0, [.int (iI 0), .int (iI ((z : Int))), .ref qa])), (qa, .inl (cs 0, 48, .inl (ai x)))]) (Y := [(qd, .inl (cs 0, 8, .inl (ai wd)))]) (fun p hp => hfx p (List.mem_cons_of_mem _ (List.mem_cons_of_mem _ (hp))))⟩)
      · refine lv_iload_n hx hb d_Big_putWords_12 rfl (lv_at hl 0 rfl) ?_
        refine x_bipush hx hb d_Big_putWords_13 (by decide) ?_
        refine x_icmp_ge (tgt := 75) hx hb d_Big_putWords_15 (by decide) (by omega) (by omega) (fun h15 => ?_) (fun h15 => ?_)
        · refine lv_aload_n hx hb d_Big_putWords_75 rfl (lv_at hl 1 rfl) ?_
          refine lv_aload_n hx hb d_Big_putWords_76 rfl (lv_at hl 1 rfl) ?_
          refine x_get (C := RX0) (T := TX0) (N := 3) hx hb hts inX0 hown B hF 0 rfl rfl 1 (by decide) (hts _ w_42) (fun _ h9 => h9) rfl d_Big_putWords_77 ?_
          refine x_if_ne (tgt := 87) hx hb d_Big_putWords_80 (by decide) (by omega) (fun h80 => ?_) (fun h80 => ?_)
          · refine x_iconst hx hb d_Big_putWords_87 ?_
            refine x_put (C := RX0) (T := TX0) (N := 3) hx hb hts inX0 tyX0 tyX0_ok nmX0 hown B hF 0 rfl rfl 0 (by decide) (hts _ w_38) (fun _ h9 => h9) rfl (tyX0_ok 0 (by decide)) rfl rfl (Nat.le_of_ble_eq_true rfl) d_Big_putWords_88 (fun H locs B => ?_)
            have B : Wb D vwCl (TY cs) L (mw f [(a, .inr (0, [.int (iI 1), .int (iI ((z : Int))), .ref qa])), (qa, .inl (cs 0, 48, .inl (ai x))), (qd, .inl (cs 0, 8, .inl (ai wd)))]) (AL L s.heap.size) s H _ := B
            subst hQ hav
            exact x_vret hx hb hr hlocks B d_Big_putWords_91 (by
      have hk : k = nd := by omega
      subst hk
      exact ⟨_, _, _, hI.last hwd (by omega) (if_neg (show ¬ z = 0 by omega)).symm, mw_tail (X := [(a, .inr (0, [.int (iI 1), .int (iI ((z : Int))), .ref qa])), (qa, .inl (cs 0, 48, .inl (ai x)))]) (Y := [(qd, .inl (cs 0, 8, .inl (ai wd)))]) (fun p hp => hfx p (List.mem_cons_of_mem _ (List.mem_cons_of_mem _ (hp))))⟩)
          · refine x_iconst hx hb d_Big_putWords_83 ?_
            refine lv_goto (tgt := 88) hx hb d_Big_putWords_84 (by decide) ?_
            refine x_put (C := RX0) (T := TX0) (N := 3) hx hb hts inX0 tyX0 tyX0_ok nmX0 hown B hF 0 rfl rfl 0 (by decide) (hts _ w_38) (fun _ h9 => h9) rfl (tyX0_ok 0 (by decide)) rfl rfl (Nat.le_of_ble_eq_true rfl) d_Big_putWords_88 (fun H locs B => ?_)
            have B : Wb D vwCl (TY cs) L (mw f [(a, .inr (0, [.int (iI 0), .int (iI ((z : Int))), .ref qa])), (qa, .inl (cs 0, 48, .inl (ai x))), (qd, .inl (cs 0, 8, .inl (ai wd)))]) (AL L s.heap.size) s H _ := B
            subst hQ hav
            exact x_vret hx hb hr hlocks B d_Big_putWords_91 (by
      have hk : k = nd := by omega
      subst hk
      exact ⟨_, _, _, hI.last hwd (by omega) (if_pos (show z = 0 by omega)).symm, mw_tail (X := [(a, .inr (0, [.int (iI 0), .int (iI ((z : Int))), .ref qa])), (qa, .inl (cs 0, 48, .inl (ai x)))]) (Y := [(qd, .inl (cs 0, 8, .inl (ai wd)))]) (fun p hp => hfx p (List.mem_cons_of_mem _ (List.mem_cons_of_mem _ (hp))))⟩)
        · refine lv_iload_n hx hb d_Big_putWords_18 rfl (lv_at hl 3 rfl) ?_
          refine x_iconst hx hb d_Big_putWords_19 ?_
          refine x_isub hx hb d_Big_putWords_20 ?_
          refine lv_iload_n hx hb d_Big_putWords_21 rfl (lv_at hl 0 rfl) ?_
          refine x_isub hx hb d_Big_putWords_22 ?_
          refine lv_istore (lv' := [(4, .int (iI ((((nd : Int)) - 1) - ((k : Int))))), (3, .int (iI ((k : Int)))), (0, .ref a), (1, .ref qd), (2, .int (iI ((nd : Int))))]) hx hb d_Big_putWords_23 hl (by decide) rfl (fun ls hl => ?_)
          refine lv_aload_n hx hb d_Big_putWords_25 rfl (lv_at hl 2 rfl) ?_
          refine x_get (C := RX0) (T := TX0) (N := 3) hx hb hts inX0 hown B hF 0 rfl rfl 2 (by decide) (hts _ w_43) (fun _ h9 => h9) rfl d_Big_putWords_26 ?_
          refine lv_iload_n hx hb d_Big_putWords_29 rfl (lv_at hl 1 rfl) ?_
          refine lv_iload hx hb d_Big_putWords_30 (lv_at hl 0 rfl) ?_
          refine lv_aload_n hx hb d_Big_putWords_32 rfl (lv_at hl 3 rfl) ?_
          refine x_alen hx hb B hF 2 0 rfl rfl d_Big_putWords_33 ?_
          refine x_icmp_ge (tgt := 44) hx hb d_Big_putWords_34 (by decide) (by omega) (by omega) (fun h34 => ?_) (fun h34 => ?_)
          · exfalso; omega
          · have hwk := hwd (nd - 1 - k) (by omega)
            refine lv_aload_n hx hb d_Big_putWords_37 rfl (lv_at hl 3 rfl) ?_
            refine lv_iload hx hb d_Big_putWords_38 (lv_at hl 0 rfl) ?_
            refine x_iald hx hb B hF 2 0 rfl rfl (nd - 1 - k) (by omega) (by omega) (by decide) d_Big_putWords_40 ?_
            refine lv_goto (tgt := 45) hx hb d_Big_putWords_41 (by decide) ?_
            refine x_iast hx hb B hF 1 0 rfl rfl k (by omega) (by omega) (by decide) d_Big_putWords_45 (fun H locs B => ?_)
            have B : Wb D vwCl (TY cs) L (mw f [(a, .inr (0, [.int (iI sa), .int (iI ((z : Int))), .ref qa])), (qa, .inl (cs 0, 48, .inl (ai (up x k (wd (nd - 1 - k)))))), (qd, .inl (cs 0, 8, .inl (ai wd)))]) (AL L s.heap.size) s H _ := B
            refine lv_aload_n hx hb d_Big_putWords_46 rfl (lv_at hl 2 rfl) ?_
            refine lv_aload_n hx hb d_Big_putWords_47 rfl (lv_at hl 2 rfl) ?_
            refine x_get (C := RX0) (T := TX0) (N := 3) hx hb hts inX0 hown B hF 0 rfl rfl 2 (by decide) (hts _ w_43) (fun _ h9 => h9) rfl d_Big_putWords_48 ?_
            refine lv_iload_n hx hb d_Big_putWords_51 rfl (lv_at hl 1 rfl) ?_
            refine x_iald hx hb B hF 1 0 rfl rfl k (by omega) (by omega) (by decide) d_Big_putWords_52 ?_
            have hup := up_self x k (wd (nd - 1 - k))
            refine x_if_eq (tgt := 62) hx hb d_Big_putWords_53 (by decide) (by omega) (fun h53 => ?_) (fun h53 => ?_)
            · refine lv_aload_n hx hb d_Big_putWords_62 rfl (lv_at hl 2 rfl) ?_
              refine x_get (C := RX0) (T := TX0) (N := 3) hx hb hts inX0 hown B hF 0 rfl rfl 1 (by decide) (hts _ w_42) (fun _ h9 => h9) rfl d_Big_putWords_63 ?_
              refine x_put (C := RX0) (T := TX0) (N := 3) hx hb hts inX0 tyX0 tyX0_ok nmX0 hown B hF 0 rfl rfl 1 (by decide) (hts _ w_42) (fun _ h9 => h9) rfl (tyX0_ok 1 (by decide)) rfl rfl (Nat.le_of_ble_eq_true rfl) d_Big_putWords_66 (fun H locs B => ?_)
              have B : Wb D vwCl (TY cs) L (mw f [(a, .inr (0, [.int (iI sa), .int (iI ((z : Int))), .ref qa])), (qa, .inl (cs 0, 48, .inl (ai (up x k (wd (nd - 1 - k)))))), (qd, .inl (cs 0, 8, .inl (ai wd)))]) (AL L s.heap.size) s H _ := B
              refine x_iinc (lv' := [(3, .int (iI (((k : Int)) + 1))), (4, .int (iI ((((nd : Int)) - 1) - ((k : Int))))), (0, .ref a), (1, .ref qd), (2, .int (iI ((nd : Int))))]) hx hb d_Big_putWords_69 hl (q := 1) rfl rfl (by decide) rfl (fun ls hl => ?_)
              refine lv_goto (tgt := 7) hx hb d_Big_putWords_72 (by decide) ?_
              exact ih_LP (k + 1) z (up x k (wd (nd - 1 - k))) (by omega) (hI.stepEq (by omega) rfl (by omega)) _ _ _ B (lv_sub hl [0, 2, 3, 4] rfl)
            · refine lv_iload_n hx hb d_Big_putWords_56 rfl (lv_at hl 1 rfl) ?_
              refine x_iconst hx hb d_Big_putWords_57 ?_
              refine x_iadd hx hb d_Big_putWords_58 ?_
              refine lv_goto (tgt := 66) hx hb d_Big_putWords_59 (by decide) ?_
              refine x_put (C := RX0) (T := TX0) (N := 3) hx hb hts inX0 tyX0 tyX0_ok nmX0 hown B hF 0 rfl rfl 1 (by decide) (hts _ w_42) (fun _ h9 => h9) rfl (tyX0_ok 1 (by decide)) rfl rfl (Nat.le_of_ble_eq_true rfl) d_Big_putWords_66 (fun H locs B => ?_)
              have B : Wb D vwCl (TY cs) L (mw f [(a, .inr (0, [.int (iI sa), .int (iI (((k : Int)) + 1)), .ref qa])), (qa, .inl (cs 0, 48, .inl (ai (up x k (wd (nd - 1 - k)))))), (qd, .inl (cs 0, 8, .inl (ai wd)))]) (AL L s.heap.size) s H _ := B
              refine x_iinc (lv' := [(3, .int (iI (((k : Int)) + 1))), (4, .int (iI ((((nd : Int)) - 1) - ((k : Int))))), (0, .ref a), (1, .ref qd), (2, .int (iI ((nd : Int))))]) hx hb d_Big_putWords_69 hl (q := 1) rfl rfl (by decide) rfl (fun ls hl => ?_)
              refine lv_goto (tgt := 7) hx hb d_Big_putWords_72 (by decide) ?_
              exact ih_LP (k + 1) (k + 1) (up x k (wd (nd - 1 - k))) (by omega) (hI.stepNe (by omega) rfl (by omega)) _ _ _ B (lv_sub hl [0, 2, 3, 4] rfl)
  exact LP _ 0 0 la (Nat.lt_succ_self _) WordsI.first _ _ _ B (lv_sub hl [0, 1, 2, 3] rfl)
theorem d_Big_copy_0 : decode prog_2_method_5_code 0 = .ok (.aload_n 0, 1) := by decide +kernel
theorem d_Big_copy_1 : decode prog_2_method_5_code 1 = .ok (.aload_n 1, 1) := by decide +kernel
theorem d_Big_copy_2 : decode prog_2_method_5_code 2 = .ok (.getfield 9, 3) := by decide +kernel
theorem d_Big_copy_5 : decode prog_2_method_5_code 5 = .ok (.putfield 9, 3) := by decide +kernel
theorem d_Big_copy_8 : decode prog_2_method_5_code 8 = .ok (.aload_n 0, 1) := by decide +kernel
theorem d_Big_copy_9 : decode prog_2_method_5_code 9 = .ok (.aload_n 1, 1) := by decide +kernel
theorem d_Big_copy_10 : decode prog_2_method_5_code 10 = .ok (.getfield 13, 3) := by decide +kernel
theorem d_Big_copy_13 : decode prog_2_method_5_code 13 = .ok (.putfield 13, 3) := by decide +kernel
theorem d_Big_copy_16 : decode prog_2_method_5_code 16 = .ok (.iconst 0, 1) := by decide +kernel
theorem d_Big_copy_17 : decode prog_2_method_5_code 17 = .ok (.istore_n 2, 1) := by decide +kernel
theorem d_Big_copy_18 : decode prog_2_method_5_code 18 = .ok (.iload_n 2, 1) := by decide +kernel
theorem d_Big_copy_19 : decode prog_2_method_5_code 19 = .ok (.aload_n 0, 1) := by decide +kernel
theorem d_Big_copy_20 : decode prog_2_method_5_code 20 = .ok (.getfield 13, 3) := by decide +kernel
theorem d_Big_copy_23 : decode prog_2_method_5_code 23 = .ok (.if_icmp .ge 21, 3) := by decide +kernel
theorem d_Big_copy_26 : decode prog_2_method_5_code 26 = .ok (.aload_n 0, 1) := by decide +kernel
theorem d_Big_copy_27 : decode prog_2_method_5_code 27 = .ok (.getfield 16, 3) := by decide +kernel
theorem d_Big_copy_30 : decode prog_2_method_5_code 30 = .ok (.iload_n 2, 1) := by decide +kernel
theorem d_Big_copy_31 : decode prog_2_method_5_code 31 = .ok (.aload_n 1, 1) := by decide +kernel
theorem d_Big_copy_32 : decode prog_2_method_5_code 32 = .ok (.getfield 16, 3) := by decide +kernel
theorem d_Big_copy_35 : decode prog_2_method_5_code 35 = .ok (.iload_n 2, 1) := by decide +kernel
theorem d_Big_copy_36 : decode prog_2_method_5_code 36 = .ok (.iaload, 1) := by decide +kernel
theorem d_Big_copy_37 : decode prog_2_method_5_code 37 = .ok (.iastore, 1) := by decide +kernel
theorem d_Big_copy_38 : decode prog_2_method_5_code 38 = .ok (.iinc 2 1, 3) := by decide +kernel
theorem d_Big_copy_41 : decode prog_2_method_5_code 41 = .ok (.goto (-23), 3) := by decide +kernel
theorem d_Big_copy_44 : decode prog_2_method_5_code 44 = .ok (.return_, 1) := by decide +kernel
set_option maxHeartbeats 8000000 in
set_option maxRecDepth 100000 in
theorem c_Big_copy (l : Launch) (D : va_G) (cs : Nat → ClassId) (L : List Nat) (f : Nat → va_E) (sz : Nat) (a qa : Nat) (sa : Int) (na : Nat) (la : Nat → Int) (b qb : Nat) (sb : Int) (nb : Nat) (lb : Nat → Int) (zb : Int) (hF : Fc L [a, qa, b, qb]) (ha : f a = .inr (0, [.int (iI sa), .int (iI ((na : Int))), .ref qa])) (hq : f qa = .inl (cs 0, 48, .inl (ai la))) (hfb : f b = .inr (0, [.int (iI sb), .int (iI ((nb : Int))), .ref qb])) (hfqb : f qb = .inl (cs 0, 48, .inl (ai lb))) (hBb : BV sb (nb : Int) lb zb) : Met l (⟨"RealRoots$Big", "copy", "(LRealRoots$Big;)V"⟩ : MethodName) (.code (⟨"RealRoots$Big", "copy", "(LRealRoots$Big;)V"⟩ : MethodName) prog_2_method_5_code 3 (Option.none : Option Jvm.ClassFile.FieldType) :: gw) ({ frames := 0, cells := 0, slots := 0, locals := 0 }) (va_Pc [.ref a, .ref b] (K0 D vwCl (TY cs) L f sz)) (va_Qv (fun (g : Nat → va_E) => ∃ (sd' : Int) (n' : Nat) (lm' : Nat → Int), BV sd' (n' : Int) lm' (zb) ∧ g = mw f [(a, .inr (0, [.int (iI (sd')), .int (iI ((n' : Int))), .ref qa])), (qa, .inl (cs 0, 48, .inl (ai (lm'))))]) (K1 D vwCl (TY cs) (AL L sz) L) (AL L sz)) 0 0 (AL L sz) := by
  refine Met.ofW (cc := prog_2_method_5_code) (maxL := 3) (ret := (Option.none : Option Jvm.ClassFile.FieldType)) (by decide) rfl ?_
  intro p e s m args below meth c s₁ Bd hml hv
  obtain ⟨rfl, hk0⟩ := hv
  obtain ⟨hsz, B⟩ := hk0.start
  subst hsz
  have hx := Bd.exec
  have hb := Bd.bytes
  have hr := Bd.returns
  have hlocks := Bd.notSynchronized
  have hts0 := atoms_spec Bd.pre
  have hown : s.vm.findClass RX0 = some m.cls := findClass_of_methodNamed Bd.named
  have hA : ∀ q, s.heap.size ≤ q → AL L s.heap.size q := fun _ h => Or.inr h
  have hl := lv_entry ([.ref a, .ref b]) (n := 3) (Nat.le_of_ble_eq_true rfl)
  rw [lg_entry_eq]
  generalize (lg_sl ([.ref a, .ref b]) ++ List.replicate (3 - (lg_sl ([.ref a, .ref b])).length) Slot.unset).toArray = ls at hl ⊢
  refine absQ (fun Q R av hQ hR hav => ?_)
  have hts : ∀ w ∈ gw, w.before av s = true := by rw [hav]; exact fun w h => hts0 w (List.mem_cons_of_mem _ h)
  have hRf : R.frames = 0 := by rw [hR]; rfl
  have hRl : R.locals = 0 := by rw [hR]; rfl
  have hRc : R.cells = 0 := by rw [hR]; rfl
  have hRs : R.slots = 0 := by rw [hR]; rfl
  clear hR hts0 Bd
  have hl : lv_has ls 3 [(0, .ref a), (1, .ref b)] := hl
  have hnb48 := hBb.2.1
  have hfx : ∀ q ∈ ([(a, .inr (0, [.int (iI sa), .int (iI ((na : Int))), .ref qa])), (qa, .inl (cs 0, 48, .inl (ai la))), (b, .inr (0, [.int (iI sb), .int (iI ((nb : Int))), .ref qb])), (qb, .inl (cs 0, 48, .inl (ai lb)))] : List (Nat × va_E)), f q.1 = q.2 := fun q hq => by
    simp only [List.mem_cons, List.not_mem_nil, or_false] at hq
    rcases hq with rfl | rfl | rfl | rfl
    · exact ha
    · exact hq
    · exact hfb
    · exact hfqb
  have hmw : mw f [(a, .inr (0, [.int (iI sa), .int (iI ((na : Int))), .ref qa])), (qa, .inl (cs 0, 48, .inl (ai la))), (b, .inr (0, [.int (iI sb), .int (iI ((nb : Int))), .ref qb])), (qb, .inl (cs 0, 48, .inl (ai lb)))] = f := mw_self (fun k a e hk => hfx (a, e) (List.mem_of_getElem? hk))
  have B := B.focus [(a, .inr (0, [.int (iI sa), .int (iI ((na : Int))), .ref qa])), (qa, .inl (cs 0, 48, .inl (ai la))), (b, .inr (0, [.int (iI sb), .int (iI ((nb : Int))), .ref qb])), (qb, .inl (cs 0, 48, .inl (ai lb)))] hfx
  refine lv_aload_n hx hb d_Big_copy_0 rfl (lv_at hl 0 rfl) ?_
  refine lv_aload_n hx hb d_Big_copy_1 rfl (lv_at hl 1 rfl) ?_
  refine x_get (C := RX0) (T := TX0) (N := 3) hx hb hts inX0 hown B hF 2 rfl rfl 0 (by decide) (hts _ w_38) (fun _ h9 => h9) rfl d_Big_copy_2 ?_
  refine x_put (C := RX0) (T := TX0) (N := 3) hx hb hts inX0 tyX0 tyX0_ok nmX0 hown B hF 0 rfl rfl 0 (by decide) (hts _ w_38) (fun _ h9 => h9) rfl (tyX0_ok 0 (by decide)) rfl rfl (Nat.le_of_ble_eq_true rfl) d_Big_copy_5 (fun H locs B => ?_)
  have B : Wb D vwCl (TY cs) L (mw f [(a, .inr (0, [.int (iI sb), .int (iI ((na : Int))), .ref qa])), (qa, .inl (cs 0, 48, .inl (ai la))), (b, .inr (0, [.int (iI sb), .int (iI ((nb : Int))), .ref qb])), (qb, .inl (cs 0, 48, .inl (ai lb)))]) (AL L s.heap.size) s H _ := B
  refine lv_aload_n hx hb d_Big_copy_8 rfl (lv_at hl 0 rfl) ?_
  refine lv_aload_n hx hb d_Big_copy_9 rfl (lv_at hl 1 rfl) ?_
  refine x_get (C := RX0) (T := TX0) (N := 3) hx hb hts inX0 hown B hF 2 rfl rfl 1 (by decide) (hts _ w_42) (fun _ h9 => h9) rfl d_Big_copy_10 ?_
  refine x_put (C := RX0) (T := TX0) (N := 3) hx hb hts inX0 tyX0 tyX0_ok nmX0 hown B hF 0 rfl rfl 1 (by decide) (hts _ w_42) (fun _ h9 => h9) rfl (tyX0_ok 1 (by decide)) rfl rfl (Nat.le_of_ble_eq_true rfl) d_Big_copy_13 (fun H locs B => ?_)
  have B : Wb D vwCl (TY cs) L (mw f [(a, .inr (0, [.int (iI sb), .int (iI ((nb : Int))), .ref qa])), (qa, .inl (cs 0, 48, .inl (ai la))), (b, .inr (0, [.int (iI sb), .int (iI ((nb : Int))), .ref qb])), (qb, .inl (cs 0, 48, .inl (ai lb)))]) (AL L s.heap.size) s H _ := B
  refine x_iconst hx hb d_Big_copy_16 ?_
  refine lv_istore_n (lv' := [(2, .int (iI 0)), (0, .ref a), (1, .ref b)]) hx hb d_Big_copy_17 rfl hl (by decide) rfl (fun ls hl => ?_)
  have LP : ∀ (fuel : Nat) (k : Nat) (x : Nat → Int), nb - k < fuel → (k ≤ nb) → (∀ j : Nat, j < k → x j = lb j) → ∀ (H : Heap) (locs : List Loc) (ls : Array Slot), Wb D vwCl (TY cs) L (mw f [(a, .inr (0, [.int (iI sb), .int (iI ((nb : Int))), .ref qa])), (qa, .inl (cs 0, 48, .inl (ai x))), (b, .inr (0, [.int (iI sb), .int (iI ((nb : Int))), .ref qb])), (qb, .inl (cs 0, 48, .inl (ai lb)))]) (AL L s.heap.size) s H locs → lv_has ls 3 [(2, .int (iI ((k : Int)))), (0, .ref a), (1, .ref b)] → W p l e R s m av below meth c H locs (0) (0) Q (F0 m 18 ls []) := by
    intro fuel
    induction fuel with
    | zero => intro k x hfu; exact absurd hfu (Nat.not_lt_zero _)
    | succ fuel ih_LP =>
      intro k x hfu_LP hk hI H locs ls B hl
      refine lv_iload_n hx hb d_Big_copy_18 rfl (lv_at hl 0 rfl) ?_
      refine lv_aload_n hx hb d_Big_copy_19 rfl (lv_at hl 1 rfl) ?_
      refine x_get (C := RX0) (T := TX0) (N := 3) hx hb hts inX0 hown B hF 0 rfl rfl 1 (by decide) (hts _ w_42) (fun _ h9 => h9) rfl d_Big_copy_20 ?_
      refine x_icmp_ge (tgt := 44) hx hb d_Big_copy_23 (by decide) (by omega) (by omega) (fun h23 => ?_) (fun h23 => ?_)
      · subst hQ hav
        exact x_vret hx hb hr hlocks B d_Big_copy_44 (⟨_, _, _, hBb.copy (fun j hj => hI j (by omega)), mw_tail (X := [(a, .inr (0, [.int (iI sb), .int (iI ((nb : Int))), .ref qa])), (qa, .inl (cs 0, 48, .inl (ai x)))]) (Y := [(b, .inr (0, [.int (iI sb), .int (iI ((nb : Int))), .ref qb])), (qb, .inl (cs 0, 48, .inl (ai lb)))]) (fun p hp => hfx p (List.mem_cons_of_mem _ (List.mem_cons_of_mem _ (hp))))⟩)
      · refine lv_aload_n hx hb d_Big_copy_26 rfl (lv_at hl 1 rfl) ?_
        refine x_get (C := RX0) (T := TX0) (N := 3) hx hb hts inX0 hown B hF 0 rfl rfl 2 (by decide) (hts _ w_43) (fun _ h9 => h9) rfl d_Big_copy_27 ?_
        refine lv_iload_n hx hb d_Big_copy_30 rfl (lv_at hl 0 rfl) ?_
        refine lv_aload_n hx hb d_Big_copy_31 rfl (lv_at hl 2 rfl) ?_
        refine x_get (C := RX0) (T := TX0) (N := 3) hx hb hts inX0 hown B hF 2 rfl rfl 2 (by decide) (hts _ w_43) (fun _ h9 => h9) rfl d_Big_copy_32 ?_
        refine lv_iload_n hx hb d_Big_copy_35 rfl (lv_at hl 0 rfl) ?_
        refine x_iald hx hb B hF 3 0 rfl rfl k (by omega) (by omega) (by decide) d_Big_copy_36 ?_
        refine x_iast hx hb B hF 1 0 rfl rfl k (by omega) (by omega) (by decide) d_Big_copy_37 (fun H locs B => ?_)
        have B : Wb D vwCl (TY cs) L (mw f [(a, .inr (0, [.int (iI sb), .int (iI ((nb : Int))), .ref qa])), (qa, .inl (cs 0, 48, .inl (ai (up x k (lb k))))), (b, .inr (0, [.int (iI sb), .int (iI ((nb : Int))), .ref qb])), (qb, .inl (cs 0, 48, .inl (ai lb)))]) (AL L s.heap.size) s H _ := B
        refine x_iinc (lv' := [(2, .int (iI (((k : Int)) + 1))), (0, .ref a), (1, .ref b)]) hx hb d_Big_copy_38 hl (q := 0) rfl rfl (by decide) rfl (fun ls hl => ?_)
        refine lv_goto (tgt := 18) hx hb d_Big_copy_41 (by decide) ?_
        exact ih_LP (k + 1) (up x k (lb k)) (by omega) (by omega) (fun j hj => by
          by_cases hjk : j = k
          · rw [hjk, up_self]
          · rw [up_ne _ _ hjk]; exact hI j (by omega)) _ _ _ B (lv_sub hl [0, 1, 2] rfl)
  exact LP _ 0 la (Nat.lt_succ_self _) (by omega) (fun j hj => by omega) _ _ _ B (lv_sub hl [0, 1, 2] rfl)
