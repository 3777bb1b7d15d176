theorem gcd_step {a b c : Int} (h : c = ((a.natAbs : Nat) : Int) % ((b.natAbs : Nat) : Int)) : Nat.gcd b.natAbs c.natAbs = Nat.gcd a.natAbs b.natAbs ∧ 0 ≤ c ∧ (b ≠ 0 → c < (b.natAbs : Int)) := by
  have h1 : c = ((a.natAbs % b.natAbs : Nat) : Int) := by rw [h, Int.natCast_emod]
  refine ⟨?_, by omega, fun hb => ?_⟩
  · rw [h1, Int.natAbs_natCast, Nat.gcd_comm a.natAbs, Nat.gcd_rec b.natAbs a.natAbs, Nat.gcd_comm]
  · rw [h1]
    have := Nat.mod_lt a.natAbs (show 0 < b.natAbs by omega)
    omega
theorem d_Mo_divisor_0 : decode prog_9_method_16_code 0 = .ok (.aload_n 0, 1) := by decide +kernel
theorem d_Mo_divisor_1 : decode prog_9_method_16_code 1 = .ok (.getfield 16, 3) := by decide +kernel
theorem d_Mo_divisor_4 : decode prog_9_method_16_code 4 = .ok (.iload_n 1, 1) := by decide +kernel
theorem d_Mo_divisor_5 : decode prog_9_method_16_code 5 = .ok (.aload_n 0, 1) := by decide +kernel
theorem d_Mo_divisor_6 : decode prog_9_method_16_code 6 = .ok (.getfield 16, 3) := by decide +kernel
theorem d_Mo_divisor_9 : decode prog_9_method_16_code 9 = .ok (.iload_n 1, 1) := by decide +kernel
theorem d_Mo_divisor_10 : decode prog_9_method_16_code 10 = .ok (.iaload, 1) := by decide +kernel
theorem d_Mo_divisor_11 : decode prog_9_method_16_code 11 = .ok (.ifCond .ne 7, 3) := by decide +kernel
theorem d_Mo_divisor_14 : decode prog_9_method_16_code 14 = .ok (.iconst 0, 1) := by decide +kernel
theorem d_Mo_divisor_15 : decode prog_9_method_16_code 15 = .ok (.goto 4, 3) := by decide +kernel
theorem d_Mo_divisor_18 : decode prog_9_method_16_code 18 = .ok (.iconst 1, 1) := by decide +kernel
theorem d_Mo_divisor_19 : decode prog_9_method_16_code 19 = .ok (.iastore, 1) := by decide +kernel
theorem d_Mo_divisor_20 : decode prog_9_method_16_code 20 = .ok (.aload_n 0, 1) := by decide +kernel
theorem d_Mo_divisor_21 : decode prog_9_method_16_code 21 = .ok (.getfield 16, 3) := by decide +kernel
theorem d_Mo_divisor_24 : decode prog_9_method_16_code 24 = .ok (.iload_n 2, 1) := by decide +kernel
theorem d_Mo_divisor_25 : decode prog_9_method_16_code 25 = .ok (.aload_n 0, 1) := by decide +kernel
theorem d_Mo_divisor_26 : decode prog_9_method_16_code 26 = .ok (.getfield 16, 3) := by decide +kernel
theorem d_Mo_divisor_29 : decode prog_9_method_16_code 29 = .ok (.iload_n 2, 1) := by decide +kernel
theorem d_Mo_divisor_30 : decode prog_9_method_16_code 30 = .ok (.iaload, 1) := by decide +kernel
theorem d_Mo_divisor_31 : decode prog_9_method_16_code 31 = .ok (.ifCond .ne 7, 3) := by decide +kernel
theorem d_Mo_divisor_34 : decode prog_9_method_16_code 34 = .ok (.iconst 0, 1) := by decide +kernel
theorem d_Mo_divisor_35 : decode prog_9_method_16_code 35 = .ok (.goto 4, 3) := by decide +kernel
theorem d_Mo_divisor_38 : decode prog_9_method_16_code 38 = .ok (.iconst 1, 1) := by decide +kernel
theorem d_Mo_divisor_39 : decode prog_9_method_16_code 39 = .ok (.iastore, 1) := by decide +kernel
theorem d_Mo_divisor_40 : decode prog_9_method_16_code 40 = .ok (.aload_n 0, 1) := by decide +kernel
theorem d_Mo_divisor_41 : decode prog_9_method_16_code 41 = .ok (.getfield 16, 3) := by decide +kernel
theorem d_Mo_divisor_44 : decode prog_9_method_16_code 44 = .ok (.iload_n 2, 1) := by decide +kernel
theorem d_Mo_divisor_45 : decode prog_9_method_16_code 45 = .ok (.iaload, 1) := by decide +kernel
theorem d_Mo_divisor_46 : decode prog_9_method_16_code 46 = .ok (.ifCond .eq 37, 3) := by decide +kernel
theorem d_Mo_divisor_49 : decode prog_9_method_16_code 49 = .ok (.aload_n 0, 1) := by decide +kernel
theorem d_Mo_divisor_50 : decode prog_9_method_16_code 50 = .ok (.sipush 175, 3) := by decide +kernel
theorem d_Mo_divisor_53 : decode prog_9_method_16_code 53 = .ok (.iload_n 1, 1) := by decide +kernel
theorem d_Mo_divisor_54 : decode prog_9_method_16_code 54 = .ok (.iload_n 2, 1) := by decide +kernel
theorem d_Mo_divisor_55 : decode prog_9_method_16_code 55 = .ok (.invokevirtual 92, 3) := by decide +kernel
theorem d_Mo_divisor_58 : decode prog_9_method_16_code 58 = .ok (.aload_n 0, 1) := by decide +kernel
theorem d_Mo_divisor_59 : decode prog_9_method_16_code 59 = .ok (.sipush 174, 3) := by decide +kernel
theorem d_Mo_divisor_62 : decode prog_9_method_16_code 62 = .ok (.iload_n 1, 1) := by decide +kernel
theorem d_Mo_divisor_63 : decode prog_9_method_16_code 63 = .ok (.invokevirtual 65, 3) := by decide +kernel
theorem d_Mo_divisor_66 : decode prog_9_method_16_code 66 = .ok (.aload_n 0, 1) := by decide +kernel
theorem d_Mo_divisor_67 : decode prog_9_method_16_code 67 = .ok (.iload_n 1, 1) := by decide +kernel
theorem d_Mo_divisor_68 : decode prog_9_method_16_code 68 = .ok (.iload_n 2, 1) := by decide +kernel
theorem d_Mo_divisor_69 : decode prog_9_method_16_code 69 = .ok (.invokevirtual 65, 3) := by decide +kernel
theorem d_Mo_divisor_72 : decode prog_9_method_16_code 72 = .ok (.aload_n 0, 1) := by decide +kernel
theorem d_Mo_divisor_73 : decode prog_9_method_16_code 73 = .ok (.iload_n 2, 1) := by decide +kernel
theorem d_Mo_divisor_74 : decode prog_9_method_16_code 74 = .ok (.sipush 174, 3) := by decide +kernel
theorem d_Mo_divisor_77 : decode prog_9_method_16_code 77 = .ok (.invokevirtual 65, 3) := by decide +kernel
theorem d_Mo_divisor_80 : decode prog_9_method_16_code 80 = .ok (.goto (-40), 3) := by decide +kernel
theorem d_Mo_divisor_83 : decode prog_9_method_16_code 83 = .ok (.return_, 1) := by decide +kernel
set_option maxHeartbeats 8000000 in
set_option maxRecDepth 100000 in
theorem c_Mo_divisor (l : Launch) (D : va_G) (cs : Nat → ClassId) (L : List Nat) (f : Nat → va_E) (sz : Nat) (y m1 m2 m3 m5 m6 m7 m8 m9 m10 m11 m12 m13 m15 : Nat) (th pn rw_ fu fb : Int) (lm mn sn Z : Nat → Int) (x w : Nat) (hF : Fc L [y, m1, m2, m3]) (ha : f y = .inr (7, [.int (iI th), .ref m1, .ref m2, .ref m3, .int (iI pn), .ref m5, .ref m6, .ref m7, .ref m8, .ref m9, .ref m10, .ref m11, .ref m12, .ref m13, .int (iI rw_), .ref m15, .long (lI fu), .long (lI fb)])) (hm1 : f m1 = .inl (cs 0, 11520, .inl (ai lm))) (hm2 : f m2 = .inl (cs 0, 180, .inl (ai mn))) (hm3 : f m3 = .inl (cs 0, 180, .inl (ai sn))) (hRS : RS lm mn sn Z) (hx8 : x < 180) (hw8 : w < 180) (hxw : x ≠ w) (hx6 : x ≠ 174 ∧ x ≠ 175 ∧ x ≠ 176 ∧ x ≠ 177) (hw6 : w ≠ 174 ∧ w ≠ 175 ∧ w ≠ 176 ∧ w ≠ 177) (hxr : ((Z x).natAbs : Int) < Mp 62) (hwr : ((Z w).natAbs : Int) < Mp 62) : Met l (⟨"RealRootsModel", "divisor", "(II)V"⟩ : MethodName) (.code (⟨"RealRootsModel", "divisor", "(II)V"⟩ : MethodName) prog_9_method_16_code 3 (Option.none : Option Jvm.ClassFile.FieldType) :: gw) ({ frames := 4, cells := 0, slots := 0, locals := 130 }) (va_Pc [.ref y, .int (iI ((x : Int))), .int (iI ((w : Int)))] (K0 D vwCl (TY cs) L f sz)) (va_Qv (fun (g : Nat → va_E) => ∃ lm' mn' sn' Z' : Nat → Int, RS lm' mn' sn' Z' ∧ Z' x = ((Nat.gcd (Z x).natAbs (Z w).natAbs : Nat) : Int) ∧ Z' w = 0 ∧ (∀ v, v ≠ x → v ≠ w → v ≠ 174 → v ≠ 175 → v ≠ 176 → v ≠ 177 → Z' v = Z v) ∧ g = mw f [(m1, .inl (cs 0, 11520, .inl (ai (lm')))), (m2, .inl (cs 0, 180, .inl (ai (mn')))), (m3, .inl (cs 0, 180, .inl (ai (sn'))))]) (K1 D vwCl (TY cs) (AL L sz) L) (AL L sz)) 0 0 (AL L sz) := by
  refine Met.ofW (cc := prog_9_method_16_code) (maxL := 3) (ret := (Option.none : Option Jvm.ClassFile.FieldType)) (by decide) rfl ?_
  intro p e s m args below meth c s₁ Bd hml hv
  obtain ⟨rfl, hk0⟩ := hv
  obtain ⟨hsz, B⟩ := hk0.start
  subst hsz
  have hx := Bd.exec
  have hb := Bd.bytes
  have hr := Bd.returns
  have hlocks := Bd.notSynchronized
  have hts0 := atoms_spec Bd.pre
  have hown : s.vm.findClass RX7 = some m.cls := findClass_of_methodNamed Bd.named
  have hA : ∀ q, s.heap.size ≤ q → AL L s.heap.size q := fun _ h => Or.inr h
  have hl := lv_entry ([.ref y, .int (iI ((x : Int))), .int (iI ((w : Int)))]) (n := 3) (Nat.le_of_ble_eq_true rfl)
  rw [lg_entry_eq]
  generalize (lg_sl ([.ref y, .int (iI ((x : Int))), .int (iI ((w : Int)))]) ++ List.replicate (3 - (lg_sl ([.ref y, .int (iI ((x : Int))), .int (iI ((w : Int)))])).length) Slot.unset).toArray = ls at hl ⊢
  refine absQ (fun Q R av hQ hR hav => ?_)
  have hts : ∀ w ∈ gw, w.before av s = true := by rw [hav]; exact fun w h => hts0 w (List.mem_cons_of_mem _ h)
  have hRf : R.frames = 4 := by rw [hR]; rfl
  have hRl : R.locals = 130 := by rw [hR]; rfl
  have hRc : R.cells = 0 := by rw [hR]; rfl
  have hRs : R.slots = 0 := by rw [hR]; rfl
  clear hR hts0 Bd
  have hl : lv_has ls 3 [(0, .ref y), (1, .int (iI ((x : Int)))), (2, .int (iI ((w : Int))))] := hl
  have hsx := (hRS x hx8).side
  have hsw := (hRS w hw8).side
  have hfx : ∀ q ∈ ([(y, .inr (7, [.int (iI th), .ref m1, .ref m2, .ref m3, .int (iI pn), .ref m5, .ref m6, .ref m7, .ref m8, .ref m9, .ref m10, .ref m11, .ref m12, .ref m13, .int (iI rw_), .ref m15, .long (lI fu), .long (lI fb)])), (m1, .inl (cs 0, 11520, .inl (ai lm))), (m2, .inl (cs 0, 180, .inl (ai mn))), (m3, .inl (cs 0, 180, .inl (ai sn)))] : List (Nat × va_E)), f q.1 = q.2 := fun q hq => by
    simp only [List.mem_cons, List.not_mem_nil, or_false] at hq
    rcases hq with rfl | rfl | rfl | rfl
    · exact ha
    · exact hm1
    · exact hm2
    · exact hm3
  have hmw : mw f [(y, .inr (7, [.int (iI th), .ref m1, .ref m2, .ref m3, .int (iI pn), .ref m5, .ref m6, .ref m7, .ref m8, .ref m9, .ref m10, .ref m11, .ref m12, .ref m13, .int (iI rw_), .ref m15, .long (lI fu), .long (lI fb)])), (m1, .inl (cs 0, 11520, .inl (ai lm))), (m2, .inl (cs 0, 180, .inl (ai mn))), (m3, .inl (cs 0, 180, .inl (ai sn)))] = f := mw_self (fun k a e hk => hfx (a, e) (List.mem_of_getElem? hk))
  have B := B.focus [(y, .inr (7, [.int (iI th), .ref m1, .ref m2, .ref m3, .int (iI pn), .ref m5, .ref m6, .ref m7, .ref m8, .ref m9, .ref m10, .ref m11, .ref m12, .ref m13, .int (iI rw_), .ref m15, .long (lI fu), .long (lI fb)])), (m1, .inl (cs 0, 11520, .inl (ai lm))), (m2, .inl (cs 0, 180, .inl (ai mn))), (m3, .inl (cs 0, 180, .inl (ai sn)))] hfx
  have J19 : ∀ (v1 : Int), (v1 = if sn x = 0 then 0 else 1) → ∀ (H : Heap) (locs : List Loc) (ls : Array Slot), Wb D vwCl (TY cs) L (mw f [(y, .inr (7, [.int (iI th), .ref m1, .ref m2, .ref m3, .int (iI pn), .ref m5, .ref m6, .ref m7, .ref m8, .ref m9, .ref m10, .ref m11, .ref m12, .ref m13, .int (iI rw_), .ref m15, .long (lI fu), .long (lI fb)])), (m1, .inl (cs 0, 11520, .inl (ai lm))), (m2, .inl (cs 0, 180, .inl (ai mn))), (m3, .inl (cs 0, 180, .inl (ai sn)))]) (AL L s.heap.size) s H locs → lv_has ls 3 [(0, .ref y), (1, .int (iI ((x : Int)))), (2, .int (iI ((w : Int))))] → W p l e R s m av below meth c H locs (0) (0) Q (F0 m 19 ls [.int (iI v1), .int (iI ((x : Int))), .ref m3]) := by
    intro v1 hv1 H locs ls B hl
    refine x_iast hx hb B hF 3 0 rfl rfl x (by omega) (by omega) (by decide) d_Mo_divisor_19 (fun H locs B => ?_)
    have B : Wb D vwCl (TY cs) L (mw f [(y, .inr (7, [.int (iI th), .ref m1, .ref m2, .ref m3, .int (iI pn), .ref m5, .ref m6, .ref m7, .ref m8, .ref m9, .ref m10, .ref m11, .ref m12, .ref m13, .int (iI rw_), .ref m15, .long (lI fu), .long (lI fb)])), (m1, .inl (cs 0, 11520, .inl (ai lm))), (m2, .inl (cs 0, 180, .inl (ai mn))), (m3, .inl (cs 0, 180, .inl (ai (up sn x v1))))]) (AL L s.heap.size) s H _ := B
    have hR1 : RS lm mn (up sn x v1) (up Z x ((Z x).natAbs : Int)) := RS.set (hRS.off x) ((Off.refl x lm mn sn).sign v1) (by
        rw [up_self, hv1]
        exact (hRS x hx8).abs)
    have hup := up_ne sn v1 (show w ≠ x by omega)
    have J39 : ∀ (v2 : Int), (v2 = if sn w = 0 then 0 else 1) → ∀ (H : Heap) (locs : List Loc) (ls : Array Slot), Wb D vwCl (TY cs) L (mw f [(y, .inr (7, [.int (iI th), .ref m1, .ref m2, .ref m3, .int (iI pn), .ref m5, .ref m6, .ref m7, .ref m8, .ref m9, .ref m10, .ref m11, .ref m12, .ref m13, .int (iI rw_), .ref m15, .long (lI fu), .long (lI fb)])), (m1, .inl (cs 0, 11520, .inl (ai lm))), (m2, .inl (cs 0, 180, .inl (ai mn))), (m3, .inl (cs 0, 180, .inl (ai (up sn x v1))))]) (AL L s.heap.size) s H locs → lv_has ls 3 [(0, .ref y), (1, .int (iI ((x : Int)))), (2, .int (iI ((w : Int))))] → W p l e R s m av below meth c H locs (0) (0) Q (F0 m 39 ls [.int (iI v2), .int (iI ((w : Int))), .ref m3]) := by
      intro v2 hv2 H locs ls B hl
      refine x_iast hx hb B hF 3 0 rfl rfl w (by omega) (by omega) (by decide) d_Mo_divisor_39 (fun H locs B => ?_)
      have B : Wb D vwCl (TY cs) L (mw f [(y, .inr (7, [.int (iI th), .ref m1, .ref m2, .ref m3, .int (iI pn), .ref m5, .ref m6, .ref m7, .ref m8, .ref m9, .ref m10, .ref m11, .ref m12, .ref m13, .int (iI rw_), .ref m15, .long (lI fu), .long (lI fb)])), (m1, .inl (cs 0, 11520, .inl (ai lm))), (m2, .inl (cs 0, 180, .inl (ai mn))), (m3, .inl (cs 0, 180, .inl (ai (up (up sn x v1) w v2))))]) (AL L s.heap.size) s H _ := B
      have hR2 : RS lm mn (up (up sn x v1) w v2) (up (up Z x ((Z x).natAbs : Int)) w ((Z w).natAbs : Int)) := RS.set (hR1.off w) ((Off.refl w lm mn (up sn x v1)).sign v2) (by
          rw [up_self, hv2]
          have h9 := (hR1 w hw8).abs
          rw [hup, up_ne _ _ (show w ≠ x by omega)] at h9
          exact h9)
      have LP : ∀ (fuel : Nat) (lm2 : Nat → Int) (mn2 : Nat → Int) (sn2 : Nat → Int) (Z2 : Nat → Int), (Z2 w).toNat < fuel → (RS lm2 mn2 sn2 Z2) → (0 ≤ Z2 x) → (0 ≤ Z2 w) → (Nat.gcd (Z2 x).natAbs (Z2 w).natAbs = Nat.gcd (Z x).natAbs (Z w).natAbs) → (((Z2 x).natAbs : Int) < Mp 62) → (((Z2 w).natAbs : Int) < Mp 62) → (∀ v, v ≠ x → v ≠ w → v ≠ 174 → v ≠ 175 → v ≠ 176 → v ≠ 177 → Z2 v = Z v) → ∀ (H : Heap) (locs : List Loc) (ls : Array Slot), Wb D vwCl (TY cs) L (mw f [(y, .inr (7, [.int (iI th), .ref m1, .ref m2, .ref m3, .int (iI pn), .ref m5, .ref m6, .ref m7, .ref m8, .ref m9, .ref m10, .ref m11, .ref m12, .ref m13, .int (iI rw_), .ref m15, .long (lI fu), .long (lI fb)])), (m1, .inl (cs 0, 11520, .inl (ai lm2))), (m2, .inl (cs 0, 180, .inl (ai mn2))), (m3, .inl (cs 0, 180, .inl (ai sn2)))]) (AL L s.heap.size) s H locs → lv_has ls 3 [(0, .ref y), (1, .int (iI ((x : Int)))), (2, .int (iI ((w : Int))))] → W p l e R s m av below meth c H locs (0) (0) Q (F0 m 40 ls []) := by
        intro fuel
        induction fuel with
        | zero => intro lm2 mn2 sn2 Z2 hfu; exact absurd hfu (Nat.not_lt_zero _)
        | succ fuel ih_LP =>
          intro lm2 mn2 sn2 Z2 hfu_LP hR hx0 hw0 hgc hxr2 hwr2 hZo H locs ls B hl
          have hsw2 := (hR w hw8).side
          refine lv_aload_n hx hb d_Mo_divisor_40 rfl (lv_at hl 0 rfl) ?_
          refine x_get (C := RX7) (T := TX7) (N := 18) hx hb hts inX7 hown B hF 0 rfl rfl 3 (by decide) (hts _ w_680) (fun _ h9 => h9) rfl d_Mo_divisor_41 ?_
          refine lv_iload_n hx hb d_Mo_divisor_44 rfl (lv_at hl 2 rfl) ?_
          refine x_iald hx hb B hF 3 0 rfl rfl w (by omega) (by omega) (by decide) d_Mo_divisor_45 ?_
          refine x_if_eq (tgt := 83) hx hb d_Mo_divisor_46 (by decide) (by omega) (fun h46 => ?_) (fun h46 => ?_)
          · subst hQ hav
            exact x_vret hx hb hr hlocks B d_Mo_divisor_83 (⟨_, _, _, Z2, hR, by
        have h0 : Z2 w = 0 := by omega
        rw [← hgc, h0]
        simp
        omega, by omega, hZo, mw_drop (f := f) (X := [(m1, .inl (cs 0, 11520, .inl (ai lm2))), (m2, .inl (cs 0, 180, .inl (ai mn2))), (m3, .inl (cs 0, 180, .inl (ai sn2)))]) ha (List.nodup_cons.mp hF.1).1⟩)
          · refine lv_aload_n hx hb d_Mo_divisor_49 rfl (lv_at hl 0 rfl) ?_
            refine x_sipush hx hb d_Mo_divisor_50 (by decide) ?_
            refine lv_iload_n hx hb d_Mo_divisor_53 rfl (lv_at hl 1 rfl) ?_
            refine lv_iload_n hx hb d_Mo_divisor_54 rfl (lv_at hl 2 rfl) ?_
            refine x_callv B hA (va_runV (As := [.int (iI 175), .int (iI ((x : Int))), .int (iI ((w : Int)))]) (rest := []) ⟨hx, hb, hml, hown, hts⟩ (c_Mo_divide l D cs _ _ _ y m1 m2 m3 m5 m6 m7 m8 m9 m10 m11 m12 m13 m15 th pn rw_ fu fb lm2 mn2 sn2 Z2 175 x w hF (mw_get (X := [(y, .inr (7, [.int (iI th), .ref m1, .ref m2, .ref m3, .int (iI pn), .ref m5, .ref m6, .ref m7, .ref m8, .ref m9, .ref m10, .ref m11, .ref m12, .ref m13, .int (iI rw_), .ref m15, .long (lI fu), .long (lI fb)])), (m1, .inl (cs 0, 11520, .inl (ai lm2))), (m2, .inl (cs 0, 180, .inl (ai mn2))), (m3, .inl (cs 0, 180, .inl (ai sn2)))]) hF.1 (k := 0) rfl) (mw_get (X := [(y, .inr (7, [.int (iI th), .ref m1, .ref m2, .ref m3, .int (iI pn), .ref m5, .ref m6, .ref m7, .ref m8, .ref m9, .ref m10, .ref m11, .ref m12, .ref m13, .int (iI rw_), .ref m15, .long (lI fu), .long (lI fb)])), (m1, .inl (cs 0, 11520, .inl (ai lm2))), (m2, .inl (cs 0, 180, .inl (ai mn2))), (m3, .inl (cs 0, 180, .inl (ai sn2)))]) hF.1 (k := 1) rfl) (mw_get (X := [(y, .inr (7, [.int (iI th), .ref m1, .ref m2, .ref m3, .int (iI pn), .ref m5, .ref m6, .ref m7, .ref m8, .ref m9, .ref m10, .ref m11, .ref m12, .ref m13, .int (iI rw_), .ref m15, .long (lI fu), .long (lI fb)])), (m1, .inl (cs 0, 11520, .inl (ai lm2))), (m2, .inl (cs 0, 180, .inl (ai mn2))), (m3, .inl (cs 0, 180, .inl (ai sn2)))]) hF.1 (k := 2) rfl) (mw_get (X := [(y, .inr (7, [.int (iI th), .ref m1, .ref m2, .ref m3, .int (iI pn), .ref m5, .ref m6, .ref m7, .ref m8, .ref m9, .ref m10, .ref m11, .ref m12, .ref m13, .int (iI rw_), .ref m15, .long (lI fu), .long (lI fb)])), (m1, .inl (cs 0, 11520, .inl (ai lm2))), (m2, .inl (cs 0, 180, .inl (ai mn2))), (m3, .inl (cs 0, 180, .inl (ai sn2)))]) hF.1 (k := 3) rfl) hR (by decide) hx8 hw8 (by omega) (by omega) hxw (by decide) (by omega) (by omega) (by omega) hxr2) (cwV 3 hts (gw_V w_840 w_842 s_46 w_8 w_843) rfl rfl rfl (by decide +kernel) ⟨by rw [hRf]; exact Nat.le_of_ble_eq_true rfl, by rw [hRl]; exact Nat.le_of_ble_eq_true rfl⟩) ⟨K0.blind, B.recv (hF.2 _ (mw_key (k := 0) (X := [(y, .inr (7, [.int (iI th), .ref m1, .ref m2, .ref m3, .int (iI pn), .ref m5, .ref m6, .ref m7, .ref m8, .ref m9, .ref m10, .ref m11, .ref m12, .ref m13, .int (iI rw_), .ref m15, .long (lI fu), .long (lI fb)])), (m1, .inl (cs 0, 11520, .inl (ai lm2))), (m2, .inl (cs 0, 180, .inl (ai mn2))), (m3, .inl (cs 0, 180, .inl (ai sn2)))]) rfl)) (mw_get (X := [(y, .inr (7, [.int (iI th), .ref m1, .ref m2, .ref m3, .int (iI pn), .ref m5, .ref m6, .ref m7, .ref m8, .ref m9, .ref m10, .ref m11, .ref m12, .ref m13, .int (iI rw_), .ref m15, .long (lI fu), .long (lI fb)])), (m1, .inl (cs 0, 11520, .inl (ai lm2))), (m2, .inl (cs 0, 180, .inl (ai mn2))), (m3, .inl (cs 0, 180, .inl (ai sn2)))]) hF.1 (k := 0) rfl) rfl, B.pre _⟩ rfl rfl hl.1 rfl (lv_room (Nat.le_of_ble_eq_true rfl)) d_Mo_divisor_55 ⟨by rw [hRc]; omega, by rw [hRs]; omega⟩) (fun g55 H locs hw B => ?_)
            obtain ⟨lm55, mn55, sn55, Z3, hR3, h175, h3x, h3o, rfl⟩ := hw
            have B := B.of_eq (mw_put3 (X := [(y, .inr (7, [.int (iI th), .ref m1, .ref m2, .ref m3, .int (iI pn), .ref m5, .ref m6, .ref m7, .ref m8, .ref m9, .ref m10, .ref m11, .ref m12, .ref m13, .int (iI rw_), .ref m15, .long (lI fu), .long (lI fb)])), (m1, .inl (cs 0, 11520, .inl (ai lm2))), (m2, .inl (cs 0, 180, .inl (ai mn2))), (m3, .inl (cs 0, 180, .inl (ai sn2)))]) hF.1 (k1 := 1) (k2 := 2) (k3 := 3) rfl rfl rfl)
            have B : Wb D vwCl (TY cs) L (mw f [(y, .inr (7, [.int (iI th), .ref m1, .ref m2, .ref m3, .int (iI pn), .ref m5, .ref m6, .ref m7, .ref m8, .ref m9, .ref m10, .ref m11, .ref m12, .ref m13, .int (iI rw_), .ref m15, .long (lI fu), .long (lI fb)])), (m1, .inl (cs 0, 11520, .inl (ai lm55))), (m2, .inl (cs 0, 180, .inl (ai mn55))), (m3, .inl (cs 0, 180, .inl (ai sn55)))]) (AL L s.heap.size) s H _ := B
            have hgs := gcd_step h3x
            have hgs3 := hgs.2.2 (by omega)
            have h3w : Z3 w = Z2 w := h3o w (by omega) (by omega) (by omega) (by omega)
            refine lv_aload_n hx hb d_Mo_divisor_58 rfl (lv_at hl 0 rfl) ?_
            refine x_sipush hx hb d_Mo_divisor_59 (by decide) ?_
            refine lv_iload_n hx hb d_Mo_divisor_62 rfl (lv_at hl 1 rfl) ?_
            refine x_callv B hA (va_runV (As := [.int (iI 174), .int (iI ((x : Int)))]) (rest := []) ⟨hx, hb, hml, hown, hts⟩ (c_Mo_copy l D cs _ _ _ y m1 m2 m3 m5 m6 m7 m8 m9 m10 m11 m12 m13 m15 th pn rw_ fu fb lm55 mn55 sn55 Z3 174 x hF (mw_get (X := [(y, .inr (7, [.int (iI th), .ref m1, .ref m2, .ref m3, .int (iI pn), .ref m5, .ref m6, .ref m7, .ref m8, .ref m9, .ref m10, .ref m11, .ref m12, .ref m13, .int (iI rw_), .ref m15, .long (lI fu), .long (lI fb)])), (m1, .inl (cs 0, 11520, .inl (ai lm55))), (m2, .inl (cs 0, 180, .inl (ai mn55))), (m3, .inl (cs 0, 180, .inl (ai sn55)))]) hF.1 (k := 0) rfl) (mw_get (X := [(y, .inr (7, [.int (iI th), .ref m1, .ref m2, .ref m3, .int (iI pn), .ref m5, .ref m6, .ref m7, .ref m8, .ref m9, .ref m10, .ref m11, .ref m12, .ref m13, .int (iI rw_), .ref m15, .long (lI fu), .long (lI fb)])), (m1, .inl (cs 0, 11520, .inl (ai lm55))), (m2, .inl (cs 0, 180, .inl (ai mn55))), (m3, .inl (cs 0, 180, .inl (ai sn55)))]) hF.1 (k := 1) rfl) (mw_get (X := [(y, .inr (7, [.int (iI th), .ref m1, .ref m2, .ref m3, .int (iI pn), .ref m5, .ref m6, .ref m7, .ref m8, .ref m9, .ref m10, .ref m11, .ref m12, .ref m13, .int (iI rw_), .ref m15, .long (lI fu), .long (lI fb)])), (m1, .inl (cs 0, 11520, .inl (ai lm55))), (m2, .inl (cs 0, 180, .inl (ai mn55))), (m3, .inl (cs 0, 180, .inl (ai sn55)))]) hF.1 (k := 2) rfl) (mw_get (X := [(y, .inr (7, [.int (iI th), .ref m1, .ref m2, .ref m3, .int (iI pn), .ref m5, .ref m6, .ref m7, .ref m8, .ref m9, .ref m10, .ref m11, .ref m12, .ref m13, .int (iI rw_), .ref m15, .long (lI fu), .long (lI fb)])), (m1, .inl (cs 0, 11520, .inl (ai lm55))), (m2, .inl (cs 0, 180, .inl (ai mn55))), (m3, .inl (cs 0, 180, .inl (ai sn55)))]) hF.1 (k := 3) rfl) hR3 (by decide) hx8) (cwV 2 hts (gw_V w_804 w_806 s_38 w_8 w_807) rfl rfl rfl (by decide +kernel) ⟨by rw [hRf]; exact Nat.le_of_ble_eq_true rfl, by rw [hRl]; exact Nat.le_of_ble_eq_true rfl⟩) ⟨K0.blind, B.recv (hF.2 _ (mw_key (k := 0) (X := [(y, .inr (7, [.int (iI th), .ref m1, .ref m2, .ref m3, .int (iI pn), .ref m5, .ref m6, .ref m7, .ref m8, .ref m9, .ref m10, .ref m11, .ref m12, .ref m13, .int (iI rw_), .ref m15, .long (lI fu), .long (lI fb)])), (m1, .inl (cs 0, 11520, .inl (ai lm55))), (m2, .inl (cs 0, 180, .inl (ai mn55))), (m3, .inl (cs 0, 180, .inl (ai sn55)))]) rfl)) (mw_get (X := [(y, .inr (7, [.int (iI th), .ref m1, .ref m2, .ref m3, .int (iI pn), .ref m5, .ref m6, .ref m7, .ref m8, .ref m9, .ref m10, .ref m11, .ref m12, .ref m13, .int (iI rw_), .ref m15, .long (lI fu), .long (lI fb)])), (m1, .inl (cs 0, 11520, .inl (ai lm55))), (m2, .inl (cs 0, 180, .inl (ai mn55))), (m3, .inl (cs 0, 180, .inl (ai sn55)))]) hF.1 (k := 0) rfl) rfl, B.pre _⟩ rfl rfl hl.1 rfl (lv_room (Nat.le_of_ble_eq_true rfl)) d_Mo_divisor_63 ⟨by rw [hRc]; omega, by rw [hRs]; omega⟩) (fun g63 H locs hw B => ?_)
            obtain ⟨lm63, mn63, sn63, hR4, rfl⟩ := hw
            have B := B.of_eq (mw_put3 (X := [(y, .inr (7, [.int (iI th), .ref m1, .ref m2, .ref m3, .int (iI pn), .ref m5, .ref m6, .ref m7, .ref m8, .ref m9, .ref m10, .ref m11, .ref m12, .ref m13, .int (iI rw_), .ref m15, .long (lI fu), .long (lI fb)])), (m1, .inl (cs 0, 11520, .inl (ai lm55))), (m2, .inl (cs 0, 180, .inl (ai mn55))), (m3, .inl (cs 0, 180, .inl (ai sn55)))]) hF.1 (k1 := 1) (k2 := 2) (k3 := 3) rfl rfl rfl)
            have B : Wb D vwCl (TY cs) L (mw f [(y, .inr (7, [.int (iI th), .ref m1, .ref m2, .ref m3, .int (iI pn), .ref m5, .ref m6, .ref m7, .ref m8, .ref m9, .ref m10, .ref m11, .ref m12, .ref m13, .int (iI rw_), .ref m15, .long (lI fu), .long (lI fb)])), (m1, .inl (cs 0, 11520, .inl (ai lm63))), (m2, .inl (cs 0, 180, .inl (ai mn63))), (m3, .inl (cs 0, 180, .inl (ai sn63)))]) (AL L s.heap.size) s H _ := B
            refine lv_aload_n hx hb d_Mo_divisor_66 rfl (lv_at hl 0 rfl) ?_
            refine lv_iload_n hx hb d_Mo_divisor_67 rfl (lv_at hl 1 rfl) ?_
            refine lv_iload_n hx hb d_Mo_divisor_68 rfl (lv_at hl 2 rfl) ?_
            refine x_callv B hA (va_runV (As := [.int (iI ((x : Int))), .int (iI ((w : Int)))]) (rest := []) ⟨hx, hb, hml, hown, hts⟩ (c_Mo_copy l D cs _ _ _ y m1 m2 m3 m5 m6 m7 m8 m9 m10 m11 m12 m13 m15 th pn rw_ fu fb lm63 mn63 sn63 (up Z3 174 (Z3 x)) x w hF (mw_get (X := [(y, .inr (7, [.int (iI th), .ref m1, .ref m2, .ref m3, .int (iI pn), .ref m5, .ref m6, .ref m7, .ref m8, .ref m9, .ref m10, .ref m11, .ref m12, .ref m13, .int (iI rw_), .ref m15, .long (lI fu), .long (lI fb)])), (m1, .inl (cs 0, 11520, .inl (ai lm63))), (m2, .inl (cs 0, 180, .inl (ai mn63))), (m3, .inl (cs 0, 180, .inl (ai sn63)))]) hF.1 (k := 0) rfl) (mw_get (X := [(y, .inr (7, [.int (iI th), .ref m1, .ref m2, .ref m3, .int (iI pn), .ref m5, .ref m6, .ref m7, .ref m8, .ref m9, .ref m10, .ref m11, .ref m12, .ref m13, .int (iI rw_), .ref m15, .long (lI fu), .long (lI fb)])), (m1, .inl (cs 0, 11520, .inl (ai lm63))), (m2, .inl (cs 0, 180, .inl (ai mn63))), (m3, .inl (cs 0, 180, .inl (ai sn63)))]) hF.1 (k := 1) rfl) (mw_get (X := [(y, .inr (7, [.int (iI th), .ref m1, .ref m2, .ref m3, .int (iI pn), .ref m5, .ref m6, .ref m7, .ref m8, .ref m9, .ref m10, .ref m11, .ref m12, .ref m13, .int (iI rw_), .ref m15, .long (lI fu), .long (lI fb)])), (m1, .inl (cs 0, 11520, .inl (ai lm63))), (m2, .inl (cs 0, 180, .inl (ai mn63))), (m3, .inl (cs 0, 180, .inl (ai sn63)))]) hF.1 (k := 2) rfl) (mw_get (X := [(y, .inr (7, [.int (iI th), .ref m1, .ref m2, .ref m3, .int (iI pn), .ref m5, .ref m6, .ref m7, .ref m8, .ref m9, .ref m10, .ref m11, .ref m12, .ref m13, .int (iI rw_), .ref m15, .long (lI fu), .long (lI fb)])), (m1, .inl (cs 0, 11520, .inl (ai lm63))), (m2, .inl (cs 0, 180, .inl (ai mn63))), (m3, .inl (cs 0, 180, .inl (ai sn63)))]) hF.1 (k := 3) rfl) hR4 hx8 hw8) (cwV 2 hts (gw_V w_804 w_806 s_38 w_8 w_807) rfl rfl rfl (by decide +kernel) ⟨by rw [hRf]; exact Nat.le_of_ble_eq_true rfl, by rw [hRl]; exact Nat.le_of_ble_eq_true rfl⟩) ⟨K0.blind, B.recv (hF.2 _ (mw_key (k := 0) (X := [(y, .inr (7, [.int (iI th), .ref m1, .ref m2, .ref m3, .int (iI pn), .ref m5, .ref m6, .ref m7, .ref m8, .ref m9, .ref m10, .ref m11, .ref m12, .ref m13, .int (iI rw_), .ref m15, .long (lI fu), .long (lI fb)])), (m1, .inl (cs 0, 11520, .inl (ai lm63))), (m2, .inl (cs 0, 180, .inl (ai mn63))), (m3, .inl (cs 0, 180, .inl (ai sn63)))]) rfl)) (mw_get (X := [(y, .inr (7, [.int (iI th), .ref m1, .ref m2, .ref m3, .int (iI pn), .ref m5, .ref m6, .ref m7, .ref m8, .ref m9, .ref m10, .ref m11, .ref m12, .ref m13, .int (iI rw_), .ref m15, .long (lI fu), .long (lI fb)])), (m1, .inl (cs 0, 11520, .inl (ai lm63))), (m2, .inl (cs 0, 180, .inl (ai mn63))), (m3, .inl (cs 0, 180, .inl (ai sn63)))]) hF.1 (k := 0) rfl) rfl, B.pre _⟩ rfl rfl hl.1 rfl (lv_room (Nat.le_of_ble_eq_true rfl)) d_Mo_divisor_69 ⟨by rw [hRc]; omega, by rw [hRs]; omega⟩) (fun g69 H locs hw B => ?_)
            obtain ⟨lm69, mn69, sn69, hR5, rfl⟩ := hw
            have B := B.of_eq (mw_put3 (X := [(y, .inr (7, [.int (iI th), .ref m1, .ref m2, .ref m3, .int (iI pn), .ref m5, .ref m6, .ref m7, .ref m8, .ref m9, .ref m10, .ref m11, .ref m12, .ref m13, .int (iI rw_), .ref m15, .long (lI fu), .long (lI fb)])), (m1, .inl (cs 0, 11520, .inl (ai lm63))), (m2, .inl (cs 0, 180, .inl (ai mn63))), (m3, .inl (cs 0, 180, .inl (ai sn63)))]) hF.1 (k1 := 1) (k2 := 2) (k3 := 3) rfl rfl rfl)
            have B : Wb D vwCl (TY cs) L (mw f [(y, .inr (7, [.int (iI th), .ref m1, .ref m2, .ref m3, .int (iI pn), .ref m5, .ref m6, .ref m7, .ref m8, .ref m9, .ref m10, .ref m11, .ref m12, .ref m13, .int (iI rw_), .ref m15, .long (lI fu), .long (lI fb)])), (m1, .inl (cs 0, 11520, .inl (ai lm69))), (m2, .inl (cs 0, 180, .inl (ai mn69))), (m3, .inl (cs 0, 180, .inl (ai sn69)))]) (AL L s.heap.size) s H _ := B
            rw [up_ne Z3 _ (show w ≠ 174 by omega)] at hR5
            refine lv_aload_n hx hb d_Mo_divisor_72 rfl (lv_at hl 0 rfl) ?_
            refine lv_iload_n hx hb d_Mo_divisor_73 rfl (lv_at hl 2 rfl) ?_
            refine x_sipush hx hb d_Mo_divisor_74 (by decide) ?_
            refine x_callv B hA (va_runV (As := [.int (iI ((w : Int))), .int (iI 174)]) (rest := []) ⟨hx, hb, hml, hown, hts⟩ (c_Mo_copy l D cs _ _ _ y m1 m2 m3 m5 m6 m7 m8 m9 m10 m11 m12 m13 m15 th pn rw_ fu fb lm69 mn69 sn69 (up (up Z3 174 (Z3 x)) x (Z3 w)) w 174 hF (mw_get (X := [(y, .inr (7, [.int (iI th), .ref m1, .ref m2, .ref m3, .int (iI pn), .ref m5, .ref m6, .ref m7, .ref m8, .ref m9, .ref m10, .ref m11, .ref m12, .ref m13, .int (iI rw_), .ref m15, .long (lI fu), .long (lI fb)])), (m1, .inl (cs 0, 11520, .inl (ai lm69))), (m2, .inl (cs 0, 180, .inl (ai mn69))), (m3, .inl (cs 0, 180, .inl (ai sn69)))]) hF.1 (k := 0) rfl) (mw_get (X := [(y, .inr (7, [.int (iI th), .ref m1, .ref m2, .ref m3, .int (iI pn), .ref m5, .ref m6, .ref m7, .ref m8, .ref m9, .ref m10, .ref m11, .ref m12, .ref m13, .int (iI rw_), .ref m15, .long (lI fu), .long (lI fb)])), (m1, .inl (cs 0, 11520, .inl (ai lm69))), (m2, .inl (cs 0, 180, .inl (ai mn69))), (m3, .inl (cs 0, 180, .inl (ai sn69)))]) hF.1 (k := 1) rfl) (mw_get (X := [(y, .inr (7, [.int (iI th), .ref m1, .ref m2, .ref m3, .int (iI pn), .ref m5, .ref m6, .ref m7, .ref m8, .ref m9, .ref m10, .ref m11, .ref m12, .ref m13, .int (iI rw_), .ref m15, .long (lI fu), .long (lI fb)])), (m1, .inl (cs 0, 11520, .inl (ai lm69))), (m2, .inl (cs 0, 180, .inl (ai mn69))), (m3, .inl (cs 0, 180, .inl (ai sn69)))]) hF.1 (k := 2) rfl) (mw_get (X := [(y, .inr (7, [.int (iI th), .ref m1, .ref m2, .ref m3, .int (iI pn), .ref m5, .ref m6, .ref m7, .ref m8, .ref m9, .ref m10, .ref m11, .ref m12, .ref m13, .int (iI rw_), .ref m15, .long (lI fu), .long (lI fb)])), (m1, .inl (cs 0, 11520, .inl (ai lm69))), (m2, .inl (cs 0, 180, .inl (ai mn69))), (m3, .inl (cs 0, 180, .inl (ai sn69)))]) hF.1 (k := 3) rfl) hR5 hw8 (by decide)) (cwV 2 hts (gw_V w_804 w_806 s_38 w_8 w_807) rfl rfl rfl (by decide +kernel) ⟨by rw [hRf]; exact Nat.le_of_ble_eq_true rfl, by rw [hRl]; exact Nat.le_of_ble_eq_true rfl⟩) ⟨K0.blind, B.recv (hF.2 _ (mw_key (k := 0) (X := [(y, .inr (7, [.int (iI th), .ref m1, .ref m2, .ref m3, .int (iI pn), .ref m5, .ref m6, .ref m7, .ref m8, .ref m9, .ref m10, .ref m11, .ref m12, .ref m13, .int (iI rw_), .ref m15, .long (lI fu), .long (lI fb)])), (m1, .inl (cs 0, 11520, .inl (ai lm69))), (m2, .inl (cs 0, 180, .inl (ai mn69))), (m3, .inl (cs 0, 180, .inl (ai sn69)))]) rfl)) (mw_get (X := [(y, .inr (7, [.int (iI th), .ref m1, .ref m2, .ref m3, .int (iI pn), .ref m5, .ref m6, .ref m7, .ref m8, .ref m9, .ref m10, .ref m11, .ref m12, .ref m13, .int (iI rw_), .ref m15, .long (lI fu), .long (lI fb)])), (m1, .inl (cs 0, 11520, .inl (ai lm69))), (m2, .inl (cs 0, 180, .inl (ai mn69))), (m3, .inl (cs 0, 180, .inl (ai sn69)))]) hF.1 (k := 0) rfl) rfl, B.pre _⟩ rfl rfl hl.1 rfl (lv_room (Nat.le_of_ble_eq_true rfl)) d_Mo_divisor_77 ⟨by rw [hRc]; omega, by rw [hRs]; omega⟩) (fun g77 H locs hw B => ?_)
            obtain ⟨lm77, mn77, sn77, hR6, rfl⟩ := hw
            have B := B.of_eq (mw_put3 (X := [(y, .inr (7, [.int (iI th), .ref m1, .ref m2, .ref m3, .int (iI pn), .ref m5, .ref m6, .ref m7, .ref m8, .ref m9, .ref m10, .ref m11, .ref m12, .ref m13, .int (iI rw_), .ref m15, .long (lI fu), .long (lI fb)])), (m1, .inl (cs 0, 11520, .inl (ai lm69))), (m2, .inl (cs 0, 180, .inl (ai mn69))), (m3, .inl (cs 0, 180, .inl (ai sn69)))]) hF.1 (k1 := 1) (k2 := 2) (k3 := 3) rfl rfl rfl)
            have B : Wb D vwCl (TY cs) L (mw f [(y, .inr (7, [.int (iI th), .ref m1, .ref m2, .ref m3, .int (iI pn), .ref m5, .ref m6, .ref m7, .ref m8, .ref m9, .ref m10, .ref m11, .ref m12, .ref m13, .int (iI rw_), .ref m15, .long (lI fu), .long (lI fb)])), (m1, .inl (cs 0, 11520, .inl (ai lm77))), (m2, .inl (cs 0, 180, .inl (ai mn77))), (m3, .inl (cs 0, 180, .inl (ai sn77)))]) (AL L s.heap.size) s H _ := B
            rw [up_ne _ _ (show 174 ≠ x by omega), up_self] at hR6
            refine lv_goto (tgt := 40) hx hb d_Mo_divisor_80 (by decide) ?_
            exact ih_LP lm77 mn77 sn77 (up (up (up Z3 174 (Z3 x)) x (Z3 w)) w (Z3 x)) (by rw [show (up (up (up Z3 174 (Z3 x)) x (Z3 w)) w (Z3 x)) w = Z3 x by rw [up_self]]; omega) hR6 (by rw [show (up (up (up Z3 174 (Z3 x)) x (Z3 w)) w (Z3 x)) x = Z2 w by rw [up_ne _ _ (show x ≠ w by omega), up_self]; exact h3w]; exact hw0) (by rw [show (up (up (up Z3 174 (Z3 x)) x (Z3 w)) w (Z3 x)) w = Z3 x by rw [up_self]]; exact hgs.2.1) (by rw [show (up (up (up Z3 174 (Z3 x)) x (Z3 w)) w (Z3 x)) x = Z2 w by rw [up_ne _ _ (show x ≠ w by omega), up_self]; exact h3w, show (up (up (up Z3 174 (Z3 x)) x (Z3 w)) w (Z3 x)) w = Z3 x by rw [up_self]]; exact hgs.1.trans hgc) (by rw [show (up (up (up Z3 174 (Z3 x)) x (Z3 w)) w (Z3 x)) x = Z2 w by rw [up_ne _ _ (show x ≠ w by omega), up_self]; exact h3w]; exact hwr2) (by rw [show (up (up (up Z3 174 (Z3 x)) x (Z3 w)) w (Z3 x)) w = Z3 x by rw [up_self]]; omega) (fun v h1 h2 h3 h4 h5 h6 => by rw [up_ne _ _ h2, up_ne _ _ h1, up_ne _ _ h3, h3o v h4 h1 h5 h6]; exact hZo v h1 h2 h3 h4 h5 h6) _ _ _ B (lv_sub hl [0, 1, 2] rfl)
      exact LP _ lm mn (up (up sn x v1) w v2) (up (up Z x ((Z x).natAbs : Int)) w ((Z w).natAbs : Int)) (Nat.lt_succ_self _) hR2 (by rw [up_ne _ _ (show x ≠ w by omega), up_self]; omega) (by rw [up_self]; omega) (by rw [up_ne _ _ (show x ≠ w by omega), up_self, up_self, Int.natAbs_natCast, Int.natAbs_natCast]) (by rw [up_ne _ _ (show x ≠ w by omega), up_self, Int.natAbs_natCast]; exact hxr) (by rw [up_self, Int.natAbs_natCast]; exact hwr) (fun v h1 h2 _ _ _ _ => by rw [up_ne _ _ h2, up_ne _ _ h1]) _ _ _ B (lv_sub hl [0, 1, 2] rfl)
    refine lv_aload_n hx hb d_Mo_divisor_20 rfl (lv_at hl 0 rfl) ?_
    refine x_get (C := RX7) (T := TX7) (N := 18) hx hb hts inX7 hown B hF 0 rfl rfl 3 (by decide) (hts _ w_680) (fun _ h9 => h9) rfl d_Mo_divisor_21 ?_
    refine lv_iload_n hx hb d_Mo_divisor_24 rfl (lv_at hl 2 rfl) ?_
    refine lv_aload_n hx hb d_Mo_divisor_25 rfl (lv_at hl 0 rfl) ?_
    refine x_get (C := RX7) (T := TX7) (N := 18) hx hb hts inX7 hown B hF 0 rfl rfl 3 (by decide) (hts _ w_680) (fun _ h9 => h9) rfl d_Mo_divisor_26 ?_
    refine lv_iload_n hx hb d_Mo_divisor_29 rfl (lv_at hl 2 rfl) ?_
    refine x_iald hx hb B hF 3 0 rfl rfl w (by omega) (by omega) (by decide) d_Mo_divisor_30 ?_
    refine x_if_ne (tgt := 38) hx hb d_Mo_divisor_31 (by decide) (by rw [hup]; omega) (fun h31 => ?_) (fun h31 => ?_)
    · refine x_iconst hx hb d_Mo_divisor_38 ?_
      exact J39 1 (by rw [if_neg (by rw [← hup]; exact h31)]) _ _ _ B (lv_sub hl [0, 1, 2] rfl)
    · refine x_iconst hx hb d_Mo_divisor_34 ?_
      refine lv_goto (tgt := 39) hx hb d_Mo_divisor_35 (by decide) ?_
      exact J39 0 (by rw [if_pos (by rw [← hup]; exact h31)]) _ _ _ B (lv_sub hl [0, 1, 2] rfl)
  refine lv_aload_n hx hb d_Mo_divisor_0 rfl (lv_at hl 0 rfl) ?_
  refine x_get (C := RX7) (T := TX7) (N := 18) hx hb hts inX7 hown B hF 0 rfl rfl 3 (by decide) (hts _ w_680) (fun _ h9 => h9) rfl d_Mo_divisor_1 ?_
  refine lv_iload_n hx hb d_Mo_divisor_4 rfl (lv_at hl 1 rfl) ?_
  refine lv_aload_n hx hb d_Mo_divisor_5 rfl (lv_at hl 0 rfl) ?_
  refine x_get (C := RX7) (T := TX7) (N := 18) hx hb hts inX7 hown B hF 0 rfl rfl 3 (by decide) (hts _ w_680) (fun _ h9 => h9) rfl d_Mo_divisor_6 ?_
  refine lv_iload_n hx hb d_Mo_divisor_9 rfl (lv_at hl 1 rfl) ?_
  refine x_iald hx hb B hF 3 0 rfl rfl x (by omega) (by omega) (by decide) d_Mo_divisor_10 ?_
  refine x_if_ne (tgt := 18) hx hb d_Mo_divisor_11 (by decide) (by omega) (fun h11 => ?_) (fun h11 => ?_)
  · refine x_iconst hx hb d_Mo_divisor_18 ?_
    exact J19 1 (by rw [if_neg h11]) _ _ _ B (lv_sub hl [0, 1, 2] rfl)
  · refine x_iconst hx hb d_Mo_divisor_14 ?_
    refine lv_goto (tgt := 19) hx hb d_Mo_divisor_15 (by decide) ?_
    exact J19 0 (by rw [if_pos h11]) _ _ _ B (lv_sub hl [0, 1, 2] rfl)
theorem d_Mo_degreeAt_0 : decode prog_9_method_17_code 0 = .ok (.iconst 5, 1) := by decide +kernel
theorem d_Mo_degreeAt_1 : decode prog_9_method_17_code 1 = .ok (.istore_n 2, 1) := by decide +kernel
theorem d_Mo_degreeAt_2 : decode prog_9_method_17_code 2 = .ok (.iload_n 2, 1) := by decide +kernel
theorem d_Mo_degreeAt_3 : decode prog_9_method_17_code 3 = .ok (.ifCond .lt 20, 3) := by decide +kernel
theorem d_Mo_degreeAt_6 : decode prog_9_method_17_code 6 = .ok (.aload_n 0, 1) := by decide +kernel
theorem d_Mo_degreeAt_7 : decode prog_9_method_17_code 7 = .ok (.getfield 16, 3) := by decide +kernel
theorem d_Mo_degreeAt_10 : decode prog_9_method_17_code 10 = .ok (.iload_n 1, 1) := by decide +kernel
theorem d_Mo_degreeAt_11 : decode prog_9_method_17_code 11 = .ok (.iload_n 2, 1) := by decide +kernel
theorem d_Mo_degreeAt_12 : decode prog_9_method_17_code 12 = .ok (.iadd, 1) := by decide +kernel
theorem d_Mo_degreeAt_13 : decode prog_9_method_17_code 13 = .ok (.iaload, 1) := by decide +kernel
theorem d_Mo_degreeAt_14 : decode prog_9_method_17_code 14 = .ok (.ifCond .ne 9, 3) := by decide +kernel
theorem d_Mo_degreeAt_17 : decode prog_9_method_17_code 17 = .ok (.iinc 2 (-1), 3) := by decide +kernel
theorem d_Mo_degreeAt_20 : decode prog_9_method_17_code 20 = .ok (.goto (-18), 3) := by decide +kernel
theorem d_Mo_degreeAt_23 : decode prog_9_method_17_code 23 = .ok (.iload_n 2, 1) := by decide +kernel
theorem d_Mo_degreeAt_24 : decode prog_9_method_17_code 24 = .ok (.ireturn, 1) := by decide +kernel
set_option maxHeartbeats 8000000 in
set_option maxRecDepth 100000 in
theorem c_Mo_degreeAt (l : Launch) (D : va_G) (cs : Nat → ClassId) (L : List Nat) (f : Nat → va_E) (sz : Nat) (y m1 m2 m3 m5 m6 m7 m8 m9 m10 m11 m12 m13 m15 : Nat) (th pn rw_ fu fb : Int) (lm mn sn Z : Nat → Int) (p0 : Nat) (hF : Fc L [y, m1, m2, m3]) (ha : f y = .inr (7, [.int (iI th), .ref m1, .ref m2, .ref m3, .int (iI pn), .ref m5, .ref m6, .ref m7, .ref m8, .ref m9, .ref m10, .ref m11, .ref m12, .ref m13, .int (iI rw_), .ref m15, .long (lI fu), .long (lI fb)])) (hm1 : f m1 = .inl (cs 0, 11520, .inl (ai lm))) (hm2 : f m2 = .inl (cs 0, 180, .inl (ai mn))) (hm3 : f m3 = .inl (cs 0, 180, .inl (ai sn))) (hRS : RS lm mn sn Z) (hp8 : p0 + 5 < 180) : Met l (⟨"RealRootsModel", "degreeAt", "(I)I"⟩ : MethodName) (.code (⟨"RealRootsModel", "degreeAt", "(I)I"⟩ : MethodName) prog_9_method_17_code 3 (Option.some Jvm.ClassFile.FieldType.int) :: gw) ({ frames := 0, cells := 0, slots := 0, locals := 0 }) (va_Pc [.ref y, .int (iI ((p0 : Int)))] (K0 D vwCl (TY cs) L f sz)) (va_Qi (fun (r : Int32) (g : Nat → va_E) => ∃ k : Nat, r = iI ((k : Int) - 1) ∧ k ≤ 6 ∧ (∀ j, k ≤ j → j < 6 → Z (p0 + j) = 0) ∧ (0 < k → Z (p0 + (k - 1)) ≠ 0) ∧ g = f) (K1 D vwCl (TY cs) (AL L sz) L) (AL L sz)) 0 0 (AL L sz) := by
  refine Met.ofW (cc := prog_9_method_17_code) (maxL := 3) (ret := (Option.some Jvm.ClassFile.FieldType.int)) (by decide) rfl ?_
  intro p e s m args below meth c s₁ Bd hml hv
  obtain ⟨rfl, hk0⟩ := hv
  obtain ⟨hsz, B⟩ := hk0.start
  subst hsz
  have hx := Bd.exec
  have hb := Bd.bytes
  have hr := Bd.returns
  have hlocks := Bd.notSynchronized
  have hts0 := atoms_spec Bd.pre
  have hown : s.vm.findClass RX7 = some m.cls := findClass_of_methodNamed Bd.named
  have hA : ∀ q, s.heap.size ≤ q → AL L s.heap.size q := fun _ h => Or.inr h
  have hl := lv_entry ([.ref y, .int (iI ((p0 : Int)))]) (n := 3) (Nat.le_of_ble_eq_true rfl)
  rw [lg_entry_eq]
  generalize (lg_sl ([.ref y, .int (iI ((p0 : Int)))]) ++ List.replicate (3 - (lg_sl ([.ref y, .int (iI ((p0 : Int)))])).length) Slot.unset).toArray = ls at hl ⊢
  refine absQ (fun Q R av hQ hR hav => ?_)
  have hts : ∀ w ∈ gw, w.before av s = true := by rw [hav]; exact fun w h => hts0 w (List.mem_cons_of_mem _ h)
  have hRf : R.frames = 0 := by rw [hR]; rfl
  have hRl : R.locals = 0 := by rw [hR]; rfl
  have hRc : R.cells = 0 := by rw [hR]; rfl
  have hRs : R.slots = 0 := by rw [hR]; rfl
  clear hR hts0 Bd
  have hl : lv_has ls 3 [(0, .ref y), (1, .int (iI ((p0 : Int))))] := hl
  have hfx : ∀ q ∈ ([(y, .inr (7, [.int (iI th), .ref m1, .ref m2, .ref m3, .int (iI pn), .ref m5, .ref m6, .ref m7, .ref m8, .ref m9, .ref m10, .ref m11, .ref m12, .ref m13, .int (iI rw_), .ref m15, .long (lI fu), .long (lI fb)])), (m1, .inl (cs 0, 11520, .inl (ai lm))), (m2, .inl (cs 0, 180, .inl (ai mn))), (m3, .inl (cs 0, 180, .inl (ai sn)))] : List (Nat × va_E)), f q.1 = q.2 := fun q hq => by
    simp only [List.mem_cons, List.not_mem_nil, or_false] at hq
    rcases hq with rfl | rfl | rfl | rfl
    · exact ha
    · exact hm1
    · exact hm2
    · exact hm3
  have hmw : mw f [(y, .inr (7, [.int (iI th), .ref m1, .ref m2, .ref m3, .int (iI pn), .ref m5, .ref m6, .ref m7, .ref m8, .ref m9, .ref m10, .ref m11, .ref m12, .ref m13, .int (iI rw_), .ref m15, .long (lI fu), .long (lI fb)])), (m1, .inl (cs 0, 11520, .inl (ai lm))), (m2, .inl (cs 0, 180, .inl (ai mn))), (m3, .inl (cs 0, 180, .inl (ai sn)))] = f := mw_self (fun k a e hk => hfx (a, e) (List.mem_of_getElem? hk))
  have B := B.focus [(y, .inr (7, [.int (iI th), .ref m1, .ref m2, .ref m3, .int (iI pn), .ref m5, .ref m6, .ref m7, .ref m8, .ref m9, .ref m10, .ref m11, .ref m12, .ref m13, .int (iI rw_), .ref m15, .long (lI fu), .long (lI fb)])), (m1, .inl (cs 0, 11520, .inl (ai lm))), (m2, .inl (cs 0, 180, .inl (ai mn))), (m3, .inl (cs 0, 180, .inl (ai sn)))] hfx
  refine x_iconst hx hb d_Mo_degreeAt_0 ?_
  refine lv_istore_n (lv' := [(2, .int (iI 5)), (0, .ref y), (1, .int (iI ((p0 : Int))))]) hx hb d_Mo_degreeAt_1 rfl hl (by decide) rfl (fun ls hl => ?_)
  have LP : ∀ (fuel : Nat) (k : Nat), k < fuel → (k ≤ 6) → (∀ j, k ≤ j → j < 6 → Z (p0 + j) = 0) → ∀ (H : Heap) (locs : List Loc) (ls : Array Slot), Wb D vwCl (TY cs) L (mw f [(y, .inr (7, [.int (iI th), .ref m1, .ref m2, .ref m3, .int (iI pn), .ref m5, .ref m6, .ref m7, .ref m8, .ref m9, .ref m10, .ref m11, .ref m12, .ref m13, .int (iI rw_), .ref m15, .long (lI fu), .long (lI fb)])), (m1, .inl (cs 0, 11520, .inl (ai lm))), (m2, .inl (cs 0, 180, .inl (ai mn))), (m3, .inl (cs 0, 180, .inl (ai sn)))]) (AL L s.heap.size) s H locs → lv_has ls 3 [(2, .int (iI ((k : Int) - 1))), (0, .ref y), (1, .int (iI ((p0 : Int))))] → W p l e R s m av below meth c H locs (0) (0) Q (F0 m 2 ls []) := by
    intro fuel
    induction fuel with
    | zero => intro k hfu; exact absurd hfu (Nat.not_lt_zero _)
    | succ fuel ih_LP =>
      intro k hfu_LP hk hz H locs ls B hl
      refine lv_iload_n hx hb d_Mo_degreeAt_2 rfl (lv_at hl 0 rfl) ?_
      refine x_if_lt (tgt := 23) hx hb d_Mo_degreeAt_3 (by decide) (by omega) (fun h3 => ?_) (fun h3 => ?_)
      · refine lv_iload_n hx hb d_Mo_degreeAt_23 rfl (lv_at hl 0 rfl) ?_
        have B := B.of_eq hmw
        subst hQ hav
        exact x_iret hx hb hr hlocks B d_Mo_degreeAt_24 (⟨k, rfl, hk, hz, fun h0 => by first | omega | (exfalso; omega), rfl⟩)
      · have hs9 := (hRS (p0 + (k - 1)) (by omega)).side
        refine lv_aload_n hx hb d_Mo_degreeAt_6 rfl (lv_at hl 1 rfl) ?_
        refine x_get (C := RX7) (T := TX7) (N := 18) hx hb hts inX7 hown B hF 0 rfl rfl 3 (by decide) (hts _ w_680) (fun _ h9 => h9) rfl d_Mo_degreeAt_7 ?_
        refine lv_iload_n hx hb d_Mo_degreeAt_10 rfl (lv_at hl 2 rfl) ?_
        refine lv_iload_n hx hb d_Mo_degreeAt_11 rfl (lv_at hl 0 rfl) ?_
        refine x_iadd hx hb d_Mo_degreeAt_12 ?_
        refine x_iald hx hb B hF 3 0 rfl rfl (p0 + (k - 1)) (by omega) (by omega) (by decide) d_Mo_degreeAt_13 ?_
        refine x_if_ne (tgt := 23) hx hb d_Mo_degreeAt_14 (by decide) (by omega) (fun h14 => ?_) (fun h14 => ?_)
        · refine lv_iload_n hx hb d_Mo_degreeAt_23 rfl (lv_at hl 0 rfl) ?_
          have B := B.of_eq hmw
          subst hQ hav
          exact x_iret hx hb hr hlocks B d_Mo_degreeAt_24 (⟨k, rfl, hk, hz, fun h0 => by first | omega | (exfalso; omega), rfl⟩)
        · refine x_iinc (lv' := [(2, .int (iI (((k : Int) - 1) + (-1)))), (0, .ref y), (1, .int (iI ((p0 : Int))))]) hx hb d_Mo_degreeAt_17 hl (q := 0) rfl rfl (by decide) rfl (fun ls hl => ?_)
          refine lv_goto (tgt := 2) hx hb d_Mo_degreeAt_20 (by decide) ?_
          rw [show (k : Int) - 1 + (-1) = ((k - 1 : Nat) : Int) - 1 by omega] at hl
          exact ih_LP (k - 1) (by omega) (by omega) (fun j h1 h2 => by
          by_cases hj : k ≤ j
          · exact hz j hj h2
          · rw [show j = k - 1 by omega]; omega) _ _ _ B (lv_sub hl [0, 1, 2] rfl)
  exact LP _ 6 (Nat.lt_succ_self _) (by omega) (fun j h1 h2 => by omega) _ _ _ B (lv_sub hl [0, 1, 2] rfl)
