theorem d_RR_polynomial_0 : decode prog_1_method_2_code 0 = .ok (.aload_n 0, 1) := by decide +kernel
theorem d_RR_polynomial_1 : decode prog_1_method_2_code 1 = .ok (.invokevirtual 71, 3) := by decide +kernel
theorem d_RR_polynomial_4 : decode prog_1_method_2_code 4 = .ok (.aload_n 0, 1) := by decide +kernel
theorem d_RR_polynomial_5 : decode prog_1_method_2_code 5 = .ok (.invokevirtual 74, 3) := by decide +kernel
theorem d_RR_polynomial_8 : decode prog_1_method_2_code 8 = .ok (.ireturn, 1) := by decide +kernel
theorem mw_cut5 {f : Nat → va_E} {c0 c5 x cv vv : Nat} {e0 e5 ex ec ev dx dc dv : va_E} (hN : [c0, c5, x, cv, vv].Nodup) : mw f ([(x, dx), (cv, dc), (vv, dv)] ++ [(c0, e0), (c5, e5), (x, ex), (cv, ec), (vv, ev)]) = mw f [(x, dx), (cv, dc), (vv, dv), (c0, e0), (c5, e5)] := by
  simp only [List.nodup_cons, List.mem_cons, List.not_mem_nil, or_false, not_or, List.nodup_nil, not_false_eq_true, and_true] at hN
  funext q
  simp only [List.cons_append, List.nil_append, mw, va_up]
  by_cases h1 : q = x
  · simp [h1]
  · by_cases h2 : q = cv
    · simp [h2]
    · by_cases h3 : q = vv
      · simp [h3]
      · simp [h1, h2, h3]
set_option maxHeartbeats 8000000 in
set_option maxRecDepth 100000 in
theorem c_RR_polynomial (l : Launch) (D : va_G) (cs : Nat → ClassId) (L : List Nat) (f : Nat → va_E) (sz : Nat) (x c0 c2 c3 c4 c5 c6 c7 c8 c9 c10 c11 : Nat) (hd ll ln : Int) (cv vv fr pa : Nat) (gc : Nat → Option Nat) (w v : Nat → Int) (se mn : Int) (hF : Fc L [c0, c5, x, cv, vv]) (ha : f x = .inr (6, [.ref c0, .int (iI hd), .ref c2, .ref c3, .ref c4, .ref c5, .ref c6, .ref c7, .ref c8, .ref c9, .ref c10, .ref c11, .int (iI ll), .int (iI ln)])) (hhd : 0 ≤ hd ∧ hd ≤ 12) (hlt : hd < 12) (hc : f c0 = .inl (cs 4, 12, .inr (.inr (.inr (.inr gc))))) (hw : f c5 = .inl (cs 1, 12, .inr (.inl (al w)))) (hwr : ∀ j, -9223372036854775808 ≤ w j ∧ w j < 9223372036854775808) (hcv : f cv = .inr (2, [.ref vv, .ref fr, .ref pa, .int (iI se), .int (iI mn)])) (hgc : gc hd.toNat = some cv) (hv : f vv = .inl (cs 0, 6, .inl (ai v))) : Met l (⟨"RealRoots", "polynomial", "()I"⟩ : MethodName) (.code (⟨"RealRoots", "polynomial", "()I"⟩ : MethodName) prog_1_method_2_code 1 (Option.some Jvm.ClassFile.FieldType.int) :: gw) ({ frames := 2, cells := 0, slots := 0, locals := 45 }) (va_Pc [.ref x] (K0 D vwCl (TY cs) L f sz)) (va_Qi (fun (r : Int32) (g : Nat → va_E) => r = iI hd ∧ g = mw f [(x, .inr (6, [.ref c0, .int (iI (hd + 1)), .ref c2, .ref c3, .ref c4, .ref c5, .ref c6, .ref c7, .ref c8, .ref c9, .ref c10, .ref c11, .int (iI ll), .int (iI 0)])), (cv, .inr (2, [.ref vv, .ref fr, .ref pa, .int (iI 0), .int (iI mn)])), (vv, .inl (cs 0, 6, .inl (ai (cf 6 (cf 12 (fun _ => 0) w) v)))), (c5, .inl (cs 1, 12, .inr (.inl (al (cf 12 (fun _ => 0) w)))))]) (K1 D vwCl (TY cs) (AL L sz) L) (AL L sz)) 0 0 (AL L sz) := by
  refine Met.ofW (cc := prog_1_method_2_code) (maxL := 1) (ret := (Option.some Jvm.ClassFile.FieldType.int)) (by decide) rfl ?_
  intro p e s m args below meth c s₁ Bd hml hv
  obtain ⟨rfl, hk0⟩ := hv
  obtain ⟨hsz, B⟩ := hk0.start
  subst hsz
  have hx := Bd.exec
  have hb := Bd.bytes
  have hr := Bd.returns
  have hlocks := Bd.notSynchronized
  have hts0 := atoms_spec Bd.pre
  have hown : s.vm.findClass RX6 = some m.cls := findClass_of_methodNamed Bd.named
  have hA : ∀ q, s.heap.size ≤ q → AL L s.heap.size q := fun _ h => Or.inr h
  have hl := lv_entry ([.ref x]) (n := 1) (Nat.le_of_ble_eq_true rfl)
  rw [lg_entry_eq]
  generalize (lg_sl ([.ref x]) ++ List.replicate (1 - (lg_sl ([.ref x])).length) Slot.unset).toArray = ls at hl ⊢
  refine absQ (fun Q R av hQ hR hav => ?_)
  have hts : ∀ w ∈ gw, w.before av s = true := by rw [hav]; exact fun w h => hts0 w (List.mem_cons_of_mem _ h)
  have hRf : R.frames = 2 := by rw [hR]; rfl
  have hRl : R.locals = 45 := by rw [hR]; rfl
  have hRc : R.cells = 0 := by rw [hR]; rfl
  have hRs : R.slots = 0 := by rw [hR]; rfl
  clear hR hts0 Bd
  have hl : lv_has ls 1 [(0, .ref x)] := hl
  have hfx : ∀ q ∈ ([(c0, .inl (cs 4, 12, .inr (.inr (.inr (.inr gc))))), (c5, .inl (cs 1, 12, .inr (.inl (al w)))), (x, .inr (6, [.ref c0, .int (iI hd), .ref c2, .ref c3, .ref c4, .ref c5, .ref c6, .ref c7, .ref c8, .ref c9, .ref c10, .ref c11, .int (iI ll), .int (iI ln)])), (cv, .inr (2, [.ref vv, .ref fr, .ref pa, .int (iI se), .int (iI mn)])), (vv, .inl (cs 0, 6, .inl (ai v)))] : List (Nat × va_E)), f q.1 = q.2 := fun q hq => by
    simp only [List.mem_cons, List.not_mem_nil, or_false] at hq
    rcases hq with rfl | rfl | rfl | rfl | rfl
    · exact hc
    · exact hw
    · exact ha
    · exact hcv
    · exact hv
  have hmw : mw f [(c0, .inl (cs 4, 12, .inr (.inr (.inr (.inr gc))))), (c5, .inl (cs 1, 12, .inr (.inl (al w)))), (x, .inr (6, [.ref c0, .int (iI hd), .ref c2, .ref c3, .ref c4, .ref c5, .ref c6, .ref c7, .ref c8, .ref c9, .ref c10, .ref c11, .int (iI ll), .int (iI ln)])), (cv, .inr (2, [.ref vv, .ref fr, .ref pa, .int (iI se), .int (iI mn)])), (vv, .inl (cs 0, 6, .inl (ai v)))] = f := mw_self (fun k a e hk => hfx (a, e) (List.mem_of_getElem? hk))
  have B := B.focus [(c0, .inl (cs 4, 12, .inr (.inr (.inr (.inr gc))))), (c5, .inl (cs 1, 12, .inr (.inl (al w)))), (x, .inr (6, [.ref c0, .int (iI hd), .ref c2, .ref c3, .ref c4, .ref c5, .ref c6, .ref c7, .ref c8, .ref c9, .ref c10, .ref c11, .int (iI ll), .int (iI ln)])), (cv, .inr (2, [.ref vv, .ref fr, .ref pa, .int (iI se), .int (iI mn)])), (vv, .inl (cs 0, 6, .inl (ai v)))] hfx
  refine lv_aload_n hx hb d_RR_polynomial_0 rfl (lv_at hl 0 rfl) ?_
  refine x_callv B hA (va_runV (As := []) (rest := []) ⟨hx, hb, hml, hown, hts⟩ (c_RR_clearWide l D cs _ _ _ x c0 c2 c3 c4 c5 c6 c7 c8 c9 c10 c11 hd ll ln w ⟨by have h1 := hF.1; simp only [List.nodup_cons, List.mem_cons, List.not_mem_nil, or_false, not_or, List.nodup_nil, not_false_eq_true, and_true] at h1 ⊢; omega, fun x hx => hF.2 x (by simp only [List.mem_cons, List.not_mem_nil, or_false] at hx ⊢; omega)⟩ (mw_get (X := [(c0, .inl (cs 4, 12, .inr (.inr (.inr (.inr gc))))), (c5, .inl (cs 1, 12, .inr (.inl (al w)))), (x, .inr (6, [.ref c0, .int (iI hd), .ref c2, .ref c3, .ref c4, .ref c5, .ref c6, .ref c7, .ref c8, .ref c9, .ref c10, .ref c11, .int (iI ll), .int (iI ln)])), (cv, .inr (2, [.ref vv, .ref fr, .ref pa, .int (iI se), .int (iI mn)])), (vv, .inl (cs 0, 6, .inl (ai v)))]) hF.1 (k := 2) rfl) hhd (mw_get (X := [(c0, .inl (cs 4, 12, .inr (.inr (.inr (.inr gc))))), (c5, .inl (cs 1, 12, .inr (.inl (al w)))), (x, .inr (6, [.ref c0, .int (iI hd), .ref c2, .ref c3, .ref c4, .ref c5, .ref c6, .ref c7, .ref c8, .ref c9, .ref c10, .ref c11, .int (iI ll), .int (iI ln)])), (cv, .inr (2, [.ref vv, .ref fr, .ref pa, .int (iI se), .int (iI mn)])), (vv, .inl (cs 0, 6, .inl (ai v)))]) hF.1 (k := 1) rfl)) (cwV 0 hts (gw_V w_244 w_246 s_0 w_1 w_247) rfl rfl rfl (by decide +kernel) ⟨by rw [hRf]; exact Nat.le_of_ble_eq_true rfl, by rw [hRl]; exact Nat.le_of_ble_eq_true rfl⟩) ⟨K0.blind, B.recv (hF.2 _ (mw_key (k := 2) (X := [(c0, .inl (cs 4, 12, .inr (.inr (.inr (.inr gc))))), (c5, .inl (cs 1, 12, .inr (.inl (al w)))), (x, .inr (6, [.ref c0, .int (iI hd), .ref c2, .ref c3, .ref c4, .ref c5, .ref c6, .ref c7, .ref c8, .ref c9, .ref c10, .ref c11, .int (iI ll), .int (iI ln)])), (cv, .inr (2, [.ref vv, .ref fr, .ref pa, .int (iI se), .int (iI mn)])), (vv, .inl (cs 0, 6, .inl (ai v)))]) rfl)) (mw_get (X := [(c0, .inl (cs 4, 12, .inr (.inr (.inr (.inr gc))))), (c5, .inl (cs 1, 12, .inr (.inl (al w)))), (x, .inr (6, [.ref c0, .int (iI hd), .ref c2, .ref c3, .ref c4, .ref c5, .ref c6, .ref c7, .ref c8, .ref c9, .ref c10, .ref c11, .int (iI ll), .int (iI ln)])), (cv, .inr (2, [.ref vv, .ref fr, .ref pa, .int (iI se), .int (iI mn)])), (vv, .inl (cs 0, 6, .inl (ai v)))]) hF.1 (k := 2) rfl) rfl, B.pre _⟩ rfl rfl hl.1 rfl (lv_room (Nat.le_of_ble_eq_true rfl)) d_RR_polynomial_1 ⟨by rw [hRc]; omega, by rw [hRs]; omega⟩) (fun g1 H locs hw B => ?_)
  subst hw
  have B := B.of_eq (mw_put (X := [(c0, .inl (cs 4, 12, .inr (.inr (.inr (.inr gc))))), (c5, .inl (cs 1, 12, .inr (.inl (al w)))), (x, .inr (6, [.ref c0, .int (iI hd), .ref c2, .ref c3, .ref c4, .ref c5, .ref c6, .ref c7, .ref c8, .ref c9, .ref c10, .ref c11, .int (iI ll), .int (iI ln)])), (cv, .inr (2, [.ref vv, .ref fr, .ref pa, .int (iI se), .int (iI mn)])), (vv, .inl (cs 0, 6, .inl (ai v)))]) hF.1 (k := 1) rfl)
  have B : Wb D vwCl (TY cs) L (mw f [(c0, .inl (cs 4, 12, .inr (.inr (.inr (.inr gc))))), (c5, .inl (cs 1, 12, .inr (.inl (al (cf 12 (fun _ => 0) w))))), (x, .inr (6, [.ref c0, .int (iI hd), .ref c2, .ref c3, .ref c4, .ref c5, .ref c6, .ref c7, .ref c8, .ref c9, .ref c10, .ref c11, .int (iI ll), .int (iI ln)])), (cv, .inr (2, [.ref vv, .ref fr, .ref pa, .int (iI se), .int (iI mn)])), (vv, .inl (cs 0, 6, .inl (ai v)))]) (AL L s.heap.size) s H _ := B
  refine lv_aload_n hx hb d_RR_polynomial_4 rfl (lv_at hl 0 rfl) ?_
  refine x_calli B hA (va_runV (As := []) (rest := []) ⟨hx, hb, hml, hown, hts⟩ (c_RR_keepWide l D cs _ _ _ x c0 c2 c3 c4 c5 c6 c7 c8 c9 c10 c11 hd ll ln cv vv fr pa gc (cf 12 (fun _ => 0) w) v se mn hF (mw_get (X := [(c0, .inl (cs 4, 12, .inr (.inr (.inr (.inr gc))))), (c5, .inl (cs 1, 12, .inr (.inl (al (cf 12 (fun _ => 0) w))))), (x, .inr (6, [.ref c0, .int (iI hd), .ref c2, .ref c3, .ref c4, .ref c5, .ref c6, .ref c7, .ref c8, .ref c9, .ref c10, .ref c11, .int (iI ll), .int (iI ln)])), (cv, .inr (2, [.ref vv, .ref fr, .ref pa, .int (iI se), .int (iI mn)])), (vv, .inl (cs 0, 6, .inl (ai v)))]) hF.1 (k := 2) rfl) hhd hlt (mw_get (X := [(c0, .inl (cs 4, 12, .inr (.inr (.inr (.inr gc))))), (c5, .inl (cs 1, 12, .inr (.inl (al (cf 12 (fun _ => 0) w))))), (x, .inr (6, [.ref c0, .int (iI hd), .ref c2, .ref c3, .ref c4, .ref c5, .ref c6, .ref c7, .ref c8, .ref c9, .ref c10, .ref c11, .int (iI ll), .int (iI ln)])), (cv, .inr (2, [.ref vv, .ref fr, .ref pa, .int (iI se), .int (iI mn)])), (vv, .inl (cs 0, 6, .inl (ai v)))]) hF.1 (k := 0) rfl) (mw_get (X := [(c0, .inl (cs 4, 12, .inr (.inr (.inr (.inr gc))))), (c5, .inl (cs 1, 12, .inr (.inl (al (cf 12 (fun _ => 0) w))))), (x, .inr (6, [.ref c0, .int (iI hd), .ref c2, .ref c3, .ref c4, .ref c5, .ref c6, .ref c7, .ref c8, .ref c9, .ref c10, .ref c11, .int (iI ll), .int (iI ln)])), (cv, .inr (2, [.ref vv, .ref fr, .ref pa, .int (iI se), .int (iI mn)])), (vv, .inl (cs 0, 6, .inl (ai v)))]) hF.1 (k := 1) rfl) (fun j => by simp only [cf]; split; omega; exact hwr j) (mw_get (X := [(c0, .inl (cs 4, 12, .inr (.inr (.inr (.inr gc))))), (c5, .inl (cs 1, 12, .inr (.inl (al (cf 12 (fun _ => 0) w))))), (x, .inr (6, [.ref c0, .int (iI hd), .ref c2, .ref c3, .ref c4, .ref c5, .ref c6, .ref c7, .ref c8, .ref c9, .ref c10, .ref c11, .int (iI ll), .int (iI ln)])), (cv, .inr (2, [.ref vv, .ref fr, .ref pa, .int (iI se), .int (iI mn)])), (vv, .inl (cs 0, 6, .inl (ai v)))]) hF.1 (k := 3) rfl) hgc (mw_get (X := [(c0, .inl (cs 4, 12, .inr (.inr (.inr (.inr gc))))), (c5, .inl (cs 1, 12, .inr (.inl (al (cf 12 (fun _ => 0) w))))), (x, .inr (6, [.ref c0, .int (iI hd), .ref c2, .ref c3, .ref c4, .ref c5, .ref c6, .ref c7, .ref c8, .ref c9, .ref c10, .ref c11, .int (iI ll), .int (iI ln)])), (cv, .inr (2, [.ref vv, .ref fr, .ref pa, .int (iI se), .int (iI mn)])), (vv, .inl (cs 0, 6, .inl (ai v)))]) hF.1 (k := 4) rfl)) (cwV 0 hts (gw_V w_248 w_250 s_1 w_1 w_251) rfl rfl rfl (by decide +kernel) ⟨by rw [hRf]; exact Nat.le_of_ble_eq_true rfl, by rw [hRl]; exact Nat.le_of_ble_eq_true rfl⟩) ⟨K0.blind, B.recv (hF.2 _ (mw_key (k := 2) (X := [(c0, .inl (cs 4, 12, .inr (.inr (.inr (.inr gc))))), (c5, .inl (cs 1, 12, .inr (.inl (al (cf 12 (fun _ => 0) w))))), (x, .inr (6, [.ref c0, .int (iI hd), .ref c2, .ref c3, .ref c4, .ref c5, .ref c6, .ref c7, .ref c8, .ref c9, .ref c10, .ref c11, .int (iI ll), .int (iI ln)])), (cv, .inr (2, [.ref vv, .ref fr, .ref pa, .int (iI se), .int (iI mn)])), (vv, .inl (cs 0, 6, .inl (ai v)))]) rfl)) (mw_get (X := [(c0, .inl (cs 4, 12, .inr (.inr (.inr (.inr gc))))), (c5, .inl (cs 1, 12, .inr (.inl (al (cf 12 (fun _ => 0) w))))), (x, .inr (6, [.ref c0, .int (iI hd), .ref c2, .ref c3, .ref c4, .ref c5, .ref c6, .ref c7, .ref c8, .ref c9, .ref c10, .ref c11, .int (iI ll), .int (iI ln)])), (cv, .inr (2, [.ref vv, .ref fr, .ref pa, .int (iI se), .int (iI mn)])), (vv, .inl (cs 0, 6, .inl (ai v)))]) hF.1 (k := 2) rfl) rfl, B.pre _⟩ rfl rfl hl.1 rfl (lv_room (Nat.le_of_ble_eq_true rfl)) d_RR_polynomial_5 ⟨by rw [hRc]; omega, by rw [hRs]; omega⟩) (fun r5 g5 H locs hw B => ?_)
  obtain ⟨rfl, rfl⟩ := hw.1 (fun j hj => by simp only [cf]; rw [if_pos (by omega)]; unfold inb; split <;> omega)
  have B := B.of_eq ((mw_app _ _ _).trans (mw_cut5 (f := f) hF.1))
  have B : Wb D vwCl (TY cs) L (mw f [(x, .inr (6, [.ref c0, .int (iI (hd + 1)), .ref c2, .ref c3, .ref c4, .ref c5, .ref c6, .ref c7, .ref c8, .ref c9, .ref c10, .ref c11, .int (iI ll), .int (iI 0)])), (cv, .inr (2, [.ref vv, .ref fr, .ref pa, .int (iI 0), .int (iI mn)])), (vv, .inl (cs 0, 6, .inl (ai (cf 6 (cf 12 (fun _ => 0) w) v)))), (c0, .inl (cs 4, 12, .inr (.inr (.inr (.inr gc))))), (c5, .inl (cs 1, 12, .inr (.inl (al (cf 12 (fun _ => 0) w)))))]) (AL L s.heap.size) s H _ := B
  subst hQ hav
  exact x_iret hx hb hr hlocks B d_RR_polynomial_8 (⟨rfl, by
    have hN := hF.1
    simp only [List.nodup_cons, List.mem_cons, List.not_mem_nil, or_false, not_or, List.nodup_nil, not_false_eq_true, and_true] at hN
    funext q
    simp only [mw, va_up]
    by_cases h4 : q = c0
    · subst h4
      simp [hN, hc, Ne.symm, eq_comm]
      try simp [hc]
    · simp [h4]⟩)
theorem d_RR_lineUp_0 : decode prog_1_method_51_code 0 = .ok (.aload_n 0, 1) := by decide +kernel
theorem d_RR_lineUp_1 : decode prog_1_method_51_code 1 = .ok (.getfield 66, 3) := by decide +kernel
theorem d_RR_lineUp_4 : decode prog_1_method_51_code 4 = .ok (.ifCond .eq 4, 3) := by decide +kernel
theorem d_RR_lineUp_7 : decode prog_1_method_51_code 7 = .ok (.return_, 1) := by decide +kernel
theorem d_RR_lineUp_8 : decode prog_1_method_51_code 8 = .ok (.aload_n 0, 1) := by decide +kernel
theorem d_RR_lineUp_9 : decode prog_1_method_51_code 9 = .ok (.iconst 0, 1) := by decide +kernel
theorem d_RR_lineUp_10 : decode prog_1_method_51_code 10 = .ok (.putfield 63, 3) := by decide +kernel
theorem d_RR_lineUp_13 : decode prog_1_method_51_code 13 = .ok (.iconst 0, 1) := by decide +kernel
theorem d_RR_lineUp_14 : decode prog_1_method_51_code 14 = .ok (.istore_n 1, 1) := by decide +kernel
theorem d_RR_lineUp_15 : decode prog_1_method_51_code 15 = .ok (.iload_n 1, 1) := by decide +kernel
theorem d_RR_lineUp_16 : decode prog_1_method_51_code 16 = .ok (.aload_n 0, 1) := by decide +kernel
theorem d_RR_lineUp_17 : decode prog_1_method_51_code 17 = .ok (.getfield 15, 3) := by decide +kernel
theorem d_RR_lineUp_20 : decode prog_1_method_51_code 20 = .ok (.if_icmp .ge 141, 3) := by decide +kernel
theorem d_RR_lineUp_23 : decode prog_1_method_51_code 23 = .ok (.aload_n 0, 1) := by decide +kernel
theorem d_RR_lineUp_24 : decode prog_1_method_51_code 24 = .ok (.getfield 11, 3) := by decide +kernel
theorem d_RR_lineUp_27 : decode prog_1_method_51_code 27 = .ok (.iload_n 1, 1) := by decide +kernel
theorem d_RR_lineUp_28 : decode prog_1_method_51_code 28 = .ok (.aaload, 1) := by decide +kernel
theorem d_RR_lineUp_29 : decode prog_1_method_51_code 29 = .ok (.getfield 82, 3) := by decide +kernel
theorem d_RR_lineUp_32 : decode prog_1_method_51_code 32 = .ok (.invokestatic 88, 3) := by decide +kernel
theorem d_RR_lineUp_35 : decode prog_1_method_51_code 35 = .ok (.iconst (-1), 1) := by decide +kernel
theorem d_RR_lineUp_36 : decode prog_1_method_51_code 36 = .ok (.if_icmp .ne 7, 3) := by decide +kernel
theorem d_RR_lineUp_39 : decode prog_1_method_51_code 39 = .ok (.iconst 0, 1) := by decide +kernel
theorem d_RR_lineUp_40 : decode prog_1_method_51_code 40 = .ok (.goto 12, 3) := by decide +kernel
theorem d_RR_lineUp_43 : decode prog_1_method_51_code 43 = .ok (.aload_n 0, 1) := by decide +kernel
theorem d_RR_lineUp_44 : decode prog_1_method_51_code 44 = .ok (.getfield 11, 3) := by decide +kernel
theorem d_RR_lineUp_47 : decode prog_1_method_51_code 47 = .ok (.iload_n 1, 1) := by decide +kernel
theorem d_RR_lineUp_48 : decode prog_1_method_51_code 48 = .ok (.aaload, 1) := by decide +kernel
theorem d_RR_lineUp_49 : decode prog_1_method_51_code 49 = .ok (.getfield 282, 3) := by decide +kernel
theorem d_RR_lineUp_52 : decode prog_1_method_51_code 52 = .ok (.istore_n 2, 1) := by decide +kernel
theorem d_RR_lineUp_53 : decode prog_1_method_51_code 53 = .ok (.iconst 0, 1) := by decide +kernel
theorem d_RR_lineUp_54 : decode prog_1_method_51_code 54 = .ok (.istore_n 3, 1) := by decide +kernel
theorem d_RR_lineUp_55 : decode prog_1_method_51_code 55 = .ok (.iconst 0, 1) := by decide +kernel
theorem d_RR_lineUp_56 : decode prog_1_method_51_code 56 = .ok (.istore 4, 2) := by decide +kernel
theorem d_RR_lineUp_58 : decode prog_1_method_51_code 58 = .ok (.iload 4, 2) := by decide +kernel
theorem d_RR_lineUp_60 : decode prog_1_method_51_code 60 = .ok (.iload_n 2, 1) := by decide +kernel
theorem d_RR_lineUp_61 : decode prog_1_method_51_code 61 = .ok (.if_icmp .ge 94, 3) := by decide +kernel
theorem d_RR_lineUp_64 : decode prog_1_method_51_code 64 = .ok (.iload_n 1, 1) := by decide +kernel
theorem d_RR_lineUp_65 : decode prog_1_method_51_code 65 = .ok (.iconst 5, 1) := by decide +kernel
theorem d_RR_lineUp_66 : decode prog_1_method_51_code 66 = .ok (.imul, 1) := by decide +kernel
theorem d_RR_lineUp_67 : decode prog_1_method_51_code 67 = .ok (.iload 4, 2) := by decide +kernel
theorem d_RR_lineUp_69 : decode prog_1_method_51_code 69 = .ok (.iadd, 1) := by decide +kernel
theorem d_RR_lineUp_70 : decode prog_1_method_51_code 70 = .ok (.istore 5, 2) := by decide +kernel
theorem d_RR_lineUp_72 : decode prog_1_method_51_code 72 = .ok (.iconst 1, 1) := by decide +kernel
theorem d_RR_lineUp_73 : decode prog_1_method_51_code 73 = .ok (.istore 6, 2) := by decide +kernel
theorem d_RR_lineUp_75 : decode prog_1_method_51_code 75 = .ok (.iload_n 3, 1) := by decide +kernel
theorem d_RR_lineUp_76 : decode prog_1_method_51_code 76 = .ok (.aload_n 0, 1) := by decide +kernel
theorem d_RR_lineUp_77 : decode prog_1_method_51_code 77 = .ok (.getfield 63, 3) := by decide +kernel
theorem d_RR_lineUp_80 : decode prog_1_method_51_code 80 = .ok (.if_icmp .ge 31, 3) := by decide +kernel
theorem d_RR_lineUp_83 : decode prog_1_method_51_code 83 = .ok (.aload_n 0, 1) := by decide +kernel
theorem d_RR_lineUp_84 : decode prog_1_method_51_code 84 = .ok (.iload 5, 2) := by decide +kernel
theorem d_RR_lineUp_86 : decode prog_1_method_51_code 86 = .ok (.aload_n 0, 1) := by decide +kernel
theorem d_RR_lineUp_87 : decode prog_1_method_51_code 87 = .ok (.getfield 57, 3) := by decide +kernel
theorem d_RR_lineUp_90 : decode prog_1_method_51_code 90 = .ok (.iload_n 3, 1) := by decide +kernel
theorem d_RR_lineUp_91 : decode prog_1_method_51_code 91 = .ok (.iaload, 1) := by decide +kernel
theorem d_RR_lineUp_92 : decode prog_1_method_51_code 92 = .ok (.invokevirtual 150, 3) := by decide +kernel
theorem d_RR_lineUp_95 : decode prog_1_method_51_code 95 = .ok (.istore 6, 2) := by decide +kernel
theorem d_RR_lineUp_97 : decode prog_1_method_51_code 97 = .ok (.iload 6, 2) := by decide +kernel
theorem d_RR_lineUp_99 : decode prog_1_method_51_code 99 = .ok (.ifCond .gt 6, 3) := by decide +kernel
theorem d_RR_lineUp_102 : decode prog_1_method_51_code 102 = .ok (.goto 9, 3) := by decide +kernel
theorem d_RR_lineUp_105 : decode prog_1_method_51_code 105 = .ok (.iinc 3 1, 3) := by decide +kernel
theorem d_RR_lineUp_108 : decode prog_1_method_51_code 108 = .ok (.goto (-33), 3) := by decide +kernel
theorem d_RR_lineUp_111 : decode prog_1_method_51_code 111 = .ok (.iload 6, 2) := by decide +kernel
theorem d_RR_lineUp_113 : decode prog_1_method_51_code 113 = .ok (.ifCond .eq 10, 3) := by decide +kernel
theorem d_RR_lineUp_116 : decode prog_1_method_51_code 116 = .ok (.aload_n 0, 1) := by decide +kernel
theorem d_RR_lineUp_117 : decode prog_1_method_51_code 117 = .ok (.iload_n 3, 1) := by decide +kernel
theorem d_RR_lineUp_118 : decode prog_1_method_51_code 118 = .ok (.iload 5, 2) := by decide +kernel
theorem d_RR_lineUp_120 : decode prog_1_method_51_code 120 = .ok (.invokevirtual 343, 3) := by decide +kernel
theorem d_RR_lineUp_123 : decode prog_1_method_51_code 123 = .ok (.aload_n 0, 1) := by decide +kernel
theorem d_RR_lineUp_124 : decode prog_1_method_51_code 124 = .ok (.getfield 60, 3) := by decide +kernel
theorem d_RR_lineUp_127 : decode prog_1_method_51_code 127 = .ok (.iload 5, 2) := by decide +kernel
theorem d_RR_lineUp_129 : decode prog_1_method_51_code 129 = .ok (.iload_n 3, 1) := by decide +kernel
theorem d_RR_lineUp_130 : decode prog_1_method_51_code 130 = .ok (.aload_n 0, 1) := by decide +kernel
theorem d_RR_lineUp_131 : decode prog_1_method_51_code 131 = .ok (.getfield 63, 3) := by decide +kernel
theorem d_RR_lineUp_134 : decode prog_1_method_51_code 134 = .ok (.if_icmp .ge 12, 3) := by decide +kernel
theorem d_RR_lineUp_137 : decode prog_1_method_51_code 137 = .ok (.aload_n 0, 1) := by decide +kernel
theorem d_RR_lineUp_138 : decode prog_1_method_51_code 138 = .ok (.getfield 57, 3) := by decide +kernel
theorem d_RR_lineUp_141 : decode prog_1_method_51_code 141 = .ok (.iload_n 3, 1) := by decide +kernel
theorem d_RR_lineUp_142 : decode prog_1_method_51_code 142 = .ok (.iaload, 1) := by decide +kernel
theorem d_RR_lineUp_143 : decode prog_1_method_51_code 143 = .ok (.goto 5, 3) := by decide +kernel
theorem d_RR_lineUp_146 : decode prog_1_method_51_code 146 = .ok (.iload 5, 2) := by decide +kernel
theorem d_RR_lineUp_148 : decode prog_1_method_51_code 148 = .ok (.iastore, 1) := by decide +kernel
theorem d_RR_lineUp_149 : decode prog_1_method_51_code 149 = .ok (.iinc 4 1, 3) := by decide +kernel
theorem d_RR_lineUp_152 : decode prog_1_method_51_code 152 = .ok (.goto (-94), 3) := by decide +kernel
theorem d_RR_lineUp_155 : decode prog_1_method_51_code 155 = .ok (.iinc 1 1, 3) := by decide +kernel
theorem d_RR_lineUp_158 : decode prog_1_method_51_code 158 = .ok (.goto (-143), 3) := by decide +kernel
theorem d_RR_lineUp_161 : decode prog_1_method_51_code 161 = .ok (.aload_n 0, 1) := by decide +kernel
theorem d_RR_lineUp_162 : decode prog_1_method_51_code 162 = .ok (.iconst 1, 1) := by decide +kernel
theorem d_RR_lineUp_163 : decode prog_1_method_51_code 163 = .ok (.putfield 66, 3) := by decide +kernel
theorem d_RR_lineUp_166 : decode prog_1_method_51_code 166 = .ok (.return_, 1) := by decide +kernel
set_option maxHeartbeats 8000000 in
set_option maxRecDepth 100000 in
theorem c_RR_lineUp_0 (l : Launch) (D : va_G) (cs : Nat → ClassId) (L : List Nat) (f : Nat → va_E) (sz : Nat) (x c0 c2 c3 c4 c5 c6 c7 c8 c9 c10 c11 : Nat) (ll : Int) (hF : Fc L [x]) (ha : f x = .inr (6, [.ref c0, .int (iI 0), .ref c2, .ref c3, .ref c4, .ref c5, .ref c6, .ref c7, .ref c8, .ref c9, .ref c10, .ref c11, .int (iI ll), .int (iI 0)])) : Met l (⟨"RealRoots", "lineUp", "()V"⟩ : MethodName) (.code (⟨"RealRoots", "lineUp", "()V"⟩ : MethodName) prog_1_method_51_code 7 (Option.none : Option Jvm.ClassFile.FieldType) :: gw) ({ frames := 0, cells := 0, slots := 0, locals := 0 }) (va_Pc [.ref x] (K0 D vwCl (TY cs) L f sz)) (va_Qv (fun (g : Nat → va_E) => g = mw f [(x, .inr (6, [.ref c0, .int (iI 0), .ref c2, .ref c3, .ref c4, .ref c5, .ref c6, .ref c7, .ref c8, .ref c9, .ref c10, .ref c11, .int (iI 0), .int (iI 1)]))]) (K1 D vwCl (TY cs) (AL L sz) L) (AL L sz)) 0 0 (AL L sz) := by
  refine Met.ofW (cc := prog_1_method_51_code) (maxL := 7) (ret := (Option.none : Option Jvm.ClassFile.FieldType)) (by decide) rfl ?_
  intro p e s m args below meth c s₁ Bd hml hv
  obtain ⟨rfl, hk0⟩ := hv
  obtain ⟨hsz, B⟩ := hk0.start
  subst hsz
  have hx := Bd.exec
  have hb := Bd.bytes
  have hr := Bd.returns
  have hlocks := Bd.notSynchronized
  have hts0 := atoms_spec Bd.pre
  have hown : s.vm.findClass RX6 = some m.cls := findClass_of_methodNamed Bd.named
  have hA : ∀ q, s.heap.size ≤ q → AL L s.heap.size q := fun _ h => Or.inr h
  have hl := lv_entry ([.ref x]) (n := 7) (Nat.le_of_ble_eq_true rfl)
  rw [lg_entry_eq]
  generalize (lg_sl ([.ref x]) ++ List.replicate (7 - (lg_sl ([.ref x])).length) Slot.unset).toArray = ls at hl ⊢
  refine absQ (fun Q R av hQ hR hav => ?_)
  have hts : ∀ w ∈ gw, w.before av s = true := by rw [hav]; exact fun w h => hts0 w (List.mem_cons_of_mem _ h)
  have hRf : R.frames = 0 := by rw [hR]; rfl
  have hRl : R.locals = 0 := by rw [hR]; rfl
  have hRc : R.cells = 0 := by rw [hR]; rfl
  have hRs : R.slots = 0 := by rw [hR]; rfl
  clear hR hts0 Bd
  have hl : lv_has ls 7 [(0, .ref x)] := hl
  have hfx : ∀ q ∈ ([(x, .inr (6, [.ref c0, .int (iI 0), .ref c2, .ref c3, .ref c4, .ref c5, .ref c6, .ref c7, .ref c8, .ref c9, .ref c10, .ref c11, .int (iI ll), .int (iI 0)]))] : List (Nat × va_E)), f q.1 = q.2 := fun q hq => by
    simp only [List.mem_cons, List.not_mem_nil, or_false] at hq
    rcases hq with rfl
    · exact ha
  have hmw : mw f [(x, .inr (6, [.ref c0, .int (iI 0), .ref c2, .ref c3, .ref c4, .ref c5, .ref c6, .ref c7, .ref c8, .ref c9, .ref c10, .ref c11, .int (iI ll), .int (iI 0)]))] = f := mw_self (fun k a e hk => hfx (a, e) (List.mem_of_getElem? hk))
  have B := B.focus [(x, .inr (6, [.ref c0, .int (iI 0), .ref c2, .ref c3, .ref c4, .ref c5, .ref c6, .ref c7, .ref c8, .ref c9, .ref c10, .ref c11, .int (iI ll), .int (iI 0)]))] hfx
  refine lv_aload_n hx hb d_RR_lineUp_0 rfl (lv_at hl 0 rfl) ?_
  refine x_get (C := RX6) (T := TX6) (N := 14) hx hb hts inX6 hown B hF 0 rfl rfl 13 (by decide) (hts _ w_210) (fun _ h9 => h9) rfl d_RR_lineUp_1 ?_
  refine x_if_eq (tgt := 8) hx hb d_RR_lineUp_4 (by decide) (by omega) (fun h4 => ?_) (fun h4 => ?_)
  · refine lv_aload_n hx hb d_RR_lineUp_8 rfl (lv_at hl 0 rfl) ?_
    refine x_iconst hx hb d_RR_lineUp_9 ?_
    refine x_put (C := RX6) (T := TX6) (N := 14) hx hb hts inX6 tyX6 tyX6_ok nmX6 hown B hF 0 rfl rfl 12 (by decide) (hts _ w_209) (fun _ h9 => h9) rfl (tyX6_ok 12 (by decide)) rfl rfl (Nat.le_of_ble_eq_true rfl) d_RR_lineUp_10 (fun H locs B => ?_)
    have B : Wb D vwCl (TY cs) L (mw f [(x, .inr (6, [.ref c0, .int (iI 0), .ref c2, .ref c3, .ref c4, .ref c5, .ref c6, .ref c7, .ref c8, .ref c9, .ref c10, .ref c11, .int (iI 0), .int (iI 0)]))]) (AL L s.heap.size) s H _ := B
    refine x_iconst hx hb d_RR_lineUp_13 ?_
    refine lv_istore_n (lv' := [(1, .int (iI 0)), (0, .ref x)]) hx hb d_RR_lineUp_14 rfl hl (by decide) rfl (fun ls hl => ?_)
    refine lv_iload_n hx hb d_RR_lineUp_15 rfl (lv_at hl 0 rfl) ?_
    refine lv_aload_n hx hb d_RR_lineUp_16 rfl (lv_at hl 1 rfl) ?_
    refine x_get (C := RX6) (T := TX6) (N := 14) hx hb hts inX6 hown B hF 0 rfl rfl 1 (by decide) (hts _ w_198) (fun _ h9 => h9) rfl d_RR_lineUp_17 ?_
    refine x_icmp_ge (tgt := 161) hx hb d_RR_lineUp_20 (by decide) (by omega) (by omega) (fun h20 => ?_) (fun h20 => ?_)
    · refine lv_aload_n hx hb d_RR_lineUp_161 rfl (lv_at hl 1 rfl) ?_
      refine x_iconst hx hb d_RR_lineUp_162 ?_
      refine x_put (C := RX6) (T := TX6) (N := 14) hx hb hts inX6 tyX6 tyX6_ok nmX6 hown B hF 0 rfl rfl 13 (by decide) (hts _ w_210) (fun _ h9 => h9) rfl (tyX6_ok 13 (by decide)) rfl rfl (Nat.le_of_ble_eq_true rfl) d_RR_lineUp_163 (fun H locs B => ?_)
      have B : Wb D vwCl (TY cs) L (mw f [(x, .inr (6, [.ref c0, .int (iI 0), .ref c2, .ref c3, .ref c4, .ref c5, .ref c6, .ref c7, .ref c8, .ref c9, .ref c10, .ref c11, .int (iI 0), .int (iI 1)]))]) (AL L s.heap.size) s H _ := B
      subst hQ hav
      exact x_vret hx hb hr hlocks B d_RR_lineUp_166 (rfl)
    · exfalso; omega
  · exfalso; omega
theorem d_RR_all_0 : decode prog_1_method_20_code 0 = .ok (.iconst 0, 1) := by decide +kernel
theorem d_RR_all_1 : decode prog_1_method_20_code 1 = .ok (.istore_n 1, 1) := by decide +kernel
theorem d_RR_all_2 : decode prog_1_method_20_code 2 = .ok (.iload_n 1, 1) := by decide +kernel
theorem d_RR_all_3 : decode prog_1_method_20_code 3 = .ok (.aload_n 0, 1) := by decide +kernel
theorem d_RR_all_4 : decode prog_1_method_20_code 4 = .ok (.getfield 15, 3) := by decide +kernel
theorem d_RR_all_7 : decode prog_1_method_20_code 7 = .ok (.if_icmp .ge 15, 3) := by decide +kernel
theorem d_RR_all_10 : decode prog_1_method_20_code 10 = .ok (.aload_n 0, 1) := by decide +kernel
theorem d_RR_all_11 : decode prog_1_method_20_code 11 = .ok (.iload_n 1, 1) := by decide +kernel
theorem d_RR_all_12 : decode prog_1_method_20_code 12 = .ok (.invokevirtual 100, 3) := by decide +kernel
theorem d_RR_all_15 : decode prog_1_method_20_code 15 = .ok (.pop, 1) := by decide +kernel
theorem d_RR_all_16 : decode prog_1_method_20_code 16 = .ok (.iinc 1 1, 3) := by decide +kernel
theorem d_RR_all_19 : decode prog_1_method_20_code 19 = .ok (.goto (-17), 3) := by decide +kernel
theorem d_RR_all_22 : decode prog_1_method_20_code 22 = .ok (.aload_n 0, 1) := by decide +kernel
theorem d_RR_all_23 : decode prog_1_method_20_code 23 = .ok (.invokevirtual 173, 3) := by decide +kernel
theorem d_RR_all_26 : decode prog_1_method_20_code 26 = .ok (.aload_n 0, 1) := by decide +kernel
theorem d_RR_all_27 : decode prog_1_method_20_code 27 = .ok (.getfield 63, 3) := by decide +kernel
theorem d_RR_all_30 : decode prog_1_method_20_code 30 = .ok (.ireturn, 1) := by decide +kernel
set_option maxHeartbeats 8000000 in
set_option maxRecDepth 100000 in
theorem c_RR_all_0 (l : Launch) (D : va_G) (cs : Nat → ClassId) (L : List Nat) (f : Nat → va_E) (sz : Nat) (x c0 c2 c3 c4 c5 c6 c7 c8 c9 c10 c11 : Nat) (ll : Int) (hF : Fc L [x]) (ha : f x = .inr (6, [.ref c0, .int (iI 0), .ref c2, .ref c3, .ref c4, .ref c5, .ref c6, .ref c7, .ref c8, .ref c9, .ref c10, .ref c11, .int (iI ll), .int (iI 0)])) : Met l (⟨"RealRoots", "all", "()I"⟩ : MethodName) (.code (⟨"RealRoots", "all", "()I"⟩ : MethodName) prog_1_method_20_code 2 (Option.some Jvm.ClassFile.FieldType.int) :: gw) ({ frames := 1, cells := 0, slots := 0, locals := 30 }) (va_Pc [.ref x] (K0 D vwCl (TY cs) L f sz)) (va_Qi (fun (r : Int32) (g : Nat → va_E) => r = iI 0 ∧ g = mw f [(x, .inr (6, [.ref c0, .int (iI 0), .ref c2, .ref c3, .ref c4, .ref c5, .ref c6, .ref c7, .ref c8, .ref c9, .ref c10, .ref c11, .int (iI 0), .int (iI 1)]))]) (K1 D vwCl (TY cs) (AL L sz) L) (AL L sz)) 0 0 (AL L sz) := by
  refine Met.ofW (cc := prog_1_method_20_code) (maxL := 2) (ret := (Option.some Jvm.ClassFile.FieldType.int)) (by decide) rfl ?_
  intro p e s m args below meth c s₁ Bd hml hv
  obtain ⟨rfl, hk0⟩ := hv
  obtain ⟨hsz, B⟩ := hk0.start
  subst hsz
  have hx := Bd.exec
  have hb := Bd.bytes
  have hr := Bd.returns
  have hlocks := Bd.notSynchronized
  have hts0 := atoms_spec Bd.pre
  have hown : s.vm.findClass RX6 = some m.cls := findClass_of_methodNamed Bd.named
  have hA : ∀ q, s.heap.size ≤ q → AL L s.heap.size q := fun _ h => Or.inr h
  have hl := lv_entry ([.ref x]) (n := 2) (Nat.le_of_ble_eq_true rfl)
  rw [lg_entry_eq]
  generalize (lg_sl ([.ref x]) ++ List.replicate (2 - (lg_sl ([.ref x])).length) Slot.unset).toArray = ls at hl ⊢
  refine absQ (fun Q R av hQ hR hav => ?_)
  have hts : ∀ w ∈ gw, w.before av s = true := by rw [hav]; exact fun w h => hts0 w (List.mem_cons_of_mem _ h)
  have hRf : R.frames = 1 := by rw [hR]; rfl
  have hRl : R.locals = 30 := by rw [hR]; rfl
  have hRc : R.cells = 0 := by rw [hR]; rfl
  have hRs : R.slots = 0 := by rw [hR]; rfl
  clear hR hts0 Bd
  have hl : lv_has ls 2 [(0, .ref x)] := hl
  have hfx : ∀ q ∈ ([(x, .inr (6, [.ref c0, .int (iI 0), .ref c2, .ref c3, .ref c4, .ref c5, .ref c6, .ref c7, .ref c8, .ref c9, .ref c10, .ref c11, .int (iI ll), .int (iI 0)]))] : List (Nat × va_E)), f q.1 = q.2 := fun q hq => by
    simp only [List.mem_cons, List.not_mem_nil, or_false] at hq
    rcases hq with rfl
    · exact ha
  have hmw : mw f [(x, .inr (6, [.ref c0, .int (iI 0), .ref c2, .ref c3, .ref c4, .ref c5, .ref c6, .ref c7, .ref c8, .ref c9, .ref c10, .ref c11, .int (iI ll), .int (iI 0)]))] = f := mw_self (fun k a e hk => hfx (a, e) (List.mem_of_getElem? hk))
  have B := B.focus [(x, .inr (6, [.ref c0, .int (iI 0), .ref c2, .ref c3, .ref c4, .ref c5, .ref c6, .ref c7, .ref c8, .ref c9, .ref c10, .ref c11, .int (iI ll), .int (iI 0)]))] hfx
  refine x_iconst hx hb d_RR_all_0 ?_
  refine lv_istore_n (lv' := [(1, .int (iI 0)), (0, .ref x)]) hx hb d_RR_all_1 rfl hl (by decide) rfl (fun ls hl => ?_)
  refine lv_iload_n hx hb d_RR_all_2 rfl (lv_at hl 0 rfl) ?_
  refine lv_aload_n hx hb d_RR_all_3 rfl (lv_at hl 1 rfl) ?_
  refine x_get (C := RX6) (T := TX6) (N := 14) hx hb hts inX6 hown B hF 0 rfl rfl 1 (by decide) (hts _ w_198) (fun _ h9 => h9) rfl d_RR_all_4 ?_
  refine x_icmp_ge (tgt := 22) hx hb d_RR_all_7 (by decide) (by omega) (by omega) (fun h7 => ?_) (fun h7 => ?_)
  · refine lv_aload_n hx hb d_RR_all_22 rfl (lv_at hl 1 rfl) ?_
    refine x_callv B hA (va_runV (As := []) (rest := []) ⟨hx, hb, hml, hown, hts⟩ (c_RR_lineUp_0 l D cs _ _ _ x c0 c2 c3 c4 c5 c6 c7 c8 c9 c10 c11 ll hF (mw_get (X := [(x, .inr (6, [.ref c0, .int (iI 0), .ref c2, .ref c3, .ref c4, .ref c5, .ref c6, .ref c7, .ref c8, .ref c9, .ref c10, .ref c11, .int (iI ll), .int (iI 0)]))]) hF.1 (k := 0) rfl)) (cwV 0 hts (gw_V w_532 w_534 s_24 w_1 w_535) rfl rfl rfl (by decide +kernel) ⟨by rw [hRf]; exact Nat.le_of_ble_eq_true rfl, by rw [hRl]; exact Nat.le_of_ble_eq_true rfl⟩) ⟨K0.blind, B.recv (hF.2 _ (mw_key (k := 0) (X := [(x, .inr (6, [.ref c0, .int (iI 0), .ref c2, .ref c3, .ref c4, .ref c5, .ref c6, .ref c7, .ref c8, .ref c9, .ref c10, .ref c11, .int (iI ll), .int (iI 0)]))]) rfl)) (mw_get (X := [(x, .inr (6, [.ref c0, .int (iI 0), .ref c2, .ref c3, .ref c4, .ref c5, .ref c6, .ref c7, .ref c8, .ref c9, .ref c10, .ref c11, .int (iI ll), .int (iI 0)]))]) hF.1 (k := 0) rfl) rfl, B.pre _⟩ rfl rfl hl.1 rfl (lv_room (Nat.le_of_ble_eq_true rfl)) d_RR_all_23 ⟨by rw [hRc]; omega, by rw [hRs]; omega⟩) (fun g23 H locs hw B => ?_)
    subst hw
    have B := B.of_eq (mw_put (X := [(x, .inr (6, [.ref c0, .int (iI 0), .ref c2, .ref c3, .ref c4, .ref c5, .ref c6, .ref c7, .ref c8, .ref c9, .ref c10, .ref c11, .int (iI ll), .int (iI 0)]))]) hF.1 (k := 0) rfl)
    have B : Wb D vwCl (TY cs) L (mw f [(x, .inr (6, [.ref c0, .int (iI 0), .ref c2, .ref c3, .ref c4, .ref c5, .ref c6, .ref c7, .ref c8, .ref c9, .ref c10, .ref c11, .int (iI 0), .int (iI 1)]))]) (AL L s.heap.size) s H _ := B
    refine lv_aload_n hx hb d_RR_all_26 rfl (lv_at hl 1 rfl) ?_
    refine x_get (C := RX6) (T := TX6) (N := 14) hx hb hts inX6 hown B hF 0 rfl rfl 12 (by decide) (hts _ w_209) (fun _ h9 => h9) rfl d_RR_all_27 ?_
    subst hQ hav
    exact x_iret hx hb hr hlocks B d_RR_all_30 (⟨rfl, rfl⟩)
  · exfalso; omega
