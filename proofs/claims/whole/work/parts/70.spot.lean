theorem d_Spot_number_0 : decode prog_7_method_3_code 0 = .ok (.aload_n 0, 1) := by decide +kernel
theorem d_Spot_number_1 : decode prog_7_method_3_code 1 = .ok (.getfield 12, 3) := by decide +kernel
theorem d_Spot_number_4 : decode prog_7_method_3_code 4 = .ok (.lload_n 1, 1) := by decide +kernel
theorem d_Spot_number_5 : decode prog_7_method_3_code 5 = .ok (.invokevirtual 45, 3) := by decide +kernel
theorem d_Spot_number_8 : decode prog_7_method_3_code 8 = .ok (.aload_n 0, 1) := by decide +kernel
theorem d_Spot_number_9 : decode prog_7_method_3_code 9 = .ok (.getfield 18, 3) := by decide +kernel
theorem d_Spot_number_12 : decode prog_7_method_3_code 12 = .ok (.lload_n 3, 1) := by decide +kernel
theorem d_Spot_number_13 : decode prog_7_method_3_code 13 = .ok (.invokevirtual 45, 3) := by decide +kernel
theorem d_Spot_number_16 : decode prog_7_method_3_code 16 = .ok (.return_, 1) := by decide +kernel
set_option maxHeartbeats 8000000 in
set_option maxRecDepth 100000 in
theorem c_Spot_number (l : Launch) (D : va_G) (cs : Nat → ClassId) (L : List Nat) (f : Nat → va_E) (sz : Nat) (x gu gl gs gt gp ga gb gu1 gl1 : Nat) (tp su sl : Int) (nu nl : Nat) (lu ll1 : Nat → Int) (nn dd : Int) (hF : Fc L [x, gu, gu1, gl, gl1]) (ha : f x = .inr (5, [.ref gu, .ref gl, .ref gs, .int (iI tp), .ref gt, .ref gp, .ref ga, .ref gb])) (hgu : f gu = .inr (0, [.int (iI su), .int (iI ((nu : Int))), .ref gu1])) (hgu1 : f gu1 = .inl (cs 0, 48, .inl (ai lu))) (hgl : f gl = .inr (0, [.int (iI sl), .int (iI ((nl : Int))), .ref gl1])) (hgl1 : f gl1 = .inl (cs 0, 48, .inl (ai ll1))) (hnn : -9223372036854775808 < nn ∧ nn < 9223372036854775808) (hdd : -9223372036854775808 < dd ∧ dd < 9223372036854775808) : Met l (⟨"RealRoots$Spot", "number", "(JJ)V"⟩ : MethodName) (.code (⟨"RealRoots$Spot", "number", "(JJ)V"⟩ : MethodName) prog_7_method_3_code 5 (Option.none : Option Jvm.ClassFile.FieldType) :: gw) ({ frames := 1, cells := 0, slots := 0, locals := 40 }) (va_Pc [.ref x, .long (lI nn), .long (lI dd)] (K0 D vwCl (TY cs) L f sz)) (va_Qv (fun (g : Nat → va_E) => ∃ (s1 : Int) (n1 : Nat) (l1 : Nat → Int) (s2 : Int) (n2 : Nat) (l2 : Nat → Int), BV s1 (n1 : Int) l1 nn ∧ BV s2 (n2 : Int) l2 dd ∧ g = mw f [(gu, .inr (0, [.int (iI s1), .int (iI ((n1 : Int))), .ref gu1])), (gu1, .inl (cs 0, 48, .inl (ai l1))), (gl, .inr (0, [.int (iI s2), .int (iI ((n2 : Int))), .ref gl1])), (gl1, .inl (cs 0, 48, .inl (ai l2)))]) (K1 D vwCl (TY cs) (AL L sz) L) (AL L sz)) 0 0 (AL L sz) := by
  refine Met.ofW (cc := prog_7_method_3_code) (maxL := 5) (ret := (Option.none : Option Jvm.ClassFile.FieldType)) (by decide) rfl ?_
  intro p e s m args below meth c s₁ Bd hml hv
  obtain ⟨rfl, hk0⟩ := hv
  obtain ⟨hsz, B⟩ := hk0.start
  subst hsz
  have hx := Bd.exec
  have hb := Bd.bytes
  have hr := Bd.returns
  have hlocks := Bd.notSynchronized
  have hts0 := atoms_spec Bd.pre
  have hown : s.vm.findClass RX5 = some m.cls := findClass_of_methodNamed Bd.named
  have hA : ∀ q, s.heap.size ≤ q → AL L s.heap.size q := fun _ h => Or.inr h
  have hl := lv_entry ([.ref x, .long (lI nn), .long (lI dd)]) (n := 5) (Nat.le_of_ble_eq_true rfl)
  rw [lg_entry_eq]
  generalize (lg_sl ([.ref x, .long (lI nn), .long (lI dd)]) ++ List.replicate (5 - (lg_sl ([.ref x, .long (lI nn), .long (lI dd)])).length) Slot.unset).toArray = ls at hl ⊢
  refine absQ (fun Q R av hQ hR hav => ?_)
  have hts : ∀ w ∈ gw, w.before av s = true := by rw [hav]; exact fun w h => hts0 w (List.mem_cons_of_mem _ h)
  have hRf : R.frames = 1 := by rw [hR]; rfl
  have hRl : R.locals = 40 := by rw [hR]; rfl
  have hRc : R.cells = 0 := by rw [hR]; rfl
  have hRs : R.slots = 0 := by rw [hR]; rfl
  clear hR hts0 Bd
  have hl : lv_has ls 5 [(0, .ref x), (1, .long (lI nn)), (3, .long (lI dd))] := hl
  have hfx : ∀ q ∈ ([(x, .inr (5, [.ref gu, .ref gl, .ref gs, .int (iI tp), .ref gt, .ref gp, .ref ga, .ref gb])), (gu, .inr (0, [.int (iI su), .int (iI ((nu : Int))), .ref gu1])), (gu1, .inl (cs 0, 48, .inl (ai lu))), (gl, .inr (0, [.int (iI sl), .int (iI ((nl : Int))), .ref gl1])), (gl1, .inl (cs 0, 48, .inl (ai ll1)))] : List (Nat × va_E)), f q.1 = q.2 := fun q hq => by
    simp only [List.mem_cons, List.not_mem_nil, or_false] at hq
    rcases hq with rfl | rfl | rfl | rfl | rfl
    · exact ha
    · exact hgu
    · exact hgu1
    · exact hgl
    · exact hgl1
  have hmw : mw f [(x, .inr (5, [.ref gu, .ref gl, .ref gs, .int (iI tp), .ref gt, .ref gp, .ref ga, .ref gb])), (gu, .inr (0, [.int (iI su), .int (iI ((nu : Int))), .ref gu1])), (gu1, .inl (cs 0, 48, .inl (ai lu))), (gl, .inr (0, [.int (iI sl), .int (iI ((nl : Int))), .ref gl1])), (gl1, .inl (cs 0, 48, .inl (ai ll1)))] = f := mw_self (fun k a e hk => hfx (a, e) (List.mem_of_getElem? hk))
  have B := B.focus [(x, .inr (5, [.ref gu, .ref gl, .ref gs, .int (iI tp), .ref gt, .ref gp, .ref ga, .ref gb])), (gu, .inr (0, [.int (iI su), .int (iI ((nu : Int))), .ref gu1])), (gu1, .inl (cs 0, 48, .inl (ai lu))), (gl, .inr (0, [.int (iI sl), .int (iI ((nl : Int))), .ref gl1])), (gl1, .inl (cs 0, 48, .inl (ai ll1)))] hfx
  refine lv_aload_n hx hb d_Spot_number_0 rfl (lv_at hl 0 rfl) ?_
  refine x_get (C := RX5) (T := TX5) (N := 8) hx hb hts inX5 hown B hF 0 rfl rfl 0 (by decide) (hts _ w_84) (fun _ h9 => h9) rfl d_Spot_number_1 ?_
  refine lv_lload_n hx hb d_Spot_number_4 rfl (lv_at hl 1 rfl) ?_
  refine x_callv B hA (va_runV (As := [.long (lI nn)]) (rest := []) ⟨hx, hb, hml, hown, hts⟩ (c_Big_put l D cs _ _ _ gu gu1 su nu lu nn (hF.pick [1, 2] rfl rfl) (mw_get (X := [(x, .inr (5, [.ref gu, .ref gl, .ref gs, .int (iI tp), .ref gt, .ref gp, .ref ga, .ref gb])), (gu, .inr (0, [.int (iI su), .int (iI ((nu : Int))), .ref gu1])), (gu1, .inl (cs 0, 48, .inl (ai lu))), (gl, .inr (0, [.int (iI sl), .int (iI ((nl : Int))), .ref gl1])), (gl1, .inl (cs 0, 48, .inl (ai ll1)))]) hF.1 (k := 1) rfl) (mw_get (X := [(x, .inr (5, [.ref gu, .ref gl, .ref gs, .int (iI tp), .ref gt, .ref gp, .ref ga, .ref gb])), (gu, .inr (0, [.int (iI su), .int (iI ((nu : Int))), .ref gu1])), (gu1, .inl (cs 0, 48, .inl (ai lu))), (gl, .inr (0, [.int (iI sl), .int (iI ((nl : Int))), .ref gl1])), (gl1, .inl (cs 0, 48, .inl (ai ll1)))]) hF.1 (k := 2) rfl) hnn) (cwV 1 hts (gw_V w_405 w_294 w_295 w_3 w_296) rfl rfl rfl (by decide +kernel) ⟨by rw [hRf]; exact Nat.le_of_ble_eq_true rfl, by rw [hRl]; exact Nat.le_of_ble_eq_true rfl⟩) ⟨K0.blind, B.recv (hF.2 _ (mw_key (k := 1) (X := [(x, .inr (5, [.ref gu, .ref gl, .ref gs, .int (iI tp), .ref gt, .ref gp, .ref ga, .ref gb])), (gu, .inr (0, [.int (iI su), .int (iI ((nu : Int))), .ref gu1])), (gu1, .inl (cs 0, 48, .inl (ai lu))), (gl, .inr (0, [.int (iI sl), .int (iI ((nl : Int))), .ref gl1])), (gl1, .inl (cs 0, 48, .inl (ai ll1)))]) rfl)) (mw_get (X := [(x, .inr (5, [.ref gu, .ref gl, .ref gs, .int (iI tp), .ref gt, .ref gp, .ref ga, .ref gb])), (gu, .inr (0, [.int (iI su), .int (iI ((nu : Int))), .ref gu1])), (gu1, .inl (cs 0, 48, .inl (ai lu))), (gl, .inr (0, [.int (iI sl), .int (iI ((nl : Int))), .ref gl1])), (gl1, .inl (cs 0, 48, .inl (ai ll1)))]) hF.1 (k := 1) rfl) rfl, B.pre _⟩ rfl rfl hl.1 rfl (lv_room (Nat.le_of_ble_eq_true rfl)) d_Spot_number_5 ⟨by rw [hRc]; omega, by rw [hRs]; omega⟩) (fun g5 H locs hw B => ?_)
  obtain ⟨s_gu5, n_gu5, l_gu5, hU, rfl⟩ := hw
  have B := B.of_eq (mw_put2 (X := [(x, .inr (5, [.ref gu, .ref gl, .ref gs, .int (iI tp), .ref gt, .ref gp, .ref ga, .ref gb])), (gu, .inr (0, [.int (iI su), .int (iI ((nu : Int))), .ref gu1])), (gu1, .inl (cs 0, 48, .inl (ai lu))), (gl, .inr (0, [.int (iI sl), .int (iI ((nl : Int))), .ref gl1])), (gl1, .inl (cs 0, 48, .inl (ai ll1)))]) hF.1 (k1 := 2) (k2 := 1) rfl rfl)
  have B : Wb D vwCl (TY cs) L (mw f [(x, .inr (5, [.ref gu, .ref gl, .ref gs, .int (iI tp), .ref gt, .ref gp, .ref ga, .ref gb])), (gu, .inr (0, [.int (iI s_gu5), .int (iI ((n_gu5 : Int))), .ref gu1])), (gu1, .inl (cs 0, 48, .inl (ai l_gu5))), (gl, .inr (0, [.int (iI sl), .int (iI ((nl : Int))), .ref gl1])), (gl1, .inl (cs 0, 48, .inl (ai ll1)))]) (AL L s.heap.size) s H _ := B
  refine lv_aload_n hx hb d_Spot_number_8 rfl (lv_at hl 0 rfl) ?_
  refine x_get (C := RX5) (T := TX5) (N := 8) hx hb hts inX5 hown B hF 0 rfl rfl 1 (by decide) (hts _ w_86) (fun _ h9 => h9) rfl d_Spot_number_9 ?_
  refine lv_lload_n hx hb d_Spot_number_12 rfl (lv_at hl 2 rfl) ?_
  refine x_callv B hA (va_runV (As := [.long (lI dd)]) (rest := []) ⟨hx, hb, hml, hown, hts⟩ (c_Big_put l D cs _ _ _ gl gl1 sl nl ll1 dd (hF.pick [3, 4] rfl rfl) (mw_get (X := [(x, .inr (5, [.ref gu, .ref gl, .ref gs, .int (iI tp), .ref gt, .ref gp, .ref ga, .ref gb])), (gu, .inr (0, [.int (iI s_gu5), .int (iI ((n_gu5 : Int))), .ref gu1])), (gu1, .inl (cs 0, 48, .inl (ai l_gu5))), (gl, .inr (0, [.int (iI sl), .int (iI ((nl : Int))), .ref gl1])), (gl1, .inl (cs 0, 48, .inl (ai ll1)))]) hF.1 (k := 3) rfl) (mw_get (X := [(x, .inr (5, [.ref gu, .ref gl, .ref gs, .int (iI tp), .ref gt, .ref gp, .ref ga, .ref gb])), (gu, .inr (0, [.int (iI s_gu5), .int (iI ((n_gu5 : Int))), .ref gu1])), (gu1, .inl (cs 0, 48, .inl (ai l_gu5))), (gl, .inr (0, [.int (iI sl), .int (iI ((nl : Int))), .ref gl1])), (gl1, .inl (cs 0, 48, .inl (ai ll1)))]) hF.1 (k := 4) rfl) hdd) (cwV 1 hts (gw_V w_405 w_294 w_295 w_3 w_296) rfl rfl rfl (by decide +kernel) ⟨by rw [hRf]; exact Nat.le_of_ble_eq_true rfl, by rw [hRl]; exact Nat.le_of_ble_eq_true rfl⟩) ⟨K0.blind, B.recv (hF.2 _ (mw_key (k := 3) (X := [(x, .inr (5, [.ref gu, .ref gl, .ref gs, .int (iI tp), .ref gt, .ref gp, .ref ga, .ref gb])), (gu, .inr (0, [.int (iI s_gu5), .int (iI ((n_gu5 : Int))), .ref gu1])), (gu1, .inl (cs 0, 48, .inl (ai l_gu5))), (gl, .inr (0, [.int (iI sl), .int (iI ((nl : Int))), .ref gl1])), (gl1, .inl (cs 0, 48, .inl (ai ll1)))]) rfl)) (mw_get (X := [(x, .inr (5, [.ref gu, .ref gl, .ref gs, .int (iI tp), .ref gt, .ref gp, .ref ga, .ref gb])), (gu, .inr (0, [.int (iI s_gu5), .int (iI ((n_gu5 : Int))), .ref gu1])), (gu1, .inl (cs 0, 48, .inl (ai l_gu5))), (gl, .inr (0, [.int (iI sl), .int (iI ((nl : Int))), .ref gl1])), (gl1, .inl (cs 0, 48, .inl (ai ll1)))]) hF.1 (k := 3) rfl) rfl, B.pre _⟩ rfl rfl hl.1 rfl (lv_room (Nat.le_of_ble_eq_true rfl)) d_Spot_number_13 ⟨by rw [hRc]; omega, by rw [hRs]; omega⟩) (fun g13 H locs hw B => ?_)
  obtain ⟨s_gl13, n_gl13, l_gl13, hL, rfl⟩ := hw
  have B := B.of_eq (mw_put2 (X := [(x, .inr (5, [.ref gu, .ref gl, .ref gs, .int (iI tp), .ref gt, .ref gp, .ref ga, .ref gb])), (gu, .inr (0, [.int (iI s_gu5), .int (iI ((n_gu5 : Int))), .ref gu1])), (gu1, .inl (cs 0, 48, .inl (ai l_gu5))), (gl, .inr (0, [.int (iI sl), .int (iI ((nl : Int))), .ref gl1])), (gl1, .inl (cs 0, 48, .inl (ai ll1)))]) hF.1 (k1 := 4) (k2 := 3) rfl rfl)
  have B : Wb D vwCl (TY cs) L (mw f [(x, .inr (5, [.ref gu, .ref gl, .ref gs, .int (iI tp), .ref gt, .ref gp, .ref ga, .ref gb])), (gu, .inr (0, [.int (iI s_gu5), .int (iI ((n_gu5 : Int))), .ref gu1])), (gu1, .inl (cs 0, 48, .inl (ai l_gu5))), (gl, .inr (0, [.int (iI s_gl13), .int (iI ((n_gl13 : Int))), .ref gl1])), (gl1, .inl (cs 0, 48, .inl (ai l_gl13)))]) (AL L s.heap.size) s H _ := B
  subst hQ hav
  exact x_vret hx hb hr hlocks B d_Spot_number_16 (⟨_, _, _, _, _, _, hU, hL, mw_drop (f := f) (X := [(gu, .inr (0, [.int (iI s_gu5), .int (iI ((n_gu5 : Int))), .ref gu1])), (gu1, .inl (cs 0, 48, .inl (ai l_gu5))), (gl, .inr (0, [.int (iI s_gl13), .int (iI ((n_gl13 : Int))), .ref gl1])), (gl1, .inl (cs 0, 48, .inl (ai l_gl13)))]) ha (List.nodup_cons.mp hF.1).1⟩)
