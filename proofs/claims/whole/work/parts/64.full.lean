set_option maxHeartbeats 8000000 in
set_option maxRecDepth 100000 in
theorem c_RR_keepWide_f (l : Launch) (D : va_G) (cs : Nat → ClassId) (L : List Nat) (f : Nat → va_E) (sz : Nat) (x c0 c2 c3 c4 c5 c6 c7 c8 c9 c10 c11 : Nat) (ll ln : Int) (hF : Fc L [x]) (ha : f x = .inr (6, [.ref c0, .int (iI 12), .ref c2, .ref c3, .ref c4, .ref c5, .ref c6, .ref c7, .ref c8, .ref c9, .ref c10, .ref c11, .int (iI ll), .int (iI ln)])) : Met l (⟨"RealRoots", "keepWide", "()I"⟩ : MethodName) (.code (⟨"RealRoots", "keepWide", "()I"⟩ : MethodName) prog_1_method_25_code 4 (Option.some Jvm.ClassFile.FieldType.int) :: gw) ({ frames := 1, cells := 0, slots := 0, locals := 22 }) (va_Pc [.ref x] (K0 D vwCl (TY cs) L f sz)) (va_Qi (fun (r : Int32) (g : Nat → va_E) => r = iI (-4) ∧ g = f) (K1 D vwCl (TY cs) (AL L sz) L) (AL L sz)) 0 0 (AL L sz) := by
  refine Met.ofW (cc := prog_1_method_25_code) (maxL := 4) (ret := (Option.some Jvm.ClassFile.FieldType.int)) (by decide) rfl ?_
  intro p e s m args below meth c s₁ Bd hml hv
  obtain ⟨rfl, hk0⟩ := hv
  obtain ⟨hsz, B⟩ := hk0.start
  subst hsz
  have hx := Bd.exec
  have hb := Bd.bytes
  have hr := Bd.returns
  have hlocks := Bd.notSynchronized
  have hts0 := atoms_spec Bd.pre
  have hown : s.vm.findClass RX6 = some m.cls := findClass_of_methodNamed Bd.named
  have hA : ∀ q, s.heap.size ≤ q → AL L s.heap.size q := fun _ h => Or.inr h
  have hl := lv_entry ([.ref x]) (n := 4) (Nat.le_of_ble_eq_true rfl)
  rw [lg_entry_eq]
  generalize (lg_sl ([.ref x]) ++ List.replicate (4 - (lg_sl ([.ref x])).length) Slot.unset).toArray = ls at hl ⊢
  refine absQ (fun Q R av hQ hR hav => ?_)
  have hts : ∀ w ∈ gw, w.before av s = true := by rw [hav]; exact fun w h => hts0 w (List.mem_cons_of_mem _ h)
  have hRf : R.frames = 1 := by rw [hR]; rfl
  have hRl : R.locals = 22 := by rw [hR]; rfl
  have hRc : R.cells = 0 := by rw [hR]; rfl
  have hRs : R.slots = 0 := by rw [hR]; rfl
  clear hR hts0 Bd
  have hl : lv_has ls 4 [(0, .ref x)] := hl
  have hfx : ∀ q ∈ ([(x, .inr (6, [.ref c0, .int (iI 12), .ref c2, .ref c3, .ref c4, .ref c5, .ref c6, .ref c7, .ref c8, .ref c9, .ref c10, .ref c11, .int (iI ll), .int (iI ln)]))] : List (Nat × va_E)), f q.1 = q.2 := fun q hq => by
    simp only [List.mem_cons, List.not_mem_nil, or_false] at hq
    rcases hq with rfl
    · exact ha
  have hmw : mw f [(x, .inr (6, [.ref c0, .int (iI 12), .ref c2, .ref c3, .ref c4, .ref c5, .ref c6, .ref c7, .ref c8, .ref c9, .ref c10, .ref c11, .int (iI ll), .int (iI ln)]))] = f := mw_self (fun k a e hk => hfx (a, e) (List.mem_of_getElem? hk))
  have B := B.focus [(x, .inr (6, [.ref c0, .int (iI 12), .ref c2, .ref c3, .ref c4, .ref c5, .ref c6, .ref c7, .ref c8, .ref c9, .ref c10, .ref c11, .int (iI ll), .int (iI ln)]))] hfx
  refine lv_aload_n hx hb d_RR_keepWide_0 rfl (lv_at hl 0 rfl) ?_
  refine x_get (C := RX6) (T := TX6) (N := 14) hx hb hts inX6 hown B hF 0 rfl rfl 1 (by decide) (hts _ w_198) (fun _ h9 => h9) rfl d_RR_keepWide_1 ?_
  refine x_bipush hx hb d_RR_keepWide_4 (by decide) ?_
  refine x_icmp_lt (tgt := 12) hx hb d_RR_keepWide_6 (by decide) (by omega) (by omega) (fun h6 => ?_) (fun h6 => ?_)
  · exfalso; omega
  · refine x_bipush hx hb d_RR_keepWide_9 (by decide) ?_
    have B := B.of_eq hmw
    subst hQ hav
    exact x_iret hx hb hr hlocks B d_RR_keepWide_11 (⟨rfl, rfl⟩)
set_option maxHeartbeats 8000000 in
set_option maxRecDepth 100000 in
theorem c_RR_polynomial_f (l : Launch) (D : va_G) (cs : Nat → ClassId) (L : List Nat) (f : Nat → va_E) (sz : Nat) (x c0 c2 c3 c4 c5 c6 c7 c8 c9 c10 c11 : Nat) (ll ln : Int) (w : Nat → Int) (hF : Fc L [x, c5]) (ha : f x = .inr (6, [.ref c0, .int (iI 12), .ref c2, .ref c3, .ref c4, .ref c5, .ref c6, .ref c7, .ref c8, .ref c9, .ref c10, .ref c11, .int (iI ll), .int (iI ln)])) (hw5 : f c5 = .inl (cs 1, 12, .inr (.inl (al w)))) : Met l (⟨"RealRoots", "polynomial", "()I"⟩ : MethodName) (.code (⟨"RealRoots", "polynomial", "()I"⟩ : MethodName) prog_1_method_2_code 1 (Option.some Jvm.ClassFile.FieldType.int) :: gw) ({ frames := 2, cells := 0, slots := 0, locals := 45 }) (va_Pc [.ref x] (K0 D vwCl (TY cs) L f sz)) (va_Qi (fun (r : Int32) (g : Nat → va_E) => r = iI (-4) ∧ g = mw f [(c5, .inl (cs 1, 12, .inr (.inl (al (cf 12 (fun _ => 0) w)))))]) (K1 D vwCl (TY cs) (AL L sz) L) (AL L sz)) 0 0 (AL L sz) := by
  refine Met.ofW (cc := prog_1_method_2_code) (maxL := 1) (ret := (Option.some Jvm.ClassFile.FieldType.int)) (by decide) rfl ?_
  intro p e s m args below meth c s₁ Bd hml hv
  obtain ⟨rfl, hk0⟩ := hv
  obtain ⟨hsz, B⟩ := hk0.start
  subst hsz
  have hx := Bd.exec
  have hb := Bd.bytes
  have hr := Bd.returns
  have hlocks := Bd.notSynchronized
  have hts0 := atoms_spec Bd.pre
  have hown : s.vm.findClass RX6 = some m.cls := findClass_of_methodNamed Bd.named
  have hA : ∀ q, s.heap.size ≤ q → AL L s.heap.size q := fun _ h => Or.inr h
  have hl := lv_entry ([.ref x]) (n := 1) (Nat.le_of_ble_eq_true rfl)
  rw [lg_entry_eq]
  generalize (lg_sl ([.ref x]) ++ List.replicate (1 - (lg_sl ([.ref x])).length) Slot.unset).toArray = ls at hl ⊢
  refine absQ (fun Q R av hQ hR hav => ?_)
  have hts : ∀ w ∈ gw, w.before av s = true := by rw [hav]; exact fun w h => hts0 w (List.mem_cons_of_mem _ h)
  have hRf : R.frames = 2 := by rw [hR]; rfl
  have hRl : R.locals = 45 := by rw [hR]; rfl
  have hRc : R.cells = 0 := by rw [hR]; rfl
  have hRs : R.slots = 0 := by rw [hR]; rfl
  clear hR hts0 Bd
  have hl : lv_has ls 1 [(0, .ref x)] := hl
  have hfx : ∀ q ∈ ([(x, .inr (6, [.ref c0, .int (iI 12), .ref c2, .ref c3, .ref c4, .ref c5, .ref c6, .ref c7, .ref c8, .ref c9, .ref c10, .ref c11, .int (iI ll), .int (iI ln)])), (c5, .inl (cs 1, 12, .inr (.inl (al w))))] : List (Nat × va_E)), f q.1 = q.2 := fun q hq => by
    simp only [List.mem_cons, List.not_mem_nil, or_false] at hq
    rcases hq with rfl | rfl
    · exact ha
    · exact hw5
  have hmw : mw f [(x, .inr (6, [.ref c0, .int (iI 12), .ref c2, .ref c3, .ref c4, .ref c5, .ref c6, .ref c7, .ref c8, .ref c9, .ref c10, .ref c11, .int (iI ll), .int (iI ln)])), (c5, .inl (cs 1, 12, .inr (.inl (al w))))] = f := mw_self (fun k a e hk => hfx (a, e) (List.mem_of_getElem? hk))
  have B := B.focus [(x, .inr (6, [.ref c0, .int (iI 12), .ref c2, .ref c3, .ref c4, .ref c5, .ref c6, .ref c7, .ref c8, .ref c9, .ref c10, .ref c11, .int (iI ll), .int (iI ln)])), (c5, .inl (cs 1, 12, .inr (.inl (al w))))] hfx
  refine lv_aload_n hx hb d_RR_polynomial_0 rfl (lv_at hl 0 rfl) ?_
  refine x_callv B hA (va_runV (As := []) (rest := []) ⟨hx, hb, hml, hown, hts⟩ (c_RR_clearWide l D cs _ _ _ x c0 c2 c3 c4 c5 c6 c7 c8 c9 c10 c11 12 ll ln w hF (mw_get (X := [(x, .inr (6, [.ref c0, .int (iI 12), .ref c2, .ref c3, .ref c4, .ref c5, .ref c6, .ref c7, .ref c8, .ref c9, .ref c10, .ref c11, .int (iI ll), .int (iI ln)])), (c5, .inl (cs 1, 12, .inr (.inl (al w))))]) hF.1 (k := 0) rfl) (by omega) (mw_get (X := [(x, .inr (6, [.ref c0, .int (iI 12), .ref c2, .ref c3, .ref c4, .ref c5, .ref c6, .ref c7, .ref c8, .ref c9, .ref c10, .ref c11, .int (iI ll), .int (iI ln)])), (c5, .inl (cs 1, 12, .inr (.inl (al w))))]) hF.1 (k := 1) rfl)) (cwV 0 hts (gw_V w_244 w_246 s_0 w_1 w_247) rfl rfl rfl (by decide +kernel) ⟨by rw [hRf]; exact Nat.le_of_ble_eq_true rfl, by rw [hRl]; exact Nat.le_of_ble_eq_true rfl⟩) ⟨K0.blind, B.recv (hF.2 _ (mw_key (k := 0) (X := [(x, .inr (6, [.ref c0, .int (iI 12), .ref c2, .ref c3, .ref c4, .ref c5, .ref c6, .ref c7, .ref c8, .ref c9, .ref c10, .ref c11, .int (iI ll), .int (iI ln)])), (c5, .inl (cs 1, 12, .inr (.inl (al w))))]) rfl)) (mw_get (X := [(x, .inr (6, [.ref c0, .int (iI 12), .ref c2, .ref c3, .ref c4, .ref c5, .ref c6, .ref c7, .ref c8, .ref c9, .ref c10, .ref c11, .int (iI ll), .int (iI ln)])), (c5, .inl (cs 1, 12, .inr (.inl (al w))))]) hF.1 (k := 0) rfl) rfl, B.pre _⟩ rfl rfl hl.1 rfl (lv_room (Nat.le_of_ble_eq_true rfl)) d_RR_polynomial_1 ⟨by rw [hRc]; omega, by rw [hRs]; omega⟩) (fun g1 H locs hw B => ?_)
  subst hw
  have B := B.of_eq (mw_put (X := [(x, .inr (6, [.ref c0, .int (iI 12), .ref c2, .ref c3, .ref c4, .ref c5, .ref c6, .ref c7, .ref c8, .ref c9, .ref c10, .ref c11, .int (iI ll), .int (iI ln)])), (c5, .inl (cs 1, 12, .inr (.inl (al w))))]) hF.1 (k := 1) rfl)
  have B : Wb D vwCl (TY cs) L (mw f [(x, .inr (6, [.ref c0, .int (iI 12), .ref c2, .ref c3, .ref c4, .ref c5, .ref c6, .ref c7, .ref c8, .ref c9, .ref c10, .ref c11, .int (iI ll), .int (iI ln)])), (c5, .inl (cs 1, 12, .inr (.inl (al (cf 12 (fun _ => 0) w)))))]) (AL L s.heap.size) s H _ := B
  refine lv_aload_n hx hb d_RR_polynomial_4 rfl (lv_at hl 0 rfl) ?_
  refine x_calli B hA (va_runV (As := []) (rest := []) ⟨hx, hb, hml, hown, hts⟩ (c_RR_keepWide_f l D cs _ _ _ x c0 c2 c3 c4 c5 c6 c7 c8 c9 c10 c11 ll ln (hF.pick [0] rfl rfl) (mw_get (X := [(x, .inr (6, [.ref c0, .int (iI 12), .ref c2, .ref c3, .ref c4, .ref c5, .ref c6, .ref c7, .ref c8, .ref c9, .ref c10, .ref c11, .int (iI ll), .int (iI ln)])), (c5, .inl (cs 1, 12, .inr (.inl (al (cf 12 (fun _ => 0) w)))))]) hF.1 (k := 0) rfl)) (cwV 0 hts (gw_V w_248 w_250 s_1 w_1 w_251) rfl rfl rfl (by decide +kernel) ⟨by rw [hRf]; exact Nat.le_of_ble_eq_true rfl, by rw [hRl]; exact Nat.le_of_ble_eq_true rfl⟩) ⟨K0.blind, B.recv (hF.2 _ (mw_key (k := 0) (X := [(x, .inr (6, [.ref c0, .int (iI 12), .ref c2, .ref c3, .ref c4, .ref c5, .ref c6, .ref c7, .ref c8, .ref c9, .ref c10, .ref c11, .int (iI ll), .int (iI ln)])), (c5, .inl (cs 1, 12, .inr (.inl (al (cf 12 (fun _ => 0) w)))))]) rfl)) (mw_get (X := [(x, .inr (6, [.ref c0, .int (iI 12), .ref c2, .ref c3, .ref c4, .ref c5, .ref c6, .ref c7, .ref c8, .ref c9, .ref c10, .ref c11, .int (iI ll), .int (iI ln)])), (c5, .inl (cs 1, 12, .inr (.inl (al (cf 12 (fun _ => 0) w)))))]) hF.1 (k := 0) rfl) rfl, B.pre _⟩ rfl rfl hl.1 rfl (lv_room (Nat.le_of_ble_eq_true rfl)) d_RR_polynomial_5 ⟨by rw [hRc]; omega, by rw [hRs]; omega⟩) (fun r5 g5 H locs hw B => ?_)
  obtain ⟨rfl, rfl⟩ := hw
  have B : Wb D vwCl (TY cs) L (mw f [(x, .inr (6, [.ref c0, .int (iI 12), .ref c2, .ref c3, .ref c4, .ref c5, .ref c6, .ref c7, .ref c8, .ref c9, .ref c10, .ref c11, .int (iI ll), .int (iI ln)])), (c5, .inl (cs 1, 12, .inr (.inl (al (cf 12 (fun _ => 0) w)))))]) (AL L s.heap.size) s H _ := B
  subst hQ hav
  exact x_iret hx hb hr hlocks B d_RR_polynomial_8 (⟨rfl, mw_drop (f := f) (X := [(c5, .inl (cs 1, 12, .inr (.inl (al (cf 12 (fun _ => 0) w)))))]) ha (List.nodup_cons.mp hF.1).1⟩)
set_option maxHeartbeats 8000000 in
set_option maxRecDepth 100000 in
theorem c_Mo_polynomial_f (l : Launch) (D : va_G) (cs : Nat → ClassId) (L : List Nat) (f : Nat → va_E) (sz : Nat) (y m1 m2 m3 m5 m6 m7 m8 m9 m10 m11 m12 m13 m15 : Nat) (th rw_ fu fb : Int) (hF : Fc L [y]) (ha : f y = .inr (7, [.int (iI th), .ref m1, .ref m2, .ref m3, .int (iI 12), .ref m5, .ref m6, .ref m7, .ref m8, .ref m9, .ref m10, .ref m11, .ref m12, .ref m13, .int (iI rw_), .ref m15, .long (lI fu), .long (lI fb)])) : Met l (⟨"RealRootsModel", "polynomial", "()I"⟩ : MethodName) (.code (⟨"RealRootsModel", "polynomial", "()I"⟩ : MethodName) prog_9_method_20_code 3 (Option.some Jvm.ClassFile.FieldType.int) :: gw) ({ frames := 0, cells := 0, slots := 0, locals := 0 }) (va_Pc [.ref y] (K0 D vwCl (TY cs) L f sz)) (va_Qi (fun (r : Int32) (g : Nat → va_E) => r = iI (-4) ∧ g = mw f [(y, .inr (7, [.int (iI 0), .ref m1, .ref m2, .ref m3, .int (iI 12), .ref m5, .ref m6, .ref m7, .ref m8, .ref m9, .ref m10, .ref m11, .ref m12, .ref m13, .int (iI rw_), .ref m15, .long (lI fu), .long (lI fb)]))]) (K1 D vwCl (TY cs) (AL L sz) L) (AL L sz)) 0 0 (AL L sz) := by
  refine Met.ofW (cc := prog_9_method_20_code) (maxL := 3) (ret := (Option.some Jvm.ClassFile.FieldType.int)) (by decide) rfl ?_
  intro p e s m args below meth c s₁ Bd hml hv
  obtain ⟨rfl, hk0⟩ := hv
  obtain ⟨hsz, B⟩ := hk0.start
  subst hsz
  have hx := Bd.exec
  have hb := Bd.bytes
  have hr := Bd.returns
  have hlocks := Bd.notSynchronized
  have hts0 := atoms_spec Bd.pre
  have hown : s.vm.findClass RX7 = some m.cls := findClass_of_methodNamed Bd.named
  have hA : ∀ q, s.heap.size ≤ q → AL L s.heap.size q := fun _ h => Or.inr h
  have hl := lv_entry ([.ref y]) (n := 3) (Nat.le_of_ble_eq_true rfl)
  rw [lg_entry_eq]
  generalize (lg_sl ([.ref y]) ++ List.replicate (3 - (lg_sl ([.ref y])).length) Slot.unset).toArray = ls at hl ⊢
  refine absQ (fun Q R av hQ hR hav => ?_)
  have hts : ∀ w ∈ gw, w.before av s = true := by rw [hav]; exact fun w h => hts0 w (List.mem_cons_of_mem _ h)
  have hRf : R.frames = 0 := by rw [hR]; rfl
  have hRl : R.locals = 0 := by rw [hR]; rfl
  have hRc : R.cells = 0 := by rw [hR]; rfl
  have hRs : R.slots = 0 := by rw [hR]; rfl
  clear hR hts0 Bd
  have hl : lv_has ls 3 [(0, .ref y)] := hl
  have hfx : ∀ q ∈ ([(y, .inr (7, [.int (iI th), .ref m1, .ref m2, .ref m3, .int (iI 12), .ref m5, .ref m6, .ref m7, .ref m8, .ref m9, .ref m10, .ref m11, .ref m12, .ref m13, .int (iI rw_), .ref m15, .long (lI fu), .long (lI fb)]))] : List (Nat × va_E)), f q.1 = q.2 := fun q hq => by
    simp only [List.mem_cons, List.not_mem_nil, or_false] at hq
    rcases hq with rfl
    · exact ha
  have hmw : mw f [(y, .inr (7, [.int (iI th), .ref m1, .ref m2, .ref m3, .int (iI 12), .ref m5, .ref m6, .ref m7, .ref m8, .ref m9, .ref m10, .ref m11, .ref m12, .ref m13, .int (iI rw_), .ref m15, .long (lI fu), .long (lI fb)]))] = f := mw_self (fun k a e hk => hfx (a, e) (List.mem_of_getElem? hk))
  have B := B.focus [(y, .inr (7, [.int (iI th), .ref m1, .ref m2, .ref m3, .int (iI 12), .ref m5, .ref m6, .ref m7, .ref m8, .ref m9, .ref m10, .ref m11, .ref m12, .ref m13, .int (iI rw_), .ref m15, .long (lI fu), .long (lI fb)]))] hfx
  refine lv_aload_n hx hb d_Mo_polynomial_0 rfl (lv_at hl 0 rfl) ?_
  refine x_iconst hx hb d_Mo_polynomial_1 ?_
  refine x_put (C := RX7) (T := TX7) (N := 18) hx hb hts inX7 tyX7 tyX7_ok nmX7 hown B hF 0 rfl rfl 0 (by decide) (hts _ w_677) (fun _ h9 => h9) rfl (tyX7_ok 0 (by decide)) rfl rfl (Nat.le_of_ble_eq_true rfl) d_Mo_polynomial_2 (fun H locs B => ?_)
  have B : Wb D vwCl (TY cs) L (mw f [(y, .inr (7, [.int (iI 0), .ref m1, .ref m2, .ref m3, .int (iI 12), .ref m5, .ref m6, .ref m7, .ref m8, .ref m9, .ref m10, .ref m11, .ref m12, .ref m13, .int (iI rw_), .ref m15, .long (lI fu), .long (lI fb)]))]) (AL L s.heap.size) s H _ := B
  refine lv_aload_n hx hb d_Mo_polynomial_5 rfl (lv_at hl 0 rfl) ?_
  refine x_get (C := RX7) (T := TX7) (N := 18) hx hb hts inX7 hown B hF 0 rfl rfl 4 (by decide) (hts _ w_681) (fun _ h9 => h9) rfl d_Mo_polynomial_6 ?_
  refine x_bipush hx hb d_Mo_polynomial_9 (by decide) ?_
  refine x_icmp_ne (tgt := 17) hx hb d_Mo_polynomial_11 (by decide) (by omega) (by omega) (fun h11 => ?_) (fun h11 => ?_)
  · exfalso; omega
  · refine x_bipush hx hb d_Mo_polynomial_14 (by decide) ?_
    subst hQ hav
    exact x_iret hx hb hr hlocks B d_Mo_polynomial_16 (⟨rfl, rfl⟩)
