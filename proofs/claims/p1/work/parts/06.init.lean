theorem d_Big_init_0 : decode prog_2_method_1_code 0 = .ok (.aload_n 0, 1) := by decide +kernel
theorem d_Big_init_1 : decode prog_2_method_1_code 1 = .ok (.invokespecial 3, 3) := by decide +kernel
theorem d_Big_init_4 : decode prog_2_method_1_code 4 = .ok (.aload_n 0, 1) := by decide +kernel
theorem d_Big_init_5 : decode prog_2_method_1_code 5 = .ok (.iconst 0, 1) := by decide +kernel
theorem d_Big_init_6 : decode prog_2_method_1_code 6 = .ok (.putfield 9, 3) := by decide +kernel
theorem d_Big_init_9 : decode prog_2_method_1_code 9 = .ok (.aload_n 0, 1) := by decide +kernel
theorem d_Big_init_10 : decode prog_2_method_1_code 10 = .ok (.iconst 0, 1) := by decide +kernel
theorem d_Big_init_11 : decode prog_2_method_1_code 11 = .ok (.putfield 13, 3) := by decide +kernel
theorem d_Big_init_14 : decode prog_2_method_1_code 14 = .ok (.aload_n 0, 1) := by decide +kernel
theorem d_Big_init_15 : decode prog_2_method_1_code 15 = .ok (.bipush 48, 2) := by decide +kernel
theorem d_Big_init_17 : decode prog_2_method_1_code 17 = .ok (.newarray .int, 2) := by decide +kernel
theorem d_Big_init_19 : decode prog_2_method_1_code 19 = .ok (.putfield 16, 3) := by decide +kernel
theorem d_Big_init_22 : decode prog_2_method_1_code 22 = .ok (.return_, 1) := by decide +kernel
set_option maxHeartbeats 8000000 in
set_option maxRecDepth 100000 in
theorem c_Big_init (l : Launch) (D : va_G) (cs : Nat → ClassId) (L : List Nat) (f : Nat → va_E) (sz : Nat) (a : Nat) (v0 v1 : Int) (hF : Fc L [a]) (ha : f a = .inr (0, [.int (iI v0), .int (iI v1), .null])) : Met l (⟨"RealRoots$Big", "<init>", "()V"⟩ : MethodName) (.code (⟨"RealRoots$Big", "<init>", "()V"⟩ : MethodName) prog_2_method_1_code 1 (Option.none : Option Jvm.ClassFile.FieldType) :: gw) ({ frames := 1, cells := 1, slots := 48, locals := 12 }) (va_Pc [.ref a] (K0 D vwCl (TY cs) L f sz)) (va_Qv (fun (u : List Nat × (Nat → va_E)) => ∃ q, q ∉ L ∧ u = (L ++ [q], mw f [(q, .inl (cs 0, 48, .inl (ai (fun _ => 0)))), (a, .inr (0, [.int (iI 0), .int (iI 0), .ref q]))])) (K2 D vwCl (TY cs) (AL L sz)) (AL L sz)) 1 48 (AL L sz) := by
  refine Met.ofW (cc := prog_2_method_1_code) (maxL := 1) (ret := (Option.none : Option Jvm.ClassFile.FieldType)) (by decide) rfl ?_
  intro p e s m args below meth c s₁ Bd hml hv
  obtain ⟨rfl, hk0⟩ := hv
  obtain ⟨hsz, B⟩ := hk0.start
  subst hsz
  have hx := Bd.exec
  have hb := Bd.bytes
  have hr := Bd.returns
  have hlocks := Bd.notSynchronized
  have hts0 := atoms_spec Bd.pre
  have hown : s.vm.findClass RX0 = some m.cls := findClass_of_methodNamed Bd.named
  have hA : ∀ q, s.heap.size ≤ q → AL L s.heap.size q := fun _ h => Or.inr h
  have hin : meth.name = "<init>" := (name_of_methodNamed Bd.named Bd.method).1
  have hl := lv_entry ([.ref a]) (n := 1) (Nat.le_of_ble_eq_true rfl)
  rw [lg_entry_eq]
  generalize (lg_sl ([.ref a]) ++ List.replicate (1 - (lg_sl ([.ref a])).length) Slot.unset).toArray = ls at hl ⊢
  refine absQ (fun Q R av hQ hR hav => ?_)
  have hts : ∀ w ∈ gw, w.before av s = true := by rw [hav]; exact fun w h => hts0 w (List.mem_cons_of_mem _ h)
  have hRf : R.frames = 1 := by rw [hR]; rfl
  have hRl : R.locals = 12 := by rw [hR]; rfl
  have hRc : R.cells = 1 := by rw [hR]; rfl
  have hRs : R.slots = 48 := by rw [hR]; rfl
  clear hR hts0 Bd
  have hl : lv_has ls 1 [(0, .ref a)] := hl
  have hfx : ∀ q ∈ ([(a, .inr (0, [.int (iI v0), .int (iI v1), .null]))] : List (Nat × va_E)), f q.1 = q.2 := fun q hq => by
    simp only [List.mem_cons, List.not_mem_nil, or_false] at hq
    rcases hq with rfl
    · exact ha
  have hmw : mw f [(a, .inr (0, [.int (iI v0), .int (iI v1), .null]))] = f := mw_self (fun k a e hk => hfx (a, e) (List.mem_of_getElem? hk))
  have B := B.focus [(a, .inr (0, [.int (iI v0), .int (iI v1), .null]))] hfx
  refine lv_aload_n hx hb d_Big_init_0 rfl (lv_at hl 0 rfl) ?_
  refine W.objInit hx hb hown (hts _ w_37) (hts _ w_21) (hts _ w_22) rfl (by rw [hml]; exact hl.1) rfl d_Big_init_1 (by rw [hRf]; decide) (by rw [hRl]; exact Nat.le_of_ble_eq_true rfl) ?_
  refine W.eq (g2 := F0 m 4 ls []) rfl ?_
  refine lv_aload_n hx hb d_Big_init_4 rfl (lv_at hl 0 rfl) ?_
  refine x_iconst hx hb d_Big_init_5 ?_
  refine x_put (C := RX0) (T := TX0) (N := 3) hx hb hts inX0 tyX0 tyX0_ok nmX0 hown B hF 0 rfl rfl 0 (by decide) (hts _ w_38) (fun _ h9 => h9) rfl (tyX0_ok 0 (by decide)) rfl rfl (Nat.le_of_ble_eq_true rfl) d_Big_init_6 (fun H locs B => ?_)
  have B : Wb D vwCl (TY cs) L (mw f [(a, .inr (0, [.int (iI 0), .int (iI v1), .null]))]) (AL L s.heap.size) s H _ := B
  refine lv_aload_n hx hb d_Big_init_9 rfl (lv_at hl 0 rfl) ?_
  refine x_iconst hx hb d_Big_init_10 ?_
  refine x_put (C := RX0) (T := TX0) (N := 3) hx hb hts inX0 tyX0 tyX0_ok nmX0 hown B hF 0 rfl rfl 1 (by decide) (hts _ w_42) (fun _ h9 => h9) rfl (tyX0_ok 1 (by decide)) rfl rfl (Nat.le_of_ble_eq_true rfl) d_Big_init_11 (fun H locs B => ?_)
  have B : Wb D vwCl (TY cs) L (mw f [(a, .inr (0, [.int (iI 0), .int (iI 0), .null]))]) (AL L s.heap.size) s H _ := B
  refine lv_aload_n hx hb d_Big_init_14 rfl (lv_at hl 0 rfl) ?_
  refine x_bipush hx hb d_Big_init_15 (by decide) ?_
  refine x_newai hx hb (hts _ w_51) B hF hA 0 rfl 48 rfl (by decide) (by rw [hRc]; omega) (by rw [hRs]; omega) d_Big_init_17 (fun q17 H hq17 hF B => ?_)
  have B : Wb D vwCl (TY cs) (L ++ [q17]) (mw f [(q17, .inl (cs 0, 48, .inl (ai (fun _ => 0)))), (a, .inr (0, [.int (iI 0), .int (iI 0), .null]))]) (AL L s.heap.size) s H _ := B
  have hF : Fc (L ++ [q17]) [q17, a] := hF
  refine x_putF (C := RX0) (T := TX0) (N := 3) hx hb hts inX0 tyX0 tyX0_ok nmX0 hown B hF 1 rfl rfl 2 (by decide) (hts _ w_43) (fun _ h9 => h9) rfl hin rfl (tyX0_ok 2 (by decide)) rfl rfl (Nat.le_of_ble_eq_true rfl) d_Big_init_19 (fun H locs B => ?_)
  have B : Wb D vwCl (TY cs) (L ++ [q17]) (mw f [(q17, .inl (cs 0, 48, .inl (ai (fun _ => 0)))), (a, .inr (0, [.int (iI 0), .int (iI 0), .ref q17]))]) (AL L s.heap.size) s H _ := B
  refine W.widen (k := 1) (n := 48) (by omega) (by omega) ?_
  subst hQ hav
  exact x_vretG hx hb hr hlocks B d_Big_init_22 (⟨q17, hq17, rfl⟩)
theorem d_Place_init_0 : decode prog_5_method_1_code 0 = .ok (.aload_n 0, 1) := by decide +kernel
theorem d_Place_init_1 : decode prog_5_method_1_code 1 = .ok (.invokespecial 5, 3) := by decide +kernel
theorem d_Place_init_4 : decode prog_5_method_1_code 4 = .ok (.aload_n 0, 1) := by decide +kernel
theorem d_Place_init_5 : decode prog_5_method_1_code 5 = .ok (.iconst 0, 1) := by decide +kernel
theorem d_Place_init_6 : decode prog_5_method_1_code 6 = .ok (.putfield 11, 3) := by decide +kernel
theorem d_Place_init_9 : decode prog_5_method_1_code 9 = .ok (.aload_n 0, 1) := by decide +kernel
theorem d_Place_init_10 : decode prog_5_method_1_code 10 = .ok (.iconst 0, 1) := by decide +kernel
theorem d_Place_init_11 : decode prog_5_method_1_code 11 = .ok (.putfield 15, 3) := by decide +kernel
theorem d_Place_init_14 : decode prog_5_method_1_code 14 = .ok (.aload_n 0, 1) := by decide +kernel
theorem d_Place_init_15 : decode prog_5_method_1_code 15 = .ok (.bipush 8, 2) := by decide +kernel
theorem d_Place_init_17 : decode prog_5_method_1_code 17 = .ok (.newarray .int, 2) := by decide +kernel
theorem d_Place_init_19 : decode prog_5_method_1_code 19 = .ok (.putfield 18, 3) := by decide +kernel
theorem d_Place_init_22 : decode prog_5_method_1_code 22 = .ok (.return_, 1) := by decide +kernel
set_option maxHeartbeats 8000000 in
set_option maxRecDepth 100000 in
theorem c_Place_init (l : Launch) (D : va_G) (cs : Nat → ClassId) (L : List Nat) (f : Nat → va_E) (sz : Nat) (a : Nat) (v0 v1 : Int) (hF : Fc L [a]) (ha : f a = .inr (3, [.int (iI v0), .int (iI v1), .null])) : Met l (⟨"RealRoots$Place", "<init>", "()V"⟩ : MethodName) (.code (⟨"RealRoots$Place", "<init>", "()V"⟩ : MethodName) prog_5_method_1_code 1 (Option.none : Option Jvm.ClassFile.FieldType) :: gw) ({ frames := 1, cells := 1, slots := 8, locals := 12 }) (va_Pc [.ref a] (K0 D vwCl (TY cs) L f sz)) (va_Qv (fun (u : List Nat × (Nat → va_E)) => ∃ q, q ∉ L ∧ u = (L ++ [q], mw f [(q, .inl (cs 0, 8, .inl (ai (fun _ => 0)))), (a, .inr (3, [.int (iI 0), .int (iI 0), .ref q]))])) (K2 D vwCl (TY cs) (AL L sz)) (AL L sz)) 1 8 (AL L sz) := by
  refine Met.ofW (cc := prog_5_method_1_code) (maxL := 1) (ret := (Option.none : Option Jvm.ClassFile.FieldType)) (by decide) rfl ?_
  intro p e s m args below meth c s₁ Bd hml hv
  obtain ⟨rfl, hk0⟩ := hv
  obtain ⟨hsz, B⟩ := hk0.start
  subst hsz
  have hx := Bd.exec
  have hb := Bd.bytes
  have hr := Bd.returns
  have hlocks := Bd.notSynchronized
  have hts0 := atoms_spec Bd.pre
  have hown : s.vm.findClass RX3 = some m.cls := findClass_of_methodNamed Bd.named
  have hA : ∀ q, s.heap.size ≤ q → AL L s.heap.size q := fun _ h => Or.inr h
  have hin : meth.name = "<init>" := (name_of_methodNamed Bd.named Bd.method).1
  have hl := lv_entry ([.ref a]) (n := 1) (Nat.le_of_ble_eq_true rfl)
  rw [lg_entry_eq]
  generalize (lg_sl ([.ref a]) ++ List.replicate (1 - (lg_sl ([.ref a])).length) Slot.unset).toArray = ls at hl ⊢
  refine absQ (fun Q R av hQ hR hav => ?_)
  have hts : ∀ w ∈ gw, w.before av s = true := by rw [hav]; exact fun w h => hts0 w (List.mem_cons_of_mem _ h)
  have hRf : R.frames = 1 := by rw [hR]; rfl
  have hRl : R.locals = 12 := by rw [hR]; rfl
  have hRc : R.cells = 1 := by rw [hR]; rfl
  have hRs : R.slots = 8 := by rw [hR]; rfl
  clear hR hts0 Bd
  have hl : lv_has ls 1 [(0, .ref a)] := hl
  have hfx : ∀ q ∈ ([(a, .inr (3, [.int (iI v0), .int (iI v1), .null]))] : List (Nat × va_E)), f q.1 = q.2 := fun q hq => by
    simp only [List.mem_cons, List.not_mem_nil, or_false] at hq
    rcases hq with rfl
    · exact ha
  have hmw : mw f [(a, .inr (3, [.int (iI v0), .int (iI v1), .null]))] = f := mw_self (fun k a e hk => hfx (a, e) (List.mem_of_getElem? hk))
  have B := B.focus [(a, .inr (3, [.int (iI v0), .int (iI v1), .null]))] hfx
  refine lv_aload_n hx hb d_Place_init_0 rfl (lv_at hl 0 rfl) ?_
  refine W.objInit hx hb hown (hts _ w_159) (hts _ w_21) (hts _ w_22) rfl (by rw [hml]; exact hl.1) rfl d_Place_init_1 (by rw [hRf]; decide) (by rw [hRl]; exact Nat.le_of_ble_eq_true rfl) ?_
  refine W.eq (g2 := F0 m 4 ls []) rfl ?_
  refine lv_aload_n hx hb d_Place_init_4 rfl (lv_at hl 0 rfl) ?_
  refine x_iconst hx hb d_Place_init_5 ?_
  refine x_put (C := RX3) (T := TX3) (N := 3) hx hb hts inX3 tyX3 tyX3_ok nmX3 hown B hF 0 rfl rfl 0 (by decide) (hts _ w_160) (fun _ h9 => h9) rfl (tyX3_ok 0 (by decide)) rfl rfl (Nat.le_of_ble_eq_true rfl) d_Place_init_6 (fun H locs B => ?_)
  have B : Wb D vwCl (TY cs) L (mw f [(a, .inr (3, [.int (iI 0), .int (iI v1), .null]))]) (AL L s.heap.size) s H _ := B
  refine lv_aload_n hx hb d_Place_init_9 rfl (lv_at hl 0 rfl) ?_
  refine x_iconst hx hb d_Place_init_10 ?_
  refine x_put (C := RX3) (T := TX3) (N := 3) hx hb hts inX3 tyX3 tyX3_ok nmX3 hown B hF 0 rfl rfl 1 (by decide) (hts _ w_163) (fun _ h9 => h9) rfl (tyX3_ok 1 (by decide)) rfl rfl (Nat.le_of_ble_eq_true rfl) d_Place_init_11 (fun H locs B => ?_)
  have B : Wb D vwCl (TY cs) L (mw f [(a, .inr (3, [.int (iI 0), .int (iI 0), .null]))]) (AL L s.heap.size) s H _ := B
  refine lv_aload_n hx hb d_Place_init_14 rfl (lv_at hl 0 rfl) ?_
  refine x_bipush hx hb d_Place_init_15 (by decide) ?_
  refine x_newai hx hb (hts _ w_51) B hF hA 0 rfl 8 rfl (by decide) (by rw [hRc]; omega) (by rw [hRs]; omega) d_Place_init_17 (fun q17 H hq17 hF B => ?_)
  have B : Wb D vwCl (TY cs) (L ++ [q17]) (mw f [(q17, .inl (cs 0, 8, .inl (ai (fun _ => 0)))), (a, .inr (3, [.int (iI 0), .int (iI 0), .null]))]) (AL L s.heap.size) s H _ := B
  have hF : Fc (L ++ [q17]) [q17, a] := hF
  refine x_putF (C := RX3) (T := TX3) (N := 3) hx hb hts inX3 tyX3 tyX3_ok nmX3 hown B hF 1 rfl rfl 2 (by decide) (hts _ w_166) (fun _ h9 => h9) rfl hin rfl (tyX3_ok 2 (by decide)) rfl rfl (Nat.le_of_ble_eq_true rfl) d_Place_init_19 (fun H locs B => ?_)
  have B : Wb D vwCl (TY cs) (L ++ [q17]) (mw f [(q17, .inl (cs 0, 8, .inl (ai (fun _ => 0)))), (a, .inr (3, [.int (iI 0), .int (iI 0), .ref q17]))]) (AL L s.heap.size) s H _ := B
  refine W.widen (k := 1) (n := 8) (by omega) (by omega) ?_
  subst hQ hav
  exact x_vretG hx hb hr hlocks B d_Place_init_22 (⟨q17, hq17, rfl⟩)
