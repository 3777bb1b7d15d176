theorem d_Chain_init_0 : decode prog_3_method_1_code 0 = .ok (.aload_n 0, 1) := by decide +kernel
theorem d_Chain_init_1 : decode prog_3_method_1_code 1 = .ok (.invokespecial 3, 3) := by decide +kernel
theorem d_Chain_init_4 : decode prog_3_method_1_code 4 = .ok (.aload_n 0, 1) := by decide +kernel
theorem d_Chain_init_5 : decode prog_3_method_1_code 5 = .ok (.bipush 42, 2) := by decide +kernel
theorem d_Chain_init_7 : decode prog_3_method_1_code 7 = .ok (.anewarray 11, 3) := by decide +kernel
theorem d_Chain_init_10 : decode prog_3_method_1_code 10 = .ok (.putfield 13, 3) := by decide +kernel
theorem d_Chain_init_13 : decode prog_3_method_1_code 13 = .ok (.aload_n 0, 1) := by decide +kernel
theorem d_Chain_init_14 : decode prog_3_method_1_code 14 = .ok (.bipush 7, 2) := by decide +kernel
theorem d_Chain_init_16 : decode prog_3_method_1_code 16 = .ok (.newarray .int, 2) := by decide +kernel
theorem d_Chain_init_18 : decode prog_3_method_1_code 18 = .ok (.putfield 17, 3) := by decide +kernel
theorem d_Chain_init_21 : decode prog_3_method_1_code 21 = .ok (.aload_n 0, 1) := by decide +kernel
theorem d_Chain_init_22 : decode prog_3_method_1_code 22 = .ok (.iconst 0, 1) := by decide +kernel
theorem d_Chain_init_23 : decode prog_3_method_1_code 23 = .ok (.putfield 21, 3) := by decide +kernel
theorem d_Chain_init_26 : decode prog_3_method_1_code 26 = .ok (.aload_n 0, 1) := by decide +kernel
theorem d_Chain_init_27 : decode prog_3_method_1_code 27 = .ok (.iconst 0, 1) := by decide +kernel
theorem d_Chain_init_28 : decode prog_3_method_1_code 28 = .ok (.putfield 25, 3) := by decide +kernel
theorem d_Chain_init_31 : decode prog_3_method_1_code 31 = .ok (.aload_n 0, 1) := by decide +kernel
theorem d_Chain_init_32 : decode prog_3_method_1_code 32 = .ok (.iconst 0, 1) := by decide +kernel
theorem d_Chain_init_33 : decode prog_3_method_1_code 33 = .ok (.putfield 28, 3) := by decide +kernel
theorem d_Chain_init_36 : decode prog_3_method_1_code 36 = .ok (.aload_n 0, 1) := by decide +kernel
theorem d_Chain_init_37 : decode prog_3_method_1_code 37 = .ok (.new 11, 3) := by decide +kernel
theorem d_Chain_init_40 : decode prog_3_method_1_code 40 = .ok (.dup, 1) := by decide +kernel
theorem d_Chain_init_41 : decode prog_3_method_1_code 41 = .ok (.invokespecial 31, 3) := by decide +kernel
theorem d_Chain_init_44 : decode prog_3_method_1_code 44 = .ok (.putfield 32, 3) := by decide +kernel
theorem d_Chain_init_47 : decode prog_3_method_1_code 47 = .ok (.aload_n 0, 1) := by decide +kernel
theorem d_Chain_init_48 : decode prog_3_method_1_code 48 = .ok (.new 11, 3) := by decide +kernel
theorem d_Chain_init_51 : decode prog_3_method_1_code 51 = .ok (.dup, 1) := by decide +kernel
theorem d_Chain_init_52 : decode prog_3_method_1_code 52 = .ok (.invokespecial 31, 3) := by decide +kernel
theorem d_Chain_init_55 : decode prog_3_method_1_code 55 = .ok (.putfield 36, 3) := by decide +kernel
theorem d_Chain_init_58 : decode prog_3_method_1_code 58 = .ok (.iconst 0, 1) := by decide +kernel
theorem d_Chain_init_59 : decode prog_3_method_1_code 59 = .ok (.istore_n 1, 1) := by decide +kernel
theorem d_Chain_init_60 : decode prog_3_method_1_code 60 = .ok (.iload_n 1, 1) := by decide +kernel
theorem d_Chain_init_61 : decode prog_3_method_1_code 61 = .ok (.aload_n 0, 1) := by decide +kernel
theorem d_Chain_init_62 : decode prog_3_method_1_code 62 = .ok (.getfield 13, 3) := by decide +kernel
theorem d_Chain_init_65 : decode prog_3_method_1_code 65 = .ok (.arraylength, 1) := by decide +kernel
theorem d_Chain_init_66 : decode prog_3_method_1_code 66 = .ok (.if_icmp .ge 22, 3) := by decide +kernel
theorem d_Chain_init_69 : decode prog_3_method_1_code 69 = .ok (.aload_n 0, 1) := by decide +kernel
theorem d_Chain_init_70 : decode prog_3_method_1_code 70 = .ok (.getfield 13, 3) := by decide +kernel
theorem d_Chain_init_73 : decode prog_3_method_1_code 73 = .ok (.iload_n 1, 1) := by decide +kernel
theorem d_Chain_init_74 : decode prog_3_method_1_code 74 = .ok (.new 11, 3) := by decide +kernel
theorem d_Chain_init_77 : decode prog_3_method_1_code 77 = .ok (.dup, 1) := by decide +kernel
theorem d_Chain_init_78 : decode prog_3_method_1_code 78 = .ok (.invokespecial 31, 3) := by decide +kernel
theorem d_Chain_init_81 : decode prog_3_method_1_code 81 = .ok (.aastore, 1) := by decide +kernel
theorem d_Chain_init_82 : decode prog_3_method_1_code 82 = .ok (.iinc 1 1, 3) := by decide +kernel
theorem d_Chain_init_85 : decode prog_3_method_1_code 85 = .ok (.goto (-25), 3) := by decide +kernel
theorem d_Chain_init_88 : decode prog_3_method_1_code 88 = .ok (.return_, 1) := by decide +kernel
def ChainAt (cs : Nat → ClassId) (h : Nat → va_E) (a : Nat) (b : List Nat) : Prop := ∃ (q7 q16 q37 q41b q48 q52b : Nat) (tm : Nat → Nat) (bl : Nat → List Nat), b = q7 :: q16 :: q37 :: q41b :: q48 :: q52b :: (List.range 42).flatMap (fun k => tm k :: bl k) ∧ h a = .inr (1, [.ref q7, .ref q16, .int (iI 0), .int (iI 0), .int (iI 0), .ref q37, .ref q48]) ∧ h q7 = .inl (cs 3, 42, .inr (.inr (.inr (.inr (rfs 42 tm))))) ∧ h q16 = .inl (cs 0, 7, .inl (ai (fun _ => 0))) ∧ h q37 = .inr (0, [.int (iI 0), .int (iI 0), .ref q41b]) ∧ h q41b = .inl (cs 0, 48, .inl (ai (fun _ => 0))) ∧ h q48 = .inr (0, [.int (iI 0), .int (iI 0), .ref q52b]) ∧ h q52b = .inl (cs 0, 48, .inl (ai (fun _ => 0))) ∧ ∀ k, k < 42 → New3 cs 0 48 h (tm k) (bl k)
theorem ChainAt.loc {cs : Nat → ClassId} : ∀ (h h' : Nat → va_E) (x : Nat) (b : List Nat), (∀ r ∈ x :: b, h' r = h r) → ChainAt cs h x b → ChainAt cs h' x b := by
  intro h h' x b hr ⟨q7, q16, q37, q41b, q48, q52b, tm, bl, eb, e0, e1, e2, e3, e4, e5, e6, el⟩
  subst eb
  refine ⟨q7, q16, q37, q41b, q48, q52b, tm, bl, rfl, by rw [hr x (by simp), e0], by rw [hr q7 (by simp), e1], by rw [hr q16 (by simp), e2], by rw [hr q37 (by simp), e3], by rw [hr q41b (by simp), e4], by rw [hr q48 (by simp), e5], by rw [hr q52b (by simp), e6], fun k hk => New3.loc h h' _ _ (fun r hr2 => hr r ?_) (el k hk)⟩
  refine List.mem_cons_of_mem _ (List.mem_cons_of_mem _ (List.mem_cons_of_mem _ (List.mem_cons_of_mem _ (List.mem_cons_of_mem _ (List.mem_cons_of_mem _ (List.mem_cons_of_mem _ (?_)))))))
  exact List.mem_flatMap.mpr ⟨k, List.mem_range.mpr hk, hr2⟩
set_option maxHeartbeats 8000000 in
set_option maxRecDepth 100000 in
theorem c_Chain_init (l : Launch) (D : va_G) (cs : Nat → ClassId) (L : List Nat) (f : Nat → va_E) (sz : Nat) (a : Nat) (v2 v3 v4 : Int) (hF : Fc L [a]) (ha : f a = .inr (1, [.null, .null, .int (iI v2), .int (iI v3), .int (iI v4), .null, .null])) : Met l (⟨"RealRoots$Chain", "<init>", "()V"⟩ : MethodName) (.code (⟨"RealRoots$Chain", "<init>", "()V"⟩ : MethodName) prog_3_method_1_code 2 (Option.none : Option Jvm.ClassFile.FieldType) :: gw) ({ frames := 2, cells := 90, slots := 2293, locals := 32 }) (va_Pc [.ref a] (K0 D vwCl (TY cs) L f sz)) (va_Qv (fun (u : List Nat × (Nat → va_E)) => ∃ b, u.1 = L ++ b ∧ ChainAt cs u.2 a b ∧ ∀ q ∈ L, q ≠ a → u.2 q = f q) (K2 D vwCl (TY cs) (AL L sz)) (AL L sz)) 90 2293 (AL L sz) := by
  refine Met.ofW (cc := prog_3_method_1_code) (maxL := 2) (ret := (Option.none : Option Jvm.ClassFile.FieldType)) (by decide) rfl ?_
  intro p e s m args below meth c s₁ Bd hml hv
  obtain ⟨rfl, hk0⟩ := hv
  obtain ⟨hsz, B⟩ := hk0.start
  subst hsz
  have hx := Bd.exec
  have hb := Bd.bytes
  have hr := Bd.returns
  have hlocks := Bd.notSynchronized
  have hts0 := atoms_spec Bd.pre
  have hown : s.vm.findClass RX1 = some m.cls := findClass_of_methodNamed Bd.named
  have hA : ∀ q, s.heap.size ≤ q → AL L s.heap.size q := fun _ h => Or.inr h
  have hin : meth.name = "<init>" := (name_of_methodNamed Bd.named Bd.method).1
  have hl := lv_entry ([.ref a]) (n := 2) (Nat.le_of_ble_eq_true rfl)
  rw [lg_entry_eq]
  generalize (lg_sl ([.ref a]) ++ List.replicate (2 - (lg_sl ([.ref a])).length) Slot.unset).toArray = ls at hl ⊢
  refine absQ (fun Q R av hQ hR hav => ?_)
  have hts : ∀ w ∈ gw, w.before av s = true := by rw [hav]; exact fun w h => hts0 w (List.mem_cons_of_mem _ h)
  have hRf : R.frames = 2 := by rw [hR]; rfl
  have hRl : R.locals = 32 := by rw [hR]; rfl
  have hRc : R.cells = 90 := by rw [hR]; rfl
  have hRs : R.slots = 2293 := by rw [hR]; rfl
  clear hR hts0 Bd
  have hl : lv_has ls 2 [(0, .ref a)] := hl
  have hF0 := hF
  have hfx : ∀ q ∈ ([(a, .inr (1, [.null, .null, .int (iI v2), .int (iI v3), .int (iI v4), .null, .null]))] : List (Nat × va_E)), f q.1 = q.2 := fun q hq => by
    simp only [List.mem_cons, List.not_mem_nil, or_false] at hq
    rcases hq with rfl
    · exact ha
  have hmw : mw f [(a, .inr (1, [.null, .null, .int (iI v2), .int (iI v3), .int (iI v4), .null, .null]))] = f := mw_self (fun k a e hk => hfx (a, e) (List.mem_of_getElem? hk))
  have B := B.focus [(a, .inr (1, [.null, .null, .int (iI v2), .int (iI v3), .int (iI v4), .null, .null]))] hfx
  refine lv_aload_n hx hb d_Chain_init_0 rfl (lv_at hl 0 rfl) ?_
  refine W.objInit hx hb hown (hts _ w_30) (hts _ w_21) (hts _ w_22) rfl (by rw [hml]; exact hl.1) rfl d_Chain_init_1 (by rw [hRf]; decide) (by rw [hRl]; exact Nat.le_of_ble_eq_true rfl) ?_
  refine W.eq (g2 := F0 m 4 ls []) rfl ?_
  refine lv_aload_n hx hb d_Chain_init_4 rfl (lv_at hl 0 rfl) ?_
  refine x_bipush hx hb d_Chain_init_5 (by decide) ?_
  refine x_newq hx hb hown (hts _ w_31) B.2.2.2.2.2.2.2.2.2.2.2.2.1 B hF hA 3 rfl 42 rfl (by decide) (by rw [hRc]; omega) (by rw [hRs]; omega) d_Chain_init_7 (fun q7 H hq7 hF B => ?_)
  have B : Wb D vwCl (TY cs) (L ++ [q7]) (mw f [(q7, .inl (cs 3, 42, .inr (.inr (.inr (.inr (fun _ => none)))))), (a, .inr (1, [.null, .null, .int (iI v2), .int (iI v3), .int (iI v4), .null, .null]))]) (AL L s.heap.size) s H _ := B
  have hF : Fc (L ++ [q7]) [q7, a] := hF
  refine x_putF (C := RX1) (T := TX1) (N := 7) hx hb hts inX1 tyX1 tyX1_ok nmX1 hown B hF 1 rfl rfl 0 (by decide) (hts _ w_52) (fun _ h9 => h9) rfl hin rfl (tyX1_ok 0 (by decide)) rfl rfl (Nat.le_of_ble_eq_true rfl) d_Chain_init_10 (fun H locs B => ?_)
  have B : Wb D vwCl (TY cs) (L ++ [q7]) (mw f [(q7, .inl (cs 3, 42, .inr (.inr (.inr (.inr (fun _ => none)))))), (a, .inr (1, [.ref q7, .null, .int (iI v2), .int (iI v3), .int (iI v4), .null, .null]))]) (AL L s.heap.size) s H _ := B
  refine lv_aload_n hx hb d_Chain_init_13 rfl (lv_at hl 0 rfl) ?_
  refine x_bipush hx hb d_Chain_init_14 (by decide) ?_
  refine x_newai hx hb (hts _ w_51) B hF hA 0 rfl 7 rfl (by decide) (by rw [hRc]; omega) (by rw [hRs]; omega) d_Chain_init_16 (fun q16 H hq16 hF B => ?_)
  have B : Wb D vwCl (TY cs) (L ++ [q7] ++ [q16]) (mw f [(q16, .inl (cs 0, 7, .inl (ai (fun _ => 0)))), (q7, .inl (cs 3, 42, .inr (.inr (.inr (.inr (fun _ => none)))))), (a, .inr (1, [.ref q7, .null, .int (iI v2), .int (iI v3), .int (iI v4), .null, .null]))]) (AL L s.heap.size) s H _ := B
  have hF : Fc (L ++ [q7] ++ [q16]) [q16, q7, a] := hF
  refine x_putF (C := RX1) (T := TX1) (N := 7) hx hb hts inX1 tyX1 tyX1_ok nmX1 hown B hF 2 rfl rfl 1 (by decide) (hts _ w_53) (fun _ h9 => h9) rfl hin rfl (tyX1_ok 1 (by decide)) rfl rfl (Nat.le_of_ble_eq_true rfl) d_Chain_init_18 (fun H locs B => ?_)
  have B : Wb D vwCl (TY cs) (L ++ [q7] ++ [q16]) (mw f [(q16, .inl (cs 0, 7, .inl (ai (fun _ => 0)))), (q7, .inl (cs 3, 42, .inr (.inr (.inr (.inr (fun _ => none)))))), (a, .inr (1, [.ref q7, .ref q16, .int (iI v2), .int (iI v3), .int (iI v4), .null, .null]))]) (AL L s.heap.size) s H _ := B
  refine lv_aload_n hx hb d_Chain_init_21 rfl (lv_at hl 0 rfl) ?_
  refine x_iconst hx hb d_Chain_init_22 ?_
  refine x_put (C := RX1) (T := TX1) (N := 7) hx hb hts inX1 tyX1 tyX1_ok nmX1 hown B hF 2 rfl rfl 2 (by decide) (hts _ w_54) (fun _ h9 => h9) rfl (tyX1_ok 2 (by decide)) rfl rfl (Nat.le_of_ble_eq_true rfl) d_Chain_init_23 (fun H locs B => ?_)
  have B : Wb D vwCl (TY cs) (L ++ [q7] ++ [q16]) (mw f [(q16, .inl (cs 0, 7, .inl (ai (fun _ => 0)))), (q7, .inl (cs 3, 42, .inr (.inr (.inr (.inr (fun _ => none)))))), (a, .inr (1, [.ref q7, .ref q16, .int (iI 0), .int (iI v3), .int (iI v4), .null, .null]))]) (AL L s.heap.size) s H _ := B
  refine lv_aload_n hx hb d_Chain_init_26 rfl (lv_at hl 0 rfl) ?_
  refine x_iconst hx hb d_Chain_init_27 ?_
  refine x_put (C := RX1) (T := TX1) (N := 7) hx hb hts inX1 tyX1 tyX1_ok nmX1 hown B hF 2 rfl rfl 3 (by decide) (hts _ w_56) (fun _ h9 => h9) rfl (tyX1_ok 3 (by decide)) rfl rfl (Nat.le_of_ble_eq_true rfl) d_Chain_init_28 (fun H locs B => ?_)
  have B : Wb D vwCl (TY cs) (L ++ [q7] ++ [q16]) (mw f [(q16, .inl (cs 0, 7, .inl (ai (fun _ => 0)))), (q7, .inl (cs 3, 42, .inr (.inr (.inr (.inr (fun _ => none)))))), (a, .inr (1, [.ref q7, .ref q16, .int (iI 0), .int (iI 0), .int (iI v4), .null, .null]))]) (AL L s.heap.size) s H _ := B
  refine lv_aload_n hx hb d_Chain_init_31 rfl (lv_at hl 0 rfl) ?_
  refine x_iconst hx hb d_Chain_init_32 ?_
  refine x_put (C := RX1) (T := TX1) (N := 7) hx hb hts inX1 tyX1 tyX1_ok nmX1 hown B hF 2 rfl rfl 4 (by decide) (hts _ w_58) (fun _ h9 => h9) rfl (tyX1_ok 4 (by decide)) rfl rfl (Nat.le_of_ble_eq_true rfl) d_Chain_init_33 (fun H locs B => ?_)
  have B : Wb D vwCl (TY cs) (L ++ [q7] ++ [q16]) (mw f [(q16, .inl (cs 0, 7, .inl (ai (fun _ => 0)))), (q7, .inl (cs 3, 42, .inr (.inr (.inr (.inr (fun _ => none)))))), (a, .inr (1, [.ref q7, .ref q16, .int (iI 0), .int (iI 0), .int (iI 0), .null, .null]))]) (AL L s.heap.size) s H _ := B
  refine lv_aload_n hx hb d_Chain_init_36 rfl (lv_at hl 0 rfl) ?_
  refine x_new (ci := 0) (fs := [.int (iI 0), .int (iI 0), .null]) (C := RX0) (T := TX0) (N := 3) hx hb hts inX0 tyX0 tyX0_ok hown (hts _ w_31) (hts _ w_33) (hts _ w_3) B hF hA rfl (fun j hj => by rcases (show j = 0 ∨ j = 1 ∨ j = 2 by omega) with rfl | rfl | rfl <;> rfl) (by rw [hRc]; omega) (by rw [hRs]; omega) d_Chain_init_37 (fun q37 H hq37 hF B => ?_)
  have B : Wb D vwCl (TY cs) (L ++ [q7] ++ [q16] ++ [q37]) (mw f [(q37, .inr (0, [.int (iI 0), .int (iI 0), .null])), (q16, .inl (cs 0, 7, .inl (ai (fun _ => 0)))), (q7, .inl (cs 3, 42, .inr (.inr (.inr (.inr (fun _ => none)))))), (a, .inr (1, [.ref q7, .ref q16, .int (iI 0), .int (iI 0), .int (iI 0), .null, .null]))]) (AL L s.heap.size) s H _ := B
  have hF : Fc (L ++ [q7] ++ [q16] ++ [q37]) [q37, q16, q7, a] := hF
  refine lv_dup hx hb d_Chain_init_40 rfl ?_
  refine x_callvG B hA (va_runIN (As := []) (rest := [.ref q37, .ref a]) ⟨hx, hb, hml, hown, hts⟩ (c_Big_init l D cs _ _ H.size q37 0 0 hF.hd (mw_get (X := [(q37, .inr (0, [.int (iI 0), .int (iI 0), .null])), (q16, .inl (cs 0, 7, .inl (ai (fun _ => 0)))), (q7, .inl (cs 3, 42, .inr (.inr (.inr (.inr (fun _ => none)))))), (a, .inr (1, [.ref q7, .ref q16, .int (iI 0), .int (iI 0), .int (iI 0), .null, .null]))]) hF.1 (k := 0) rfl)) ⟨va_cnB (host := RX6) 0 hts (gw_cons w_36) rfl rfl rfl (B.2.2.2.2.1) (hts _ w_3) (by decide +kernel) ⟨by rw [hRf]; exact Nat.le_of_ble_eq_true rfl, by rw [hRl]; exact Nat.le_of_ble_eq_true rfl⟩, rfl, hts _ w_35⟩ ⟨K0.blind, B.pre _⟩ rfl rfl hl.1 rfl (lv_room (Nat.le_of_ble_eq_true rfl)) d_Chain_init_41 ⟨by rw [hRc]; omega, by rw [hRs]; omega⟩) (fun u H locs hw B => ?_)
  obtain ⟨q41b, hq41b, rfl⟩ := hw
  have B := B.of_eq (mw_new2 _ _ _ _ _ _ _)
  have B : Wb D vwCl (TY cs) (L ++ [q7] ++ [q16] ++ [q37] ++ [q41b]) (mw f [(q41b, .inl (cs 0, 48, .inl (ai (fun _ => 0)))), (q37, .inr (0, [.int (iI 0), .int (iI 0), .ref q41b])), (q16, .inl (cs 0, 7, .inl (ai (fun _ => 0)))), (q7, .inl (cs 3, 42, .inr (.inr (.inr (.inr (fun _ => none)))))), (a, .inr (1, [.ref q7, .ref q16, .int (iI 0), .int (iI 0), .int (iI 0), .null, .null]))]) (AL L s.heap.size) s H _ := B
  have hF : Fc (L ++ [q7] ++ [q16] ++ [q37] ++ [q41b]) [q41b, q37, q16, q7, a] := hF.push hq41b
  refine x_put (C := RX1) (T := TX1) (N := 7) hx hb hts inX1 tyX1 tyX1_ok nmX1 hown B hF 4 rfl rfl 5 (by decide) (hts _ w_59) (fun _ h9 => h9) rfl (tyX1_ok 5 (by decide)) rfl rfl (Nat.le_of_ble_eq_true rfl) d_Chain_init_44 (fun H locs B => ?_)
  have B : Wb D vwCl (TY cs) (L ++ [q7] ++ [q16] ++ [q37] ++ [q41b]) (mw f [(q41b, .inl (cs 0, 48, .inl (ai (fun _ => 0)))), (q37, .inr (0, [.int (iI 0), .int (iI 0), .ref q41b])), (q16, .inl (cs 0, 7, .inl (ai (fun _ => 0)))), (q7, .inl (cs 3, 42, .inr (.inr (.inr (.inr (fun _ => none)))))), (a, .inr (1, [.ref q7, .ref q16, .int (iI 0), .int (iI 0), .int (iI 0), .ref q37, .null]))]) (AL L s.heap.size) s H _ := B
  refine lv_aload_n hx hb d_Chain_init_47 rfl (lv_at hl 0 rfl) ?_
  refine x_new (ci := 0) (fs := [.int (iI 0), .int (iI 0), .null]) (C := RX0) (T := TX0) (N := 3) hx hb hts inX0 tyX0 tyX0_ok hown (hts _ w_31) (hts _ w_33) (hts _ w_3) B hF hA rfl (fun j hj => by rcases (show j = 0 ∨ j = 1 ∨ j = 2 by omega) with rfl | rfl | rfl <;> rfl) (by rw [hRc]; omega) (by rw [hRs]; omega) d_Chain_init_48 (fun q48 H hq48 hF B => ?_)
  have B : Wb D vwCl (TY cs) (L ++ [q7] ++ [q16] ++ [q37] ++ [q41b] ++ [q48]) (mw f [(q48, .inr (0, [.int (iI 0), .int (iI 0), .null])), (q41b, .inl (cs 0, 48, .inl (ai (fun _ => 0)))), (q37, .inr (0, [.int (iI 0), .int (iI 0), .ref q41b])), (q16, .inl (cs 0, 7, .inl (ai (fun _ => 0)))), (q7, .inl (cs 3, 42, .inr (.inr (.inr (.inr (fun _ => none)))))), (a, .inr (1, [.ref q7, .ref q16, .int (iI 0), .int (iI 0), .int (iI 0), .ref q37, .null]))]) (AL L s.heap.size) s H _ := B
  have hF : Fc (L ++ [q7] ++ [q16] ++ [q37] ++ [q41b] ++ [q48]) [q48, q41b, q37, q16, q7, a] := hF
  refine lv_dup hx hb d_Chain_init_51 rfl ?_
  refine x_callvG B hA (va_runIN (As := []) (rest := [.ref q48, .ref a]) ⟨hx, hb, hml, hown, hts⟩ (c_Big_init l D cs _ _ H.size q48 0 0 hF.hd (mw_get (X := [(q48, .inr (0, [.int (iI 0), .int (iI 0), .null])), (q41b, .inl (cs 0, 48, .inl (ai (fun _ => 0)))), (q37, .inr (0, [.int (iI 0), .int (iI 0), .ref q41b])), (q16, .inl (cs 0, 7, .inl (ai (fun _ => 0)))), (q7, .inl (cs 3, 42, .inr (.inr (.inr (.inr (fun _ => none)))))), (a, .inr (1, [.ref q7, .ref q16, .int (iI 0), .int (iI 0), .int (iI 0), .ref q37, .null]))]) hF.1 (k := 0) rfl)) ⟨va_cnB (host := RX6) 0 hts (gw_cons w_36) rfl rfl rfl (B.2.2.2.2.1) (hts _ w_3) (by decide +kernel) ⟨by rw [hRf]; exact Nat.le_of_ble_eq_true rfl, by rw [hRl]; exact Nat.le_of_ble_eq_true rfl⟩, rfl, hts _ w_35⟩ ⟨K0.blind, B.pre _⟩ rfl rfl hl.1 rfl (lv_room (Nat.le_of_ble_eq_true rfl)) d_Chain_init_52 ⟨by rw [hRc]; omega, by rw [hRs]; omega⟩) (fun u H locs hw B => ?_)
  obtain ⟨q52b, hq52b, rfl⟩ := hw
  have B := B.of_eq (mw_new2 _ _ _ _ _ _ _)
  have B : Wb D vwCl (TY cs) (L ++ [q7] ++ [q16] ++ [q37] ++ [q41b] ++ [q48] ++ [q52b]) (mw f [(q52b, .inl (cs 0, 48, .inl (ai (fun _ => 0)))), (q48, .inr (0, [.int (iI 0), .int (iI 0), .ref q52b])), (q41b, .inl (cs 0, 48, .inl (ai (fun _ => 0)))), (q37, .inr (0, [.int (iI 0), .int (iI 0), .ref q41b])), (q16, .inl (cs 0, 7, .inl (ai (fun _ => 0)))), (q7, .inl (cs 3, 42, .inr (.inr (.inr (.inr (fun _ => none)))))), (a, .inr (1, [.ref q7, .ref q16, .int (iI 0), .int (iI 0), .int (iI 0), .ref q37, .null]))]) (AL L s.heap.size) s H _ := B
  have hF : Fc (L ++ [q7] ++ [q16] ++ [q37] ++ [q41b] ++ [q48] ++ [q52b]) [q52b, q48, q41b, q37, q16, q7, a] := hF.push hq52b
  refine x_putF (C := RX1) (T := TX1) (N := 7) hx hb hts inX1 tyX1 tyX1_ok nmX1 hown B hF 6 rfl rfl 6 (by decide) (hts _ w_60) (fun _ h9 => h9) rfl hin rfl (tyX1_ok 6 (by decide)) rfl rfl (Nat.le_of_ble_eq_true rfl) d_Chain_init_55 (fun H locs B => ?_)
  have B : Wb D vwCl (TY cs) (L ++ [q7] ++ [q16] ++ [q37] ++ [q41b] ++ [q48] ++ [q52b]) (mw f [(q52b, .inl (cs 0, 48, .inl (ai (fun _ => 0)))), (q48, .inr (0, [.int (iI 0), .int (iI 0), .ref q52b])), (q41b, .inl (cs 0, 48, .inl (ai (fun _ => 0)))), (q37, .inr (0, [.int (iI 0), .int (iI 0), .ref q41b])), (q16, .inl (cs 0, 7, .inl (ai (fun _ => 0)))), (q7, .inl (cs 3, 42, .inr (.inr (.inr (.inr (fun _ => none)))))), (a, .inr (1, [.ref q7, .ref q16, .int (iI 0), .int (iI 0), .int (iI 0), .ref q37, .ref q48]))]) (AL L s.heap.size) s H _ := B
  refine x_iconst hx hb d_Chain_init_58 ?_
  refine lv_istore_n (lv' := [(1, .int (iI 0)), (0, .ref a)]) hx hb d_Chain_init_59 rfl hl (by decide) rfl (fun ls hl => ?_)
  have LOOP : ∀ (k n : Nat) (tm : Nat → Nat) (bl : Nat → List Nat) (L' : List Nat) (h : Nat → va_E), n + k = 42 → Fill (L ++ [q7] ++ [q16] ++ [q37] ++ [q41b] ++ [q48] ++ [q52b]) f (New3 cs 0 48) n tm bl L' h → Fc L' [q52b, q48, q41b, q37, q16, q7, a] → ∀ (H : Heap) (locs : List Loc) (ls : Array Slot), Wb D vwCl (TY cs) L' (mw h [(q52b, .inl (cs 0, 48, .inl (ai (fun _ => 0)))), (q48, .inr (0, [.int (iI 0), .int (iI 0), .ref q52b])), (q41b, .inl (cs 0, 48, .inl (ai (fun _ => 0)))), (q37, .inr (0, [.int (iI 0), .int (iI 0), .ref q41b])), (q16, .inl (cs 0, 7, .inl (ai (fun _ => 0)))), (q7, .inl (cs 3, 42, .inr (.inr (.inr (.inr (rfs n tm)))))), (a, .inr (1, [.ref q7, .ref q16, .int (iI 0), .int (iI 0), .int (iI 0), .ref q37, .ref q48]))]) (AL L s.heap.size) s H locs → lv_has ls 2 [(1, .int (iI ((n : Int)))), (0, .ref a)] → W p l e R s m av below meth c H locs (6 + 2 * n) (151 + 51 * n) Q (F0 m 60 ls []) := by
    intro k
    induction k with
    | zero =>
      intro n tm bl L' h hn hFi hF H locs ls B hl
      have hn : n = 42 := by omega
      refine lv_iload_n hx hb d_Chain_init_60 rfl (lv_at hl 0 rfl) ?_
      refine lv_aload_n hx hb d_Chain_init_61 rfl (lv_at hl 1 rfl) ?_
      refine x_get (C := RX1) (T := TX1) (N := 7) hx hb hts inX1 hown B hF 6 rfl rfl 0 (by decide) (hts _ w_52) (fun _ h9 => h9) rfl d_Chain_init_62 ?_
      refine x_alen hx hb B hF 5 3 rfl rfl d_Chain_init_65 ?_
      refine x_icmp_ge (tgt := 88) hx hb d_Chain_init_66 (by decide) (by omega) (by omega) (fun h66 => ?_) (fun h66 => ?_)
      · refine W.widen (k := 90) (n := 2293) (by omega) (by omega) ?_
        subst hQ hav
        exact x_vretG hx hb hr hlocks B d_Chain_init_88 (by
      subst hn
      have hnd := B.nodup
      have hk : ∀ (k r : Nat), k < 42 → r ∈ tm k :: bl k → r ∉ [q52b, q48, q41b, q37, q16, q7, a] := fun k r hk hr hx => hFi.out hnd hk hr (by
        simp only [List.mem_cons, List.not_mem_nil, or_false] at hx
        rcases hx with rfl | rfl | rfl | rfl | rfl | rfl | rfl
        · simp
        · simp
        · simp
        · simp
        · simp
        · simp
        · simp [hF0.2 _ List.mem_cons_self])
      show ∃ b, L' = L ++ b ∧ ChainAt cs (mw h [(q52b, .inl (cs 0, 48, .inl (ai (fun _ => 0)))), (q48, .inr (0, [.int (iI 0), .int (iI 0), .ref q52b])), (q41b, .inl (cs 0, 48, .inl (ai (fun _ => 0)))), (q37, .inr (0, [.int (iI 0), .int (iI 0), .ref q41b])), (q16, .inl (cs 0, 7, .inl (ai (fun _ => 0)))), (q7, .inl (cs 3, 42, .inr (.inr (.inr (.inr (rfs 42 tm)))))), (a, .inr (1, [.ref q7, .ref q16, .int (iI 0), .int (iI 0), .int (iI 0), .ref q37, .ref q48]))]) a b ∧ ∀ q ∈ L, q ≠ a → mw h [(q52b, .inl (cs 0, 48, .inl (ai (fun _ => 0)))), (q48, .inr (0, [.int (iI 0), .int (iI 0), .ref q52b])), (q41b, .inl (cs 0, 48, .inl (ai (fun _ => 0)))), (q37, .inr (0, [.int (iI 0), .int (iI 0), .ref q41b])), (q16, .inl (cs 0, 7, .inl (ai (fun _ => 0)))), (q7, .inl (cs 3, 42, .inr (.inr (.inr (.inr (rfs 42 tm)))))), (a, .inr (1, [.ref q7, .ref q16, .int (iI 0), .int (iI 0), .int (iI 0), .ref q37, .ref q48]))] q = f q
      refine ⟨_, by rw [hFi.1]; simp only [List.append_assoc, List.cons_append, List.nil_append], ⟨q7, q16, q37, q41b, q48, q52b, tm, bl, rfl, mw_get (X := [(q52b, .inl (cs 0, 48, .inl (ai (fun _ => 0)))), (q48, .inr (0, [.int (iI 0), .int (iI 0), .ref q52b])), (q41b, .inl (cs 0, 48, .inl (ai (fun _ => 0)))), (q37, .inr (0, [.int (iI 0), .int (iI 0), .ref q41b])), (q16, .inl (cs 0, 7, .inl (ai (fun _ => 0)))), (q7, .inl (cs 3, 42, .inr (.inr (.inr (.inr (rfs 42 tm)))))), (a, .inr (1, [.ref q7, .ref q16, .int (iI 0), .int (iI 0), .int (iI 0), .ref q37, .ref q48]))]) hF.1 (k := 6) rfl, mw_get (X := [(q52b, .inl (cs 0, 48, .inl (ai (fun _ => 0)))), (q48, .inr (0, [.int (iI 0), .int (iI 0), .ref q52b])), (q41b, .inl (cs 0, 48, .inl (ai (fun _ => 0)))), (q37, .inr (0, [.int (iI 0), .int (iI 0), .ref q41b])), (q16, .inl (cs 0, 7, .inl (ai (fun _ => 0)))), (q7, .inl (cs 3, 42, .inr (.inr (.inr (.inr (rfs 42 tm)))))), (a, .inr (1, [.ref q7, .ref q16, .int (iI 0), .int (iI 0), .int (iI 0), .ref q37, .ref q48]))]) hF.1 (k := 5) rfl, mw_get (X := [(q52b, .inl (cs 0, 48, .inl (ai (fun _ => 0)))), (q48, .inr (0, [.int (iI 0), .int (iI 0), .ref q52b])), (q41b, .inl (cs 0, 48, .inl (ai (fun _ => 0)))), (q37, .inr (0, [.int (iI 0), .int (iI 0), .ref q41b])), (q16, .inl (cs 0, 7, .inl (ai (fun _ => 0)))), (q7, .inl (cs 3, 42, .inr (.inr (.inr (.inr (rfs 42 tm)))))), (a, .inr (1, [.ref q7, .ref q16, .int (iI 0), .int (iI 0), .int (iI 0), .ref q37, .ref q48]))]) hF.1 (k := 4) rfl, mw_get (X := [(q52b, .inl (cs 0, 48, .inl (ai (fun _ => 0)))), (q48, .inr (0, [.int (iI 0), .int (iI 0), .ref q52b])), (q41b, .inl (cs 0, 48, .inl (ai (fun _ => 0)))), (q37, .inr (0, [.int (iI 0), .int (iI 0), .ref q41b])), (q16, .inl (cs 0, 7, .inl (ai (fun _ => 0)))), (q7, .inl (cs 3, 42, .inr (.inr (.inr (.inr (rfs 42 tm)))))), (a, .inr (1, [.ref q7, .ref q16, .int (iI 0), .int (iI 0), .int (iI 0), .ref q37, .ref q48]))]) hF.1 (k := 3) rfl, mw_get (X := [(q52b, .inl (cs 0, 48, .inl (ai (fun _ => 0)))), (q48, .inr (0, [.int (iI 0), .int (iI 0), .ref q52b])), (q41b, .inl (cs 0, 48, .inl (ai (fun _ => 0)))), (q37, .inr (0, [.int (iI 0), .int (iI 0), .ref q41b])), (q16, .inl (cs 0, 7, .inl (ai (fun _ => 0)))), (q7, .inl (cs 3, 42, .inr (.inr (.inr (.inr (rfs 42 tm)))))), (a, .inr (1, [.ref q7, .ref q16, .int (iI 0), .int (iI 0), .int (iI 0), .ref q37, .ref q48]))]) hF.1 (k := 2) rfl, mw_get (X := [(q52b, .inl (cs 0, 48, .inl (ai (fun _ => 0)))), (q48, .inr (0, [.int (iI 0), .int (iI 0), .ref q52b])), (q41b, .inl (cs 0, 48, .inl (ai (fun _ => 0)))), (q37, .inr (0, [.int (iI 0), .int (iI 0), .ref q41b])), (q16, .inl (cs 0, 7, .inl (ai (fun _ => 0)))), (q7, .inl (cs 3, 42, .inr (.inr (.inr (.inr (rfs 42 tm)))))), (a, .inr (1, [.ref q7, .ref q16, .int (iI 0), .int (iI 0), .int (iI 0), .ref q37, .ref q48]))]) hF.1 (k := 1) rfl, mw_get (X := [(q52b, .inl (cs 0, 48, .inl (ai (fun _ => 0)))), (q48, .inr (0, [.int (iI 0), .int (iI 0), .ref q52b])), (q41b, .inl (cs 0, 48, .inl (ai (fun _ => 0)))), (q37, .inr (0, [.int (iI 0), .int (iI 0), .ref q41b])), (q16, .inl (cs 0, 7, .inl (ai (fun _ => 0)))), (q7, .inl (cs 3, 42, .inr (.inr (.inr (.inr (rfs 42 tm)))))), (a, .inr (1, [.ref q7, .ref q16, .int (iI 0), .int (iI 0), .int (iI 0), .ref q37, .ref q48]))]) hF.1 (k := 0) rfl, fun k hk2 => New3.loc h _ _ _ (fun r hr => mw_out (hk k r hk2 hr)) (hFi.2.2 k hk2)⟩, fun q hq hqa => ?_⟩
      rw [mw_out (fun hx => ?_), hFi.2.1 q (by simp [hq])]
      have hx : q ∈ [q52b, q48, q41b, q37, q16, q7, a] := hx
      simp only [List.mem_cons, List.not_mem_nil, or_false] at hx
      rcases hx with rfl | rfl | rfl | rfl | rfl | rfl | rfl
      · exact hq52b (by simp [hq])
      · exact hq48 (by simp [hq])
      · exact hq41b (by simp [hq])
      · exact hq37 (by simp [hq])
      · exact hq16 (by simp [hq])
      · exact hq7 (by simp [hq])
      · exact hqa rfl)
      · exfalso; omega
    | succ k ih =>
      intro n tm bl L' h hn hFi hF H locs ls B hl
      refine lv_iload_n hx hb d_Chain_init_60 rfl (lv_at hl 0 rfl) ?_
      refine lv_aload_n hx hb d_Chain_init_61 rfl (lv_at hl 1 rfl) ?_
      refine x_get (C := RX1) (T := TX1) (N := 7) hx hb hts inX1 hown B hF 6 rfl rfl 0 (by decide) (hts _ w_52) (fun _ h9 => h9) rfl d_Chain_init_62 ?_
      refine x_alen hx hb B hF 5 3 rfl rfl d_Chain_init_65 ?_
      refine x_icmp_ge (tgt := 88) hx hb d_Chain_init_66 (by decide) (by omega) (by omega) (fun h66 => ?_) (fun h66 => ?_)
      · exfalso; omega
      · refine lv_aload_n hx hb d_Chain_init_69 rfl (lv_at hl 1 rfl) ?_
        refine x_get (C := RX1) (T := TX1) (N := 7) hx hb hts inX1 hown B hF 6 rfl rfl 0 (by decide) (hts _ w_52) (fun _ h9 => h9) rfl d_Chain_init_70 ?_
        refine lv_iload_n hx hb d_Chain_init_73 rfl (lv_at hl 0 rfl) ?_
        refine x_new (ci := 0) (fs := [.int (iI 0), .int (iI 0), .null]) (C := RX0) (T := TX0) (N := 3) hx hb hts inX0 tyX0 tyX0_ok hown (hts _ w_31) (hts _ w_33) (hts _ w_3) B hF hA rfl (fun j hj => by rcases (show j = 0 ∨ j = 1 ∨ j = 2 by omega) with rfl | rfl | rfl <;> rfl) (by rw [hRc]; omega) (by rw [hRs]; omega) d_Chain_init_74 (fun q74 H hq74 hF B => ?_)
        have B : Wb D vwCl (TY cs) (L' ++ [q74]) (mw h [(q74, .inr (0, [.int (iI 0), .int (iI 0), .null])), (q52b, .inl (cs 0, 48, .inl (ai (fun _ => 0)))), (q48, .inr (0, [.int (iI 0), .int (iI 0), .ref q52b])), (q41b, .inl (cs 0, 48, .inl (ai (fun _ => 0)))), (q37, .inr (0, [.int (iI 0), .int (iI 0), .ref q41b])), (q16, .inl (cs 0, 7, .inl (ai (fun _ => 0)))), (q7, .inl (cs 3, 42, .inr (.inr (.inr (.inr (rfs n tm)))))), (a, .inr (1, [.ref q7, .ref q16, .int (iI 0), .int (iI 0), .int (iI 0), .ref q37, .ref q48]))]) (AL L s.heap.size) s H _ := B
        have hF : Fc (L' ++ [q74]) [q74, q52b, q48, q41b, q37, q16, q7, a] := hF
        refine lv_dup hx hb d_Chain_init_77 rfl ?_
        refine x_callvG B hA (va_runIN (As := []) (rest := [.ref q74, .int (iI ((n : Int))), .ref q7]) ⟨hx, hb, hml, hown, hts⟩ (c_Big_init l D cs _ _ H.size q74 0 0 hF.hd (mw_get (X := [(q74, .inr (0, [.int (iI 0), .int (iI 0), .null])), (q52b, .inl (cs 0, 48, .inl (ai (fun _ => 0)))), (q48, .inr (0, [.int (iI 0), .int (iI 0), .ref q52b])), (q41b, .inl (cs 0, 48, .inl (ai (fun _ => 0)))), (q37, .inr (0, [.int (iI 0), .int (iI 0), .ref q41b])), (q16, .inl (cs 0, 7, .inl (ai (fun _ => 0)))), (q7, .inl (cs 3, 42, .inr (.inr (.inr (.inr (rfs n tm)))))), (a, .inr (1, [.ref q7, .ref q16, .int (iI 0), .int (iI 0), .int (iI 0), .ref q37, .ref q48]))]) hF.1 (k := 0) rfl)) ⟨va_cnB (host := RX6) 0 hts (gw_cons w_36) rfl rfl rfl (B.2.2.2.2.1) (hts _ w_3) (by decide +kernel) ⟨by rw [hRf]; exact Nat.le_of_ble_eq_true rfl, by rw [hRl]; exact Nat.le_of_ble_eq_true rfl⟩, rfl, hts _ w_35⟩ ⟨K0.blind, B.pre _⟩ rfl rfl hl.1 rfl (lv_room (Nat.le_of_ble_eq_true rfl)) d_Chain_init_78 ⟨by rw [hRc]; omega, by rw [hRs]; omega⟩) (fun u H locs hw B => ?_)
        obtain ⟨q78b, hq78b, rfl⟩ := hw
        have B := B.of_eq (mw_new2 _ _ _ _ _ _ _)
        have B : Wb D vwCl (TY cs) (L' ++ [q74] ++ [q78b]) (mw h [(q78b, .inl (cs 0, 48, .inl (ai (fun _ => 0)))), (q74, .inr (0, [.int (iI 0), .int (iI 0), .ref q78b])), (q52b, .inl (cs 0, 48, .inl (ai (fun _ => 0)))), (q48, .inr (0, [.int (iI 0), .int (iI 0), .ref q52b])), (q41b, .inl (cs 0, 48, .inl (ai (fun _ => 0)))), (q37, .inr (0, [.int (iI 0), .int (iI 0), .ref q41b])), (q16, .inl (cs 0, 7, .inl (ai (fun _ => 0)))), (q7, .inl (cs 3, 42, .inr (.inr (.inr (.inr (rfs n tm)))))), (a, .inr (1, [.ref q7, .ref q16, .int (iI 0), .int (iI 0), .int (iI 0), .ref q37, .ref q48]))]) (AL L s.heap.size) s H _ := B
        have hF : Fc (L' ++ [q74] ++ [q78b]) [q78b, q74, q52b, q48, q41b, q37, q16, q7, a] := hF.push hq78b
        refine x_aast hx hb B hF 7 3 0 rfl rfl (hF.2 _ (mw_key (k := 1) (X := [(q78b, .inl (cs 0, 48, .inl (ai (fun _ => 0)))), (q74, .inr (0, [.int (iI 0), .int (iI 0), .ref q78b])), (q52b, .inl (cs 0, 48, .inl (ai (fun _ => 0)))), (q48, .inr (0, [.int (iI 0), .int (iI 0), .ref q52b])), (q41b, .inl (cs 0, 48, .inl (ai (fun _ => 0)))), (q37, .inr (0, [.int (iI 0), .int (iI 0), .ref q41b])), (q16, .inl (cs 0, 7, .inl (ai (fun _ => 0)))), (q7, .inl (cs 3, 42, .inr (.inr (.inr (.inr (rfs n tm)))))), (a, .inr (1, [.ref q7, .ref q16, .int (iI 0), .int (iI 0), .int (iI 0), .ref q37, .ref q48]))]) rfl)) (mw_get (X := [(q78b, .inl (cs 0, 48, .inl (ai (fun _ => 0)))), (q74, .inr (0, [.int (iI 0), .int (iI 0), .ref q78b])), (q52b, .inl (cs 0, 48, .inl (ai (fun _ => 0)))), (q48, .inr (0, [.int (iI 0), .int (iI 0), .ref q52b])), (q41b, .inl (cs 0, 48, .inl (ai (fun _ => 0)))), (q37, .inr (0, [.int (iI 0), .int (iI 0), .ref q41b])), (q16, .inl (cs 0, 7, .inl (ai (fun _ => 0)))), (q7, .inl (cs 3, 42, .inr (.inr (.inr (.inr (rfs n tm)))))), (a, .inr (1, [.ref q7, .ref q16, .int (iI 0), .int (iI 0), .int (iI 0), .ref q37, .ref q48]))]) hF.1 (k := 1) rfl) rfl n (rfl) (by omega) (by decide) d_Chain_init_81 (fun H locs B => ?_)
        have B : Wb D vwCl (TY cs) (L' ++ [q74] ++ [q78b]) (mw h [(q78b, .inl (cs 0, 48, .inl (ai (fun _ => 0)))), (q74, .inr (0, [.int (iI 0), .int (iI 0), .ref q78b])), (q52b, .inl (cs 0, 48, .inl (ai (fun _ => 0)))), (q48, .inr (0, [.int (iI 0), .int (iI 0), .ref q52b])), (q41b, .inl (cs 0, 48, .inl (ai (fun _ => 0)))), (q37, .inr (0, [.int (iI 0), .int (iI 0), .ref q41b])), (q16, .inl (cs 0, 7, .inl (ai (fun _ => 0)))), (q7, .inl (cs 3, 42, .inr (.inr (.inr (.inr (va_up (rfs n tm) n (some q74))))))), (a, .inr (1, [.ref q7, .ref q16, .int (iI 0), .int (iI 0), .int (iI 0), .ref q37, .ref q48]))]) (AL L s.heap.size) s H _ := B
        refine x_iinc (lv' := [(1, .int (iI (((n : Int)) + 1))), (0, .ref a)]) hx hb d_Chain_init_82 hl (q := 0) rfl rfl (by decide) rfl (fun ls hl => ?_)
        refine lv_goto (tgt := 60) hx hb d_Chain_init_85 (by decide) ?_
        have hB2 := B.of_eq (mw_swap (f := h) (Y := [(q78b, .inl (cs 0, 48, .inl (ai (fun _ => 0)))), (q74, .inr (0, [.int (iI 0), .int (iI 0), .ref q78b]))]) (X := [(q52b, .inl (cs 0, 48, .inl (ai (fun _ => 0)))), (q48, .inr (0, [.int (iI 0), .int (iI 0), .ref q52b])), (q41b, .inl (cs 0, 48, .inl (ai (fun _ => 0)))), (q37, .inr (0, [.int (iI 0), .int (iI 0), .ref q41b])), (q16, .inl (cs 0, 7, .inl (ai (fun _ => 0)))), (q7, .inl (cs 3, 42, .inr (.inr (.inr (.inr (va_up (rfs n tm) n (some q74))))))), (a, .inr (1, [.ref q7, .ref q16, .int (iI 0), .int (iI 0), .int (iI 0), .ref q37, .ref q48]))]) (fun x hx hx2 => by have hnd := hF.1; have h1 := List.nodup_cons.mp hnd; have h2 := List.nodup_cons.mp h1.2; simp only [List.map_cons, List.map_nil, List.mem_cons, List.not_mem_nil, or_false] at hx; rcases hx with rfl | rfl; exact h1.1 (List.mem_cons_of_mem _ hx2); exact h2.1 hx2))
        rw [rfs_step] at hB2
        have hq0 : ∀ r ∈ L', mw h [(q78b, .inl (cs 0, 48, .inl (ai (fun _ => 0)))), (q74, .inr (0, [.int (iI 0), .int (iI 0), .ref q78b]))] r = h r := fun r hr => mw_out (fun hx => by simp only [List.map_cons, List.map_nil, List.mem_cons, List.not_mem_nil, or_false] at hx; rcases hx with rfl | rfl; exact hq78b (List.mem_append_left _ hr); exact hq74 hr)
        have hnd2 : ([q78b, q74] : List Nat).Nodup := List.nodup_cons.mpr ⟨fun hh => (List.nodup_cons.mp hF.1).1 (by rw [List.mem_singleton] at hh; rw [hh]; exact List.mem_cons_self), by simp⟩
        have hFi2 := hFi.step New3.loc hq0 (q := q74) (b := [q78b]) ⟨q78b, rfl, mw_get (X := [(q78b, .inl (cs 0, 48, .inl (ai (fun _ => 0)))), (q74, .inr (0, [.int (iI 0), .int (iI 0), .ref q78b]))]) hnd2 (k := 1) rfl, mw_get (X := [(q78b, .inl (cs 0, 48, .inl (ai (fun _ => 0)))), (q74, .inr (0, [.int (iI 0), .int (iI 0), .ref q78b]))]) hnd2 (k := 0) rfl⟩
        have hF2 : Fc (L' ++ (q74 :: [q78b])) _ := (by simpa using hF.tail.tail : Fc (L' ++ (q74 :: [q78b])) [q52b, q48, q41b, q37, q16, q7, a])
        have hB3 : Wb D vwCl (TY cs) (L' ++ (q74 :: [q78b])) _ (AL L s.heap.size) s H locs := (by rw [List.append_assoc] at hB2; exact hB2)
        refine W.widen (k := 6 + 2 * (n + 1)) (n := 151 + 51 * (n + 1)) (by omega) (by omega) ?_
        exact ih (n + 1) _ _ _ _ (by omega) hFi2 hF2 _ _ _ hB3 (lv_sub hl [0, 1] rfl)
  have B := B.of_eq (show mw f [(q52b, .inl (cs 0, 48, .inl (ai (fun _ => 0)))), (q48, .inr (0, [.int (iI 0), .int (iI 0), .ref q52b])), (q41b, .inl (cs 0, 48, .inl (ai (fun _ => 0)))), (q37, .inr (0, [.int (iI 0), .int (iI 0), .ref q41b])), (q16, .inl (cs 0, 7, .inl (ai (fun _ => 0)))), (q7, .inl (cs 3, 42, .inr (.inr (.inr (.inr (fun _ => none)))))), (a, .inr (1, [.ref q7, .ref q16, .int (iI 0), .int (iI 0), .int (iI 0), .ref q37, .ref q48]))] = mw f [(q52b, .inl (cs 0, 48, .inl (ai (fun _ => 0)))), (q48, .inr (0, [.int (iI 0), .int (iI 0), .ref q52b])), (q41b, .inl (cs 0, 48, .inl (ai (fun _ => 0)))), (q37, .inr (0, [.int (iI 0), .int (iI 0), .ref q41b])), (q16, .inl (cs 0, 7, .inl (ai (fun _ => 0)))), (q7, .inl (cs 3, 42, .inr (.inr (.inr (.inr (rfs 0 (fun _ => 0))))))), (a, .inr (1, [.ref q7, .ref q16, .int (iI 0), .int (iI 0), .int (iI 0), .ref q37, .ref q48]))] by rw [rfs_zero])
  exact LOOP 42 0 (fun _ => 0) (fun _ => []) _ _ (by omega) Fill.zero hF _ _ _ B (lv_sub hl [0, 1] rfl)
