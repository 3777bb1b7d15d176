theorem d_RR_init_0 : decode prog_1_method_1_code 0 = .ok (.aload_n 0, 1) := by decide +kernel
theorem d_RR_init_1 : decode prog_1_method_1_code 1 = .ok (.invokespecial 1, 3) := by decide +kernel
theorem d_RR_init_4 : decode prog_1_method_1_code 4 = .ok (.aload_n 0, 1) := by decide +kernel
theorem d_RR_init_5 : decode prog_1_method_1_code 5 = .ok (.bipush 12, 2) := by decide +kernel
theorem d_RR_init_7 : decode prog_1_method_1_code 7 = .ok (.anewarray 9, 3) := by decide +kernel
theorem d_RR_init_10 : decode prog_1_method_1_code 10 = .ok (.putfield 11, 3) := by decide +kernel
theorem d_RR_init_13 : decode prog_1_method_1_code 13 = .ok (.aload_n 0, 1) := by decide +kernel
theorem d_RR_init_14 : decode prog_1_method_1_code 14 = .ok (.iconst 0, 1) := by decide +kernel
theorem d_RR_init_15 : decode prog_1_method_1_code 15 = .ok (.putfield 15, 3) := by decide +kernel
theorem d_RR_init_18 : decode prog_1_method_1_code 18 = .ok (.aload_n 0, 1) := by decide +kernel
theorem d_RR_init_19 : decode prog_1_method_1_code 19 = .ok (.new 19, 3) := by decide +kernel
theorem d_RR_init_22 : decode prog_1_method_1_code 22 = .ok (.dup, 1) := by decide +kernel
theorem d_RR_init_23 : decode prog_1_method_1_code 23 = .ok (.invokespecial 21, 3) := by decide +kernel
theorem d_RR_init_26 : decode prog_1_method_1_code 26 = .ok (.putfield 22, 3) := by decide +kernel
theorem d_RR_init_29 : decode prog_1_method_1_code 29 = .ok (.aload_n 0, 1) := by decide +kernel
theorem d_RR_init_30 : decode prog_1_method_1_code 30 = .ok (.new 26, 3) := by decide +kernel
theorem d_RR_init_33 : decode prog_1_method_1_code 33 = .ok (.dup, 1) := by decide +kernel
theorem d_RR_init_34 : decode prog_1_method_1_code 34 = .ok (.invokespecial 28, 3) := by decide +kernel
theorem d_RR_init_37 : decode prog_1_method_1_code 37 = .ok (.putfield 29, 3) := by decide +kernel
theorem d_RR_init_40 : decode prog_1_method_1_code 40 = .ok (.aload_n 0, 1) := by decide +kernel
theorem d_RR_init_41 : decode prog_1_method_1_code 41 = .ok (.new 33, 3) := by decide +kernel
theorem d_RR_init_44 : decode prog_1_method_1_code 44 = .ok (.dup, 1) := by decide +kernel
theorem d_RR_init_45 : decode prog_1_method_1_code 45 = .ok (.invokespecial 35, 3) := by decide +kernel
theorem d_RR_init_48 : decode prog_1_method_1_code 48 = .ok (.putfield 36, 3) := by decide +kernel
theorem d_RR_init_51 : decode prog_1_method_1_code 51 = .ok (.aload_n 0, 1) := by decide +kernel
theorem d_RR_init_52 : decode prog_1_method_1_code 52 = .ok (.bipush 12, 2) := by decide +kernel
theorem d_RR_init_54 : decode prog_1_method_1_code 54 = .ok (.newarray .long, 2) := by decide +kernel
theorem d_RR_init_56 : decode prog_1_method_1_code 56 = .ok (.putfield 40, 3) := by decide +kernel
theorem d_RR_init_59 : decode prog_1_method_1_code 59 = .ok (.aload_n 0, 1) := by decide +kernel
theorem d_RR_init_60 : decode prog_1_method_1_code 60 = .ok (.bipush 6, 2) := by decide +kernel
theorem d_RR_init_62 : decode prog_1_method_1_code 62 = .ok (.newarray .int, 2) := by decide +kernel
theorem d_RR_init_64 : decode prog_1_method_1_code 64 = .ok (.putfield 44, 3) := by decide +kernel
theorem d_RR_init_67 : decode prog_1_method_1_code 67 = .ok (.aload_n 0, 1) := by decide +kernel
theorem d_RR_init_68 : decode prog_1_method_1_code 68 = .ok (.bipush 6, 2) := by decide +kernel
theorem d_RR_init_70 : decode prog_1_method_1_code 70 = .ok (.newarray .int, 2) := by decide +kernel
theorem d_RR_init_72 : decode prog_1_method_1_code 72 = .ok (.putfield 48, 3) := by decide +kernel
theorem d_RR_init_75 : decode prog_1_method_1_code 75 = .ok (.aload_n 0, 1) := by decide +kernel
theorem d_RR_init_76 : decode prog_1_method_1_code 76 = .ok (.iconst 5, 1) := by decide +kernel
theorem d_RR_init_77 : decode prog_1_method_1_code 77 = .ok (.newarray .int, 2) := by decide +kernel
theorem d_RR_init_79 : decode prog_1_method_1_code 79 = .ok (.putfield 51, 3) := by decide +kernel
theorem d_RR_init_82 : decode prog_1_method_1_code 82 = .ok (.aload_n 0, 1) := by decide +kernel
theorem d_RR_init_83 : decode prog_1_method_1_code 83 = .ok (.iconst 5, 1) := by decide +kernel
theorem d_RR_init_84 : decode prog_1_method_1_code 84 = .ok (.newarray .int, 2) := by decide +kernel
theorem d_RR_init_86 : decode prog_1_method_1_code 86 = .ok (.putfield 54, 3) := by decide +kernel
theorem d_RR_init_89 : decode prog_1_method_1_code 89 = .ok (.aload_n 0, 1) := by decide +kernel
theorem d_RR_init_90 : decode prog_1_method_1_code 90 = .ok (.bipush 60, 2) := by decide +kernel
theorem d_RR_init_92 : decode prog_1_method_1_code 92 = .ok (.newarray .int, 2) := by decide +kernel
theorem d_RR_init_94 : decode prog_1_method_1_code 94 = .ok (.putfield 57, 3) := by decide +kernel
theorem d_RR_init_97 : decode prog_1_method_1_code 97 = .ok (.aload_n 0, 1) := by decide +kernel
theorem d_RR_init_98 : decode prog_1_method_1_code 98 = .ok (.bipush 60, 2) := by decide +kernel
theorem d_RR_init_100 : decode prog_1_method_1_code 100 = .ok (.newarray .int, 2) := by decide +kernel
theorem d_RR_init_102 : decode prog_1_method_1_code 102 = .ok (.putfield 60, 3) := by decide +kernel
theorem d_RR_init_105 : decode prog_1_method_1_code 105 = .ok (.aload_n 0, 1) := by decide +kernel
theorem d_RR_init_106 : decode prog_1_method_1_code 106 = .ok (.iconst 0, 1) := by decide +kernel
theorem d_RR_init_107 : decode prog_1_method_1_code 107 = .ok (.putfield 63, 3) := by decide +kernel
theorem d_RR_init_110 : decode prog_1_method_1_code 110 = .ok (.aload_n 0, 1) := by decide +kernel
theorem d_RR_init_111 : decode prog_1_method_1_code 111 = .ok (.iconst 0, 1) := by decide +kernel
theorem d_RR_init_112 : decode prog_1_method_1_code 112 = .ok (.putfield 66, 3) := by decide +kernel
theorem d_RR_init_115 : decode prog_1_method_1_code 115 = .ok (.iconst 0, 1) := by decide +kernel
theorem d_RR_init_116 : decode prog_1_method_1_code 116 = .ok (.istore_n 1, 1) := by decide +kernel
theorem d_RR_init_117 : decode prog_1_method_1_code 117 = .ok (.iload_n 1, 1) := by decide +kernel
theorem d_RR_init_118 : decode prog_1_method_1_code 118 = .ok (.bipush 12, 2) := by decide +kernel
theorem d_RR_init_120 : decode prog_1_method_1_code 120 = .ok (.if_icmp .ge 22, 3) := by decide +kernel
theorem d_RR_init_123 : decode prog_1_method_1_code 123 = .ok (.aload_n 0, 1) := by decide +kernel
theorem d_RR_init_124 : decode prog_1_method_1_code 124 = .ok (.getfield 11, 3) := by decide +kernel
theorem d_RR_init_127 : decode prog_1_method_1_code 127 = .ok (.iload_n 1, 1) := by decide +kernel
theorem d_RR_init_128 : decode prog_1_method_1_code 128 = .ok (.new 9, 3) := by decide +kernel
theorem d_RR_init_131 : decode prog_1_method_1_code 131 = .ok (.dup, 1) := by decide +kernel
theorem d_RR_init_132 : decode prog_1_method_1_code 132 = .ok (.invokespecial 70, 3) := by decide +kernel
theorem d_RR_init_135 : decode prog_1_method_1_code 135 = .ok (.aastore, 1) := by decide +kernel
theorem d_RR_init_136 : decode prog_1_method_1_code 136 = .ok (.iinc 1 1, 3) := by decide +kernel
theorem d_RR_init_139 : decode prog_1_method_1_code 139 = .ok (.goto (-22), 3) := by decide +kernel
theorem d_RR_init_142 : decode prog_1_method_1_code 142 = .ok (.return_, 1) := by decide +kernel
def RRAt (cs : Nat → ClassId) (h : Nat → va_E) (a : Nat) (b : List Nat) : Prop := ∃ (q7 q19 q30 q41 q54 q62 q70 q77 q84 q92 q100 : Nat) (b23 b34 b45 : List Nat) (tm : Nat → Nat) (bl : Nat → List Nat), b = q7 :: q19 :: (b23 ++ q30 :: (b34 ++ q41 :: (b45 ++ q54 :: q62 :: q70 :: q77 :: q84 :: q92 :: q100 :: (List.range 12).flatMap (fun k => tm k :: bl k)))) ∧ h a = .inr (6, [.ref q7, .int (iI 0), .ref q19, .ref q30, .ref q41, .ref q54, .ref q62, .ref q70, .ref q77, .ref q84, .ref q92, .ref q100, .int (iI 0), .int (iI 0)]) ∧ h q7 = .inl (cs 4, 12, .inr (.inr (.inr (.inr (rfs 12 tm))))) ∧ h q54 = .inl (cs 1, 12, .inr (.inl (al (fun _ => 0)))) ∧ h q62 = .inl (cs 0, 6, .inl (ai (fun _ => 0))) ∧ h q70 = .inl (cs 0, 6, .inl (ai (fun _ => 0))) ∧ h q77 = .inl (cs 0, 5, .inl (ai (fun _ => 0))) ∧ h q84 = .inl (cs 0, 5, .inl (ai (fun _ => 0))) ∧ h q92 = .inl (cs 0, 60, .inl (ai (fun _ => 0))) ∧ h q100 = .inl (cs 0, 60, .inl (ai (fun _ => 0))) ∧ ChainAt cs h q19 b23 ∧ SpotAt cs h q30 b34 ∧ RatioAt cs h q41 b45 ∧ ∀ k, k < 12 → CurveAt cs h (tm k) (bl k)
set_option maxHeartbeats 8000000 in
set_option maxRecDepth 100000 in
theorem c_RR_init (l : Launch) (D : va_G) (cs : Nat → ClassId) (L : List Nat) (f : Nat → va_E) (sz : Nat) (a : Nat) (v1 v12 v13 : Int) (hF : Fc L [a]) (ha : f a = .inr (6, [.null, .int (iI v1), .null, .null, .null, .null, .null, .null, .null, .null, .null, .null, .int (iI v12), .int (iI v13)])) : Met l (⟨"RealRoots", "<init>", "()V"⟩ : MethodName) (.code (⟨"RealRoots", "<init>", "()V"⟩ : MethodName) prog_1_method_1_code 2 (Option.none : Option Jvm.ClassFile.FieldType) :: gw) ({ frames := 3, cells := 304, slots := 4278, locals := 53 }) (va_Pc [.ref a] (K0 D vwCl (TY cs) L f sz)) (va_Qv (fun (u : List Nat × (Nat → va_E)) => ∃ b, u.1 = L ++ b ∧ RRAt cs u.2 a b ∧ ∀ q ∈ L, q ≠ a → u.2 q = f q) (K2 D vwCl (TY cs) (AL L sz)) (AL L sz)) 304 4278 (AL L sz) := by
  refine Met.ofW (cc := prog_1_method_1_code) (maxL := 2) (ret := (Option.none : Option Jvm.ClassFile.FieldType)) (by decide) rfl ?_
  intro p e s m args below meth c s₁ Bd hml hv
  obtain ⟨rfl, hk0⟩ := hv
  obtain ⟨hsz, B⟩ := hk0.start
  subst hsz
  have hx := Bd.exec
  have hb := Bd.bytes
  have hr := Bd.returns
  have hlocks := Bd.notSynchronized
  have hts0 := atoms_spec Bd.pre
  have hown : s.vm.findClass RX6 = some m.cls := findClass_of_methodNamed Bd.named
  have hA : ∀ q, s.heap.size ≤ q → AL L s.heap.size q := fun _ h => Or.inr h
  have hin : meth.name = "<init>" := (name_of_methodNamed Bd.named Bd.method).1
  have hl := lv_entry ([.ref a]) (n := 2) (Nat.le_of_ble_eq_true rfl)
  rw [lg_entry_eq]
  generalize (lg_sl ([.ref a]) ++ List.replicate (2 - (lg_sl ([.ref a])).length) Slot.unset).toArray = ls at hl ⊢
  refine absQ (fun Q R av hQ hR hav => ?_)
  have hts : ∀ w ∈ gw, w.before av s = true := by rw [hav]; exact fun w h => hts0 w (List.mem_cons_of_mem _ h)
  have hRf : R.frames = 3 := by rw [hR]; rfl
  have hRl : R.locals = 53 := by rw [hR]; rfl
  have hRc : R.cells = 304 := by rw [hR]; rfl
  have hRs : R.slots = 4278 := by rw [hR]; rfl
  clear hR hts0 Bd
  have hl : lv_has ls 2 [(0, .ref a)] := hl
  have hF0 := hF
  have hfx : ∀ q ∈ ([(a, .inr (6, [.null, .int (iI v1), .null, .null, .null, .null, .null, .null, .null, .null, .null, .null, .int (iI v12), .int (iI v13)]))] : List (Nat × va_E)), f q.1 = q.2 := fun q hq => by
    simp only [List.mem_cons, List.not_mem_nil, or_false] at hq
    rcases hq with rfl
    · exact ha
  have hmw : mw f [(a, .inr (6, [.null, .int (iI v1), .null, .null, .null, .null, .null, .null, .null, .null, .null, .null, .int (iI v12), .int (iI v13)]))] = f := mw_self (fun k a e hk => hfx (a, e) (List.mem_of_getElem? hk))
  have B := B.focus [(a, .inr (6, [.null, .int (iI v1), .null, .null, .null, .null, .null, .null, .null, .null, .null, .null, .int (iI v12), .int (iI v13)]))] hfx
  refine lv_aload_n hx hb d_RR_init_0 rfl (lv_at hl 0 rfl) ?_
  refine W.objInit hx hb hown (hts _ w_20) (hts _ w_21) (hts _ w_22) rfl (by rw [hml]; exact hl.1) rfl d_RR_init_1 (by rw [hRf]; decide) (by rw [hRl]; exact Nat.le_of_ble_eq_true rfl) ?_
  refine W.eq (g2 := F0 m 4 ls []) rfl ?_
  refine lv_aload_n hx hb d_RR_init_4 rfl (lv_at hl 0 rfl) ?_
  refine x_bipush hx hb d_RR_init_5 (by decide) ?_
  refine x_newq hx hb hown (hts _ w_23) B.2.2.2.2.2.2.2.2.2.2.2.1 B hF hA 4 rfl 12 rfl (by decide) (by rw [hRc]; omega) (by rw [hRs]; omega) d_RR_init_7 (fun q7 H hq7 hF B => ?_)
  have B : Wb D vwCl (TY cs) (L ++ [q7]) (mw f [(q7, .inl (cs 4, 12, .inr (.inr (.inr (.inr (fun _ => none)))))), (a, .inr (6, [.null, .int (iI v1), .null, .null, .null, .null, .null, .null, .null, .null, .null, .null, .int (iI v12), .int (iI v13)]))]) (AL L s.heap.size) s H _ := B
  have hF : Fc (L ++ [q7]) [q7, a] := hF
  refine x_putF (C := RX6) (T := TX6) (N := 14) hx hb hts inX6 tyX6 tyX6_ok nmX6 hown B hF 1 rfl rfl 0 (by decide) (hts _ w_197) (fun _ h9 => h9) rfl hin rfl (tyX6_ok 0 (by decide)) rfl rfl (Nat.le_of_ble_eq_true rfl) d_RR_init_10 (fun H locs B => ?_)
  have B : Wb D vwCl (TY cs) (L ++ [q7]) (mw f [(q7, .inl (cs 4, 12, .inr (.inr (.inr (.inr (fun _ => none)))))), (a, .inr (6, [.ref q7, .int (iI v1), .null, .null, .null, .null, .null, .null, .null, .null, .null, .null, .int (iI v12), .int (iI v13)]))]) (AL L s.heap.size) s H _ := B
  refine lv_aload_n hx hb d_RR_init_13 rfl (lv_at hl 0 rfl) ?_
  refine x_iconst hx hb d_RR_init_14 ?_
  refine x_put (C := RX6) (T := TX6) (N := 14) hx hb hts inX6 tyX6 tyX6_ok nmX6 hown B hF 1 rfl rfl 1 (by decide) (hts _ w_198) (fun _ h9 => h9) rfl (tyX6_ok 1 (by decide)) rfl rfl (Nat.le_of_ble_eq_true rfl) d_RR_init_15 (fun H locs B => ?_)
  have B : Wb D vwCl (TY cs) (L ++ [q7]) (mw f [(q7, .inl (cs 4, 12, .inr (.inr (.inr (.inr (fun _ => none)))))), (a, .inr (6, [.ref q7, .int (iI 0), .null, .null, .null, .null, .null, .null, .null, .null, .null, .null, .int (iI v12), .int (iI v13)]))]) (AL L s.heap.size) s H _ := B
  refine lv_aload_n hx hb d_RR_init_18 rfl (lv_at hl 0 rfl) ?_
  refine x_new (ci := 1) (fs := [.null, .null, .int (iI 0), .int (iI 0), .int (iI 0), .null, .null]) (C := RX1) (T := TX1) (N := 7) hx hb hts inX1 tyX1 tyX1_ok hown (hts _ w_25) (hts _ w_26) (hts _ w_2) B hF hA rfl (fun j hj => by rcases (show j = 0 ∨ j = 1 ∨ j = 2 ∨ j = 3 ∨ j = 4 ∨ j = 5 ∨ j = 6 by omega) with rfl | rfl | rfl | rfl | rfl | rfl | rfl <;> rfl) (by rw [hRc]; omega) (by rw [hRs]; omega) d_RR_init_19 (fun q19 H hq19 hF B => ?_)
  have B : Wb D vwCl (TY cs) (L ++ [q7] ++ [q19]) (mw f [(q19, .inr (1, [.null, .null, .int (iI 0), .int (iI 0), .int (iI 0), .null, .null])), (q7, .inl (cs 4, 12, .inr (.inr (.inr (.inr (fun _ => none)))))), (a, .inr (6, [.ref q7, .int (iI 0), .null, .null, .null, .null, .null, .null, .null, .null, .null, .null, .int (iI v12), .int (iI v13)]))]) (AL L s.heap.size) s H _ := B
  have hF : Fc (L ++ [q7] ++ [q19]) [q19, q7, a] := hF
  refine lv_dup hx hb d_RR_init_22 rfl ?_
  refine x_callvG B hA (va_runI (As := []) (rest := [.ref q19, .ref a]) ⟨hx, hb, hml, hown, hts⟩ (c_Chain_init l D cs _ _ H.size q19 0 0 0 hF.hd (mw_get (X := [(q19, .inr (1, [.null, .null, .int (iI 0), .int (iI 0), .int (iI 0), .null, .null])), (q7, .inl (cs 4, 12, .inr (.inr (.inr (.inr (fun _ => none)))))), (a, .inr (6, [.ref q7, .int (iI 0), .null, .null, .null, .null, .null, .null, .null, .null, .null, .null, .int (iI v12), .int (iI v13)]))]) hF.1 (k := 0) rfl)) (cwI 0 hts (gw_cons w_29) rfl rfl rfl (hts _ w_2) (hts _ w_27) (hts _ w_28) rfl (by decide +kernel) ⟨by rw [hRf]; exact Nat.le_of_ble_eq_true rfl, by rw [hRl]; exact Nat.le_of_ble_eq_true rfl⟩) ⟨K0.blind, B.pre _⟩ rfl rfl hl.1 rfl (lv_room (Nat.le_of_ble_eq_true rfl)) d_RR_init_23 ⟨by rw [hRc]; omega, by rw [hRs]; omega⟩) (fun u H locs hw B => ?_)
  obtain ⟨L23, g23⟩ := u
  have hw : ∃ b, L23 = L ++ [q7] ++ [q19] ++ b ∧ ChainAt cs g23 q19 b ∧ ∀ r ∈ L ++ [q7] ++ [q19], r ≠ q19 → g23 r = mw f [(q19, .inr (1, [.null, .null, .int (iI 0), .int (iI 0), .int (iI 0), .null, .null])), (q7, .inl (cs 4, 12, .inr (.inr (.inr (.inr (fun _ => none)))))), (a, .inr (6, [.ref q7, .int (iI 0), .null, .null, .null, .null, .null, .null, .null, .null, .null, .null, .int (iI v12), .int (iI v13)]))] r := hw
  obtain ⟨b23, hL23, hAt23, hfr23⟩ := hw
  have B : Wb D vwCl (TY cs) L23 g23 (AL L s.heap.size) s H locs := B
  have B := B.focus [(q7, .inl (cs 4, 12, .inr (.inr (.inr (.inr (fun _ => none)))))), (a, .inr (6, [.ref q7, .int (iI 0), .null, .null, .null, .null, .null, .null, .null, .null, .null, .null, .int (iI v12), .int (iI v13)]))] (fun r hr => by
    simp only [List.mem_cons, List.not_mem_nil, or_false] at hr
    rcases hr with rfl | rfl
    · exact (hfr23 _ (hF.2 _ (by simp)) (fun hh => (List.nodup_cons.mp hF.1).1 (by rw [← hh]; simp))).trans (mw_get (X := [(q19, .inr (1, [.null, .null, .int (iI 0), .int (iI 0), .int (iI 0), .null, .null])), (q7, .inl (cs 4, 12, .inr (.inr (.inr (.inr (fun _ => none)))))), (a, .inr (6, [.ref q7, .int (iI 0), .null, .null, .null, .null, .null, .null, .null, .null, .null, .null, .int (iI v12), .int (iI v13)]))]) hF.1 (k := 1) rfl)
    · exact (hfr23 _ (hF.2 _ (by simp)) (fun hh => (List.nodup_cons.mp hF.1).1 (by rw [← hh]; simp))).trans (mw_get (X := [(q19, .inr (1, [.null, .null, .int (iI 0), .int (iI 0), .int (iI 0), .null, .null])), (q7, .inl (cs 4, 12, .inr (.inr (.inr (.inr (fun _ => none)))))), (a, .inr (6, [.ref q7, .int (iI 0), .null, .null, .null, .null, .null, .null, .null, .null, .null, .null, .int (iI v12), .int (iI v13)]))]) hF.1 (k := 2) rfl))
  have hnd23 := B.nodup
  have hin23 : ∀ r ∈ q19 :: b23, r ∈ L23 := fun r hr => by rw [hL23]; rcases List.mem_cons.mp hr with rfl | hr; exact List.mem_append_left _ (by simp); exact List.mem_append_right _ hr
  have hout23 : ∀ r ∈ q19 :: b23, r ∉ [q7, a] := fun r hr hx => by
    rw [hL23, List.nodup_append] at hnd23
    rcases List.mem_cons.mp hr with rfl | hr
    · exact (List.nodup_cons.mp hF.1).1 hx
    · exact hnd23.2.2 r (hF.2 r (List.mem_cons_of_mem _ hx)) r hr rfl
  have hF : Fc L23 [q7, a] := hF.tail.of (fun x hx => by rw [hL23]; exact List.mem_append_left _ hx)
  refine x_putF (C := RX6) (T := TX6) (N := 14) hx hb hts inX6 tyX6 tyX6_ok nmX6 hown B hF 1 rfl rfl 2 (by decide) (hts _ w_199) (fun _ h9 => h9) rfl hin rfl (tyX6_ok 2 (by decide)) rfl rfl (Nat.le_of_ble_eq_true rfl) d_RR_init_26 (fun H locs B => ?_)
  have B : Wb D vwCl (TY cs) L23 (mw g23 [(q7, .inl (cs 4, 12, .inr (.inr (.inr (.inr (fun _ => none)))))), (a, .inr (6, [.ref q7, .int (iI 0), .ref q19, .null, .null, .null, .null, .null, .null, .null, .null, .null, .int (iI v12), .int (iI v13)]))]) (AL L s.heap.size) s H _ := B
  refine lv_aload_n hx hb d_RR_init_29 rfl (lv_at hl 0 rfl) ?_
  refine x_new (ci := 5) (fs := [.null, .null, .null, .int (iI 0), .null, .null, .null, .null]) (C := RX5) (T := TX5) (N := 8) hx hb hts inX5 tyX5 tyX5_ok hown (hts _ w_76) (hts _ w_77) (hts _ w_4) B hF hA rfl (fun j hj => by rcases (show j = 0 ∨ j = 1 ∨ j = 2 ∨ j = 3 ∨ j = 4 ∨ j = 5 ∨ j = 6 ∨ j = 7 by omega) with rfl | rfl | rfl | rfl | rfl | rfl | rfl | rfl <;> rfl) (by rw [hRc]; omega) (by rw [hRs]; omega) d_RR_init_30 (fun q30 H hq30 hF B => ?_)
  have B : Wb D vwCl (TY cs) (L23 ++ [q30]) (mw g23 [(q30, .inr (5, [.null, .null, .null, .int (iI 0), .null, .null, .null, .null])), (q7, .inl (cs 4, 12, .inr (.inr (.inr (.inr (fun _ => none)))))), (a, .inr (6, [.ref q7, .int (iI 0), .ref q19, .null, .null, .null, .null, .null, .null, .null, .null, .null, .int (iI v12), .int (iI v13)]))]) (AL L s.heap.size) s H _ := B
  have hF : Fc (L23 ++ [q30]) [q30, q7, a] := hF
  refine lv_dup hx hb d_RR_init_33 rfl ?_
  refine x_callvG B hA (va_runI (As := []) (rest := [.ref q30, .ref a]) ⟨hx, hb, hml, hown, hts⟩ (c_Spot_init l D cs _ _ H.size q30 0 hF.hd (mw_get (X := [(q30, .inr (5, [.null, .null, .null, .int (iI 0), .null, .null, .null, .null])), (q7, .inl (cs 4, 12, .inr (.inr (.inr (.inr (fun _ => none)))))), (a, .inr (6, [.ref q7, .int (iI 0), .ref q19, .null, .null, .null, .null, .null, .null, .null, .null, .null, .int (iI v12), .int (iI v13)]))]) hF.1 (k := 0) rfl)) (cwI 0 hts (gw_cons w_80) rfl rfl rfl (hts _ w_4) (hts _ w_78) (hts _ w_79) rfl (by decide +kernel) ⟨by rw [hRf]; exact Nat.le_of_ble_eq_true rfl, by rw [hRl]; exact Nat.le_of_ble_eq_true rfl⟩) ⟨K0.blind, B.pre _⟩ rfl rfl hl.1 rfl (lv_room (Nat.le_of_ble_eq_true rfl)) d_RR_init_34 ⟨by rw [hRc]; omega, by rw [hRs]; omega⟩) (fun u H locs hw B => ?_)
  obtain ⟨L34, g34⟩ := u
  have hw : ∃ b, L34 = L23 ++ [q30] ++ b ∧ SpotAt cs g34 q30 b ∧ ∀ r ∈ L23 ++ [q30], r ≠ q30 → g34 r = mw g23 [(q30, .inr (5, [.null, .null, .null, .int (iI 0), .null, .null, .null, .null])), (q7, .inl (cs 4, 12, .inr (.inr (.inr (.inr (fun _ => none)))))), (a, .inr (6, [.ref q7, .int (iI 0), .ref q19, .null, .null, .null, .null, .null, .null, .null, .null, .null, .int (iI v12), .int (iI v13)]))] r := hw
  obtain ⟨b34, hL34, hAt34, hfr34⟩ := hw
  have B : Wb D vwCl (TY cs) L34 g34 (AL L s.heap.size) s H locs := B
  have B := B.focus [(q7, .inl (cs 4, 12, .inr (.inr (.inr (.inr (fun _ => none)))))), (a, .inr (6, [.ref q7, .int (iI 0), .ref q19, .null, .null, .null, .null, .null, .null, .null, .null, .null, .int (iI v12), .int (iI v13)]))] (fun r hr => by
    simp only [List.mem_cons, List.not_mem_nil, or_false] at hr
    rcases hr with rfl | rfl
    · exact (hfr34 _ (hF.2 _ (by simp)) (fun hh => (List.nodup_cons.mp hF.1).1 (by rw [← hh]; simp))).trans (mw_get (X := [(q30, .inr (5, [.null, .null, .null, .int (iI 0), .null, .null, .null, .null])), (q7, .inl (cs 4, 12, .inr (.inr (.inr (.inr (fun _ => none)))))), (a, .inr (6, [.ref q7, .int (iI 0), .ref q19, .null, .null, .null, .null, .null, .null, .null, .null, .null, .int (iI v12), .int (iI v13)]))]) hF.1 (k := 1) rfl)
    · exact (hfr34 _ (hF.2 _ (by simp)) (fun hh => (List.nodup_cons.mp hF.1).1 (by rw [← hh]; simp))).trans (mw_get (X := [(q30, .inr (5, [.null, .null, .null, .int (iI 0), .null, .null, .null, .null])), (q7, .inl (cs 4, 12, .inr (.inr (.inr (.inr (fun _ => none)))))), (a, .inr (6, [.ref q7, .int (iI 0), .ref q19, .null, .null, .null, .null, .null, .null, .null, .null, .null, .int (iI v12), .int (iI v13)]))]) hF.1 (k := 2) rfl))
  have hout23 : ∀ r ∈ q19 :: b23, r ∉ [q30, q7, a] := fun r hr hx => by
    simp only [List.mem_cons, List.not_mem_nil, or_false] at hx
    rcases hx with rfl | hx
    · exact hq30 (hin23 _ hr)
    · exact hout23 r hr (by simpa using hx)
  have hAt23 := ChainAt.loc _ g34 _ _ (fun r hr => (hfr34 r (List.mem_append_left _ (hin23 r hr)) (fun hh => hout23 r hr (by rw [hh]; simp))).trans (mw_out (hout23 r hr))) hAt23
  have hin23 : ∀ r ∈ q19 :: b23, r ∈ L34 := fun r hr => by rw [hL34]; exact List.mem_append_left _ (List.mem_append_left _ (hin23 r hr))
  have hout23 : ∀ r ∈ q19 :: b23, r ∉ [q7, a] := fun r hr hx => hout23 r hr (List.mem_cons_of_mem _ hx)
  have hnd34 := B.nodup
  have hin34 : ∀ r ∈ q30 :: b34, r ∈ L34 := fun r hr => by rw [hL34]; rcases List.mem_cons.mp hr with rfl | hr; exact List.mem_append_left _ (by simp); exact List.mem_append_right _ hr
  have hout34 : ∀ r ∈ q30 :: b34, r ∉ [q7, a] := fun r hr hx => by
    rw [hL34, List.nodup_append] at hnd34
    rcases List.mem_cons.mp hr with rfl | hr
    · exact (List.nodup_cons.mp hF.1).1 hx
    · exact hnd34.2.2 r (hF.2 r (List.mem_cons_of_mem _ hx)) r hr rfl
  have hF : Fc L34 [q7, a] := hF.tail.of (fun x hx => by rw [hL34]; exact List.mem_append_left _ hx)
  refine x_putF (C := RX6) (T := TX6) (N := 14) hx hb hts inX6 tyX6 tyX6_ok nmX6 hown B hF 1 rfl rfl 3 (by decide) (hts _ w_200) (fun _ h9 => h9) rfl hin rfl (tyX6_ok 3 (by decide)) rfl rfl (Nat.le_of_ble_eq_true rfl) d_RR_init_37 (fun H locs B => ?_)
  have B : Wb D vwCl (TY cs) L34 (mw g34 [(q7, .inl (cs 4, 12, .inr (.inr (.inr (.inr (fun _ => none)))))), (a, .inr (6, [.ref q7, .int (iI 0), .ref q19, .ref q30, .null, .null, .null, .null, .null, .null, .null, .null, .int (iI v12), .int (iI v13)]))]) (AL L s.heap.size) s H _ := B
  refine lv_aload_n hx hb d_RR_init_40 rfl (lv_at hl 0 rfl) ?_
  refine x_new (ci := 4) (fs := [.null, .null, .long (lI 0), .long (lI 0), .null, .null, .null]) (C := RX4) (T := TX4) (N := 7) hx hb hts inX4 tyX4 tyX4_ok hown (hts _ w_114) (hts _ w_115) (hts _ w_5) B hF hA rfl (fun j hj => by rcases (show j = 0 ∨ j = 1 ∨ j = 2 ∨ j = 3 ∨ j = 4 ∨ j = 5 ∨ j = 6 by omega) with rfl | rfl | rfl | rfl | rfl | rfl | rfl <;> rfl) (by rw [hRc]; omega) (by rw [hRs]; omega) d_RR_init_41 (fun q41 H hq41 hF B => ?_)
  have B : Wb D vwCl (TY cs) (L34 ++ [q41]) (mw g34 [(q41, .inr (4, [.null, .null, .long (lI 0), .long (lI 0), .null, .null, .null])), (q7, .inl (cs 4, 12, .inr (.inr (.inr (.inr (fun _ => none)))))), (a, .inr (6, [.ref q7, .int (iI 0), .ref q19, .ref q30, .null, .null, .null, .null, .null, .null, .null, .null, .int (iI v12), .int (iI v13)]))]) (AL L s.heap.size) s H _ := B
  have hF : Fc (L34 ++ [q41]) [q41, q7, a] := hF
  refine lv_dup hx hb d_RR_init_44 rfl ?_
  refine x_callvG B hA (va_runIN (As := []) (rest := [.ref q41, .ref a]) ⟨hx, hb, hml, hown, hts⟩ (c_Ratio_init l D cs _ _ H.size q41 0 0 hF.hd (mw_get (X := [(q41, .inr (4, [.null, .null, .long (lI 0), .long (lI 0), .null, .null, .null])), (q7, .inl (cs 4, 12, .inr (.inr (.inr (.inr (fun _ => none)))))), (a, .inr (6, [.ref q7, .int (iI 0), .ref q19, .ref q30, .null, .null, .null, .null, .null, .null, .null, .null, .int (iI v12), .int (iI v13)]))]) hF.1 (k := 0) rfl)) ⟨va_cnB (host := RX6) 0 hts (gw_cons w_118) rfl rfl rfl (B.2.2.2.2.2.2.1) (hts _ w_5) (by decide +kernel) ⟨by rw [hRf]; exact Nat.le_of_ble_eq_true rfl, by rw [hRl]; exact Nat.le_of_ble_eq_true rfl⟩, rfl, hts _ w_117⟩ ⟨K0.blind, B.pre _⟩ rfl rfl hl.1 rfl (lv_room (Nat.le_of_ble_eq_true rfl)) d_RR_init_45 ⟨by rw [hRc]; omega, by rw [hRs]; omega⟩) (fun u H locs hw B => ?_)
  obtain ⟨L45, g45⟩ := u
  have hw : ∃ b, L45 = L34 ++ [q41] ++ b ∧ RatioAt cs g45 q41 b ∧ ∀ r ∈ L34 ++ [q41], r ≠ q41 → g45 r = mw g34 [(q41, .inr (4, [.null, .null, .long (lI 0), .long (lI 0), .null, .null, .null])), (q7, .inl (cs 4, 12, .inr (.inr (.inr (.inr (fun _ => none)))))), (a, .inr (6, [.ref q7, .int (iI 0), .ref q19, .ref q30, .null, .null, .null, .null, .null, .null, .null, .null, .int (iI v12), .int (iI v13)]))] r := hw
  obtain ⟨b45, hL45, hAt45, hfr45⟩ := hw
  have B : Wb D vwCl (TY cs) L45 g45 (AL L s.heap.size) s H locs := B
  have B := B.focus [(q7, .inl (cs 4, 12, .inr (.inr (.inr (.inr (fun _ => none)))))), (a, .inr (6, [.ref q7, .int (iI 0), .ref q19, .ref q30, .null, .null, .null, .null, .null, .null, .null, .null, .int (iI v12), .int (iI v13)]))] (fun r hr => by
    simp only [List.mem_cons, List.not_mem_nil, or_false] at hr
    rcases hr with rfl | rfl
    · exact (hfr45 _ (hF.2 _ (by simp)) (fun hh => (List.nodup_cons.mp hF.1).1 (by rw [← hh]; simp))).trans (mw_get (X := [(q41, .inr (4, [.null, .null, .long (lI 0), .long (lI 0), .null, .null, .null])), (q7, .inl (cs 4, 12, .inr (.inr (.inr (.inr (fun _ => none)))))), (a, .inr (6, [.ref q7, .int (iI 0), .ref q19, .ref q30, .null, .null, .null, .null, .null, .null, .null, .null, .int (iI v12), .int (iI v13)]))]) hF.1 (k := 1) rfl)
    · exact (hfr45 _ (hF.2 _ (by simp)) (fun hh => (List.nodup_cons.mp hF.1).1 (by rw [← hh]; simp))).trans (mw_get (X := [(q41, .inr (4, [.null, .null, .long (lI 0), .long (lI 0), .null, .null, .null])), (q7, .inl (cs 4, 12, .inr (.inr (.inr (.inr (fun _ => none)))))), (a, .inr (6, [.ref q7, .int (iI 0), .ref q19, .ref q30, .null, .null, .null, .null, .null, .null, .null, .null, .int (iI v12), .int (iI v13)]))]) hF.1 (k := 2) rfl))
  have hout23 : ∀ r ∈ q19 :: b23, r ∉ [q41, q7, a] := fun r hr hx => by
    simp only [List.mem_cons, List.not_mem_nil, or_false] at hx
    rcases hx with rfl | hx
    · exact hq41 (hin23 _ hr)
    · exact hout23 r hr (by simpa using hx)
  have hAt23 := ChainAt.loc _ g45 _ _ (fun r hr => (hfr45 r (List.mem_append_left _ (hin23 r hr)) (fun hh => hout23 r hr (by rw [hh]; simp))).trans (mw_out (hout23 r hr))) hAt23
  have hin23 : ∀ r ∈ q19 :: b23, r ∈ L45 := fun r hr => by rw [hL45]; exact List.mem_append_left _ (List.mem_append_left _ (hin23 r hr))
  have hout23 : ∀ r ∈ q19 :: b23, r ∉ [q7, a] := fun r hr hx => hout23 r hr (List.mem_cons_of_mem _ hx)
  have hout34 : ∀ r ∈ q30 :: b34, r ∉ [q41, q7, a] := fun r hr hx => by
    simp only [List.mem_cons, List.not_mem_nil, or_false] at hx
    rcases hx with rfl | hx
    · exact hq41 (hin34 _ hr)
    · exact hout34 r hr (by simpa using hx)
  have hAt34 := SpotAt.loc _ g45 _ _ (fun r hr => (hfr45 r (List.mem_append_left _ (hin34 r hr)) (fun hh => hout34 r hr (by rw [hh]; simp))).trans (mw_out (hout34 r hr))) hAt34
  have hin34 : ∀ r ∈ q30 :: b34, r ∈ L45 := fun r hr => by rw [hL45]; exact List.mem_append_left _ (List.mem_append_left _ (hin34 r hr))
  have hout34 : ∀ r ∈ q30 :: b34, r ∉ [q7, a] := fun r hr hx => hout34 r hr (List.mem_cons_of_mem _ hx)
  have hnd45 := B.nodup
  have hin45 : ∀ r ∈ q41 :: b45, r ∈ L45 := fun r hr => by rw [hL45]; rcases List.mem_cons.mp hr with rfl | hr; exact List.mem_append_left _ (by simp); exact List.mem_append_right _ hr
  have hout45 : ∀ r ∈ q41 :: b45, r ∉ [q7, a] := fun r hr hx => by
    rw [hL45, List.nodup_append] at hnd45
    rcases List.mem_cons.mp hr with rfl | hr
    · exact (List.nodup_cons.mp hF.1).1 hx
    · exact hnd45.2.2 r (hF.2 r (List.mem_cons_of_mem _ hx)) r hr rfl
  have hF : Fc L45 [q7, a] := hF.tail.of (fun x hx => by rw [hL45]; exact List.mem_append_left _ hx)
  refine x_putF (C := RX6) (T := TX6) (N := 14) hx hb hts inX6 tyX6 tyX6_ok nmX6 hown B hF 1 rfl rfl 4 (by decide) (hts _ w_201) (fun _ h9 => h9) rfl hin rfl (tyX6_ok 4 (by decide)) rfl rfl (Nat.le_of_ble_eq_true rfl) d_RR_init_48 (fun H locs B => ?_)
  have B : Wb D vwCl (TY cs) L45 (mw g45 [(q7, .inl (cs 4, 12, .inr (.inr (.inr (.inr (fun _ => none)))))), (a, .inr (6, [.ref q7, .int (iI 0), .ref q19, .ref q30, .ref q41, .null, .null, .null, .null, .null, .null, .null, .int (iI v12), .int (iI v13)]))]) (AL L s.heap.size) s H _ := B
  refine lv_aload_n hx hb d_RR_init_51 rfl (lv_at hl 0 rfl) ?_
  refine x_bipush hx hb d_RR_init_52 (by decide) ?_
  refine x_newal hx hb (hts _ w_175) B hF hA 1 rfl 12 rfl (by decide) (by rw [hRc]; omega) (by rw [hRs]; omega) d_RR_init_54 (fun q54 H hq54 hF B => ?_)
  have B : Wb D vwCl (TY cs) (L45 ++ [q54]) (mw g45 [(q54, .inl (cs 1, 12, .inr (.inl (al (fun _ => 0))))), (q7, .inl (cs 4, 12, .inr (.inr (.inr (.inr (fun _ => none)))))), (a, .inr (6, [.ref q7, .int (iI 0), .ref q19, .ref q30, .ref q41, .null, .null, .null, .null, .null, .null, .null, .int (iI v12), .int (iI v13)]))]) (AL L s.heap.size) s H _ := B
  have hF : Fc (L45 ++ [q54]) [q54, q7, a] := hF
  refine x_putF (C := RX6) (T := TX6) (N := 14) hx hb hts inX6 tyX6 tyX6_ok nmX6 hown B hF 2 rfl rfl 5 (by decide) (hts _ w_202) (fun _ h9 => h9) rfl hin rfl (tyX6_ok 5 (by decide)) rfl rfl (Nat.le_of_ble_eq_true rfl) d_RR_init_56 (fun H locs B => ?_)
  have B : Wb D vwCl (TY cs) (L45 ++ [q54]) (mw g45 [(q54, .inl (cs 1, 12, .inr (.inl (al (fun _ => 0))))), (q7, .inl (cs 4, 12, .inr (.inr (.inr (.inr (fun _ => none)))))), (a, .inr (6, [.ref q7, .int (iI 0), .ref q19, .ref q30, .ref q41, .ref q54, .null, .null, .null, .null, .null, .null, .int (iI v12), .int (iI v13)]))]) (AL L s.heap.size) s H _ := B
  refine lv_aload_n hx hb d_RR_init_59 rfl (lv_at hl 0 rfl) ?_
  refine x_bipush hx hb d_RR_init_60 (by decide) ?_
  refine x_newai hx hb (hts _ w_51) B hF hA 0 rfl 6 rfl (by decide) (by rw [hRc]; omega) (by rw [hRs]; omega) d_RR_init_62 (fun q62 H hq62 hF B => ?_)
  have B : Wb D vwCl (TY cs) (L45 ++ [q54] ++ [q62]) (mw g45 [(q62, .inl (cs 0, 6, .inl (ai (fun _ => 0)))), (q54, .inl (cs 1, 12, .inr (.inl (al (fun _ => 0))))), (q7, .inl (cs 4, 12, .inr (.inr (.inr (.inr (fun _ => none)))))), (a, .inr (6, [.ref q7, .int (iI 0), .ref q19, .ref q30, .ref q41, .ref q54, .null, .null, .null, .null, .null, .null, .int (iI v12), .int (iI v13)]))]) (AL L s.heap.size) s H _ := B
  have hF : Fc (L45 ++ [q54] ++ [q62]) [q62, q54, q7, a] := hF
  refine x_putF (C := RX6) (T := TX6) (N := 14) hx hb hts inX6 tyX6 tyX6_ok nmX6 hown B hF 3 rfl rfl 6 (by decide) (hts _ w_203) (fun _ h9 => h9) rfl hin rfl (tyX6_ok 6 (by decide)) rfl rfl (Nat.le_of_ble_eq_true rfl) d_RR_init_64 (fun H locs B => ?_)
  have B : Wb D vwCl (TY cs) (L45 ++ [q54] ++ [q62]) (mw g45 [(q62, .inl (cs 0, 6, .inl (ai (fun _ => 0)))), (q54, .inl (cs 1, 12, .inr (.inl (al (fun _ => 0))))), (q7, .inl (cs 4, 12, .inr (.inr (.inr (.inr (fun _ => none)))))), (a, .inr (6, [.ref q7, .int (iI 0), .ref q19, .ref q30, .ref q41, .ref q54, .ref q62, .null, .null, .null, .null, .null, .int (iI v12), .int (iI v13)]))]) (AL L s.heap.size) s H _ := B
  refine lv_aload_n hx hb d_RR_init_67 rfl (lv_at hl 0 rfl) ?_
  refine x_bipush hx hb d_RR_init_68 (by decide) ?_
  refine x_newai hx hb (hts _ w_51) B hF hA 0 rfl 6 rfl (by decide) (by rw [hRc]; omega) (by rw [hRs]; omega) d_RR_init_70 (fun q70 H hq70 hF B => ?_)
  have B : Wb D vwCl (TY cs) (L45 ++ [q54] ++ [q62] ++ [q70]) (mw g45 [(q70, .inl (cs 0, 6, .inl (ai (fun _ => 0)))), (q62, .inl (cs 0, 6, .inl (ai (fun _ => 0)))), (q54, .inl (cs 1, 12, .inr (.inl (al (fun _ => 0))))), (q7, .inl (cs 4, 12, .inr (.inr (.inr (.inr (fun _ => none)))))), (a, .inr (6, [.ref q7, .int (iI 0), .ref q19, .ref q30, .ref q41, .ref q54, .ref q62, .null, .null, .null, .null, .null, .int (iI v12), .int (iI v13)]))]) (AL L s.heap.size) s H _ := B
  have hF : Fc (L45 ++ [q54] ++ [q62] ++ [q70]) [q70, q62, q54, q7, a] := hF
  refine x_putF (C := RX6) (T := TX6) (N := 14) hx hb hts inX6 tyX6 tyX6_ok nmX6 hown B hF 4 rfl rfl 7 (by decide) (hts _ w_204) (fun _ h9 => h9) rfl hin rfl (tyX6_ok 7 (by decide)) rfl rfl (Nat.le_of_ble_eq_true rfl) d_RR_init_72 (fun H locs B => ?_)
  have B : Wb D vwCl (TY cs) (L45 ++ [q54] ++ [q62] ++ [q70]) (mw g45 [(q70, .inl (cs 0, 6, .inl (ai (fun _ => 0)))), (q62, .inl (cs 0, 6, .inl (ai (fun _ => 0)))), (q54, .inl (cs 1, 12, .inr (.inl (al (fun _ => 0))))), (q7, .inl (cs 4, 12, .inr (.inr (.inr (.inr (fun _ => none)))))), (a, .inr (6, [.ref q7, .int (iI 0), .ref q19, .ref q30, .ref q41, .ref q54, .ref q62, .ref q70, .null, .null, .null, .null, .int (iI v12), .int (iI v13)]))]) (AL L s.heap.size) s H _ := B
  refine lv_aload_n hx hb d_RR_init_75 rfl (lv_at hl 0 rfl) ?_
  refine x_iconst hx hb d_RR_init_76 ?_
  refine x_newai hx hb (hts _ w_51) B hF hA 0 rfl 5 rfl (by decide) (by rw [hRc]; omega) (by rw [hRs]; omega) d_RR_init_77 (fun q77 H hq77 hF B => ?_)
  have B : Wb D vwCl (TY cs) (L45 ++ [q54] ++ [q62] ++ [q70] ++ [q77]) (mw g45 [(q77, .inl (cs 0, 5, .inl (ai (fun _ => 0)))), (q70, .inl (cs 0, 6, .inl (ai (fun _ => 0)))), (q62, .inl (cs 0, 6, .inl (ai (fun _ => 0)))), (q54, .inl (cs 1, 12, .inr (.inl (al (fun _ => 0))))), (q7, .inl (cs 4, 12, .inr (.inr (.inr (.inr (fun _ => none)))))), (a, .inr (6, [.ref q7, .int (iI 0), .ref q19, .ref q30, .ref q41, .ref q54, .ref q62, .ref q70, .null, .null, .null, .null, .int (iI v12), .int (iI v13)]))]) (AL L s.heap.size) s H _ := B
  have hF : Fc (L45 ++ [q54] ++ [q62] ++ [q70] ++ [q77]) [q77, q70, q62, q54, q7, a] := hF
  refine x_putF (C := RX6) (T := TX6) (N := 14) hx hb hts inX6 tyX6 tyX6_ok nmX6 hown B hF 5 rfl rfl 8 (by decide) (hts _ w_205) (fun _ h9 => h9) rfl hin rfl (tyX6_ok 8 (by decide)) rfl rfl (Nat.le_of_ble_eq_true rfl) d_RR_init_79 (fun H locs B => ?_)
  have B : Wb D vwCl (TY cs) (L45 ++ [q54] ++ [q62] ++ [q70] ++ [q77]) (mw g45 [(q77, .inl (cs 0, 5, .inl (ai (fun _ => 0)))), (q70, .inl (cs 0, 6, .inl (ai (fun _ => 0)))), (q62, .inl (cs 0, 6, .inl (ai (fun _ => 0)))), (q54, .inl (cs 1, 12, .inr (.inl (al (fun _ => 0))))), (q7, .inl (cs 4, 12, .inr (.inr (.inr (.inr (fun _ => none)))))), (a, .inr (6, [.ref q7, .int (iI 0), .ref q19, .ref q30, .ref q41, .ref q54, .ref q62, .ref q70, .ref q77, .null, .null, .null, .int (iI v12), .int (iI v13)]))]) (AL L s.heap.size) s H _ := B
  refine lv_aload_n hx hb d_RR_init_82 rfl (lv_at hl 0 rfl) ?_
  refine x_iconst hx hb d_RR_init_83 ?_
  refine x_newai hx hb (hts _ w_51) B hF hA 0 rfl 5 rfl (by decide) (by rw [hRc]; omega) (by rw [hRs]; omega) d_RR_init_84 (fun q84 H hq84 hF B => ?_)
  have B : Wb D vwCl (TY cs) (L45 ++ [q54] ++ [q62] ++ [q70] ++ [q77] ++ [q84]) (mw g45 [(q84, .inl (cs 0, 5, .inl (ai (fun _ => 0)))), (q77, .inl (cs 0, 5, .inl (ai (fun _ => 0)))), (q70, .inl (cs 0, 6, .inl (ai (fun _ => 0)))), (q62, .inl (cs 0, 6, .inl (ai (fun _ => 0)))), (q54, .inl (cs 1, 12, .inr (.inl (al (fun _ => 0))))), (q7, .inl (cs 4, 12, .inr (.inr (.inr (.inr (fun _ => none)))))), (a, .inr (6, [.ref q7, .int (iI 0), .ref q19, .ref q30, .ref q41, .ref q54, .ref q62, .ref q70, .ref q77, .null, .null, .null, .int (iI v12), .int (iI v13)]))]) (AL L s.heap.size) s H _ := B
  have hF : Fc (L45 ++ [q54] ++ [q62] ++ [q70] ++ [q77] ++ [q84]) [q84, q77, q70, q62, q54, q7, a] := hF
  refine x_putF (C := RX6) (T := TX6) (N := 14) hx hb hts inX6 tyX6 tyX6_ok nmX6 hown B hF 6 rfl rfl 9 (by decide) (hts _ w_206) (fun _ h9 => h9) rfl hin rfl (tyX6_ok 9 (by decide)) rfl rfl (Nat.le_of_ble_eq_true rfl) d_RR_init_86 (fun H locs B => ?_)
  have B : Wb D vwCl (TY cs) (L45 ++ [q54] ++ [q62] ++ [q70] ++ [q77] ++ [q84]) (mw g45 [(q84, .inl (cs 0, 5, .inl (ai (fun _ => 0)))), (q77, .inl (cs 0, 5, .inl (ai (fun _ => 0)))), (q70, .inl (cs 0, 6, .inl (ai (fun _ => 0)))), (q62, .inl (cs 0, 6, .inl (ai (fun _ => 0)))), (q54, .inl (cs 1, 12, .inr (.inl (al (fun _ => 0))))), (q7, .inl (cs 4, 12, .inr (.inr (.inr (.inr (fun _ => none)))))), (a, .inr (6, [.ref q7, .int (iI 0), .ref q19, .ref q30, .ref q41, .ref q54, .ref q62, .ref q70, .ref q77, .ref q84, .null, .null, .int (iI v12), .int (iI v13)]))]) (AL L s.heap.size) s H _ := B
  refine lv_aload_n hx hb d_RR_init_89 rfl (lv_at hl 0 rfl) ?_
  refine x_bipush hx hb d_RR_init_90 (by decide) ?_
  refine x_newai hx hb (hts _ w_51) B hF hA 0 rfl 60 rfl (by decide) (by rw [hRc]; omega) (by rw [hRs]; omega) d_RR_init_92 (fun q92 H hq92 hF B => ?_)
  have B : Wb D vwCl (TY cs) (L45 ++ [q54] ++ [q62] ++ [q70] ++ [q77] ++ [q84] ++ [q92]) (mw g45 [(q92, .inl (cs 0, 60, .inl (ai (fun _ => 0)))), (q84, .inl (cs 0, 5, .inl (ai (fun _ => 0)))), (q77, .inl (cs 0, 5, .inl (ai (fun _ => 0)))), (q70, .inl (cs 0, 6, .inl (ai (fun _ => 0)))), (q62, .inl (cs 0, 6, .inl (ai (fun _ => 0)))), (q54, .inl (cs 1, 12, .inr (.inl (al (fun _ => 0))))), (q7, .inl (cs 4, 12, .inr (.inr (.inr (.inr (fun _ => none)))))), (a, .inr (6, [.ref q7, .int (iI 0), .ref q19, .ref q30, .ref q41, .ref q54, .ref q62, .ref q70, .ref q77, .ref q84, .null, .null, .int (iI v12), .int (iI v13)]))]) (AL L s.heap.size) s H _ := B
  have hF : Fc (L45 ++ [q54] ++ [q62] ++ [q70] ++ [q77] ++ [q84] ++ [q92]) [q92, q84, q77, q70, q62, q54, q7, a] := hF
  refine x_putF (C := RX6) (T := TX6) (N := 14) hx hb hts inX6 tyX6 tyX6_ok nmX6 hown B hF 7 rfl rfl 10 (by decide) (hts _ w_207) (fun _ h9 => h9) rfl hin rfl (tyX6_ok 10 (by decide)) rfl rfl (Nat.le_of_ble_eq_true rfl) d_RR_init_94 (fun H locs B => ?_)
  have B : Wb D vwCl (TY cs) (L45 ++ [q54] ++ [q62] ++ [q70] ++ [q77] ++ [q84] ++ [q92]) (mw g45 [(q92, .inl (cs 0, 60, .inl (ai (fun _ => 0)))), (q84, .inl (cs 0, 5, .inl (ai (fun _ => 0)))), (q77, .inl (cs 0, 5, .inl (ai (fun _ => 0)))), (q70, .inl (cs 0, 6, .inl (ai (fun _ => 0)))), (q62, .inl (cs 0, 6, .inl (ai (fun _ => 0)))), (q54, .inl (cs 1, 12, .inr (.inl (al (fun _ => 0))))), (q7, .inl (cs 4, 12, .inr (.inr (.inr (.inr (fun _ => none)))))), (a, .inr (6, [.ref q7, .int (iI 0), .ref q19, .ref q30, .ref q41, .ref q54, .ref q62, .ref q70, .ref q77, .ref q84, .ref q92, .null, .int (iI v12), .int (iI v13)]))]) (AL L s.heap.size) s H _ := B
  refine lv_aload_n hx hb d_RR_init_97 rfl (lv_at hl 0 rfl) ?_
  refine x_bipush hx hb d_RR_init_98 (by decide) ?_
  refine x_newai hx hb (hts _ w_51) B hF hA 0 rfl 60 rfl (by decide) (by rw [hRc]; omega) (by rw [hRs]; omega) d_RR_init_100 (fun q100 H hq100 hF B => ?_)
  have B : Wb D vwCl (TY cs) (L45 ++ [q54] ++ [q62] ++ [q70] ++ [q77] ++ [q84] ++ [q92] ++ [q100]) (mw g45 [(q100, .inl (cs 0, 60, .inl (ai (fun _ => 0)))), (q92, .inl (cs 0, 60, .inl (ai (fun _ => 0)))), (q84, .inl (cs 0, 5, .inl (ai (fun _ => 0)))), (q77, .inl (cs 0, 5, .inl (ai (fun _ => 0)))), (q70, .inl (cs 0, 6, .inl (ai (fun _ => 0)))), (q62, .inl (cs 0, 6, .inl (ai (fun _ => 0)))), (q54, .inl (cs 1, 12, .inr (.inl (al (fun _ => 0))))), (q7, .inl (cs 4, 12, .inr (.inr (.inr (.inr (fun _ => none)))))), (a, .inr (6, [.ref q7, .int (iI 0), .ref q19, .ref q30, .ref q41, .ref q54, .ref q62, .ref q70, .ref q77, .ref q84, .ref q92, .null, .int (iI v12), .int (iI v13)]))]) (AL L s.heap.size) s H _ := B
  have hF : Fc (L45 ++ [q54] ++ [q62] ++ [q70] ++ [q77] ++ [q84] ++ [q92] ++ [q100]) [q100, q92, q84, q77, q70, q62, q54, q7, a] := hF
  refine x_putF (C := RX6) (T := TX6) (N := 14) hx hb hts inX6 tyX6 tyX6_ok nmX6 hown B hF 8 rfl rfl 11 (by decide) (hts _ w_208) (fun _ h9 => h9) rfl hin rfl (tyX6_ok 11 (by decide)) rfl rfl (Nat.le_of_ble_eq_true rfl) d_RR_init_102 (fun H locs B => ?_)
  have B : Wb D vwCl (TY cs) (L45 ++ [q54] ++ [q62] ++ [q70] ++ [q77] ++ [q84] ++ [q92] ++ [q100]) (mw g45 [(q100, .inl (cs 0, 60, .inl (ai (fun _ => 0)))), (q92, .inl (cs 0, 60, .inl (ai (fun _ => 0)))), (q84, .inl (cs 0, 5, .inl (ai (fun _ => 0)))), (q77, .inl (cs 0, 5, .inl (ai (fun _ => 0)))), (q70, .inl (cs 0, 6, .inl (ai (fun _ => 0)))), (q62, .inl (cs 0, 6, .inl (ai (fun _ => 0)))), (q54, .inl (cs 1, 12, .inr (.inl (al (fun _ => 0))))), (q7, .inl (cs 4, 12, .inr (.inr (.inr (.inr (fun _ => none)))))), (a, .inr (6, [.ref q7, .int (iI 0), .ref q19, .ref q30, .ref q41, .ref q54, .ref q62, .ref q70, .ref q77, .ref q84, .ref q92, .ref q100, .int (iI v12), .int (iI v13)]))]) (AL L s.heap.size) s H _ := B
  refine lv_aload_n hx hb d_RR_init_105 rfl (lv_at hl 0 rfl) ?_
  refine x_iconst hx hb d_RR_init_106 ?_
  refine x_put (C := RX6) (T := TX6) (N := 14) hx hb hts inX6 tyX6 tyX6_ok nmX6 hown B hF 8 rfl rfl 12 (by decide) (hts _ w_209) (fun _ h9 => h9) rfl (tyX6_ok 12 (by decide)) rfl rfl (Nat.le_of_ble_eq_true rfl) d_RR_init_107 (fun H locs B => ?_)
  have B : Wb D vwCl (TY cs) (L45 ++ [q54] ++ [q62] ++ [q70] ++ [q77] ++ [q84] ++ [q92] ++ [q100]) (mw g45 [(q100, .inl (cs 0, 60, .inl (ai (fun _ => 0)))), (q92, .inl (cs 0, 60, .inl (ai (fun _ => 0)))), (q84, .inl (cs 0, 5, .inl (ai (fun _ => 0)))), (q77, .inl (cs 0, 5, .inl (ai (fun _ => 0)))), (q70, .inl (cs 0, 6, .inl (ai (fun _ => 0)))), (q62, .inl (cs 0, 6, .inl (ai (fun _ => 0)))), (q54, .inl (cs 1, 12, .inr (.inl (al (fun _ => 0))))), (q7, .inl (cs 4, 12, .inr (.inr (.inr (.inr (fun _ => none)))))), (a, .inr (6, [.ref q7, .int (iI 0), .ref q19, .ref q30, .ref q41, .ref q54, .ref q62, .ref q70, .ref q77, .ref q84, .ref q92, .ref q100, .int (iI 0), .int (iI v13)]))]) (AL L s.heap.size) s H _ := B
  refine lv_aload_n hx hb d_RR_init_110 rfl (lv_at hl 0 rfl) ?_
  refine x_iconst hx hb d_RR_init_111 ?_
  refine x_put (C := RX6) (T := TX6) (N := 14) hx hb hts inX6 tyX6 tyX6_ok nmX6 hown B hF 8 rfl rfl 13 (by decide) (hts _ w_210) (fun _ h9 => h9) rfl (tyX6_ok 13 (by decide)) rfl rfl (Nat.le_of_ble_eq_true rfl) d_RR_init_112 (fun H locs B => ?_)
  have B : Wb D vwCl (TY cs) (L45 ++ [q54] ++ [q62] ++ [q70] ++ [q77] ++ [q84] ++ [q92] ++ [q100]) (mw g45 [(q100, .inl (cs 0, 60, .inl (ai (fun _ => 0)))), (q92, .inl (cs 0, 60, .inl (ai (fun _ => 0)))), (q84, .inl (cs 0, 5, .inl (ai (fun _ => 0)))), (q77, .inl (cs 0, 5, .inl (ai (fun _ => 0)))), (q70, .inl (cs 0, 6, .inl (ai (fun _ => 0)))), (q62, .inl (cs 0, 6, .inl (ai (fun _ => 0)))), (q54, .inl (cs 1, 12, .inr (.inl (al (fun _ => 0))))), (q7, .inl (cs 4, 12, .inr (.inr (.inr (.inr (fun _ => none)))))), (a, .inr (6, [.ref q7, .int (iI 0), .ref q19, .ref q30, .ref q41, .ref q54, .ref q62, .ref q70, .ref q77, .ref q84, .ref q92, .ref q100, .int (iI 0), .int (iI 0)]))]) (AL L s.heap.size) s H _ := B
  refine x_iconst hx hb d_RR_init_115 ?_
  refine lv_istore_n (lv' := [(1, .int (iI 0)), (0, .ref a)]) hx hb d_RR_init_116 rfl hl (by decide) rfl (fun ls hl => ?_)
  have LOOP : ∀ (k n : Nat) (tm : Nat → Nat) (bl : Nat → List Nat) (L' : List Nat) (h : Nat → va_E), n + k = 12 → Fill (L45 ++ [q54] ++ [q62] ++ [q70] ++ [q77] ++ [q84] ++ [q92] ++ [q100]) g45 (CurveAt cs) n tm bl L' h → Fc L' [q100, q92, q84, q77, q70, q62, q54, q7, a] → ∀ (H : Heap) (locs : List Loc) (ls : Array Slot), Wb D vwCl (TY cs) L' (mw h [(q100, .inl (cs 0, 60, .inl (ai (fun _ => 0)))), (q92, .inl (cs 0, 60, .inl (ai (fun _ => 0)))), (q84, .inl (cs 0, 5, .inl (ai (fun _ => 0)))), (q77, .inl (cs 0, 5, .inl (ai (fun _ => 0)))), (q70, .inl (cs 0, 6, .inl (ai (fun _ => 0)))), (q62, .inl (cs 0, 6, .inl (ai (fun _ => 0)))), (q54, .inl (cs 1, 12, .inr (.inl (al (fun _ => 0))))), (q7, .inl (cs 4, 12, .inr (.inr (.inr (.inr (rfs n tm)))))), (a, .inr (6, [.ref q7, .int (iI 0), .ref q19, .ref q30, .ref q41, .ref q54, .ref q62, .ref q70, .ref q77, .ref q84, .ref q92, .ref q100, .int (iI 0), .int (iI 0)]))]) (AL L s.heap.size) s H locs → lv_has ls 2 [(1, .int (iI ((n : Int)))), (0, .ref a)] → W p l e R s m av below meth c H locs (136 + 14 * n) (3354 + 77 * n) Q (F0 m 117 ls []) := by
    intro k
    induction k with
    | zero =>
      intro n tm bl L' h hn hFi hF H locs ls B hl
      have hn : n = 12 := by omega
      refine lv_iload_n hx hb d_RR_init_117 rfl (lv_at hl 0 rfl) ?_
      refine x_bipush hx hb d_RR_init_118 (by decide) ?_
      refine x_icmp_ge (tgt := 142) hx hb d_RR_init_120 (by decide) (by omega) (by omega) (fun h120 => ?_) (fun h120 => ?_)
      · refine W.widen (k := 304) (n := 4278) (by omega) (by omega) ?_
        subst hQ hav
        exact x_vretG hx hb hr hlocks B d_RR_init_142 (by
      subst hn
      have hnd := B.nodup
      have hk : ∀ (k r : Nat), k < 12 → r ∈ tm k :: bl k → r ∉ [q100, q92, q84, q77, q70, q62, q54, q7, a] := fun k r hk hr hx => hFi.out hnd hk hr (by
        simp only [List.mem_cons, List.not_mem_nil, or_false] at hx
        rcases hx with rfl | rfl | rfl | rfl | rfl | rfl | rfl | rfl | rfl
        · simp [hL45, hL34, hL23]
        · simp [hL45, hL34, hL23]
        · simp [hL45, hL34, hL23]
        · simp [hL45, hL34, hL23]
        · simp [hL45, hL34, hL23]
        · simp [hL45, hL34, hL23]
        · simp [hL45, hL34, hL23]
        · simp [hL45, hL34, hL23]
        · simp [hL45, hL34, hL23, hF0.2 _ List.mem_cons_self])
      have hout23 : ∀ r ∈ q19 :: b23, r ∉ [q100, q92, q84, q77, q70, q62, q54, q7, a] := fun r hr hx => by
        simp only [List.mem_cons, List.not_mem_nil, or_false] at hx
        rcases hx with rfl | rfl | rfl | rfl | rfl | rfl | rfl | hx
        · exact hq100 (List.mem_append_left _ (List.mem_append_left _ (List.mem_append_left _ (List.mem_append_left _ (List.mem_append_left _ (List.mem_append_left _ (hin23 _ hr)))))))
        · exact hq92 (List.mem_append_left _ (List.mem_append_left _ (List.mem_append_left _ (List.mem_append_left _ (List.mem_append_left _ (hin23 _ hr))))))
        · exact hq84 (List.mem_append_left _ (List.mem_append_left _ (List.mem_append_left _ (List.mem_append_left _ (hin23 _ hr)))))
        · exact hq77 (List.mem_append_left _ (List.mem_append_left _ (List.mem_append_left _ (hin23 _ hr))))
        · exact hq70 (List.mem_append_left _ (List.mem_append_left _ (hin23 _ hr)))
        · exact hq62 (List.mem_append_left _ (hin23 _ hr))
        · exact hq54 (hin23 _ hr)
        · exact hout23 r hr (by simpa using hx)
      have hAt23 : ChainAt cs (mw h [(q100, .inl (cs 0, 60, .inl (ai (fun _ => 0)))), (q92, .inl (cs 0, 60, .inl (ai (fun _ => 0)))), (q84, .inl (cs 0, 5, .inl (ai (fun _ => 0)))), (q77, .inl (cs 0, 5, .inl (ai (fun _ => 0)))), (q70, .inl (cs 0, 6, .inl (ai (fun _ => 0)))), (q62, .inl (cs 0, 6, .inl (ai (fun _ => 0)))), (q54, .inl (cs 1, 12, .inr (.inl (al (fun _ => 0))))), (q7, .inl (cs 4, 12, .inr (.inr (.inr (.inr (rfs 12 tm)))))), (a, .inr (6, [.ref q7, .int (iI 0), .ref q19, .ref q30, .ref q41, .ref q54, .ref q62, .ref q70, .ref q77, .ref q84, .ref q92, .ref q100, .int (iI 0), .int (iI 0)]))]) q19 b23 := ChainAt.loc _ _ _ _ (fun r hr => (mw_out (hout23 r hr)).trans (hFi.2.1 r (List.mem_append_left _ (List.mem_append_left _ (List.mem_append_left _ (List.mem_append_left _ (List.mem_append_left _ (List.mem_append_left _ (List.mem_append_left _ (hin23 r hr)))))))))) hAt23
      have hout34 : ∀ r ∈ q30 :: b34, r ∉ [q100, q92, q84, q77, q70, q62, q54, q7, a] := fun r hr hx => by
        simp only [List.mem_cons, List.not_mem_nil, or_false] at hx
        rcases hx with rfl | rfl | rfl | rfl | rfl | rfl | rfl | hx
        · exact hq100 (List.mem_append_left _ (List.mem_append_left _ (List.mem_append_left _ (List.mem_append_left _ (List.mem_append_left _ (List.mem_append_left _ (hin34 _ hr)))))))
        · exact hq92 (List.mem_append_left _ (List.mem_append_left _ (List.mem_append_left _ (List.mem_append_left _ (List.mem_append_left _ (hin34 _ hr))))))
        · exact hq84 (List.mem_append_left _ (List.mem_append_left _ (List.mem_append_left _ (List.mem_append_left _ (hin34 _ hr)))))
        · exact hq77 (List.mem_append_left _ (List.mem_append_left _ (List.mem_append_left _ (hin34 _ hr))))
        · exact hq70 (List.mem_append_left _ (List.mem_append_left _ (hin34 _ hr)))
        · exact hq62 (List.mem_append_left _ (hin34 _ hr))
        · exact hq54 (hin34 _ hr)
        · exact hout34 r hr (by simpa using hx)
      have hAt34 : SpotAt cs (mw h [(q100, .inl (cs 0, 60, .inl (ai (fun _ => 0)))), (q92, .inl (cs 0, 60, .inl (ai (fun _ => 0)))), (q84, .inl (cs 0, 5, .inl (ai (fun _ => 0)))), (q77, .inl (cs 0, 5, .inl (ai (fun _ => 0)))), (q70, .inl (cs 0, 6, .inl (ai (fun _ => 0)))), (q62, .inl (cs 0, 6, .inl (ai (fun _ => 0)))), (q54, .inl (cs 1, 12, .inr (.inl (al (fun _ => 0))))), (q7, .inl (cs 4, 12, .inr (.inr (.inr (.inr (rfs 12 tm)))))), (a, .inr (6, [.ref q7, .int (iI 0), .ref q19, .ref q30, .ref q41, .ref q54, .ref q62, .ref q70, .ref q77, .ref q84, .ref q92, .ref q100, .int (iI 0), .int (iI 0)]))]) q30 b34 := SpotAt.loc _ _ _ _ (fun r hr => (mw_out (hout34 r hr)).trans (hFi.2.1 r (List.mem_append_left _ (List.mem_append_left _ (List.mem_append_left _ (List.mem_append_left _ (List.mem_append_left _ (List.mem_append_left _ (List.mem_append_left _ (hin34 r hr)))))))))) hAt34
      have hout45 : ∀ r ∈ q41 :: b45, r ∉ [q100, q92, q84, q77, q70, q62, q54, q7, a] := fun r hr hx => by
        simp only [List.mem_cons, List.not_mem_nil, or_false] at hx
        rcases hx with rfl | rfl | rfl | rfl | rfl | rfl | rfl | hx
        · exact hq100 (List.mem_append_left _ (List.mem_append_left _ (List.mem_append_left _ (List.mem_append_left _ (List.mem_append_left _ (List.mem_append_left _ (hin45 _ hr)))))))
        · exact hq92 (List.mem_append_left _ (List.mem_append_left _ (List.mem_append_left _ (List.mem_append_left _ (List.mem_append_left _ (hin45 _ hr))))))
        · exact hq84 (List.mem_append_left _ (List.mem_append_left _ (List.mem_append_left _ (List.mem_append_left _ (hin45 _ hr)))))
        · exact hq77 (List.mem_append_left _ (List.mem_append_left _ (List.mem_append_left _ (hin45 _ hr))))
        · exact hq70 (List.mem_append_left _ (List.mem_append_left _ (hin45 _ hr)))
        · exact hq62 (List.mem_append_left _ (hin45 _ hr))
        · exact hq54 (hin45 _ hr)
        · exact hout45 r hr (by simpa using hx)
      have hAt45 : RatioAt cs (mw h [(q100, .inl (cs 0, 60, .inl (ai (fun _ => 0)))), (q92, .inl (cs 0, 60, .inl (ai (fun _ => 0)))), (q84, .inl (cs 0, 5, .inl (ai (fun _ => 0)))), (q77, .inl (cs 0, 5, .inl (ai (fun _ => 0)))), (q70, .inl (cs 0, 6, .inl (ai (fun _ => 0)))), (q62, .inl (cs 0, 6, .inl (ai (fun _ => 0)))), (q54, .inl (cs 1, 12, .inr (.inl (al (fun _ => 0))))), (q7, .inl (cs 4, 12, .inr (.inr (.inr (.inr (rfs 12 tm)))))), (a, .inr (6, [.ref q7, .int (iI 0), .ref q19, .ref q30, .ref q41, .ref q54, .ref q62, .ref q70, .ref q77, .ref q84, .ref q92, .ref q100, .int (iI 0), .int (iI 0)]))]) q41 b45 := RatioAt.loc _ _ _ _ (fun r hr => (mw_out (hout45 r hr)).trans (hFi.2.1 r (List.mem_append_left _ (List.mem_append_left _ (List.mem_append_left _ (List.mem_append_left _ (List.mem_append_left _ (List.mem_append_left _ (List.mem_append_left _ (hin45 r hr)))))))))) hAt45
      show ∃ b, L' = L ++ b ∧ RRAt cs (mw h [(q100, .inl (cs 0, 60, .inl (ai (fun _ => 0)))), (q92, .inl (cs 0, 60, .inl (ai (fun _ => 0)))), (q84, .inl (cs 0, 5, .inl (ai (fun _ => 0)))), (q77, .inl (cs 0, 5, .inl (ai (fun _ => 0)))), (q70, .inl (cs 0, 6, .inl (ai (fun _ => 0)))), (q62, .inl (cs 0, 6, .inl (ai (fun _ => 0)))), (q54, .inl (cs 1, 12, .inr (.inl (al (fun _ => 0))))), (q7, .inl (cs 4, 12, .inr (.inr (.inr (.inr (rfs 12 tm)))))), (a, .inr (6, [.ref q7, .int (iI 0), .ref q19, .ref q30, .ref q41, .ref q54, .ref q62, .ref q70, .ref q77, .ref q84, .ref q92, .ref q100, .int (iI 0), .int (iI 0)]))]) a b ∧ ∀ q ∈ L, q ≠ a → mw h [(q100, .inl (cs 0, 60, .inl (ai (fun _ => 0)))), (q92, .inl (cs 0, 60, .inl (ai (fun _ => 0)))), (q84, .inl (cs 0, 5, .inl (ai (fun _ => 0)))), (q77, .inl (cs 0, 5, .inl (ai (fun _ => 0)))), (q70, .inl (cs 0, 6, .inl (ai (fun _ => 0)))), (q62, .inl (cs 0, 6, .inl (ai (fun _ => 0)))), (q54, .inl (cs 1, 12, .inr (.inl (al (fun _ => 0))))), (q7, .inl (cs 4, 12, .inr (.inr (.inr (.inr (rfs 12 tm)))))), (a, .inr (6, [.ref q7, .int (iI 0), .ref q19, .ref q30, .ref q41, .ref q54, .ref q62, .ref q70, .ref q77, .ref q84, .ref q92, .ref q100, .int (iI 0), .int (iI 0)]))] q = f q
      refine ⟨_, by rw [hFi.1, hL45, hL34, hL23]; simp only [List.append_assoc, List.cons_append, List.nil_append], ⟨q7, q19, q30, q41, q54, q62, q70, q77, q84, q92, q100, b23, b34, b45, tm, bl, rfl, mw_get (X := [(q100, .inl (cs 0, 60, .inl (ai (fun _ => 0)))), (q92, .inl (cs 0, 60, .inl (ai (fun _ => 0)))), (q84, .inl (cs 0, 5, .inl (ai (fun _ => 0)))), (q77, .inl (cs 0, 5, .inl (ai (fun _ => 0)))), (q70, .inl (cs 0, 6, .inl (ai (fun _ => 0)))), (q62, .inl (cs 0, 6, .inl (ai (fun _ => 0)))), (q54, .inl (cs 1, 12, .inr (.inl (al (fun _ => 0))))), (q7, .inl (cs 4, 12, .inr (.inr (.inr (.inr (rfs 12 tm)))))), (a, .inr (6, [.ref q7, .int (iI 0), .ref q19, .ref q30, .ref q41, .ref q54, .ref q62, .ref q70, .ref q77, .ref q84, .ref q92, .ref q100, .int (iI 0), .int (iI 0)]))]) hF.1 (k := 8) rfl, mw_get (X := [(q100, .inl (cs 0, 60, .inl (ai (fun _ => 0)))), (q92, .inl (cs 0, 60, .inl (ai (fun _ => 0)))), (q84, .inl (cs 0, 5, .inl (ai (fun _ => 0)))), (q77, .inl (cs 0, 5, .inl (ai (fun _ => 0)))), (q70, .inl (cs 0, 6, .inl (ai (fun _ => 0)))), (q62, .inl (cs 0, 6, .inl (ai (fun _ => 0)))), (q54, .inl (cs 1, 12, .inr (.inl (al (fun _ => 0))))), (q7, .inl (cs 4, 12, .inr (.inr (.inr (.inr (rfs 12 tm)))))), (a, .inr (6, [.ref q7, .int (iI 0), .ref q19, .ref q30, .ref q41, .ref q54, .ref q62, .ref q70, .ref q77, .ref q84, .ref q92, .ref q100, .int (iI 0), .int (iI 0)]))]) hF.1 (k := 7) rfl, mw_get (X := [(q100, .inl (cs 0, 60, .inl (ai (fun _ => 0)))), (q92, .inl (cs 0, 60, .inl (ai (fun _ => 0)))), (q84, .inl (cs 0, 5, .inl (ai (fun _ => 0)))), (q77, .inl (cs 0, 5, .inl (ai (fun _ => 0)))), (q70, .inl (cs 0, 6, .inl (ai (fun _ => 0)))), (q62, .inl (cs 0, 6, .inl (ai (fun _ => 0)))), (q54, .inl (cs 1, 12, .inr (.inl (al (fun _ => 0))))), (q7, .inl (cs 4, 12, .inr (.inr (.inr (.inr (rfs 12 tm)))))), (a, .inr (6, [.ref q7, .int (iI 0), .ref q19, .ref q30, .ref q41, .ref q54, .ref q62, .ref q70, .ref q77, .ref q84, .ref q92, .ref q100, .int (iI 0), .int (iI 0)]))]) hF.1 (k := 6) rfl, mw_get (X := [(q100, .inl (cs 0, 60, .inl (ai (fun _ => 0)))), (q92, .inl (cs 0, 60, .inl (ai (fun _ => 0)))), (q84, .inl (cs 0, 5, .inl (ai (fun _ => 0)))), (q77, .inl (cs 0, 5, .inl (ai (fun _ => 0)))), (q70, .inl (cs 0, 6, .inl (ai (fun _ => 0)))), (q62, .inl (cs 0, 6, .inl (ai (fun _ => 0)))), (q54, .inl (cs 1, 12, .inr (.inl (al (fun _ => 0))))), (q7, .inl (cs 4, 12, .inr (.inr (.inr (.inr (rfs 12 tm)))))), (a, .inr (6, [.ref q7, .int (iI 0), .ref q19, .ref q30, .ref q41, .ref q54, .ref q62, .ref q70, .ref q77, .ref q84, .ref q92, .ref q100, .int (iI 0), .int (iI 0)]))]) hF.1 (k := 5) rfl, mw_get (X := [(q100, .inl (cs 0, 60, .inl (ai (fun _ => 0)))), (q92, .inl (cs 0, 60, .inl (ai (fun _ => 0)))), (q84, .inl (cs 0, 5, .inl (ai (fun _ => 0)))), (q77, .inl (cs 0, 5, .inl (ai (fun _ => 0)))), (q70, .inl (cs 0, 6, .inl (ai (fun _ => 0)))), (q62, .inl (cs 0, 6, .inl (ai (fun _ => 0)))), (q54, .inl (cs 1, 12, .inr (.inl (al (fun _ => 0))))), (q7, .inl (cs 4, 12, .inr (.inr (.inr (.inr (rfs 12 tm)))))), (a, .inr (6, [.ref q7, .int (iI 0), .ref q19, .ref q30, .ref q41, .ref q54, .ref q62, .ref q70, .ref q77, .ref q84, .ref q92, .ref q100, .int (iI 0), .int (iI 0)]))]) hF.1 (k := 4) rfl, mw_get (X := [(q100, .inl (cs 0, 60, .inl (ai (fun _ => 0)))), (q92, .inl (cs 0, 60, .inl (ai (fun _ => 0)))), (q84, .inl (cs 0, 5, .inl (ai (fun _ => 0)))), (q77, .inl (cs 0, 5, .inl (ai (fun _ => 0)))), (q70, .inl (cs 0, 6, .inl (ai (fun _ => 0)))), (q62, .inl (cs 0, 6, .inl (ai (fun _ => 0)))), (q54, .inl (cs 1, 12, .inr (.inl (al (fun _ => 0))))), (q7, .inl (cs 4, 12, .inr (.inr (.inr (.inr (rfs 12 tm)))))), (a, .inr (6, [.ref q7, .int (iI 0), .ref q19, .ref q30, .ref q41, .ref q54, .ref q62, .ref q70, .ref q77, .ref q84, .ref q92, .ref q100, .int (iI 0), .int (iI 0)]))]) hF.1 (k := 3) rfl, mw_get (X := [(q100, .inl (cs 0, 60, .inl (ai (fun _ => 0)))), (q92, .inl (cs 0, 60, .inl (ai (fun _ => 0)))), (q84, .inl (cs 0, 5, .inl (ai (fun _ => 0)))), (q77, .inl (cs 0, 5, .inl (ai (fun _ => 0)))), (q70, .inl (cs 0, 6, .inl (ai (fun _ => 0)))), (q62, .inl (cs 0, 6, .inl (ai (fun _ => 0)))), (q54, .inl (cs 1, 12, .inr (.inl (al (fun _ => 0))))), (q7, .inl (cs 4, 12, .inr (.inr (.inr (.inr (rfs 12 tm)))))), (a, .inr (6, [.ref q7, .int (iI 0), .ref q19, .ref q30, .ref q41, .ref q54, .ref q62, .ref q70, .ref q77, .ref q84, .ref q92, .ref q100, .int (iI 0), .int (iI 0)]))]) hF.1 (k := 2) rfl, mw_get (X := [(q100, .inl (cs 0, 60, .inl (ai (fun _ => 0)))), (q92, .inl (cs 0, 60, .inl (ai (fun _ => 0)))), (q84, .inl (cs 0, 5, .inl (ai (fun _ => 0)))), (q77, .inl (cs 0, 5, .inl (ai (fun _ => 0)))), (q70, .inl (cs 0, 6, .inl (ai (fun _ => 0)))), (q62, .inl (cs 0, 6, .inl (ai (fun _ => 0)))), (q54, .inl (cs 1, 12, .inr (.inl (al (fun _ => 0))))), (q7, .inl (cs 4, 12, .inr (.inr (.inr (.inr (rfs 12 tm)))))), (a, .inr (6, [.ref q7, .int (iI 0), .ref q19, .ref q30, .ref q41, .ref q54, .ref q62, .ref q70, .ref q77, .ref q84, .ref q92, .ref q100, .int (iI 0), .int (iI 0)]))]) hF.1 (k := 1) rfl, mw_get (X := [(q100, .inl (cs 0, 60, .inl (ai (fun _ => 0)))), (q92, .inl (cs 0, 60, .inl (ai (fun _ => 0)))), (q84, .inl (cs 0, 5, .inl (ai (fun _ => 0)))), (q77, .inl (cs 0, 5, .inl (ai (fun _ => 0)))), (q70, .inl (cs 0, 6, .inl (ai (fun _ => 0)))), (q62, .inl (cs 0, 6, .inl (ai (fun _ => 0)))), (q54, .inl (cs 1, 12, .inr (.inl (al (fun _ => 0))))), (q7, .inl (cs 4, 12, .inr (.inr (.inr (.inr (rfs 12 tm)))))), (a, .inr (6, [.ref q7, .int (iI 0), .ref q19, .ref q30, .ref q41, .ref q54, .ref q62, .ref q70, .ref q77, .ref q84, .ref q92, .ref q100, .int (iI 0), .int (iI 0)]))]) hF.1 (k := 0) rfl, hAt23, hAt34, hAt45, fun k hk2 => CurveAt.loc h _ _ _ (fun r hr => mw_out (hk k r hk2 hr)) (hFi.2.2 k hk2)⟩, fun q hq hqa => ?_⟩
      have h23 : q ∈ L23 := by rw [hL23]; simp [hq]
      have h34 : q ∈ L34 := by rw [hL34]; simp [h23]
      have h45 : q ∈ L45 := by rw [hL45]; simp [h34]
      have hq0 : q ∉ [q100, q92, q84, q77, q70, q62, q54, q7, a] := fun hx => by
        simp only [List.mem_cons, List.not_mem_nil, or_false] at hx
        rcases hx with rfl | rfl | rfl | rfl | rfl | rfl | rfl | rfl | rfl
        · exact hq100 (by simp [h45])
        · exact hq92 (by simp [h45])
        · exact hq84 (by simp [h45])
        · exact hq77 (by simp [h45])
        · exact hq70 (by simp [h45])
        · exact hq62 (by simp [h45])
        · exact hq54 (by simp [h45])
        · exact hq7 hq
        · exact hqa rfl
      rw [mw_out hq0, hFi.2.1 q (by simp [h45])]
      have hz : q ∉ [q41, q7, a] := fun hx => by
        simp only [List.mem_cons, List.not_mem_nil, or_false] at hx
        rcases hx with rfl | rfl | rfl
        · exact hq41 (by simp [h34])
        · exact hq7 hq
        · exact hqa rfl
      refine ((hfr45 q (by simp [h34]) (fun hh => hz (by rw [hh]; exact List.mem_cons_self))).trans (mw_out hz)).trans ?_
      have hz : q ∉ [q30, q7, a] := fun hx => by
        simp only [List.mem_cons, List.not_mem_nil, or_false] at hx
        rcases hx with rfl | rfl | rfl
        · exact hq30 (by simp [h23])
        · exact hq7 hq
        · exact hqa rfl
      refine ((hfr34 q (by simp [h23]) (fun hh => hz (by rw [hh]; exact List.mem_cons_self))).trans (mw_out hz)).trans ?_
      have hz : q ∉ [q19, q7, a] := fun hx => by
        simp only [List.mem_cons, List.not_mem_nil, or_false] at hx
        rcases hx with rfl | rfl | rfl
        · exact hq19 (by simp [hq])
        · exact hq7 hq
        · exact hqa rfl
      refine ((hfr23 q (by simp [hq]) (fun hh => hz (by rw [hh]; exact List.mem_cons_self))).trans (mw_out hz)).trans ?_
      rfl)
      · exfalso; omega
    | succ k ih =>
      intro n tm bl L' h hn hFi hF H locs ls B hl
      refine lv_iload_n hx hb d_RR_init_117 rfl (lv_at hl 0 rfl) ?_
      refine x_bipush hx hb d_RR_init_118 (by decide) ?_
      refine x_icmp_ge (tgt := 142) hx hb d_RR_init_120 (by decide) (by omega) (by omega) (fun h120 => ?_) (fun h120 => ?_)
      · exfalso; omega
      · refine lv_aload_n hx hb d_RR_init_123 rfl (lv_at hl 1 rfl) ?_
        refine x_get (C := RX6) (T := TX6) (N := 14) hx hb hts inX6 hown B hF 8 rfl rfl 0 (by decide) (hts _ w_197) (fun _ h9 => h9) rfl d_RR_init_124 ?_
        refine lv_iload_n hx hb d_RR_init_127 rfl (lv_at hl 0 rfl) ?_
        refine x_new (ci := 2) (fs := [.null, .null, .null, .int (iI 0), .int (iI 0)]) (C := RX2) (T := TX2) (N := 5) hx hb hts inX2 tyX2 tyX2_ok hown (hts _ w_23) (hts _ w_148) (hts _ w_6) B hF hA rfl (fun j hj => by rcases (show j = 0 ∨ j = 1 ∨ j = 2 ∨ j = 3 ∨ j = 4 by omega) with rfl | rfl | rfl | rfl | rfl <;> rfl) (by rw [hRc]; omega) (by rw [hRs]; omega) d_RR_init_128 (fun q128 H hq128 hF B => ?_)
        have B : Wb D vwCl (TY cs) (L' ++ [q128]) (mw h [(q128, .inr (2, [.null, .null, .null, .int (iI 0), .int (iI 0)])), (q100, .inl (cs 0, 60, .inl (ai (fun _ => 0)))), (q92, .inl (cs 0, 60, .inl (ai (fun _ => 0)))), (q84, .inl (cs 0, 5, .inl (ai (fun _ => 0)))), (q77, .inl (cs 0, 5, .inl (ai (fun _ => 0)))), (q70, .inl (cs 0, 6, .inl (ai (fun _ => 0)))), (q62, .inl (cs 0, 6, .inl (ai (fun _ => 0)))), (q54, .inl (cs 1, 12, .inr (.inl (al (fun _ => 0))))), (q7, .inl (cs 4, 12, .inr (.inr (.inr (.inr (rfs n tm)))))), (a, .inr (6, [.ref q7, .int (iI 0), .ref q19, .ref q30, .ref q41, .ref q54, .ref q62, .ref q70, .ref q77, .ref q84, .ref q92, .ref q100, .int (iI 0), .int (iI 0)]))]) (AL L s.heap.size) s H _ := B
        have hF : Fc (L' ++ [q128]) [q128, q100, q92, q84, q77, q70, q62, q54, q7, a] := hF
        refine lv_dup hx hb d_RR_init_131 rfl ?_
        refine x_callvG B hA (va_runI (As := []) (rest := [.ref q128, .int (iI ((n : Int))), .ref q7]) ⟨hx, hb, hml, hown, hts⟩ (c_Curve_init l D cs _ _ H.size q128 0 0 hF.hd (mw_get (X := [(q128, .inr (2, [.null, .null, .null, .int (iI 0), .int (iI 0)])), (q100, .inl (cs 0, 60, .inl (ai (fun _ => 0)))), (q92, .inl (cs 0, 60, .inl (ai (fun _ => 0)))), (q84, .inl (cs 0, 5, .inl (ai (fun _ => 0)))), (q77, .inl (cs 0, 5, .inl (ai (fun _ => 0)))), (q70, .inl (cs 0, 6, .inl (ai (fun _ => 0)))), (q62, .inl (cs 0, 6, .inl (ai (fun _ => 0)))), (q54, .inl (cs 1, 12, .inr (.inl (al (fun _ => 0))))), (q7, .inl (cs 4, 12, .inr (.inr (.inr (.inr (rfs n tm)))))), (a, .inr (6, [.ref q7, .int (iI 0), .ref q19, .ref q30, .ref q41, .ref q54, .ref q62, .ref q70, .ref q77, .ref q84, .ref q92, .ref q100, .int (iI 0), .int (iI 0)]))]) hF.1 (k := 0) rfl)) (cwI 0 hts (gw_cons w_151) rfl rfl rfl (hts _ w_6) (hts _ w_149) (hts _ w_150) rfl (by decide +kernel) ⟨by rw [hRf]; exact Nat.le_of_ble_eq_true rfl, by rw [hRl]; exact Nat.le_of_ble_eq_true rfl⟩) ⟨K0.blind, B.pre _⟩ rfl rfl hl.1 rfl (lv_room (Nat.le_of_ble_eq_true rfl)) d_RR_init_132 ⟨by rw [hRc]; omega, by rw [hRs]; omega⟩) (fun u H locs hw B => ?_)
        obtain ⟨L2, g2⟩ := u
        have hw : ∃ b, L2 = L' ++ [q128] ++ b ∧ CurveAt cs g2 q128 b ∧ ∀ r ∈ L' ++ [q128], r ≠ q128 → g2 r = mw h [(q128, .inr (2, [.null, .null, .null, .int (iI 0), .int (iI 0)])), (q100, .inl (cs 0, 60, .inl (ai (fun _ => 0)))), (q92, .inl (cs 0, 60, .inl (ai (fun _ => 0)))), (q84, .inl (cs 0, 5, .inl (ai (fun _ => 0)))), (q77, .inl (cs 0, 5, .inl (ai (fun _ => 0)))), (q70, .inl (cs 0, 6, .inl (ai (fun _ => 0)))), (q62, .inl (cs 0, 6, .inl (ai (fun _ => 0)))), (q54, .inl (cs 1, 12, .inr (.inl (al (fun _ => 0))))), (q7, .inl (cs 4, 12, .inr (.inr (.inr (.inr (rfs n tm)))))), (a, .inr (6, [.ref q7, .int (iI 0), .ref q19, .ref q30, .ref q41, .ref q54, .ref q62, .ref q70, .ref q77, .ref q84, .ref q92, .ref q100, .int (iI 0), .int (iI 0)]))] r := hw
        obtain ⟨b2, hL2, hAt2, hfr2⟩ := hw
        have B : Wb D vwCl (TY cs) L2 g2 (AL L s.heap.size) s H locs := B
        have hnd2 := B.nodup
        subst hL2
        have hb2 : ∀ r ∈ q128 :: b2, r ∉ L' := fun r hr hx => by
          rw [List.append_assoc, List.nodup_append] at hnd2
          exact hnd2.2.2 r hx r hr rfl
        have B := B.focus [(q100, .inl (cs 0, 60, .inl (ai (fun _ => 0)))), (q92, .inl (cs 0, 60, .inl (ai (fun _ => 0)))), (q84, .inl (cs 0, 5, .inl (ai (fun _ => 0)))), (q77, .inl (cs 0, 5, .inl (ai (fun _ => 0)))), (q70, .inl (cs 0, 6, .inl (ai (fun _ => 0)))), (q62, .inl (cs 0, 6, .inl (ai (fun _ => 0)))), (q54, .inl (cs 1, 12, .inr (.inl (al (fun _ => 0))))), (q7, .inl (cs 4, 12, .inr (.inr (.inr (.inr (rfs n tm)))))), (a, .inr (6, [.ref q7, .int (iI 0), .ref q19, .ref q30, .ref q41, .ref q54, .ref q62, .ref q70, .ref q77, .ref q84, .ref q92, .ref q100, .int (iI 0), .int (iI 0)]))] (fun r hr => by
          simp only [List.mem_cons, List.not_mem_nil, or_false] at hr
          rcases hr with rfl | rfl | rfl | rfl | rfl | rfl | rfl | rfl | rfl
          · exact (hfr2 _ (hF.2 _ (by simp)) (fun hh => (List.nodup_cons.mp hF.1).1 (by rw [← hh]; simp))).trans (mw_get (X := [(q128, .inr (2, [.null, .null, .null, .int (iI 0), .int (iI 0)])), (q100, .inl (cs 0, 60, .inl (ai (fun _ => 0)))), (q92, .inl (cs 0, 60, .inl (ai (fun _ => 0)))), (q84, .inl (cs 0, 5, .inl (ai (fun _ => 0)))), (q77, .inl (cs 0, 5, .inl (ai (fun _ => 0)))), (q70, .inl (cs 0, 6, .inl (ai (fun _ => 0)))), (q62, .inl (cs 0, 6, .inl (ai (fun _ => 0)))), (q54, .inl (cs 1, 12, .inr (.inl (al (fun _ => 0))))), (q7, .inl (cs 4, 12, .inr (.inr (.inr (.inr (rfs n tm)))))), (a, .inr (6, [.ref q7, .int (iI 0), .ref q19, .ref q30, .ref q41, .ref q54, .ref q62, .ref q70, .ref q77, .ref q84, .ref q92, .ref q100, .int (iI 0), .int (iI 0)]))]) hF.1 (k := 1) rfl)
          · exact (hfr2 _ (hF.2 _ (by simp)) (fun hh => (List.nodup_cons.mp hF.1).1 (by rw [← hh]; simp))).trans (mw_get (X := [(q128, .inr (2, [.null, .null, .null, .int (iI 0), .int (iI 0)])), (q100, .inl (cs 0, 60, .inl (ai (fun _ => 0)))), (q92, .inl (cs 0, 60, .inl (ai (fun _ => 0)))), (q84, .inl (cs 0, 5, .inl (ai (fun _ => 0)))), (q77, .inl (cs 0, 5, .inl (ai (fun _ => 0)))), (q70, .inl (cs 0, 6, .inl (ai (fun _ => 0)))), (q62, .inl (cs 0, 6, .inl (ai (fun _ => 0)))), (q54, .inl (cs 1, 12, .inr (.inl (al (fun _ => 0))))), (q7, .inl (cs 4, 12, .inr (.inr (.inr (.inr (rfs n tm)))))), (a, .inr (6, [.ref q7, .int (iI 0), .ref q19, .ref q30, .ref q41, .ref q54, .ref q62, .ref q70, .ref q77, .ref q84, .ref q92, .ref q100, .int (iI 0), .int (iI 0)]))]) hF.1 (k := 2) rfl)
          · exact (hfr2 _ (hF.2 _ (by simp)) (fun hh => (List.nodup_cons.mp hF.1).1 (by rw [← hh]; simp))).trans (mw_get (X := [(q128, .inr (2, [.null, .null, .null, .int (iI 0), .int (iI 0)])), (q100, .inl (cs 0, 60, .inl (ai (fun _ => 0)))), (q92, .inl (cs 0, 60, .inl (ai (fun _ => 0)))), (q84, .inl (cs 0, 5, .inl (ai (fun _ => 0)))), (q77, .inl (cs 0, 5, .inl (ai (fun _ => 0)))), (q70, .inl (cs 0, 6, .inl (ai (fun _ => 0)))), (q62, .inl (cs 0, 6, .inl (ai (fun _ => 0)))), (q54, .inl (cs 1, 12, .inr (.inl (al (fun _ => 0))))), (q7, .inl (cs 4, 12, .inr (.inr (.inr (.inr (rfs n tm)))))), (a, .inr (6, [.ref q7, .int (iI 0), .ref q19, .ref q30, .ref q41, .ref q54, .ref q62, .ref q70, .ref q77, .ref q84, .ref q92, .ref q100, .int (iI 0), .int (iI 0)]))]) hF.1 (k := 3) rfl)
          · exact (hfr2 _ (hF.2 _ (by simp)) (fun hh => (List.nodup_cons.mp hF.1).1 (by rw [← hh]; simp))).trans (mw_get (X := [(q128, .inr (2, [.null, .null, .null, .int (iI 0), .int (iI 0)])), (q100, .inl (cs 0, 60, .inl (ai (fun _ => 0)))), (q92, .inl (cs 0, 60, .inl (ai (fun _ => 0)))), (q84, .inl (cs 0, 5, .inl (ai (fun _ => 0)))), (q77, .inl (cs 0, 5, .inl (ai (fun _ => 0)))), (q70, .inl (cs 0, 6, .inl (ai (fun _ => 0)))), (q62, .inl (cs 0, 6, .inl (ai (fun _ => 0)))), (q54, .inl (cs 1, 12, .inr (.inl (al (fun _ => 0))))), (q7, .inl (cs 4, 12, .inr (.inr (.inr (.inr (rfs n tm)))))), (a, .inr (6, [.ref q7, .int (iI 0), .ref q19, .ref q30, .ref q41, .ref q54, .ref q62, .ref q70, .ref q77, .ref q84, .ref q92, .ref q100, .int (iI 0), .int (iI 0)]))]) hF.1 (k := 4) rfl)
          · exact (hfr2 _ (hF.2 _ (by simp)) (fun hh => (List.nodup_cons.mp hF.1).1 (by rw [← hh]; simp))).trans (mw_get (X := [(q128, .inr (2, [.null, .null, .null, .int (iI 0), .int (iI 0)])), (q100, .inl (cs 0, 60, .inl (ai (fun _ => 0)))), (q92, .inl (cs 0, 60, .inl (ai (fun _ => 0)))), (q84, .inl (cs 0, 5, .inl (ai (fun _ => 0)))), (q77, .inl (cs 0, 5, .inl (ai (fun _ => 0)))), (q70, .inl (cs 0, 6, .inl (ai (fun _ => 0)))), (q62, .inl (cs 0, 6, .inl (ai (fun _ => 0)))), (q54, .inl (cs 1, 12, .inr (.inl (al (fun _ => 0))))), (q7, .inl (cs 4, 12, .inr (.inr (.inr (.inr (rfs n tm)))))), (a, .inr (6, [.ref q7, .int (iI 0), .ref q19, .ref q30, .ref q41, .ref q54, .ref q62, .ref q70, .ref q77, .ref q84, .ref q92, .ref q100, .int (iI 0), .int (iI 0)]))]) hF.1 (k := 5) rfl)
          · exact (hfr2 _ (hF.2 _ (by simp)) (fun hh => (List.nodup_cons.mp hF.1).1 (by rw [← hh]; simp))).trans (mw_get (X := [(q128, .inr (2, [.null, .null, .null, .int (iI 0), .int (iI 0)])), (q100, .inl (cs 0, 60, .inl (ai (fun _ => 0)))), (q92, .inl (cs 0, 60, .inl (ai (fun _ => 0)))), (q84, .inl (cs 0, 5, .inl (ai (fun _ => 0)))), (q77, .inl (cs 0, 5, .inl (ai (fun _ => 0)))), (q70, .inl (cs 0, 6, .inl (ai (fun _ => 0)))), (q62, .inl (cs 0, 6, .inl (ai (fun _ => 0)))), (q54, .inl (cs 1, 12, .inr (.inl (al (fun _ => 0))))), (q7, .inl (cs 4, 12, .inr (.inr (.inr (.inr (rfs n tm)))))), (a, .inr (6, [.ref q7, .int (iI 0), .ref q19, .ref q30, .ref q41, .ref q54, .ref q62, .ref q70, .ref q77, .ref q84, .ref q92, .ref q100, .int (iI 0), .int (iI 0)]))]) hF.1 (k := 6) rfl)
          · exact (hfr2 _ (hF.2 _ (by simp)) (fun hh => (List.nodup_cons.mp hF.1).1 (by rw [← hh]; simp))).trans (mw_get (X := [(q128, .inr (2, [.null, .null, .null, .int (iI 0), .int (iI 0)])), (q100, .inl (cs 0, 60, .inl (ai (fun _ => 0)))), (q92, .inl (cs 0, 60, .inl (ai (fun _ => 0)))), (q84, .inl (cs 0, 5, .inl (ai (fun _ => 0)))), (q77, .inl (cs 0, 5, .inl (ai (fun _ => 0)))), (q70, .inl (cs 0, 6, .inl (ai (fun _ => 0)))), (q62, .inl (cs 0, 6, .inl (ai (fun _ => 0)))), (q54, .inl (cs 1, 12, .inr (.inl (al (fun _ => 0))))), (q7, .inl (cs 4, 12, .inr (.inr (.inr (.inr (rfs n tm)))))), (a, .inr (6, [.ref q7, .int (iI 0), .ref q19, .ref q30, .ref q41, .ref q54, .ref q62, .ref q70, .ref q77, .ref q84, .ref q92, .ref q100, .int (iI 0), .int (iI 0)]))]) hF.1 (k := 7) rfl)
          · exact (hfr2 _ (hF.2 _ (by simp)) (fun hh => (List.nodup_cons.mp hF.1).1 (by rw [← hh]; simp))).trans (mw_get (X := [(q128, .inr (2, [.null, .null, .null, .int (iI 0), .int (iI 0)])), (q100, .inl (cs 0, 60, .inl (ai (fun _ => 0)))), (q92, .inl (cs 0, 60, .inl (ai (fun _ => 0)))), (q84, .inl (cs 0, 5, .inl (ai (fun _ => 0)))), (q77, .inl (cs 0, 5, .inl (ai (fun _ => 0)))), (q70, .inl (cs 0, 6, .inl (ai (fun _ => 0)))), (q62, .inl (cs 0, 6, .inl (ai (fun _ => 0)))), (q54, .inl (cs 1, 12, .inr (.inl (al (fun _ => 0))))), (q7, .inl (cs 4, 12, .inr (.inr (.inr (.inr (rfs n tm)))))), (a, .inr (6, [.ref q7, .int (iI 0), .ref q19, .ref q30, .ref q41, .ref q54, .ref q62, .ref q70, .ref q77, .ref q84, .ref q92, .ref q100, .int (iI 0), .int (iI 0)]))]) hF.1 (k := 8) rfl)
          · exact (hfr2 _ (hF.2 _ (by simp)) (fun hh => (List.nodup_cons.mp hF.1).1 (by rw [← hh]; simp))).trans (mw_get (X := [(q128, .inr (2, [.null, .null, .null, .int (iI 0), .int (iI 0)])), (q100, .inl (cs 0, 60, .inl (ai (fun _ => 0)))), (q92, .inl (cs 0, 60, .inl (ai (fun _ => 0)))), (q84, .inl (cs 0, 5, .inl (ai (fun _ => 0)))), (q77, .inl (cs 0, 5, .inl (ai (fun _ => 0)))), (q70, .inl (cs 0, 6, .inl (ai (fun _ => 0)))), (q62, .inl (cs 0, 6, .inl (ai (fun _ => 0)))), (q54, .inl (cs 1, 12, .inr (.inl (al (fun _ => 0))))), (q7, .inl (cs 4, 12, .inr (.inr (.inr (.inr (rfs n tm)))))), (a, .inr (6, [.ref q7, .int (iI 0), .ref q19, .ref q30, .ref q41, .ref q54, .ref q62, .ref q70, .ref q77, .ref q84, .ref q92, .ref q100, .int (iI 0), .int (iI 0)]))]) hF.1 (k := 9) rfl))
        have B := B.of_eq (mw_congr (g := mix L' h g2) (fun r hr => by
          by_cases hrL : r ∈ L'
          · have hz : r ∉ [q128, q100, q92, q84, q77, q70, q62, q54, q7, a] := fun hx => (List.mem_cons.mp hx).elim (fun hh => hq128 (by rw [← hh]; exact hrL)) hr
            rw [mix_old hrL, hfr2 r (List.mem_append_left _ hrL) (fun hh => hq128 (by rw [← hh]; exact hrL)), mw_out (X := [(q128, .inr (2, [.null, .null, .null, .int (iI 0), .int (iI 0)])), (q100, .inl (cs 0, 60, .inl (ai (fun _ => 0)))), (q92, .inl (cs 0, 60, .inl (ai (fun _ => 0)))), (q84, .inl (cs 0, 5, .inl (ai (fun _ => 0)))), (q77, .inl (cs 0, 5, .inl (ai (fun _ => 0)))), (q70, .inl (cs 0, 6, .inl (ai (fun _ => 0)))), (q62, .inl (cs 0, 6, .inl (ai (fun _ => 0)))), (q54, .inl (cs 1, 12, .inr (.inl (al (fun _ => 0))))), (q7, .inl (cs 4, 12, .inr (.inr (.inr (.inr (rfs n tm)))))), (a, .inr (6, [.ref q7, .int (iI 0), .ref q19, .ref q30, .ref q41, .ref q54, .ref q62, .ref q70, .ref q77, .ref q84, .ref q92, .ref q100, .int (iI 0), .int (iI 0)]))]) hz]
          · rw [mix_new hrL]))
        have hAt3 : CurveAt cs (mix L' h g2) q128 b2 := CurveAt.loc g2 _ _ _ (fun r hr => mix_new (hb2 r hr)) hAt2
        have hFi2 := hFi.step CurveAt.loc (fun r hr => mix_old hr) hAt3
        have hF1 := hF
        have hF : Fc (L' ++ [q128] ++ b2) [q100, q92, q84, q77, q70, q62, q54, q7, a] := hF.tail.of (fun x hx => List.mem_append_left _ hx)
        obtain ⟨y1, y2, y3, _, _, _, hy, _⟩ := id hAt3
        refine x_aast hx hb B hF 7 4 2 rfl rfl (by simp) ((mw_out (fun hx => (List.nodup_cons.mp hF1.1).1 hx)).trans hy) rfl n (rfl) (by omega) (by decide) d_RR_init_135 (fun H locs B => ?_)
        have B : Wb D vwCl (TY cs) (L' ++ [q128] ++ b2) (mw (mix L' h g2) [(q100, .inl (cs 0, 60, .inl (ai (fun _ => 0)))), (q92, .inl (cs 0, 60, .inl (ai (fun _ => 0)))), (q84, .inl (cs 0, 5, .inl (ai (fun _ => 0)))), (q77, .inl (cs 0, 5, .inl (ai (fun _ => 0)))), (q70, .inl (cs 0, 6, .inl (ai (fun _ => 0)))), (q62, .inl (cs 0, 6, .inl (ai (fun _ => 0)))), (q54, .inl (cs 1, 12, .inr (.inl (al (fun _ => 0))))), (q7, .inl (cs 4, 12, .inr (.inr (.inr (.inr (va_up (rfs n tm) n (some q128))))))), (a, .inr (6, [.ref q7, .int (iI 0), .ref q19, .ref q30, .ref q41, .ref q54, .ref q62, .ref q70, .ref q77, .ref q84, .ref q92, .ref q100, .int (iI 0), .int (iI 0)]))]) (AL L s.heap.size) s H _ := B
        refine x_iinc (lv' := [(1, .int (iI (((n : Int)) + 1))), (0, .ref a)]) hx hb d_RR_init_136 hl (q := 0) rfl rfl (by decide) rfl (fun ls hl => ?_)
        refine lv_goto (tgt := 117) hx hb d_RR_init_139 (by decide) ?_
        rw [rfs_step] at B
        have hB3 : Wb D vwCl (TY cs) (L' ++ (q128 :: b2)) _ (AL L s.heap.size) s H locs := (by have B2 := B; rw [List.append_assoc] at B2; exact B2)
        have hF2 : Fc (L' ++ (q128 :: b2)) [q100, q92, q84, q77, q70, q62, q54, q7, a] := hF.of (fun x hx => by rw [List.append_assoc] at hx; exact hx)
        refine W.widen (k := 136 + 14 * (n + 1)) (n := 3354 + 77 * (n + 1)) (by omega) (by omega) ?_
        exact ih (n + 1) _ _ _ _ (by omega) hFi2 hF2 _ _ _ hB3 (lv_sub hl [0, 1] rfl)
  have B := B.of_eq (show mw g45 [(q100, .inl (cs 0, 60, .inl (ai (fun _ => 0)))), (q92, .inl (cs 0, 60, .inl (ai (fun _ => 0)))), (q84, .inl (cs 0, 5, .inl (ai (fun _ => 0)))), (q77, .inl (cs 0, 5, .inl (ai (fun _ => 0)))), (q70, .inl (cs 0, 6, .inl (ai (fun _ => 0)))), (q62, .inl (cs 0, 6, .inl (ai (fun _ => 0)))), (q54, .inl (cs 1, 12, .inr (.inl (al (fun _ => 0))))), (q7, .inl (cs 4, 12, .inr (.inr (.inr (.inr (fun _ => none)))))), (a, .inr (6, [.ref q7, .int (iI 0), .ref q19, .ref q30, .ref q41, .ref q54, .ref q62, .ref q70, .ref q77, .ref q84, .ref q92, .ref q100, .int (iI 0), .int (iI 0)]))] = mw g45 [(q100, .inl (cs 0, 60, .inl (ai (fun _ => 0)))), (q92, .inl (cs 0, 60, .inl (ai (fun _ => 0)))), (q84, .inl (cs 0, 5, .inl (ai (fun _ => 0)))), (q77, .inl (cs 0, 5, .inl (ai (fun _ => 0)))), (q70, .inl (cs 0, 6, .inl (ai (fun _ => 0)))), (q62, .inl (cs 0, 6, .inl (ai (fun _ => 0)))), (q54, .inl (cs 1, 12, .inr (.inl (al (fun _ => 0))))), (q7, .inl (cs 4, 12, .inr (.inr (.inr (.inr (rfs 0 (fun _ => 0))))))), (a, .inr (6, [.ref q7, .int (iI 0), .ref q19, .ref q30, .ref q41, .ref q54, .ref q62, .ref q70, .ref q77, .ref q84, .ref q92, .ref q100, .int (iI 0), .int (iI 0)]))] by rw [rfs_zero])
  refine W.widen (k := 136 + 14 * 0) (n := 3354 + 77 * 0) (by omega) (by omega) ?_
  exact LOOP 12 0 (fun _ => 0) (fun _ => []) _ _ (by omega) Fill.zero hF _ _ _ B (lv_sub hl [0, 1] rfl)
