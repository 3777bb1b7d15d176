theorem d_Curve_init_0 : decode prog_4_method_1_code 0 = .ok (.aload_n 0, 1) := by decide +kernel
theorem d_Curve_init_1 : decode prog_4_method_1_code 1 = .ok (.invokespecial 3, 3) := by decide +kernel
theorem d_Curve_init_4 : decode prog_4_method_1_code 4 = .ok (.aload_n 0, 1) := by decide +kernel
theorem d_Curve_init_5 : decode prog_4_method_1_code 5 = .ok (.bipush 6, 2) := by decide +kernel
theorem d_Curve_init_7 : decode prog_4_method_1_code 7 = .ok (.newarray .int, 2) := by decide +kernel
theorem d_Curve_init_9 : decode prog_4_method_1_code 9 = .ok (.putfield 9, 3) := by decide +kernel
theorem d_Curve_init_12 : decode prog_4_method_1_code 12 = .ok (.aload_n 0, 1) := by decide +kernel
theorem d_Curve_init_13 : decode prog_4_method_1_code 13 = .ok (.bipush 6, 2) := by decide +kernel
theorem d_Curve_init_15 : decode prog_4_method_1_code 15 = .ok (.newarray .int, 2) := by decide +kernel
theorem d_Curve_init_17 : decode prog_4_method_1_code 17 = .ok (.putfield 15, 3) := by decide +kernel
theorem d_Curve_init_20 : decode prog_4_method_1_code 20 = .ok (.aload_n 0, 1) := by decide +kernel
theorem d_Curve_init_21 : decode prog_4_method_1_code 21 = .ok (.iconst 5, 1) := by decide +kernel
theorem d_Curve_init_22 : decode prog_4_method_1_code 22 = .ok (.anewarray 18, 3) := by decide +kernel
theorem d_Curve_init_25 : decode prog_4_method_1_code 25 = .ok (.putfield 20, 3) := by decide +kernel
theorem d_Curve_init_28 : decode prog_4_method_1_code 28 = .ok (.aload_n 0, 1) := by decide +kernel
theorem d_Curve_init_29 : decode prog_4_method_1_code 29 = .ok (.iconst 0, 1) := by decide +kernel
theorem d_Curve_init_30 : decode prog_4_method_1_code 30 = .ok (.putfield 24, 3) := by decide +kernel
theorem d_Curve_init_33 : decode prog_4_method_1_code 33 = .ok (.aload_n 0, 1) := by decide +kernel
theorem d_Curve_init_34 : decode prog_4_method_1_code 34 = .ok (.iconst 0, 1) := by decide +kernel
theorem d_Curve_init_35 : decode prog_4_method_1_code 35 = .ok (.putfield 28, 3) := by decide +kernel
theorem d_Curve_init_38 : decode prog_4_method_1_code 38 = .ok (.iconst 0, 1) := by decide +kernel
theorem d_Curve_init_39 : decode prog_4_method_1_code 39 = .ok (.istore_n 1, 1) := by decide +kernel
theorem d_Curve_init_40 : decode prog_4_method_1_code 40 = .ok (.iload_n 1, 1) := by decide +kernel
theorem d_Curve_init_41 : decode prog_4_method_1_code 41 = .ok (.iconst 5, 1) := by decide +kernel
theorem d_Curve_init_42 : decode prog_4_method_1_code 42 = .ok (.if_icmp .ge 22, 3) := by decide +kernel
theorem d_Curve_init_45 : decode prog_4_method_1_code 45 = .ok (.aload_n 0, 1) := by decide +kernel
theorem d_Curve_init_46 : decode prog_4_method_1_code 46 = .ok (.getfield 20, 3) := by decide +kernel
theorem d_Curve_init_49 : decode prog_4_method_1_code 49 = .ok (.iload_n 1, 1) := by decide +kernel
theorem d_Curve_init_50 : decode prog_4_method_1_code 50 = .ok (.new 18, 3) := by decide +kernel
theorem d_Curve_init_53 : decode prog_4_method_1_code 53 = .ok (.dup, 1) := by decide +kernel
theorem d_Curve_init_54 : decode prog_4_method_1_code 54 = .ok (.invokespecial 32, 3) := by decide +kernel
theorem d_Curve_init_57 : decode prog_4_method_1_code 57 = .ok (.aastore, 1) := by decide +kernel
theorem d_Curve_init_58 : decode prog_4_method_1_code 58 = .ok (.iinc 1 1, 3) := by decide +kernel
theorem d_Curve_init_61 : decode prog_4_method_1_code 61 = .ok (.goto (-21), 3) := by decide +kernel
theorem d_Curve_init_64 : decode prog_4_method_1_code 64 = .ok (.return_, 1) := by decide +kernel
def CurveAt (cs : Nat → ClassId) (h : Nat → va_E) (a : Nat) (b : List Nat) : Prop := ∃ (va fr pa : Nat) (tm : Nat → Nat) (bl : Nat → List Nat), b = va :: fr :: pa :: (List.range 5).flatMap (fun k => tm k :: bl k) ∧ h a = .inr (2, [.ref va, .ref fr, .ref pa, .int (iI 0), .int (iI 0)]) ∧ h va = .inl (cs 0, 6, .inl (ai (fun _ => 0))) ∧ h fr = .inl (cs 0, 6, .inl (ai (fun _ => 0))) ∧ h pa = .inl (cs 5, 5, .inr (.inr (.inr (.inr (rfs 5 tm))))) ∧ ∀ k, k < 5 → New3 cs 3 8 h (tm k) (bl k)
theorem CurveAt.loc {cs : Nat → ClassId} : ∀ (h h' : Nat → va_E) (x : Nat) (b : List Nat), (∀ r ∈ x :: b, h' r = h r) → CurveAt cs h x b → CurveAt cs h' x b := by
  intro h h' x b hr ⟨va, fr, pa, tm, bl, e0, e1, e2, e3, e4, e5⟩
  subst e0
  refine ⟨va, fr, pa, tm, bl, rfl, by rw [hr x (by simp), e1], by rw [hr va (by simp), e2], by rw [hr fr (by simp), e3], by rw [hr pa (by simp), e4], fun k hk => New3.loc h h' _ _ (fun r hr2 => hr r ?_) (e5 k hk)⟩
  refine List.mem_cons_of_mem _ (List.mem_cons_of_mem _ (List.mem_cons_of_mem _ (List.mem_cons_of_mem _ ?_)))
  exact List.mem_flatMap.mpr ⟨k, List.mem_range.mpr hk, hr2⟩
set_option maxHeartbeats 8000000 in
set_option maxRecDepth 100000 in
theorem c_Curve_init (l : Launch) (D : va_G) (cs : Nat → ClassId) (L : List Nat) (f : Nat → va_E) (sz : Nat) (a : Nat) (v3 v4 : Int) (hF : Fc L [a]) (ha : f a = .inr (2, [.null, .null, .null, .int (iI v3), .int (iI v4)])) : Met l (⟨"RealRoots$Curve", "<init>", "()V"⟩ : MethodName) (.code (⟨"RealRoots$Curve", "<init>", "()V"⟩ : MethodName) prog_4_method_1_code 2 (Option.none : Option Jvm.ClassFile.FieldType) :: gw) ({ frames := 2, cells := 13, slots := 72, locals := 32 }) (va_Pc [.ref a] (K0 D vwCl (TY cs) L f sz)) (va_Qv (fun (u : List Nat × (Nat → va_E)) => ∃ b, u.1 = L ++ b ∧ CurveAt cs u.2 a b ∧ ∀ q ∈ L, q ≠ a → u.2 q = f q) (K2 D vwCl (TY cs) (AL L sz)) (AL L sz)) 13 72 (AL L sz) := by
  refine Met.ofW (cc := prog_4_method_1_code) (maxL := 2) (ret := (Option.none : Option Jvm.ClassFile.FieldType)) (by decide) rfl ?_
  intro p e s m args below meth c s₁ Bd hml hv
  obtain ⟨rfl, hk0⟩ := hv
  obtain ⟨hsz, B⟩ := hk0.start
  subst hsz
  have hx := Bd.exec
  have hb := Bd.bytes
  have hr := Bd.returns
  have hlocks := Bd.notSynchronized
  have hts0 := atoms_spec Bd.pre
  have hown : s.vm.findClass RX2 = some m.cls := findClass_of_methodNamed Bd.named
  have hA : ∀ q, s.heap.size ≤ q → AL L s.heap.size q := fun _ h => Or.inr h
  have hin : meth.name = "<init>" := (name_of_methodNamed Bd.named Bd.method).1
  have hl := lv_entry ([.ref a]) (n := 2) (Nat.le_of_ble_eq_true rfl)
  rw [lg_entry_eq]
  generalize (lg_sl ([.ref a]) ++ List.replicate (2 - (lg_sl ([.ref a])).length) Slot.unset).toArray = ls at hl ⊢
  refine absQ (fun Q R av hQ hR hav => ?_)
  have hts : ∀ w ∈ gw, w.before av s = true := by rw [hav]; exact fun w h => hts0 w (List.mem_cons_of_mem _ h)
  have hRf : R.frames = 2 := by rw [hR]; rfl
  have hRl : R.locals = 32 := by rw [hR]; rfl
  have hRc : R.cells = 13 := by rw [hR]; rfl
  have hRs : R.slots = 72 := by rw [hR]; rfl
  clear hR hts0 Bd
  have hl : lv_has ls 2 [(0, .ref a)] := hl
  have hF0 := hF
  have hfx : ∀ q ∈ ([(a, .inr (2, [.null, .null, .null, .int (iI v3), .int (iI v4)]))] : List (Nat × va_E)), f q.1 = q.2 := fun q hq => by
    simp only [List.mem_cons, List.not_mem_nil, or_false] at hq
    rcases hq with rfl
    · exact ha
  have hmw : mw f [(a, .inr (2, [.null, .null, .null, .int (iI v3), .int (iI v4)]))] = f := mw_self (fun k a e hk => hfx (a, e) (List.mem_of_getElem? hk))
  have B := B.focus [(a, .inr (2, [.null, .null, .null, .int (iI v3), .int (iI v4)]))] hfx
  refine lv_aload_n hx hb d_Curve_init_0 rfl (lv_at hl 0 rfl) ?_
  refine W.objInit hx hb hown (hts _ w_152) (hts _ w_21) (hts _ w_22) rfl (by rw [hml]; exact hl.1) rfl d_Curve_init_1 (by rw [hRf]; decide) (by rw [hRl]; exact Nat.le_of_ble_eq_true rfl) ?_
  refine W.eq (g2 := F0 m 4 ls []) rfl ?_
  refine lv_aload_n hx hb d_Curve_init_4 rfl (lv_at hl 0 rfl) ?_
  refine x_bipush hx hb d_Curve_init_5 (by decide) ?_
  refine x_newai hx hb (hts _ w_51) B hF hA 0 rfl 6 rfl (by decide) (by rw [hRc]; omega) (by rw [hRs]; omega) d_Curve_init_7 (fun q7 H hq7 hF B => ?_)
  have B : Wb D vwCl (TY cs) (L ++ [q7]) (mw f [(q7, .inl (cs 0, 6, .inl (ai (fun _ => 0)))), (a, .inr (2, [.null, .null, .null, .int (iI v3), .int (iI v4)]))]) (AL L s.heap.size) s H _ := B
  have hF : Fc (L ++ [q7]) [q7, a] := hF
  refine x_putF (C := RX2) (T := TX2) (N := 5) hx hb hts inX2 tyX2 tyX2_ok nmX2 hown B hF 1 rfl rfl 0 (by decide) (hts _ w_176) (fun _ h9 => h9) rfl hin rfl (tyX2_ok 0 (by decide)) rfl rfl (Nat.le_of_ble_eq_true rfl) d_Curve_init_9 (fun H locs B => ?_)
  have B : Wb D vwCl (TY cs) (L ++ [q7]) (mw f [(q7, .inl (cs 0, 6, .inl (ai (fun _ => 0)))), (a, .inr (2, [.ref q7, .null, .null, .int (iI v3), .int (iI v4)]))]) (AL L s.heap.size) s H _ := B
  refine lv_aload_n hx hb d_Curve_init_12 rfl (lv_at hl 0 rfl) ?_
  refine x_bipush hx hb d_Curve_init_13 (by decide) ?_
  refine x_newai hx hb (hts _ w_51) B hF hA 0 rfl 6 rfl (by decide) (by rw [hRc]; omega) (by rw [hRs]; omega) d_Curve_init_15 (fun q15 H hq15 hF B => ?_)
  have B : Wb D vwCl (TY cs) (L ++ [q7] ++ [q15]) (mw f [(q15, .inl (cs 0, 6, .inl (ai (fun _ => 0)))), (q7, .inl (cs 0, 6, .inl (ai (fun _ => 0)))), (a, .inr (2, [.ref q7, .null, .null, .int (iI v3), .int (iI v4)]))]) (AL L s.heap.size) s H _ := B
  have hF : Fc (L ++ [q7] ++ [q15]) [q15, q7, a] := hF
  refine x_putF (C := RX2) (T := TX2) (N := 5) hx hb hts inX2 tyX2 tyX2_ok nmX2 hown B hF 2 rfl rfl 1 (by decide) (hts _ w_178) (fun _ h9 => h9) rfl hin rfl (tyX2_ok 1 (by decide)) rfl rfl (Nat.le_of_ble_eq_true rfl) d_Curve_init_17 (fun H locs B => ?_)
  have B : Wb D vwCl (TY cs) (L ++ [q7] ++ [q15]) (mw f [(q15, .inl (cs 0, 6, .inl (ai (fun _ => 0)))), (q7, .inl (cs 0, 6, .inl (ai (fun _ => 0)))), (a, .inr (2, [.ref q7, .ref q15, .null, .int (iI v3), .int (iI v4)]))]) (AL L s.heap.size) s H _ := B
  refine lv_aload_n hx hb d_Curve_init_20 rfl (lv_at hl 0 rfl) ?_
  refine x_iconst hx hb d_Curve_init_21 ?_
  refine x_newq hx hb hown (hts _ w_153) B.2.2.2.2.2.2.2.2.2.2.2.2.2 B hF hA 5 rfl 5 rfl (by decide) (by rw [hRc]; omega) (by rw [hRs]; omega) d_Curve_init_22 (fun q22 H hq22 hF B => ?_)
  have B : Wb D vwCl (TY cs) (L ++ [q7] ++ [q15] ++ [q22]) (mw f [(q22, .inl (cs 5, 5, .inr (.inr (.inr (.inr (fun _ => none)))))), (q15, .inl (cs 0, 6, .inl (ai (fun _ => 0)))), (q7, .inl (cs 0, 6, .inl (ai (fun _ => 0)))), (a, .inr (2, [.ref q7, .ref q15, .null, .int (iI v3), .int (iI v4)]))]) (AL L s.heap.size) s H _ := B
  have hF : Fc (L ++ [q7] ++ [q15] ++ [q22]) [q22, q15, q7, a] := hF
  refine x_putF (C := RX2) (T := TX2) (N := 5) hx hb hts inX2 tyX2 tyX2_ok nmX2 hown B hF 3 rfl rfl 2 (by decide) (hts _ w_180) (fun _ h9 => h9) rfl hin rfl (tyX2_ok 2 (by decide)) rfl rfl (Nat.le_of_ble_eq_true rfl) d_Curve_init_25 (fun H locs B => ?_)
  have B : Wb D vwCl (TY cs) (L ++ [q7] ++ [q15] ++ [q22]) (mw f [(q22, .inl (cs 5, 5, .inr (.inr (.inr (.inr (fun _ => none)))))), (q15, .inl (cs 0, 6, .inl (ai (fun _ => 0)))), (q7, .inl (cs 0, 6, .inl (ai (fun _ => 0)))), (a, .inr (2, [.ref q7, .ref q15, .ref q22, .int (iI v3), .int (iI v4)]))]) (AL L s.heap.size) s H _ := B
  refine lv_aload_n hx hb d_Curve_init_28 rfl (lv_at hl 0 rfl) ?_
  refine x_iconst hx hb d_Curve_init_29 ?_
  refine x_put (C := RX2) (T := TX2) (N := 5) hx hb hts inX2 tyX2 tyX2_ok nmX2 hown B hF 3 rfl rfl 3 (by decide) (hts _ w_182) (fun _ h9 => h9) rfl (tyX2_ok 3 (by decide)) rfl rfl (Nat.le_of_ble_eq_true rfl) d_Curve_init_30 (fun H locs B => ?_)
  have B : Wb D vwCl (TY cs) (L ++ [q7] ++ [q15] ++ [q22]) (mw f [(q22, .inl (cs 5, 5, .inr (.inr (.inr (.inr (fun _ => none)))))), (q15, .inl (cs 0, 6, .inl (ai (fun _ => 0)))), (q7, .inl (cs 0, 6, .inl (ai (fun _ => 0)))), (a, .inr (2, [.ref q7, .ref q15, .ref q22, .int (iI 0), .int (iI v4)]))]) (AL L s.heap.size) s H _ := B
  refine lv_aload_n hx hb d_Curve_init_33 rfl (lv_at hl 0 rfl) ?_
  refine x_iconst hx hb d_Curve_init_34 ?_
  refine x_put (C := RX2) (T := TX2) (N := 5) hx hb hts inX2 tyX2 tyX2_ok nmX2 hown B hF 3 rfl rfl 4 (by decide) (hts _ w_184) (fun _ h9 => h9) rfl (tyX2_ok 4 (by decide)) rfl rfl (Nat.le_of_ble_eq_true rfl) d_Curve_init_35 (fun H locs B => ?_)
  have B : Wb D vwCl (TY cs) (L ++ [q7] ++ [q15] ++ [q22]) (mw f [(q22, .inl (cs 5, 5, .inr (.inr (.inr (.inr (fun _ => none)))))), (q15, .inl (cs 0, 6, .inl (ai (fun _ => 0)))), (q7, .inl (cs 0, 6, .inl (ai (fun _ => 0)))), (a, .inr (2, [.ref q7, .ref q15, .ref q22, .int (iI 0), .int (iI 0)]))]) (AL L s.heap.size) s H _ := B
  refine x_iconst hx hb d_Curve_init_38 ?_
  refine lv_istore_n (lv' := [(1, .int (iI 0)), (0, .ref a)]) hx hb d_Curve_init_39 rfl hl (by decide) rfl (fun ls hl => ?_)
  have LOOP : ∀ (k n : Nat) (tm : Nat → Nat) (bl : Nat → List Nat) (L' : List Nat) (h : Nat → va_E), n + k = 5 → Fill (L ++ [q7] ++ [q15] ++ [q22]) f (New3 cs 3 8) n tm bl L' h → Fc L' [q22, q15, q7, a] → ∀ (H : Heap) (locs : List Loc) (ls : Array Slot), Wb D vwCl (TY cs) L' (mw h [(q22, .inl (cs 5, 5, .inr (.inr (.inr (.inr (rfs n tm)))))), (q15, .inl (cs 0, 6, .inl (ai (fun _ => 0)))), (q7, .inl (cs 0, 6, .inl (ai (fun _ => 0)))), (a, .inr (2, [.ref q7, .ref q15, .ref q22, .int (iI 0), .int (iI 0)]))]) (AL L s.heap.size) s H locs → lv_has ls 2 [(1, .int (iI ((n : Int)))), (0, .ref a)] → W p l e R s m av below meth c H locs (3 + 2 * n) (17 + 11 * n) Q (F0 m 40 ls []) := by
    intro k
    induction k with
    | zero =>
      intro n tm bl L' h hn hFi hF H locs ls B hl
      have hn : n = 5 := by omega
      refine lv_iload_n hx hb d_Curve_init_40 rfl (lv_at hl 0 rfl) ?_
      refine x_iconst hx hb d_Curve_init_41 ?_
      refine x_icmp_ge (tgt := 64) hx hb d_Curve_init_42 (by decide) (by omega) (by omega) (fun h42 => ?_) (fun h42 => ?_)
      · refine W.widen (k := 13) (n := 72) (by omega) (by omega) ?_
        subst hQ hav
        exact x_vretG hx hb hr hlocks B d_Curve_init_64 (by
      subst hn
      have hnd := B.nodup
      have hk : ∀ (k r : Nat), k < 5 → r ∈ tm k :: bl k → r ∉ [q22, q15, q7, a] := fun k r hk hr hx => hFi.out hnd hk hr (by
        simp only [List.mem_cons, List.not_mem_nil, or_false] at hx
        rcases hx with rfl | rfl | rfl | rfl
        · simp
        · simp
        · simp
        · simp [hF0.2 _ List.mem_cons_self])
      show ∃ b, L' = L ++ b ∧ CurveAt cs (mw h [(q22, .inl (cs 5, 5, .inr (.inr (.inr (.inr (rfs 5 tm)))))), (q15, .inl (cs 0, 6, .inl (ai (fun _ => 0)))), (q7, .inl (cs 0, 6, .inl (ai (fun _ => 0)))), (a, .inr (2, [.ref q7, .ref q15, .ref q22, .int (iI 0), .int (iI 0)]))]) a b ∧ ∀ q ∈ L, q ≠ a → mw h [(q22, .inl (cs 5, 5, .inr (.inr (.inr (.inr (rfs 5 tm)))))), (q15, .inl (cs 0, 6, .inl (ai (fun _ => 0)))), (q7, .inl (cs 0, 6, .inl (ai (fun _ => 0)))), (a, .inr (2, [.ref q7, .ref q15, .ref q22, .int (iI 0), .int (iI 0)]))] q = f q
      refine ⟨_, by rw [hFi.1]; simp only [List.append_assoc, List.cons_append, List.nil_append], ⟨q7, q15, q22, tm, bl, rfl, mw_get (X := [(q22, .inl (cs 5, 5, .inr (.inr (.inr (.inr (rfs 5 tm)))))), (q15, .inl (cs 0, 6, .inl (ai (fun _ => 0)))), (q7, .inl (cs 0, 6, .inl (ai (fun _ => 0)))), (a, .inr (2, [.ref q7, .ref q15, .ref q22, .int (iI 0), .int (iI 0)]))]) hF.1 (k := 3) rfl, mw_get (X := [(q22, .inl (cs 5, 5, .inr (.inr (.inr (.inr (rfs 5 tm)))))), (q15, .inl (cs 0, 6, .inl (ai (fun _ => 0)))), (q7, .inl (cs 0, 6, .inl (ai (fun _ => 0)))), (a, .inr (2, [.ref q7, .ref q15, .ref q22, .int (iI 0), .int (iI 0)]))]) hF.1 (k := 2) rfl, mw_get (X := [(q22, .inl (cs 5, 5, .inr (.inr (.inr (.inr (rfs 5 tm)))))), (q15, .inl (cs 0, 6, .inl (ai (fun _ => 0)))), (q7, .inl (cs 0, 6, .inl (ai (fun _ => 0)))), (a, .inr (2, [.ref q7, .ref q15, .ref q22, .int (iI 0), .int (iI 0)]))]) hF.1 (k := 1) rfl, mw_get (X := [(q22, .inl (cs 5, 5, .inr (.inr (.inr (.inr (rfs 5 tm)))))), (q15, .inl (cs 0, 6, .inl (ai (fun _ => 0)))), (q7, .inl (cs 0, 6, .inl (ai (fun _ => 0)))), (a, .inr (2, [.ref q7, .ref q15, .ref q22, .int (iI 0), .int (iI 0)]))]) hF.1 (k := 0) rfl, fun k hk2 => New3.loc h _ _ _ (fun r hr => mw_out (hk k r hk2 hr)) (hFi.2.2 k hk2)⟩, fun q hq hqa => ?_⟩
      rw [mw_out (fun hx => ?_), hFi.2.1 q (by simp [hq])]
      have hx : q ∈ [q22, q15, q7, a] := hx
      simp only [List.mem_cons, List.not_mem_nil, or_false] at hx
      rcases hx with rfl | rfl | rfl | rfl
      · exact hq22 (by simp [hq])
      · exact hq15 (by simp [hq])
      · exact hq7 hq
      · exact hqa rfl)
      · exfalso; omega
    | succ k ih =>
      intro n tm bl L' h hn hFi hF H locs ls B hl
      refine lv_iload_n hx hb d_Curve_init_40 rfl (lv_at hl 0 rfl) ?_
      refine x_iconst hx hb d_Curve_init_41 ?_
      refine x_icmp_ge (tgt := 64) hx hb d_Curve_init_42 (by decide) (by omega) (by omega) (fun h42 => ?_) (fun h42 => ?_)
      · exfalso; omega
      · refine lv_aload_n hx hb d_Curve_init_45 rfl (lv_at hl 1 rfl) ?_
        refine x_get (C := RX2) (T := TX2) (N := 5) hx hb hts inX2 hown B hF 3 rfl rfl 2 (by decide) (hts _ w_180) (fun _ h9 => h9) rfl d_Curve_init_46 ?_
        refine lv_iload_n hx hb d_Curve_init_49 rfl (lv_at hl 0 rfl) ?_
        refine x_new (ci := 3) (fs := [.int (iI 0), .int (iI 0), .null]) (C := RX3) (T := TX3) (N := 3) hx hb hts inX3 tyX3 tyX3_ok hown (hts _ w_153) (hts _ w_155) (hts _ w_7) B hF hA rfl (fun j hj => by rcases (show j = 0 ∨ j = 1 ∨ j = 2 by omega) with rfl | rfl | rfl <;> rfl) (by rw [hRc]; omega) (by rw [hRs]; omega) d_Curve_init_50 (fun q50 H hq50 hF B => ?_)
        have B : Wb D vwCl (TY cs) (L' ++ [q50]) (mw h [(q50, .inr (3, [.int (iI 0), .int (iI 0), .null])), (q22, .inl (cs 5, 5, .inr (.inr (.inr (.inr (rfs n tm)))))), (q15, .inl (cs 0, 6, .inl (ai (fun _ => 0)))), (q7, .inl (cs 0, 6, .inl (ai (fun _ => 0)))), (a, .inr (2, [.ref q7, .ref q15, .ref q22, .int (iI 0), .int (iI 0)]))]) (AL L s.heap.size) s H _ := B
        have hF : Fc (L' ++ [q50]) [q50, q22, q15, q7, a] := hF
        refine lv_dup hx hb d_Curve_init_53 rfl ?_
        refine x_callvG B hA (va_runIN (As := []) (rest := [.ref q50, .int (iI ((n : Int))), .ref q22]) ⟨hx, hb, hml, hown, hts⟩ (c_Place_init l D cs _ _ H.size q50 0 0 hF.hd (mw_get (X := [(q50, .inr (3, [.int (iI 0), .int (iI 0), .null])), (q22, .inl (cs 5, 5, .inr (.inr (.inr (.inr (rfs n tm)))))), (q15, .inl (cs 0, 6, .inl (ai (fun _ => 0)))), (q7, .inl (cs 0, 6, .inl (ai (fun _ => 0)))), (a, .inr (2, [.ref q7, .ref q15, .ref q22, .int (iI 0), .int (iI 0)]))]) hF.1 (k := 0) rfl)) ⟨va_cnB (host := RX6) 0 hts (gw_cons w_158) rfl rfl rfl (B.2.2.2.2.2.2.2.2.1) (hts _ w_7) (by decide +kernel) ⟨by rw [hRf]; exact Nat.le_of_ble_eq_true rfl, by rw [hRl]; exact Nat.le_of_ble_eq_true rfl⟩, rfl, hts _ w_157⟩ ⟨K0.blind, B.pre _⟩ rfl rfl hl.1 rfl (lv_room (Nat.le_of_ble_eq_true rfl)) d_Curve_init_54 ⟨by rw [hRc]; omega, by rw [hRs]; omega⟩) (fun u H locs hw B => ?_)
        obtain ⟨q54b, hq54b, rfl⟩ := hw
        have B := B.of_eq (mw_new2 _ _ _ _ _ _ _)
        have B : Wb D vwCl (TY cs) (L' ++ [q50] ++ [q54b]) (mw h [(q54b, .inl (cs 0, 8, .inl (ai (fun _ => 0)))), (q50, .inr (3, [.int (iI 0), .int (iI 0), .ref q54b])), (q22, .inl (cs 5, 5, .inr (.inr (.inr (.inr (rfs n tm)))))), (q15, .inl (cs 0, 6, .inl (ai (fun _ => 0)))), (q7, .inl (cs 0, 6, .inl (ai (fun _ => 0)))), (a, .inr (2, [.ref q7, .ref q15, .ref q22, .int (iI 0), .int (iI 0)]))]) (AL L s.heap.size) s H _ := B
        have hF : Fc (L' ++ [q50] ++ [q54b]) [q54b, q50, q22, q15, q7, a] := hF.push hq54b
        refine x_aast hx hb B hF 2 5 3 rfl rfl (hF.2 _ (mw_key (k := 1) (X := [(q54b, .inl (cs 0, 8, .inl (ai (fun _ => 0)))), (q50, .inr (3, [.int (iI 0), .int (iI 0), .ref q54b])), (q22, .inl (cs 5, 5, .inr (.inr (.inr (.inr (rfs n tm)))))), (q15, .inl (cs 0, 6, .inl (ai (fun _ => 0)))), (q7, .inl (cs 0, 6, .inl (ai (fun _ => 0)))), (a, .inr (2, [.ref q7, .ref q15, .ref q22, .int (iI 0), .int (iI 0)]))]) rfl)) (mw_get (X := [(q54b, .inl (cs 0, 8, .inl (ai (fun _ => 0)))), (q50, .inr (3, [.int (iI 0), .int (iI 0), .ref q54b])), (q22, .inl (cs 5, 5, .inr (.inr (.inr (.inr (rfs n tm)))))), (q15, .inl (cs 0, 6, .inl (ai (fun _ => 0)))), (q7, .inl (cs 0, 6, .inl (ai (fun _ => 0)))), (a, .inr (2, [.ref q7, .ref q15, .ref q22, .int (iI 0), .int (iI 0)]))]) hF.1 (k := 1) rfl) rfl n (rfl) (by omega) (by decide) d_Curve_init_57 (fun H locs B => ?_)
        have B : Wb D vwCl (TY cs) (L' ++ [q50] ++ [q54b]) (mw h [(q54b, .inl (cs 0, 8, .inl (ai (fun _ => 0)))), (q50, .inr (3, [.int (iI 0), .int (iI 0), .ref q54b])), (q22, .inl (cs 5, 5, .inr (.inr (.inr (.inr (va_up (rfs n tm) n (some q50))))))), (q15, .inl (cs 0, 6, .inl (ai (fun _ => 0)))), (q7, .inl (cs 0, 6, .inl (ai (fun _ => 0)))), (a, .inr (2, [.ref q7, .ref q15, .ref q22, .int (iI 0), .int (iI 0)]))]) (AL L s.heap.size) s H _ := B
        refine x_iinc (lv' := [(1, .int (iI (((n : Int)) + 1))), (0, .ref a)]) hx hb d_Curve_init_58 hl (q := 0) rfl rfl (by decide) rfl (fun ls hl => ?_)
        refine lv_goto (tgt := 40) hx hb d_Curve_init_61 (by decide) ?_
        have hB2 := B.of_eq (mw_swap (f := h) (Y := [(q54b, .inl (cs 0, 8, .inl (ai (fun _ => 0)))), (q50, .inr (3, [.int (iI 0), .int (iI 0), .ref q54b]))]) (X := [(q22, .inl (cs 5, 5, .inr (.inr (.inr (.inr (va_up (rfs n tm) n (some q50))))))), (q15, .inl (cs 0, 6, .inl (ai (fun _ => 0)))), (q7, .inl (cs 0, 6, .inl (ai (fun _ => 0)))), (a, .inr (2, [.ref q7, .ref q15, .ref q22, .int (iI 0), .int (iI 0)]))]) (fun x hx hx2 => by have hnd := hF.1; have h1 := List.nodup_cons.mp hnd; have h2 := List.nodup_cons.mp h1.2; simp only [List.map_cons, List.map_nil, List.mem_cons, List.not_mem_nil, or_false] at hx; rcases hx with rfl | rfl; exact h1.1 (List.mem_cons_of_mem _ hx2); exact h2.1 hx2))
        rw [rfs_step] at hB2
        have hq0 : ∀ r ∈ L', mw h [(q54b, .inl (cs 0, 8, .inl (ai (fun _ => 0)))), (q50, .inr (3, [.int (iI 0), .int (iI 0), .ref q54b]))] r = h r := fun r hr => mw_out (fun hx => by simp only [List.map_cons, List.map_nil, List.mem_cons, List.not_mem_nil, or_false] at hx; rcases hx with rfl | rfl; exact hq54b (List.mem_append_left _ hr); exact hq50 hr)
        have hnd2 : ([q54b, q50] : List Nat).Nodup := List.nodup_cons.mpr ⟨fun hh => (List.nodup_cons.mp hF.1).1 (by rw [List.mem_singleton] at hh; rw [hh]; exact List.mem_cons_self), by simp⟩
        have hFi2 := hFi.step New3.loc hq0 (q := q50) (b := [q54b]) ⟨q54b, rfl, mw_get (X := [(q54b, .inl (cs 0, 8, .inl (ai (fun _ => 0)))), (q50, .inr (3, [.int (iI 0), .int (iI 0), .ref q54b]))]) hnd2 (k := 1) rfl, mw_get (X := [(q54b, .inl (cs 0, 8, .inl (ai (fun _ => 0)))), (q50, .inr (3, [.int (iI 0), .int (iI 0), .ref q54b]))]) hnd2 (k := 0) rfl⟩
        have hF2 : Fc (L' ++ (q50 :: [q54b])) _ := (by simpa using hF.tail.tail : Fc (L' ++ (q50 :: [q54b])) [q22, q15, q7, a])
        have hB3 : Wb D vwCl (TY cs) (L' ++ (q50 :: [q54b])) _ (AL L s.heap.size) s H locs := (by rw [List.append_assoc] at hB2; exact hB2)
        refine W.widen (k := 3 + 2 * (n + 1)) (n := 17 + 11 * (n + 1)) (by omega) (by omega) ?_
        exact ih (n + 1) _ _ _ _ (by omega) hFi2 hF2 _ _ _ hB3 (lv_sub hl [0, 1] rfl)
  have B := B.of_eq (show mw f [(q22, .inl (cs 5, 5, .inr (.inr (.inr (.inr (fun _ => none)))))), (q15, .inl (cs 0, 6, .inl (ai (fun _ => 0)))), (q7, .inl (cs 0, 6, .inl (ai (fun _ => 0)))), (a, .inr (2, [.ref q7, .ref q15, .ref q22, .int (iI 0), .int (iI 0)]))] = mw f [(q22, .inl (cs 5, 5, .inr (.inr (.inr (.inr (rfs 0 (fun _ => 0))))))), (q15, .inl (cs 0, 6, .inl (ai (fun _ => 0)))), (q7, .inl (cs 0, 6, .inl (ai (fun _ => 0)))), (a, .inr (2, [.ref q7, .ref q15, .ref q22, .int (iI 0), .int (iI 0)]))] by rw [rfs_zero])
  exact LOOP 5 0 (fun _ => 0) (fun _ => []) _ _ (by omega) Fill.zero hF _ _ _ B (lv_sub hl [0, 1] rfl)
