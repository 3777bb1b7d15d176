theorem d_RR_unknown_0 : decode prog_1_method_22_code 0 = .ok (.iload_n 1, 1) := by decide +kernel
theorem d_RR_unknown_1 : decode prog_1_method_22_code 1 = .ok (.ifCond .lt 11, 3) := by decide +kernel
theorem d_RR_unknown_4 : decode prog_1_method_22_code 4 = .ok (.iload_n 1, 1) := by decide +kernel
theorem d_RR_unknown_5 : decode prog_1_method_22_code 5 = .ok (.aload_n 0, 1) := by decide +kernel
theorem d_RR_unknown_6 : decode prog_1_method_22_code 6 = .ok (.getfield 15, 3) := by decide +kernel
theorem d_RR_unknown_9 : decode prog_1_method_22_code 9 = .ok (.if_icmp .lt 7, 3) := by decide +kernel
theorem d_RR_unknown_12 : decode prog_1_method_22_code 12 = .ok (.iconst 1, 1) := by decide +kernel
theorem d_RR_unknown_13 : decode prog_1_method_22_code 13 = .ok (.goto 4, 3) := by decide +kernel
theorem d_RR_unknown_16 : decode prog_1_method_22_code 16 = .ok (.iconst 0, 1) := by decide +kernel
theorem d_RR_unknown_17 : decode prog_1_method_22_code 17 = .ok (.ireturn, 1) := by decide +kernel
set_option maxHeartbeats 8000000 in
set_option maxRecDepth 100000 in
theorem c_RR_unknown (l : Launch) (D : va_G) (cs : Nat → ClassId) (L : List Nat) (f : Nat → va_E) (sz : Nat) (x c0 c2 c3 c4 c5 c6 c7 c8 c9 c10 c11 : Nat) (hd ll ln : Int) (p0 : Int) (hF : Fc L [x]) (ha : f x = .inr (6, [.ref c0, .int (iI hd), .ref c2, .ref c3, .ref c4, .ref c5, .ref c6, .ref c7, .ref c8, .ref c9, .ref c10, .ref c11, .int (iI ll), .int (iI ln)])) (hhd : 0 ≤ hd ∧ hd ≤ 12) (hp0 : -2147483648 ≤ p0 ∧ p0 < 2147483648) : Met l (⟨"RealRoots", "unknown", "(I)Z"⟩ : MethodName) (.code (⟨"RealRoots", "unknown", "(I)Z"⟩ : MethodName) prog_1_method_22_code 2 (Option.some Jvm.ClassFile.FieldType.boolean) :: gw) ({ frames := 0, cells := 0, slots := 0, locals := 0 }) (va_Pc [.ref x, .int (iI p0)] (K0 D vwCl (TY cs) L f sz)) (va_Qi (fun (r : Int32) (g : Nat → va_E) => r = iI (if p0 < 0 ∨ hd ≤ p0 then 1 else 0) ∧ g = f) (K1 D vwCl (TY cs) (AL L sz) L) (AL L sz)) 0 0 (AL L sz) := by
  refine Met.ofW (cc := prog_1_method_22_code) (maxL := 2) (ret := (Option.some Jvm.ClassFile.FieldType.boolean)) (by decide) rfl ?_
  intro p e s m args below meth c s₁ Bd hml hv
  obtain ⟨rfl, hk0⟩ := hv
  obtain ⟨hsz, B⟩ := hk0.start
  subst hsz
  have hx := Bd.exec
  have hb := Bd.bytes
  have hr := Bd.returns
  have hlocks := Bd.notSynchronized
  have hts0 := atoms_spec Bd.pre
  have hown : s.vm.findClass RX6 = some m.cls := findClass_of_methodNamed Bd.named
  have hA : ∀ q, s.heap.size ≤ q → AL L s.heap.size q := fun _ h => Or.inr h
  have hl := lv_entry ([.ref x, .int (iI p0)]) (n := 2) (Nat.le_of_ble_eq_true rfl)
  rw [lg_entry_eq]
  generalize (lg_sl ([.ref x, .int (iI p0)]) ++ List.replicate (2 - (lg_sl ([.ref x, .int (iI p0)])).length) Slot.unset).toArray = ls at hl ⊢
  refine absQ (fun Q R av hQ hR hav => ?_)
  have hts : ∀ w ∈ gw, w.before av s = true := by rw [hav]; exact fun w h => hts0 w (List.mem_cons_of_mem _ h)
  have hRf : R.frames = 0 := by rw [hR]; rfl
  have hRl : R.locals = 0 := by rw [hR]; rfl
  have hRc : R.cells = 0 := by rw [hR]; rfl
  have hRs : R.slots = 0 := by rw [hR]; rfl
  clear hR hts0 Bd
  have hl : lv_has ls 2 [(0, .ref x), (1, .int (iI p0))] := hl
  have hfx : ∀ q ∈ ([(x, .inr (6, [.ref c0, .int (iI hd), .ref c2, .ref c3, .ref c4, .ref c5, .ref c6, .ref c7, .ref c8, .ref c9, .ref c10, .ref c11, .int (iI ll), .int (iI ln)]))] : List (Nat × va_E)), f q.1 = q.2 := fun q hq => by
    simp only [List.mem_cons, List.not_mem_nil, or_false] at hq
    rcases hq with rfl
    · exact ha
  have hmw : mw f [(x, .inr (6, [.ref c0, .int (iI hd), .ref c2, .ref c3, .ref c4, .ref c5, .ref c6, .ref c7, .ref c8, .ref c9, .ref c10, .ref c11, .int (iI ll), .int (iI ln)]))] = f := mw_self (fun k a e hk => hfx (a, e) (List.mem_of_getElem? hk))
  have B := B.focus [(x, .inr (6, [.ref c0, .int (iI hd), .ref c2, .ref c3, .ref c4, .ref c5, .ref c6, .ref c7, .ref c8, .ref c9, .ref c10, .ref c11, .int (iI ll), .int (iI ln)]))] hfx
  refine lv_iload_n hx hb d_RR_unknown_0 rfl (lv_at hl 1 rfl) ?_
  refine x_if_lt (tgt := 12) hx hb d_RR_unknown_1 (by decide) (by omega) (fun h1 => ?_) (fun h1 => ?_)
  · refine x_iconst hx hb d_RR_unknown_12 ?_
    refine lv_goto (tgt := 17) hx hb d_RR_unknown_13 (by decide) ?_
    have B := B.of_eq hmw
    subst hQ hav
    exact x_zret hx hb hr (by decide) hlocks B d_RR_unknown_17 (⟨by rw [if_pos (by omega)], rfl⟩)
  · refine lv_iload_n hx hb d_RR_unknown_4 rfl (lv_at hl 1 rfl) ?_
    refine lv_aload_n hx hb d_RR_unknown_5 rfl (lv_at hl 0 rfl) ?_
    refine x_get (C := RX6) (T := TX6) (N := 14) hx hb hts inX6 hown B hF 0 rfl rfl 1 (by decide) (hts _ w_198) (fun _ h9 => h9) rfl d_RR_unknown_6 ?_
    refine x_icmp_lt (tgt := 16) hx hb d_RR_unknown_9 (by decide) (by omega) (by omega) (fun h9 => ?_) (fun h9 => ?_)
    · refine x_iconst hx hb d_RR_unknown_16 ?_
      have B := B.of_eq hmw
      subst hQ hav
      exact x_zret hx hb hr (by decide) hlocks B d_RR_unknown_17 (⟨by rw [if_neg (by omega)], rfl⟩)
    · refine x_iconst hx hb d_RR_unknown_12 ?_
      refine lv_goto (tgt := 17) hx hb d_RR_unknown_13 (by decide) ?_
      have B := B.of_eq hmw
      subst hQ hav
      exact x_zret hx hb hr (by decide) hlocks B d_RR_unknown_17 (⟨by rw [if_pos (by omega)], rfl⟩)
theorem c_RR_unknown_t (l : Launch) (D : va_G) (cs : Nat → ClassId) (L : List Nat) (f : Nat → va_E) (sz : Nat) (x c0 c2 c3 c4 c5 c6 c7 c8 c9 c10 c11 : Nat) (hd ll ln : Int) (p0 : Int) (hF : Fc L [x]) (ha : f x = .inr (6, [.ref c0, .int (iI hd), .ref c2, .ref c3, .ref c4, .ref c5, .ref c6, .ref c7, .ref c8, .ref c9, .ref c10, .ref c11, .int (iI ll), .int (iI ln)])) (hhd : 0 ≤ hd ∧ hd ≤ 12) (hp0 : -2147483648 ≤ p0 ∧ p0 < 2147483648) (hun : p0 < 0 ∨ hd ≤ p0) : Met l (⟨"RealRoots", "unknown", "(I)Z"⟩ : MethodName) (.code (⟨"RealRoots", "unknown", "(I)Z"⟩ : MethodName) prog_1_method_22_code 2 (Option.some Jvm.ClassFile.FieldType.boolean) :: gw) ({ frames := 0, cells := 0, slots := 0, locals := 0 }) (va_Pc [.ref x, .int (iI p0)] (K0 D vwCl (TY cs) L f sz)) (va_Qi (fun (r : Int32) (g : Nat → va_E) => r = iI 1 ∧ g = f) (K1 D vwCl (TY cs) (AL L sz) L) (AL L sz)) 0 0 (AL L sz) := by
  have h := c_RR_unknown l D cs L f sz x c0 c2 c3 c4 c5 c6 c7 c8 c9 c10 c11 hd ll ln p0 hF ha hhd hp0
  rw [if_pos hun] at h
  exact h
