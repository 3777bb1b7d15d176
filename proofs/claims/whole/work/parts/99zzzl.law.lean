theorem exc_one {T : List ExceptionTableEntry} {a b c d : Nat} (h : T.map (fun h => (h.startPc, h.endPc, h.handlerPc, h.catchType)) = [(a, b, c, d)]) : T = [⟨a, b, c, d⟩] := by
  match T, h with
  | [], h => simp at h
  | [x], h =>
    simp only [List.map_cons, List.map_nil, List.cons.injEq, Prod.mk.injEq, and_true] at h
    obtain ⟨rfl, rfl, rfl, rfl⟩ := h
    rfl
  | x :: y :: t, h => simp at h
set_option maxHeartbeats 8000000 in
set_option maxRecDepth 100000 in
theorem c_law_newton_x (l : Launch) (D : va_G) (cs : Nat → ClassId) (L : List Nat) (f : Nat → va_E) (sz : Nat) (ad Qm : Nat → Nat) (If : Nat → Int) (Af : Nat → Nat → Int) (Rf : Nat → Nat) (Zf : Nat → Int) (p0 o : Nat) (a2 a3 a4 : Int) (hAd : AdOk L ad Qm) (hC : CSt cs ad Qm f If Af Rf Zf) (htr : l.stackTraces = false) (hInv : Inv If Af) (hpk : (p0 : Int) < If 0) (ha2 : -2147483648 ≤ a2 ∧ a2 < 2147483648) (ha3 : -2147483648 ≤ a3 ∧ a3 < 2147483648) (ha4 : -2147483648 ≤ a4 ∧ a4 < 2147483648) (hin : (((-1000000 ≤ a2 ∧ a2 ≤ 1000000) ∧ 1 ≤ a3 ∧ a3 ≤ 1000000) ∧ 0 ≤ a4 ∧ a4 ≤ 1)) (hS0 : sg (es (dva (Af (20 + p0))) 6 ((a2 : Rat) / (a3 : Rat))) = 0) : Met l (⟨"RealRootsLaw", "newton", "(LRealRoots;IIII[J)I"⟩ : MethodName) (.codeWith (⟨"RealRootsLaw", "newton", "(LRealRoots;IIII[J)I"⟩ : MethodName) method_3_code 7 (Option.some Jvm.ClassFile.FieldType.int) [(0, 13, 16, 13)] :: gw) ({ frames := 7, cells := 1, slots := 6, locals := 340 }) (fun v U => va_Pc [.ref ((ad 0)), .int (iI ((p0 : Int))), .int (iI a2), .int (iI a3), .int (iI a4), .ref o] (K0 D vwCl (TY cs) L f sz) v U ∧ ThS U) (va_Qi (fun (r : Int32) (g : Nat → va_E) => r = iI 1 ∧ ∃ (I' : Nat → Int) (A' : Nat → Nat → Int) (R' : Nat → Nat) (Z' : Nat → Int), CSt cs ad Qm g I' A' R' Z' ∧ (∀ k, Awy ad k → g k = f k) ∧ Inv I' A' ∧ SameV If Af I' A') (K1 D vwCl (TY cs) (AL L sz) L) (AL L sz)) 1 6 (AL L sz) := by
  refine va_MetW (hh := [(0, 13, 16, 13)]) (cc := method_3_code) (maxL := 7) (ret := (Option.some Jvm.ClassFile.FieldType.int)) (by decide) rfl ?_
  intro p e s m args below meth c s₁ Bd hml hv
  obtain ⟨⟨rfl, hk0⟩, hTh⟩ := hv
  obtain ⟨hsz, B⟩ := hk0.start
  subst hsz
  have hSt := AL_st B.1
  have hx := Bd.exec
  have hb := Bd.bytes
  have hr := Bd.returns
  have hlocks := Bd.notSynchronized
  have hts0 := atoms_spec Bd.pre
  have hexc : c.exceptionTable.toList = [(⟨0, 13, 16, 13⟩ : ExceptionTableEntry)] := by
    obtain ⟨m9, meth9, c9, n1, n2, n3, -, -, n6, -⟩ := Cond.codeWith_spec (hts0 _ List.mem_cons_self)
    have X0 := Stand.of_body Bd
    cases Bd.named.symm.trans n1
    cases X0.method.symm.trans n2
    cases X0.code.symm.trans n3
    exact exc_one n6
  have hown : s.vm.findClass "RealRootsLaw" = some m.cls := findClass_of_methodNamed Bd.named
  have hA : ∀ q, s.heap.size ≤ q → AL L s.heap.size q := fun _ h => Or.inr h
  have hl := lv_entry ([.ref ((ad 0)), .int (iI ((p0 : Int))), .int (iI a2), .int (iI a3), .int (iI a4), .ref o]) (n := 7) (Nat.le_of_ble_eq_true rfl)
  rw [lg_entry_eq]
  generalize (lg_sl ([.ref ((ad 0)), .int (iI ((p0 : Int))), .int (iI a2), .int (iI a3), .int (iI a4), .ref o]) ++ List.replicate (7 - (lg_sl ([.ref ((ad 0)), .int (iI ((p0 : Int))), .int (iI a2), .int (iI a3), .int (iI a4), .ref o])).length) Slot.unset).toArray = ls at hl ⊢
  refine absQ (fun Q R av hQ hR hav => ?_)
  have hts : ∀ w ∈ gw, w.before av s = true := by rw [hav]; exact fun w h => hts0 w (List.mem_cons_of_mem _ h)
  have hRf : R.frames = 7 := by rw [hR]; rfl
  have hRl : R.locals = 340 := by rw [hR]; rfl
  have hRc : R.cells = 1 := by rw [hR]; rfl
  have hRs : R.slots = 6 := by rw [hR]; rfl
  clear hR hts0 Bd
  have hl : lv_has ls 7 [(0, .ref ((ad 0))), (1, .int (iI ((p0 : Int)))), (2, .int (iI a2)), (3, .int (iI a3)), (4, .int (iI a4)), (5, .ref o)] := hl
  have hfr : ∀ k, Awy ad k → f k = f k := fun _ _ => rfl
  refine lv_aload hx hb d_law_newton_0 (lv_at hl 5 rfl) ?_
  refine x_iconst hx hb d_law_newton_2 ?_
  refine lv_aload_n hx hb d_law_newton_3 rfl (lv_at hl 0 rfl) ?_
  refine lv_iload_n hx hb d_law_newton_4 rfl (lv_at hl 1 rfl) ?_
  refine lv_iload_n hx hb d_law_newton_5 rfl (lv_at hl 2 rfl) ?_
  refine lv_iload_n hx hb d_law_newton_6 rfl (lv_at hl 3 rfl) ?_
  refine lv_iload hx hb d_law_newton_7 (lv_at hl 4 rfl) ?_
  refine x_catch (As := [.int (iI ((p0 : Int))), .int (iI a2), .int (iI a3), .int (iI a4)]) (rest := [.int (iI 0), .ref o]) ⟨hx, hb, hml, hown, hts⟩ B hA (c_RR_newton_x l D cs _ _ _ ad Qm If Af Rf Zf p0 a2 a3 a4 hAd hC htr hInv hpk ha2 ha3 ha4 hin hS0) (cwV 4 hts (gw_V w_577 w_578 w_579 w_1 w_580) rfl rfl rfl (by decide +kernel) ⟨by rw [hRf]; exact Nat.le_of_ble_eq_true rfl, by rw [hRl]; exact Nat.le_of_ble_eq_true rfl⟩) ⟨fun a U g mk h => ⟨K0.blind a U g mk h.1, h.2.calling g mk a⟩, B.recv (hAd.1 _ (by omega)) (hC.x) rfl, fun U hU hW => ⟨B.pre _ U hU hW, hTh.wb hSt B.2.2.2.1 hU hW⟩⟩ rfl hl.1 (lv_room (Nat.le_of_ble_eq_true rfl)) d_law_newton_9 ⟨by rw [hRc]; omega, by rw [hRs]; omega⟩ ⟨0, 13, 16, 13⟩ hexc (by decide) (by decide) (hts _ w_576) (fun v9 g9 H locs hw B => ?_)
  obtain ⟨In, An, Rn, Zn, hCn, hqn, hInvn, hsvn⟩ := hw
  have hfrn : ∀ k, Awy ad k → g9 k = f k := fun k hk => (hqn k hk).trans (hfr k hk)
  have B : Wb D vwCl (TY cs) L g9 (AL L s.heap.size) s H _ := B
  refine lv_astore (lv' := [(6, .ref v9), (0, .ref ((ad 0))), (1, .int (iI ((p0 : Int)))), (2, .int (iI a2)), (3, .int (iI a3)), (4, .int (iI a4)), (5, .ref o)]) hx hb d_law_newton_16 hl (by decide) rfl (fun ls hl => ?_)
  refine x_iconst hx hb d_law_newton_18 ?_
  subst hQ hav
  exact x_iret hx hb hr hlocks B d_law_newton_19 (⟨rfl, In, An, Rn, Zn, hCn, hfrn, hInvn, hsvn⟩)
