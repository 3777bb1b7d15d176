set_option maxHeartbeats 8000000 in
set_option maxRecDepth 100000 in
theorem c_law_newton_k (l : Launch) (D : va_G) (cs : Nat → ClassId) (L : List Nat) (f : Nat → va_E) (sz : Nat) (ad Qm : Nat → Nat) (If : Nat → Int) (Af : Nat → Nat → Int) (Rf : Nat → Nat) (Zf : Nat → Int) (p0 o : Nat) (a2 a3 a4 : Int) (w0 : Nat → Int) (hAd : AdOk L ad Qm) (hC : CSt cs ad Qm f If Af Rf Zf) (hInv : Inv If Af) (hpk : (p0 : Int) < If 0) (ha2 : -2147483648 ≤ a2 ∧ a2 < 2147483648) (ha3 : -2147483648 ≤ a3 ∧ a3 < 2147483648) (ha4 : -2147483648 ≤ a4 ∧ a4 < 2147483648) (hS : (((-1000000 ≤ a2 ∧ a2 ≤ 1000000) ∧ 1 ≤ a3 ∧ a3 ≤ 1000000) ∧ 0 ≤ a4 ∧ a4 ≤ 1) → sg (es (dva (Af (20 + p0))) 6 ((a2 : Rat) / (a3 : Rat))) ≠ 0) (hoL : o ∈ L) (hoA : Awy ad o) (ho : f o = .inl (cs 1, 1, .inr (.inl (al w0)))) : Met l (⟨"RealRootsLaw", "newton", "(LRealRoots;IIII[J)I"⟩ : MethodName) (.codeWith (⟨"RealRootsLaw", "newton", "(LRealRoots;IIII[J)I"⟩ : MethodName) method_3_code 7 (Option.some Jvm.ClassFile.FieldType.int) [(0, 13, 16, 13)] :: gw) ({ frames := 7, cells := 0, slots := 0, locals := 340 }) (va_Pc [.ref ((ad 0)), .int (iI ((p0 : Int))), .int (iI a2), .int (iI a3), .int (iI a4), .ref o] (K0 D vwCl (TY cs) L f sz)) (va_Qi (fun (r : Int32) (g : Nat → va_E) => r = iI 0 ∧ ∃ (I' : Nat → Int) (A' : Nat → Nat → Int) (R' : Nat → Nat) (Z' : Nat → Int) (v : Int), CSt cs ad Qm g I' A' R' Z' ∧ (∀ k, Awy ad k → k ≠ o → g k = f k) ∧ Inv I' A' ∧ SameV If Af I' A' ∧ g o = .inl (cs 1, 1, .inr (.inl (al (up w0 0 v)))) ∧ ((¬ (((-1000000 ≤ a2 ∧ a2 ≤ 1000000) ∧ 1 ≤ a3 ∧ a3 ≤ 1000000) ∧ 0 ≤ a4 ∧ a4 ≤ 1) ∧ lI v = lI (-4000000000000000001)) ∨ ((((-1000000 ≤ a2 ∧ a2 ≤ 1000000) ∧ 1 ≤ a3 ∧ a3 ≤ 1000000) ∧ 0 ≤ a4 ∧ a4 ≤ 1) ∧ ∃ mm : Nat, 1 ≤ mm ∧ mm < 6 ∧ Af (20 + p0) mm ≠ 0 ∧ (∀ j, mm < j → j < 6 → Af (20 + p0) j = 0) ∧ lI v = lI (nwt (hsum (dva (Af (20 + p0))) (mm - 1) a2 a3 (mm - 1)) (hsum (Af (20 + p0)) mm a2 a3 mm) a2 a3 a4)))) (K1 D vwCl (TY cs) (AL L sz) L) (AL L sz)) 0 0 (AL L sz) := by
  refine va_MetW (hh := [(0, 13, 16, 13)]) (cc := method_3_code) (maxL := 7) (ret := (Option.some Jvm.ClassFile.FieldType.int)) (by decide) rfl ?_
  intro p e s m args below meth c s₁ Bd hml hv
  obtain ⟨rfl, hk0⟩ := hv
  obtain ⟨hsz, B⟩ := hk0.start
  subst hsz
  have hx := Bd.exec
  have hb := Bd.bytes
  have hr := Bd.returns
  have hlocks := Bd.notSynchronized
  have hts0 := atoms_spec Bd.pre
  have hown : s.vm.findClass "RealRootsLaw" = some m.cls := findClass_of_methodNamed Bd.named
  have hA : ∀ q, s.heap.size ≤ q → AL L s.heap.size q := fun _ h => Or.inr h
  have hl := lv_entry ([.ref ((ad 0)), .int (iI ((p0 : Int))), .int (iI a2), .int (iI a3), .int (iI a4), .ref o]) (n := 7) (Nat.le_of_ble_eq_true rfl)
  rw [lg_entry_eq]
  generalize (lg_sl ([.ref ((ad 0)), .int (iI ((p0 : Int))), .int (iI a2), .int (iI a3), .int (iI a4), .ref o]) ++ List.replicate (7 - (lg_sl ([.ref ((ad 0)), .int (iI ((p0 : Int))), .int (iI a2), .int (iI a3), .int (iI a4), .ref o])).length) Slot.unset).toArray = ls at hl ⊢
  refine absQ (fun Q R av hQ hR hav => ?_)
  have hts : ∀ w ∈ gw, w.before av s = true := by rw [hav]; exact fun w h => hts0 w (List.mem_cons_of_mem _ h)
  have hRf : R.frames = 7 := by rw [hR]; rfl
  have hRl : R.locals = 340 := by rw [hR]; rfl
  have hRc : R.cells = 0 := by rw [hR]; rfl
  have hRs : R.slots = 0 := by rw [hR]; rfl
  clear hR hts0 Bd
  have hl : lv_has ls 7 [(0, .ref ((ad 0))), (1, .int (iI ((p0 : Int)))), (2, .int (iI a2)), (3, .int (iI a3)), (4, .int (iI a4)), (5, .ref o)] := hl
  have hfr : ∀ k, Awy ad k → f k = f k := fun _ _ => rfl
  refine lv_aload hx hb d_law_newton_0 (lv_at hl 5 rfl) ?_
  refine x_iconst hx hb d_law_newton_2 ?_
  refine lv_aload_n hx hb d_law_newton_3 rfl (lv_at hl 0 rfl) ?_
  refine lv_iload_n hx hb d_law_newton_4 rfl (lv_at hl 1 rfl) ?_
  refine lv_iload_n hx hb d_law_newton_5 rfl (lv_at hl 2 rfl) ?_
  refine lv_iload_n hx hb d_law_newton_6 rfl (lv_at hl 3 rfl) ?_
  refine lv_iload hx hb d_law_newton_7 (lv_at hl 4 rfl) ?_
  refine x_calll B hA (va_runV (As := [.int (iI ((p0 : Int))), .int (iI a2), .int (iI a3), .int (iI a4)]) (rest := [.int (iI 0), .ref o]) ⟨hx, hb, hml, hown, hts⟩ (c_RR_newton_k l D cs _ _ _ ad Qm If Af Rf Zf p0 a2 a3 a4 hAd hC hInv hpk ha2 ha3 ha4 hS) (cwV 4 hts (gw_V w_577 w_578 w_579 w_1 w_580) rfl rfl rfl (by decide +kernel) ⟨by rw [hRf]; exact Nat.le_of_ble_eq_true rfl, by rw [hRl]; exact Nat.le_of_ble_eq_true rfl⟩) ⟨K0.blind, B.recv (hAd.1 _ (by omega)) (hC.x) rfl, B.pre _⟩ rfl rfl hl.1 rfl (lv_room (Nat.le_of_ble_eq_true rfl)) d_law_newton_9 ⟨by rw [hRc]; omega, by rw [hRs]; omega⟩) (fun r9 g9 H locs hw B => ?_)
  obtain ⟨In, An, Rn, Zn, hCn, hqn, hInvn, hsvn, hans⟩ := hw
  have hfrn : ∀ k, Awy ad k → g9 k = f k := fun k hk => (hqn k hk).trans (hfr k hk)
  have B : Wb D vwCl (TY cs) L g9 (AL L s.heap.size) s H _ := B
  obtain ⟨vn, hvn, hvr⟩ := i64_ex r9
  rw [hvn] at hans ⊢
  have hog : g9 o = .inl (cs 1, 1, .inr (.inl (al w0))) := (hqn o hoA).trans ho
  refine x_last hx hb (B.foc1 hog) (Fc.one hoL) 0 1 rfl rfl 0 (by omega) (by omega) (by decide) d_law_newton_12 (fun H locs B => ?_)
  have B : Wb D vwCl (TY cs) L (mw g9 [(o, .inl (cs 1, 1, .inr (.inl (al (up w0 0 vn)))))]) (AL L s.heap.size) s H _ := B
  obtain ⟨fo, hfo⟩ : ∃ fo, fo = mw g9 [(o, .inl (cs 1, 1, .inr (.inl (al (up w0 0 vn)))))] := ⟨_, rfl⟩
  rw [← hfo] at B
  have hCo : CSt cs ad Qm fo In An Rn Zn := hCn.frame hAd (fun k hk => by rw [hfo]; exact mw_out (by simp only [List.map_cons, List.map_nil, List.mem_cons, List.not_mem_nil, or_false]; exact fun e => hoA k hk e.symm))
  have hfro : ∀ k, Awy ad k → k ≠ o → fo k = f k := fun k hk hne => by rw [hfo, mw_out (by simp only [List.map_cons, List.map_nil, List.mem_cons, List.not_mem_nil, or_false]; exact hne)]; exact hqn k hk
  have hoo : fo o = .inl (cs 1, 1, .inr (.inl (al (up w0 0 vn)))) := by rw [hfo]; exact mw_get (X := [(o, .inl (cs 1, 1, .inr (.inl (al (up w0 0 vn)))))]) (k := 0) (by simp) rfl
  refine lv_goto (tgt := 20) hx hb d_law_newton_13 (by decide) ?_
  refine x_iconst hx hb d_law_newton_20 ?_
  subst hQ hav
  exact x_iret hx hb hr hlocks B d_law_newton_21 (⟨rfl, In, An, Rn, Zn, vn, hCo, hfro, hInvn, hsvn, hoo, hans⟩)
