/-! a static call of a method with an exception table, on a road where none of it is taken; the script; the tables at the law's entry -/
section XW
variable {p : Program} {l : Launch} {e : Env} {R : Room} {s : State} {m : MethodId} {args : Array Value} {below : List Frame} {meth : Method} {c : Code} {H : Heap} {locs : List Loc} {cells slots : Nat} {Q : State → Prop}
theorem x_runSW {y : MethodName} {bytes cc : ByteArray} {maxL nL mc ms n index : Nat} {ret : Option FieldType} {hh : List (Nat × Nat × Nat × Nat)} {ws : List Cond} {rm : Room} {Pc : Array Value → State → Prop} {Qc : Array Value → State → Outcome → State → Prop} {free : Addr → Prop} {Ts : List Cond} {own : String} {As rest : List Value} {g : JFrame}
    (S : CallFix p m c cc nL s args Ts own) (hM : Met l y ws rm Pc Qc mc ms free) (hG : GoodIn Ts ws) (hcw : Cond.codeWith y bytes maxL ret hh ∈ ws) (hrc : rm.cells = mc) (hrs : rm.slots = ms) (hR : rm.frames + 1 ≤ R.frames ∧ 8 + (maxL + 11) + rm.locals ≤ R.locals)
    (hl : (Cond.methodLink own index y).before args s = true) (hstt : (Cond.static y).before args s = true) (hini : (Cond.initialized y.cls).before args s = true) (hy : y.cls ≠ "java/lang/invoke/MethodHandle" ∧ y.cls ≠ "java/lang/invoke/VarHandle" ∧ (parseMethodDescriptor y.desc).map (fun d => d.parameters.length) = some n) (hp : PreS s H Pc As)
    (hg : g.method = m) (hn : As.length = n) (hsize : g.locals.size = nL) (hstack : g.stack = As.reverse ++ rest) (hW : 2 * g.monitorRoom + (rest.map fun v => v.category).sum ≤ 8) (hdg : decode cc g.pc = .ok (.invokestatic index, 3)) (hf : cells + mc ≤ R.cells ∧ slots + ms ≤ R.slots) :
    va_Run p l e R s m args below meth c H locs cells slots mc ms g rest (Qc As.toArray) free := by
  have hK : Back l R p e below s args y 3 8 (PreOf R mc ms Pc) (PostOf Qc mc ms free) := va_backW (hh := hh) (bytes := bytes) (maxL := maxL) (ret := ret) hM hp.1 hrc hrs hR.1 hR.2 (pay_in S.2.2.2.2 hG) hcw (fun a' U hW => word_at hW (Or.inl (by first | rfl | simp [Cond.onTables, Cond.keeps, Cond.steady])) hini)
  obtain ⟨hx, hb, hml, ho, hts⟩ := S
  obtain ⟨mk, methM, cM, hnamed, hmethM, -, -, -, -, -, -, hsigM⟩ := Cond.codeWith_spec (hts _ (hG _ hcw).1)
  have hstatic : methM.isStatic = true := Cond.static_spec hnamed hmethM hstt
  obtain ⟨kP, hkP, -⟩ := className_of_methodNamed hnamed
  have hinitP : kP.init = .initialized := Cond.initialized_spec (findClass_of_methodNamed hnamed) hkP hini
  have hlen : As.length = methM.sig.parameters.length := by
    have h2 := hy.2.2
    rw [hsigM] at h2
    exact hn.trans (Option.some.inj h2).symm
  intro T hT X
  obtain ⟨vm₁, X₁, hstep₁⟩ := X.invokestatic hx ho hl hnamed hmethM hstatic hkP hinitP ⟨hy.1, hy.2.1⟩ (g := g) hg (argsL := As) (rest := rest) hlen hstack (by rw [hb]; exact hdg)
  obtain ⟨v, ⟨U', l2, c2, s2⟩, X', ⟨g', mk', t, L, e1, e2, hq, h1, hL, h2, h3⟩, hsteps⟩ := hK m meth c ⟨T.setVm vm₁, locs, cells, slots⟩ { g with stack := rest } (.invokestatic index) mk As.toArray X₁ hg (hsize.trans hml.symm) (by rw [hb]; exact hdg) hW (X₁.named hnamed) ⟨hf.1, hf.2, hp.2 (T.setVm vm₁) hT X₁.warmed⟩
  dsimp only [Pt.U, Pt.locs, Pt.cells, Pt.slots] at X' e1 e2 h1 h2 h3 hsteps
  subst h1; subst h2; subst h3
  exact ⟨v, (T.setVm vm₁).calling g' mk' As.toArray, t, U', L, hT, X', hL, e1, e2, hq, fun target h => hstep₁ _ fun acts => by rw [doInvoke_state]; exact hsteps.trans h⟩
variable {cc : ByteArray} {pc : Nat} {ls : Array Slot} {rest : List Value} {A : Nat → Prop}
theorem x_sld (hx : p.tables.exec = Jvm.exec) (hb : c.code = cc) {b n : Nat} {ys : Nat → Int} (hX : va_X b n (ai ys) s s.heap) (hbl : b < s.heap.size) (hbA : ¬ A b) (hS : va_S A s.heap H locs) {z : Int} (j : Nat) (hz : z = (j : Int)) (hj : j < n) (hn : n ≤ 2147483647) (hd : decode cc pc = .ok (.iaload, 1))
    (kk : W p l e R s m args below meth c H locs cells slots Q (F0 m (pc + 1) ls (.int (iI (ys j)) :: rest))) : W p l e R s m args below meth c H locs cells slots Q (F0 m pc ls (.int (iI z) :: .ref b :: rest)) := by
  refine va_sld hx hb hX hbl hbA hS (iI_in (by omega) hn) hd ?_
  rw [iI_clamp (by omega), show z.toNat = j by omega]
  exact kk
theorem x_slen (hx : p.tables.exec = Jvm.exec) (hb : c.code = cc) {b n : Nat} {ys : Nat → Int} (hX : va_X b n (ai ys) s s.heap) (hbl : b < s.heap.size) (hbA : ¬ A b) (hS : va_S A s.heap H locs) (hd : decode cc pc = .ok (.arraylength, 1))
    (kk : W p l e R s m args below meth c H locs cells slots Q (F0 m (pc + 1) ls (.int (iI (n : Int)) :: rest))) : W p l e R s m args below meth c H locs cells slots Q (F0 m pc ls (.ref b :: rest)) := by
  refine va_slen hx hb hX hbl hbA hS hd ?_
  rw [show Int32.ofNat n = iI (n : Int) from (iI_nat n).symm]
  exact kk
theorem x_and31 (hx : p.tables.exec = Jvm.exec) (hb : c.code = cc) {a : Int} (hd : decode cc pc = .ok (.iand, 1))
    (kk : W p l e R s m args below meth c H locs cells slots Q (F0 m (pc + 1) ls (.int (iI (a % 32)) :: rest))) : W p l e R s m args below meth c H locs cells slots Q (F0 m pc ls (.int (iI 31) :: .int (iI a) :: rest)) := by
  refine lv_iand hx hb hd ?_
  have e1 : iI a &&& iI 31 = iI (a % 32) := by
    apply Int32.toBitVec_inj.mp
    apply BitVec.eq_of_toNat_eq
    rw [Int32.toBitVec_and, BitVec.toNat_and]
    show (BitVec.ofInt 32 a).toNat &&& (BitVec.ofInt 32 31).toNat = (BitVec.ofInt 32 (a % 32)).toNat
    rw [BitVec.toNat_ofInt, BitVec.toNat_ofInt, BitVec.toNat_ofInt]
    have e2 : ((31 : Int) % ((2 ^ 32 : Nat) : Int)).toNat = 2 ^ 5 - 1 := by decide
    have e3 : ((2 ^ 32 : Nat) : Int) = 4294967296 := rfl
    rw [e2, Nat.and_two_pow_sub_one_eq_mod, e3]
    omega
  rw [e1]
  exact kk
end XW
theorem K_start {args : Array Value} {s : State} (hts : ∀ w ∈ gw, w.before args s = true) (hX : Xw s) : ∃ (D : va_G) (cs : Nat → ClassId), va_K D vwCl (TY cs) s := by
  obtain ⟨c0, i0, h0⟩ := u_known (C := RX0) (T := TX0) (N := 3) (n := 3) hts inX0 (hts _ w_33)
  obtain ⟨c1, i1, h1⟩ := u_known (C := RX1) (T := TX1) (N := 7) (n := 7) hts inX1 (hts _ w_26)
  obtain ⟨c2, i2, h2⟩ := u_known (C := RX2) (T := TX2) (N := 5) (n := 5) hts inX2 (hts _ w_148)
  obtain ⟨c3, i3, h3⟩ := u_known (C := RX3) (T := TX3) (N := 3) (n := 3) hts inX3 (hts _ w_155)
  obtain ⟨c4, i4, h4⟩ := u_known (C := RX4) (T := TX4) (N := 7) (n := 7) hts inX4 (hts _ w_115)
  obtain ⟨c5, i5, h5⟩ := u_known (C := RX5) (T := TX5) (N := 8) (n := 8) hts inX5 (hts _ w_77)
  obtain ⟨c6, i6, h6⟩ := u_known (C := RX6) (T := TX6) (N := 14) (n := 14) hts inX6 (hts _ w_16)
  obtain ⟨c7, i7, h7⟩ := u_known (C := RX7) (T := TX7) (N := 18) (n := 18) hts inX7 (hts _ w_672)
  obtain ⟨cI, kI, pI, aI, bI, dI⟩ := Cond.arrayClass_spec (hts _ w_51)
  obtain ⟨cJ, kJ, pJ, aJ, bJ, dJ⟩ := Cond.arrayClass_spec (hts _ w_175)
  obtain ⟨cZ, kZ, pZ, aZ, bZ, dZ⟩ := Cond.arrayClass_spec (hts _ w_732)
  obtain ⟨-, -, -, -, -, -, -, x1, x2, x3⟩ := hX
  obtain ⟨pC, cC, kC, aC, -, bC, dC, eC⟩ := Cond.arrayOver_spec x1
  obtain ⟨pB, cB, kB, aB, -, bB, dB, eB⟩ := Cond.arrayOver_spec x2
  obtain ⟨pP, cP, kP, aP, -, bP, dP, eP⟩ := Cond.arrayOver_spec x3
  refine ⟨(fun k => match k with | 0 => c0 | 1 => c1 | 2 => c2 | 3 => c3 | 4 => c4 | 5 => c5 | 6 => c6 | _ => c7, fun k => match k with | 0 => i0 | 1 => i1 | 2 => i2 | 3 => i3 | 4 => i4 | 5 => i5 | 6 => i6 | _ => i7), fun k => match k with | 0 => cI | 1 => cJ | 2 => cZ | 3 => cB | 4 => cC | _ => cP, ?_, ?_⟩
  · intro k q hq
    match k, hq with
    | 0, hq => cases hq; exact h0
    | 1, hq => cases hq; exact h1
    | 2, hq => cases hq; exact h2
    | 3, hq => cases hq; exact h3
    | 4, hq => cases hq; exact h4
    | 5, hq => cases hq; exact h5
    | 6, hq => cases hq; exact h6
    | 7, hq => cases hq; exact h7
    | k + 8, hq => simp at hq
  · intro k q hq
    match k, hq with
    | 0, hq => cases hq; exact ⟨fun n z => ⟨fun k h => (by cases h), kI, bI, pI, dI⟩, aI⟩
    | 1, hq => cases hq; exact ⟨fun n z => ⟨fun k h => (by cases h), kJ, bJ, pJ, dJ⟩, aJ⟩
    | 2, hq => cases hq; exact ⟨fun n z => ⟨fun k h => (by cases h), kZ, bZ, pZ, dZ⟩, aZ⟩
    | 3, hq => cases hq; exact ⟨fun n z => ⟨fun k h => (by cases h), kB, bB, pB, dB⟩, kB, pB, bB, dB, aB, eB⟩
    | 4, hq => cases hq; exact ⟨fun n z => ⟨fun k h => (by cases h), kC, bC, pC, dC⟩, kC, pC, bC, dC, aC, eC⟩
    | 5, hq => cases hq; exact ⟨fun n z => ⟨fun k h => (by cases h), kP, bP, pP, dP⟩, kP, pP, bP, dP, aP, eP⟩
    | k + 6, hq => simp at hq
theorem w_575 : (Cond.codeWith ⟨"RealRootsLaw", "newton", "(LRealRoots;IIII[J)I"⟩ method_3_code 7 (Option.some Jvm.ClassFile.FieldType.int) [(0, 13, 16, 13)]) ∈ gw := gw_t3 95 rfl rfl
theorem d_law_newton_0 : decode method_3_code 0 = .ok (.aload 5, 2) := by decide +kernel
theorem d_law_newton_2 : decode method_3_code 2 = .ok (.iconst 0, 1) := by decide +kernel
theorem d_law_newton_3 : decode method_3_code 3 = .ok (.aload_n 0, 1) := by decide +kernel
theorem d_law_newton_4 : decode method_3_code 4 = .ok (.iload_n 1, 1) := by decide +kernel
theorem d_law_newton_5 : decode method_3_code 5 = .ok (.iload_n 2, 1) := by decide +kernel
theorem d_law_newton_6 : decode method_3_code 6 = .ok (.iload_n 3, 1) := by decide +kernel
theorem d_law_newton_7 : decode method_3_code 7 = .ok (.iload 4, 2) := by decide +kernel
theorem d_law_newton_9 : decode method_3_code 9 = .ok (.invokevirtual 7, 3) := by decide +kernel
theorem d_law_newton_12 : decode method_3_code 12 = .ok (.lastore, 1) := by decide +kernel
theorem d_law_newton_13 : decode method_3_code 13 = .ok (.goto 7, 3) := by decide +kernel
theorem d_law_newton_16 : decode method_3_code 16 = .ok (.astore 6, 2) := by decide +kernel
theorem d_law_newton_18 : decode method_3_code 18 = .ok (.iconst 1, 1) := by decide +kernel
theorem d_law_newton_19 : decode method_3_code 19 = .ok (.ireturn, 1) := by decide +kernel
theorem d_law_newton_20 : decode method_3_code 20 = .ok (.iconst 0, 1) := by decide +kernel
theorem d_law_newton_21 : decode method_3_code 21 = .ok (.ireturn, 1) := by decide +kernel
set_option maxHeartbeats 8000000 in
set_option maxRecDepth 100000 in
theorem c_law_newton_u (l : Launch) (D : va_G) (cs : Nat → ClassId) (L : List Nat) (f : Nat → va_E) (sz : Nat) (x c0 c2 c3 c4 c5 c6 c7 c8 c9 c10 c11 : Nat) (hd ll ln : Int) (o : Nat) (a1 a2 a3 a4 : Int) (w : Nat → Int) (hF : Fc L [x, o]) (ha : f x = .inr (6, [.ref c0, .int (iI hd), .ref c2, .ref c3, .ref c4, .ref c5, .ref c6, .ref c7, .ref c8, .ref c9, .ref c10, .ref c11, .int (iI ll), .int (iI ln)])) (hhd : 0 ≤ hd ∧ hd ≤ 12) (ho : f o = .inl (cs 1, 1, .inr (.inl (al w)))) (ha1 : -2147483648 ≤ a1 ∧ a1 < 2147483648) (ha2 : -2147483648 ≤ a2 ∧ a2 < 2147483648) (ha3 : -2147483648 ≤ a3 ∧ a3 < 2147483648) (ha4 : -2147483648 ≤ a4 ∧ a4 < 2147483648) (hun : a1 < 0 ∨ hd ≤ a1) : Met l (⟨"RealRootsLaw", "newton", "(LRealRoots;IIII[J)I"⟩ : MethodName) (.codeWith (⟨"RealRootsLaw", "newton", "(LRealRoots;IIII[J)I"⟩ : MethodName) method_3_code 7 (Option.some Jvm.ClassFile.FieldType.int) [(0, 13, 16, 13)] :: gw) ({ frames := 2, cells := 0, slots := 0, locals := 60 }) (va_Pc [.ref x, .int (iI a1), .int (iI a2), .int (iI a3), .int (iI a4), .ref o] (K0 D vwCl (TY cs) L f sz)) (va_Qi (fun (r : Int32) (g : Nat → va_E) => r = iI 0 ∧ g = mw f [(o, .inl (cs 1, 1, .inr (.inl (al (up w 0 (-4000000000000000000))))))]) (K1 D vwCl (TY cs) (AL L sz) L) (AL L sz)) 0 0 (AL L sz) := by
  refine va_MetW (hh := [(0, 13, 16, 13)]) (cc := method_3_code) (maxL := 7) (ret := (Option.some Jvm.ClassFile.FieldType.int)) (by decide) rfl ?_
  intro p e s m args below meth c s₁ Bd hml hv
  obtain ⟨rfl, hk0⟩ := hv
  obtain ⟨hsz, B⟩ := hk0.start
  subst hsz
  have hx := Bd.exec
  have hb := Bd.bytes
  have hr := Bd.returns
  have hlocks := Bd.notSynchronized
  have hts0 := atoms_spec Bd.pre
  have hown : s.vm.findClass "RealRootsLaw" = some m.cls := findClass_of_methodNamed Bd.named
  have hA : ∀ q, s.heap.size ≤ q → AL L s.heap.size q := fun _ h => Or.inr h
  have hl := lv_entry ([.ref x, .int (iI a1), .int (iI a2), .int (iI a3), .int (iI a4), .ref o]) (n := 7) (Nat.le_of_ble_eq_true rfl)
  rw [lg_entry_eq]
  generalize (lg_sl ([.ref x, .int (iI a1), .int (iI a2), .int (iI a3), .int (iI a4), .ref o]) ++ List.replicate (7 - (lg_sl ([.ref x, .int (iI a1), .int (iI a2), .int (iI a3), .int (iI a4), .ref o])).length) Slot.unset).toArray = ls at hl ⊢
  refine absQ (fun Q R av hQ hR hav => ?_)
  have hts : ∀ w ∈ gw, w.before av s = true := by rw [hav]; exact fun w h => hts0 w (List.mem_cons_of_mem _ h)
  have hRf : R.frames = 2 := by rw [hR]; rfl
  have hRl : R.locals = 60 := by rw [hR]; rfl
  have hRc : R.cells = 0 := by rw [hR]; rfl
  have hRs : R.slots = 0 := by rw [hR]; rfl
  clear hR hts0 Bd
  have hl : lv_has ls 7 [(0, .ref x), (1, .int (iI a1)), (2, .int (iI a2)), (3, .int (iI a3)), (4, .int (iI a4)), (5, .ref o)] := hl
  have hfx : ∀ q ∈ ([(x, .inr (6, [.ref c0, .int (iI hd), .ref c2, .ref c3, .ref c4, .ref c5, .ref c6, .ref c7, .ref c8, .ref c9, .ref c10, .ref c11, .int (iI ll), .int (iI ln)])), (o, .inl (cs 1, 1, .inr (.inl (al w))))] : List (Nat × va_E)), f q.1 = q.2 := fun q hq => by
    simp only [List.mem_cons, List.not_mem_nil, or_false] at hq
    rcases hq with rfl | rfl
    · exact ha
    · exact ho
  have hmw : mw f [(x, .inr (6, [.ref c0, .int (iI hd), .ref c2, .ref c3, .ref c4, .ref c5, .ref c6, .ref c7, .ref c8, .ref c9, .ref c10, .ref c11, .int (iI ll), .int (iI ln)])), (o, .inl (cs 1, 1, .inr (.inl (al w))))] = f := mw_self (fun k a e hk => hfx (a, e) (List.mem_of_getElem? hk))
  have B := B.focus [(x, .inr (6, [.ref c0, .int (iI hd), .ref c2, .ref c3, .ref c4, .ref c5, .ref c6, .ref c7, .ref c8, .ref c9, .ref c10, .ref c11, .int (iI ll), .int (iI ln)])), (o, .inl (cs 1, 1, .inr (.inl (al w))))] hfx
  refine lv_aload hx hb d_law_newton_0 (lv_at hl 5 rfl) ?_
  refine x_iconst hx hb d_law_newton_2 ?_
  refine lv_aload_n hx hb d_law_newton_3 rfl (lv_at hl 0 rfl) ?_
  refine lv_iload_n hx hb d_law_newton_4 rfl (lv_at hl 1 rfl) ?_
  refine lv_iload_n hx hb d_law_newton_5 rfl (lv_at hl 2 rfl) ?_
  refine lv_iload_n hx hb d_law_newton_6 rfl (lv_at hl 3 rfl) ?_
  refine lv_iload hx hb d_law_newton_7 (lv_at hl 4 rfl) ?_
  refine x_calll B hA (va_runV (As := [.int (iI a1), .int (iI a2), .int (iI a3), .int (iI a4)]) (rest := [.int (iI 0), .ref o]) ⟨hx, hb, hml, hown, hts⟩ (c_RR_newton_u l D cs _ _ _ x c0 c2 c3 c4 c5 c6 c7 c8 c9 c10 c11 hd ll ln a1 a2 a3 a4 (Fc.one (hF.2 _ (by simp))) (mw_get (X := [(x, .inr (6, [.ref c0, .int (iI hd), .ref c2, .ref c3, .ref c4, .ref c5, .ref c6, .ref c7, .ref c8, .ref c9, .ref c10, .ref c11, .int (iI ll), .int (iI ln)])), (o, .inl (cs 1, 1, .inr (.inl (al w))))]) hF.1 (k := 0) rfl) hhd (by omega) (by omega) (by omega) (by omega) (by omega)) (cwV 4 hts (gw_V w_577 w_578 w_579 w_1 w_580) rfl rfl rfl (by decide +kernel) ⟨by rw [hRf]; exact Nat.le_of_ble_eq_true rfl, by rw [hRl]; exact Nat.le_of_ble_eq_true rfl⟩) ⟨K0.blind, B.recv (hF.2 _ (mw_key (k := 0) (X := [(x, .inr (6, [.ref c0, .int (iI hd), .ref c2, .ref c3, .ref c4, .ref c5, .ref c6, .ref c7, .ref c8, .ref c9, .ref c10, .ref c11, .int (iI ll), .int (iI ln)])), (o, .inl (cs 1, 1, .inr (.inl (al w))))]) rfl)) (mw_get (X := [(x, .inr (6, [.ref c0, .int (iI hd), .ref c2, .ref c3, .ref c4, .ref c5, .ref c6, .ref c7, .ref c8, .ref c9, .ref c10, .ref c11, .int (iI ll), .int (iI ln)])), (o, .inl (cs 1, 1, .inr (.inl (al w))))]) hF.1 (k := 0) rfl) rfl, B.pre _⟩ rfl rfl hl.1 rfl (lv_room (Nat.le_of_ble_eq_true rfl)) d_law_newton_9 ⟨by rw [hRc]; omega, by rw [hRs]; omega⟩) (fun r9 g9 H locs hw B => ?_)
  obtain ⟨rfl, rfl⟩ := hw
  have B : Wb D vwCl (TY cs) L (mw f [(x, .inr (6, [.ref c0, .int (iI hd), .ref c2, .ref c3, .ref c4, .ref c5, .ref c6, .ref c7, .ref c8, .ref c9, .ref c10, .ref c11, .int (iI ll), .int (iI ln)])), (o, .inl (cs 1, 1, .inr (.inl (al w))))]) (AL L s.heap.size) s H _ := B
  refine x_last hx hb B hF 1 1 rfl rfl 0 (by omega) (by omega) (by decide) d_law_newton_12 (fun H locs B => ?_)
  have B : Wb D vwCl (TY cs) L (mw f [(x, .inr (6, [.ref c0, .int (iI hd), .ref c2, .ref c3, .ref c4, .ref c5, .ref c6, .ref c7, .ref c8, .ref c9, .ref c10, .ref c11, .int (iI ll), .int (iI ln)])), (o, .inl (cs 1, 1, .inr (.inl (al (up w 0 (-4000000000000000000))))))]) (AL L s.heap.size) s H _ := B
  refine lv_goto (tgt := 20) hx hb d_law_newton_13 (by decide) ?_
  refine x_iconst hx hb d_law_newton_20 ?_
  subst hQ hav
  exact x_iret hx hb hr hlocks B d_law_newton_21 (⟨rfl, by
    refine mw_drop ha ?_
    exact (List.nodup_cons.mp hF.1).1⟩)
