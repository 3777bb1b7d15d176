/-! a call of a method that throws: where it leaves the caller, and the caller's own handler -/
theorem back_T {l : Launch} {R : Room} {p : Program} {e : Env} {below : List Frame} {s : State} {sargs : Array Value} {y : MethodName} {ws : List Cond} {rm : Room} {Pc : Array Value → State → Prop} {Qc : Array Value → State → Outcome → State → Prop} {mc ms : Nat} {free : Addr → Prop} {bytes : ByteArray} {maxL len : Nat} {ret : Option FieldType}
    {m mk : MethodId} {meth : Method} {c : Code} {T : State} {locs : List Loc} {cells slots : Nat} {g : JFrame} {ig : Instr} {av : Array Value}
    (hM : MetT l y ws rm Pc Qc mc ms free) (hblind : FrameBlind Pc) (hrc : rm.cells = mc) (hrs : rm.slots = ms)
    (hframes : rm.frames + 1 ≤ R.frames) (hlocals : 8 + (maxL + 11) + rm.locals ≤ R.locals)
    (hws : ∀ w ∈ ws, ∀ a' U, s.WarmedH U.vm → w.before a' U = true) (hcode : Cond.code y bytes maxL ret ∈ ws) (hinit : ∀ a' U, s.WarmedH U.vm → (Cond.initialized y.cls).before a' U = true)
    (X : Stand p l e R s m sargs below meth c T locs cells slots) (hg : g.method = m) (hsize : g.locals.size = c.maxLocals) (hdg : decode c.code g.pc = .ok (ig, len))
    (hW : 2 * g.monitorRoom + (g.stack.map fun v => v.category).sum ≤ 8) (hn : T.methodNamed? y = some mk) (hc : cells + mc ≤ R.cells) (hs : slots + ms ≤ R.slots) (hP : Pc av T) :
    ∃ (v : Addr) (t : State) (L : List Loc), Qc av (T.calling g mk av) (.threw v) t ∧ (∀ q ∈ L, free q.base) ∧
      Stand p l e R s m sargs below meth c (({ T with heap := t.heap, slotsUsed := t.slotsUsed } : State).setVm t.vm) (locs ++ L) (cells + mc) (slots + ms) ∧
      Steps p.tables e below (doInvoke e (T.setTop g) [] mk av).1 (((({ T with heap := t.heap, slotsUsed := t.slotsUsed } : State).setVm t.vm).setTop g).pushFrame (.throwing v)) := by
  have here : At T g.method c below := by rw [hg]; exact X.here
  obtain ⟨mY, cY, e1, e2, -, e3, -⟩ := Cond.code_spec hn (hws _ hcode av T X.warmed)
  obtain ⟨kY, e4, -⟩ := className_of_methodNamed hn
  have e5 : kY.init = .initialized := Cond.initialized_spec (findClass_of_methodNamed hn) e4 (hinit av T X.warmed)
  have room := X.room_calling (g := g) (args' := av) (R' := rm) hsize e1 e2 hframes (by rw [e3]; omega) (by rw [hrc]; exact hc) (by rw [hrs]; exact hs)
  have app : (headSpec ws rm).appliesLoose y e.platform (T.calling g mk av) = true := Spec.appliesLoose_calling (g := g) here hdg hn e4 e5 room (atoms_intro fun w hw => hws w hw _ _ X.warmed)
  obtain ⟨mid, hmid⟩ := here.above
  have top := State.frames_setTop' g here.top
  obtain ⟨o, t, st, -, hend, hq, L, ⟨⟨v, rfl⟩, hwarm, same⟩, hL⟩ := Steps.callFree hM p X.admits X.cas X.clock (acts := []) (show (T.setTop g).frames = (.java g :: mid) ++ below by rw [top, hmid]; rfl) app (hblind _ _ _ _ hP) trivial
  have hwarm' : T.WarmedH t.vm := hwarm
  obtain ⟨g0, hg0⟩ := Option.isSome_iff_exists.mp here.top
  obtain ⟨r, hr⟩ := State.topJava?_eq_some.mp hg0
  have tops : t.frames = .throwing v :: .java g :: r := by
    have h : t.frames = .throwing v :: (T.setTop g).frames := hend
    rw [top, hr] at h
    exact h
  obtain ⟨same1, same2⟩ := same
  have whole : t = ((({ T with heap := t.heap, slotsUsed := t.slotsUsed } : State).setVm t.vm).setTop g).pushFrame (.throwing v) := by
    have hr' : (({ T with heap := t.heap, slotsUsed := t.slotsUsed } : State).setVm t.vm).frames = .java g0 :: r := hr
    have h1 : t = ({ t with vm := (T.calling g mk av).vm } : State).setVm t.vm := rfl
    have h2 : ({ t with vm := (T.calling g mk av).vm } : State) = { (T.calling g mk av).setFrames t.frames with heap := t.heap, slotsUsed := t.slotsUsed } := same1
    rw [h2] at h1
    refine h1.trans ?_
    show (({ (T.calling g mk av).setFrames t.frames with heap := t.heap, slotsUsed := t.slotsUsed } : State)).setVm t.vm = _
    rw [tops, State.calling_eq here.top, State.setFrames_setFrames, State.pushFrame, State.frames_setTop _ hr', State.setTop_of_frames _ hr', State.setFrames_setFrames]
    rfl
  have kept : T.sameButNew ({ T with heap := t.heap, slotsUsed := t.slotsUsed } : State) L mc ms := by
    refine ⟨?_, same2⟩
    obtain ⟨u, hu, -⟩ := State.frames_cons hr
    show ({ T with heap := t.heap, slotsUsed := t.slotsUsed } : State) = { T.setFrames T.frames with heap := t.heap, slotsUsed := t.slotsUsed }
    rw [State.setFrames_self hu]
  refine ⟨v, t, L, hq, hL, ⟨X.admits, X.cas, X.clock, X.frames, X.room, X.hears, X.method, X.code, (X.here.setHeapUsed t.heap t.slotsUsed).setVm hwarm'.alike, X.tail, State.WarmedH.trans X.warmed hwarm', X.limits, X.bytes, X.same.trans (kept.setVm s.vm)⟩, ?_⟩
  rw [← whole]
  exact st
theorem x_handler {l : Launch} {R : Room} {p : Program} {e : Env} {below : List Frame} {s : State} {args : Array Value} {m : MethodId} {meth : Method} {c : Code} {T : State} {locs : List Loc} {cells slots : Nat} {g : JFrame} {own X0 : String} {xe : ExceptionTableEntry} {cell : Jvm.Cell} {v : Addr}
    (X : Stand p l e R s m args below meth c T locs cells slots) (hg : g.method = m) (ho : s.vm.findClass own = some m.cls) (hone : c.exceptionTable.toList = [xe]) (hcov : covers xe g.pc = true) (h0 : xe.catchType ≠ 0)
    (hclk : (Cond.classLink own xe.catchType X0).before args s = true) (hX0 : s.vm.findClass X0 = some cell.cls) (hat : T.heap[v]? = some cell) (hst : cell.vm.isStatics = false) (has : s.vm.assignable cell.cls cell.cls = true) :
    ∃ vm', Stand p l e R s m args below meth c (T.setVm vm') locs cells slots ∧ ∀ t, Steps p.tables e below ((T.setVm vm').setTop { g with pc := xe.handlerPc, stack := [.ref v] }) t → Steps p.tables e below ((T.setTop g).pushFrame (.throwing v)) t := by
  subst hg
  obtain ⟨c', h1, lk⟩ := Cond.classLink_spec ho hclk e.platform (by rw [X.admits.platform])
  cases hX0.symm.trans h1
  obtain ⟨dk, _, _, kt, hd, _, _, _, _, hkt, _, hopen⟩ := lk.here
  have lkT := X.warmed.classLinks lk
  obtain ⟨kt1, hkt1, -⟩ := X.warmed.alike.2.2 _ _ hkt
  have note : T.vm.Alike (T.vm.noted g.method.cls xe.catchType (.cls cell.cls)) := (Vm.Alike.refl T.vm).noted _ _ _
  obtain ⟨kt2, hkt2, -⟩ := note.2.2 _ _ hkt1
  have hfit : (T.vm.noted g.method.cls xe.catchType (.cls cell.cls)).assignable cell.cls cell.cls = true := by rw [note.assignable, X.warmed.alike.assignable]; exact has
  obtain ⟨ra, rt⟩ := (resolveClass_links e.toSetting lkT).op (op := VmOp.resolveClass g.method.cls xe.catchType) rfl
  have hne := VmData.ne_statics_of hst
  have hcov' := hcov
  simp only [covers] at hcov'
  obtain ⟨g0, hg0⟩ := Option.isSome_iff_exists.mp X.here.top
  obtain ⟨r, hr⟩ := State.topJava?_eq_some.mp hg0
  obtain ⟨go1, go2⟩ := X.here.throwing v
  have find : ∀ (Q : Handler → Pre) (E : CtlPost) (d : Bool) (acts : List Action), wp (findHandler g v) Q E e d acts ((T.setTop g).pushFrame (.throwing v)) ↔ Q (.found xe.handlerPc) d acts (((T.setTop g).pushFrame (.throwing v)).setVm (T.vm.noted g.method.cls xe.catchType (.cls cell.cls))) := by
    intro Q E d acts
    rw [Jvm.W.findHandler_eq (s := (T.setTop g).pushFrame (.throwing v)) (f := g) (meth := meth) (code := c) (by rw [Stand.throwing_vm]; exact X.method') X.code, hone]
    simp [findHandler.go, hcov', h0, ra, rt, hat, hne, hkt2, hfit, VmOp.dirties, VmOp.acts, Stand.throwing_vm, Stand.throwing_heap]
  refine ⟨_, X.noted (X.warmed.noted hd hopen (State.rightAt_cls lk)), fun t ht => Steps.head go1 go2 ?_⟩
  rw [stepThread_throwing (frames_entered X.here.top _)]
  have res : (stepThrowing e ((T.setTop g).pushFrame (.throwing v)) v (.java g :: T.frames.tail)).Is ((((T.setTop g).pushFrame (.throwing v)).setVm (T.vm.noted g.method.cls xe.catchType (.cls cell.cls))).setFrames (.java { g with pc := xe.handlerPc, stack := [.ref v] } :: T.frames.tail)) [] := by
    simp only [stepThrowing, searchFrame, vmDo]
    generalize hgo : Sem.go _ e false [] _ = res
    obtain ⟨as, rfl, ha⟩ := Sem.eq_ok_of hgo (a := Handler.found xe.handlerPc) (s' := ((T.setTop g).pushFrame (.throwing v)).setVm (T.vm.noted g.method.cls xe.catchType (.cls cell.cls))) (acts' := []) (by simp [find])
    exact ⟨rfl, ha⟩
  rw [res.1]
  have hr' : (T.setVm (T.vm.noted g.method.cls xe.catchType (.cls cell.cls))).frames = .java g0 :: r := hr
  have same : (((T.setTop g).pushFrame (.throwing v)).setVm (T.vm.noted g.method.cls xe.catchType (.cls cell.cls))).setFrames (.java { g with pc := xe.handlerPc, stack := [.ref v] } :: T.frames.tail) = (T.setVm (T.vm.noted g.method.cls xe.catchType (.cls cell.cls))).setTop { g with pc := xe.handlerPc, stack := [.ref v] } := by
    rw [State.setTop_of_frames _ hr', hr, List.tail_cons, State.pushFrame, State.setTop_of_frames _ hr]
    show ((((T.setVm (T.vm.noted g.method.cls xe.catchType (.cls cell.cls))).setFrames (.java g :: r)).setFrames _).setFrames _) = _
    rw [State.setFrames_setFrames, State.setFrames_setFrames]
  rw [same]
  exact ht
theorem x_catch {p : Program} {l : Launch} {e : Env} {R : Room} {s : State} {m : MethodId} {args : Array Value} {below : List Frame} {meth : Method} {c : Code} {H : Heap} {locs : List Loc} {cells slots : Nat} {Q : State → Prop} {cc : ByteArray} {pc nL : Nat} {ls : Array Slot} {D : va_G} {cl : List vw_C} {tys : List (ClassId × FieldType)} {L : List Nat} {f : Nat → va_E} {A : Nat → Prop} {post : (Nat → va_E) → Prop}
    {y : MethodName} {bytes : ByteArray} {maxL mc ms n index : Nat} {ret : Option FieldType} {ws : List Cond} {rm : Room} {Pc : Array Value → State → Prop} {Ts : List Cond} {own C X0 : String} {b : Addr} {As rest : List Value}
    (S : CallFix p m c cc nL s args Ts own) (B : Wb D cl tys L f A s H locs) (hA : ∀ q, s.heap.size ≤ q → A q)
    (hM : MetT l y ws rm Pc (va_Qt X0 post (K1 D cl tys (AL L H.size) L) (AL L H.size)) mc ms (AL L H.size)) (cw : CallW R s args own C index y bytes maxL ret ws rm mc ms n) (hp : PreV s H C b Pc As)
    (hn : As.length = n) (hsize : ls.size = nL) (hW : 2 * (F0 m pc ls rest).monitorRoom + (rest.map fun v => v.category).sum ≤ 8) (hdg : decode cc pc = .ok (.invokevirtual index, 3)) (hf : cells + mc ≤ R.cells ∧ slots + ms ≤ R.slots)
    (xe : ExceptionTableEntry) (hsplit : c.exceptionTable.toList = [xe]) (hcov : covers xe pc = true) (h0 : xe.catchType ≠ 0) (hclk : (Cond.classLink own xe.catchType X0).before args s = true)
    (kk : ∀ (v : Nat) (g : Nat → va_E) (H : Heap) (locs : List Loc), post g → Wb D cl tys L g A s H locs → W p l e R s m args below meth c H locs (cells + mc) (slots + ms) Q (F0 m xe.handlerPc ls [.ref v])) :
    W p l e R s m args below meth c H locs cells slots Q (F0 m pc ls (As.reverse ++ .ref b :: rest)) := by
  have hALA := B.AL hA
  obtain ⟨hrc, hrs, hfr, hlo, hws, hcw, -, hini0, -⟩ := id cw.1
  have hini1 : ∀ a' (U : State), s.WarmedH U.vm → (Cond.initialized y.cls).before a' U = true := fun a' U hW => word_at hW (Or.inl (by first | rfl | simp [Cond.onTables, Cond.keeps, Cond.steady])) hini0
  have hpb := hp.1
  obtain ⟨⟨-, -, -, -, -, -, hcode, -, hy, hlen, hl⟩, hin, hse⟩ := cw
  obtain ⟨hx, hb, hml, ho, -⟩ := S
  obtain ⟨-, ⟨cellB, hcB, hoB, hclB⟩, hPc⟩ := hp
  intro T hT X
  obtain ⟨mk, methM, hnamed, hmethM, hstM, habM⟩ := Cond.instanceMethod_spec hin
  obtain ⟨methM', cM, hmethM', -, -, -, -, -, -, hsigM⟩ := Cond.code_spec hnamed hcode
  cases hmethM.symm.trans hmethM'
  obtain ⟨c2, r2, m2, q1, q2, q3, q4, kP, hkP, hkPi⟩ := Cond.selects_spec hse
  cases hclB.symm.trans q1
  cases (State.methodFound?_of_named hnamed hy).symm.trans q2
  cases hnamed.symm.trans q3
  have hselP : selectMethod e.platform s.vm cellB.cls mk = .method mk := by rw [Launch.admits_selectMethod X.admits]; exact q4
  obtain ⟨vm₁, X₁, hstep₁⟩ := X.invokevirtual hx ho hl hnamed hmethM hstM hkP hkPi hy (a := b) (cell := cellB) (by rw [hT]; exact hcB)
    (fun z h => by rw [h] at hoB; cases hoB) hselP hmethM habM hkP hkPi (g := F0 m pc ls (As.reverse ++ .ref b :: rest)) rfl (argsL := As) (rest := rest) (hn.trans (hlen _ hsigM)) rfl (by rw [hb]; exact hdg)
  obtain ⟨v, t, L', hq, hL, X', hsteps⟩ := back_T (bytes := bytes) (maxL := maxL) (ret := ret) (av := (Value.ref b :: As).toArray) hM hpb hrc hrs hfr hlo hws hcw hini1 X₁ (g := F0 m pc ls rest) rfl (hsize.trans hml.symm) (by rw [hb]; exact hdg) hW (X₁.named hnamed) hf.1 hf.2 (hPc (T.setVm vm₁) hT X₁.warmed)
  obtain ⟨⟨x', u, hv, ⟨cell, hc1, hc2, hc3, hc4⟩, hpu, hP1, hK1, hD1⟩, hz, hk⟩ := hq
  cases hv
  have hal := X₁.warmed.alike
  have hc3' : s.vm.findClass X0 = some cell.cls := by rw [← hal.findClass]; exact hc3
  have hc4' : s.vm.assignable cell.cls cell.cls = true := by rw [← hal.assignable]; exact hc4
  have hz' : H.size ≤ t.heap.size := by rw [← hT]; exact hz
  have hk' : ∀ q : Nat, q < H.size → ¬ AL L H.size q → t.heap[q]? = H[q]? := by rw [← hT]; rw [← hT] at hk; exact hk
  obtain ⟨vm', XV, st⟩ := x_handler X' (g := F0 m pc ls rest) rfl ho hsplit hcov h0 hclk hc3' (v := v) (cell := cell) hc1 hc2 hc4'
  have hS := B.2.2.2.1
  obtain ⟨t2, a1, b1⟩ := kk v u t.heap (locs ++ L') hpu ⟨hP1, B.2.1, hD1.weaken (fun _ _ _ h => hALA _ h), ⟨Nat.le_trans hS.1 hz', fun q h1 h2 => by rw [hk' q (Nat.lt_of_lt_of_le h1 hS.1) (fun z => h2 (hALA q z))]; exact hS.2.1 q h1 h2, fun q hq => by
      rcases List.mem_append.mp hq with h | h
      · exact hS.2.2 q h
      · exact hALA _ (hL q h)⟩, B.2.2.2.2⟩ ((({ (T.setVm vm₁) with heap := t.heap, slotsUsed := t.slotsUsed } : State).setVm t.vm).setVm vm') rfl XV
  exact ⟨t2, hstep₁ _ fun acts => by rw [doInvoke_state]; exact hsteps.trans (st _ a1), b1⟩
