/-! what a method that throws ends with; the statics of Throwable; new, dup, ldc, invokespecial, athrow as one row; a call that throws and is caught -/
theorem face_at {args args' : Array Value} {s U : State} (hW : s.WarmedH U.vm) {c : Cond} (h1 : c.onTables = true) (h2 : c.keepsFace = true) (h : c.before args s = true) : c.before args' U = true := by
  have e := Cond.onTables_vm (A := args') (A' := args) (U := U) (U' := s) U.vm c h1
  rw [State.setVm_self] at e
  rw [e]
  exact Cond.before_shiftedFace (State.Shifted.of_warmed hW) c h2 h
def ThS1 (name desc : String) (U : State) : Prop := ∃ (c i aS : Nat) (k : Class) (fd : Field) (cS : Jvm.Cell) (v : Value), U.vm.findClass Bundle.tN = some c ∧ U.fieldFound? Bundle.tN name desc = some (c, k, i, fd) ∧ fd.isStatic = true ∧ k.statics = some aS ∧ U.heap[aS]? = some cS ∧ cS.vm.isStatics = true ∧ cS.slots[fd.slot]? = some v ∧ (v = .null ∨ ∃ x, v = .ref x) ∧ cS.cls = c ∧ k.staticTypes[fd.slot]? = some fd.type
def ThW : List Cond := [.declares ⟨"java/lang/RuntimeException", "<init>", "(Ljava/lang/String;)V"⟩, .declares ⟨"java/lang/Exception", "<init>", "(Ljava/lang/String;)V"⟩, .declares ⟨"java/lang/Throwable", "<init>", "(Ljava/lang/String;)V"⟩, .castable "java/lang/ArithmeticException" "java/lang/ArithmeticException"]
def ThR : Cond := .stringRef "RealRoots" 199 "the derivative is 0 there"
def ThS (U : State) : Prop := ThS1 "UNASSIGNED_STACK" Bundle.steD U ∧ ThS1 "SUPPRESSED_SENTINEL" Bundle.listD U ∧ (∀ w ∈ ThW, w.before #[] U = true) ∧ ThR.before #[] U = true
theorem ThS1.before {name desc : String} {U : State} (h : ThS1 name desc U) (args : Array Value) : (Cond.isRef (.static Bundle.tN name desc)).before args U = true := by
  obtain ⟨c, i, aS, k, fd, cS, v, h0, h1, h2, h3, h4, h5, h6, h7, h8, h9⟩ := h
  rcases h7 with rfl | ⟨x, rfl⟩ <;> simp [Cond.before, Cond.holds, Cond.value, Term.eval, State.fieldNamed?, h1, h2, h3, h4, h5, h6]
theorem ThS1.lays {name desc : String} {U : State} (h : ThS1 name desc U) (args : Array Value) : (Cond.laysStatic Bundle.tN name desc).before args U = true := by
  obtain ⟨c, i, aS, k, fd, cS, v, h0, h1, h2, h3, h4, h5, h6, h7, h8, h9⟩ := h
  have hlt : fd.slot < cS.slots.size := (Array.getElem?_eq_some_iff.mp h6).1
  simp [Cond.before, Cond.holds, Cond.value, h0, h1, h2, h3, h4, h5, h8, h9, hlt]
theorem ThS1.of {name desc : String} {U : State} {args : Array Value} (h : (Cond.isRef (.static Bundle.tN name desc)).before args U = true) (hl : (Cond.laysStatic Bundle.tN name desc).before args U = true) : ThS1 name desc U := by
  simp only [Cond.before, Cond.holds, Cond.value, Term.eval, State.fieldNamed?] at h hl
  cases h0 : U.vm.findClass Bundle.tN with
  | none => simp [h0] at hl
  | some c0 =>
  cases h1 : U.fieldFound? Bundle.tN name desc with
  | none => simp [h1] at h
  | some q =>
    obtain ⟨c, k, i, fd⟩ := q
    cases h2 : fd.isStatic with
    | false => simp [h1, h2] at h
    | true =>
      cases h3 : k.statics with
      | none => simp [h1, h2, h3] at h
      | some aS =>
        cases h4 : U.heap[aS]? with
        | none => simp [h1, h2, h3, h4] at h
        | some cS =>
          cases h5 : cS.vm.isStatics with
          | false => simp [h1, h2, h3, h4, h5] at h
          | true =>
            cases h6 : cS.slots[fd.slot]? with
            | none => simp [h1, h2, h3, h4, h5, h6] at h
            | some v =>
              simp [h0, h1, h2, h3, h4, h5] at hl
              obtain ⟨⟨⟨e1, e2⟩, -⟩, e3⟩ := hl
              subst e1
              refine ⟨c0, i, aS, k, fd, cS, v, h0, h1, h2, h3, h4, h5, h6, ?_, e2, e3⟩
              cases v with
              | null => exact Or.inl rfl
              | ref x => exact Or.inr ⟨x, rfl⟩
              | _ => simp [h1, h2, h3, h4, h5, h6] at h
theorem ThS1.keep {name desc : String} {s U : State} (h : ThS1 name desc s) (hal : s.vm.Alike U.vm) (hh : ∀ (a : Nat) (c : Jvm.Cell), s.heap[a]? = some c → c.vm.isStatics = true → U.heap[a]? = some c) : ThS1 name desc U := by
  obtain ⟨c, i, aS, k, fd, cS, v, h0, h1, h2, h3, h4, h5, h6, h7, h8, h9⟩ := h
  obtain ⟨k', h1', he⟩ := State.fieldFound?_setVm hal h1
  have h1'' : U.fieldFound? Bundle.tN name desc = some (c, k', i, fd) := h1'
  exact ⟨c, i, aS, k', fd, cS, v, by rw [hal.findClass]; exact h0, h1'', h2, by rw [he]; exact h3, hh _ _ h4 h5, h5, h6, h7, h8, by rw [he]; exact h9⟩
theorem ThS.keep {s U : State} (h : ThS s) (hW : s.WarmedH U.vm) (hh : ∀ (a : Nat) (c : Jvm.Cell), s.heap[a]? = some c → c.vm.isStatics = true → U.heap[a]? = some c) : ThS U :=
  ⟨h.1.keep hW.alike hh, h.2.1.keep hW.alike hh, fun w hw => by
    have h1 : w.onTables = true ∧ w.keepsFace = true := by
      simp only [ThW, List.mem_cons, List.not_mem_nil, or_false] at hw
      rcases hw with rfl | rfl | rfl | rfl <;> exact ⟨rfl, rfl⟩
    exact face_at hW h1.1 h1.2 (h.2.2.1 w hw), by
    have h2 := Cond.stringRef_warmed hW h.2.2.2
    exact h2⟩
theorem ThS.wb {A : Nat → Prop} {s U : State} {H : Heap} {locs : List Loc} (h : ThS s) (hA : ∀ (a : Nat) (c : Jvm.Cell), s.heap[a]? = some c → c.vm.isStatics = true → ¬ A a) (hS : va_S A s.heap H locs) (hU : U.heap = H) (hW : s.WarmedH U.vm) : ThS U :=
  h.keep hW (fun a c h1 h2 => by
    have hlt : a < s.heap.size := (Array.getElem?_eq_some_iff.mp h1).1
    rw [hU, hS.2.1 a hlt (hA a c h1 h2)]; exact h1)
theorem ThS.calling {U : State} (h : ThS U) (g : JFrame) (mk : MethodId) (a : Array Value) : ThS (U.calling g mk a) := h.keep (U := U.calling g mk a) (State.WarmedH.refl U) (fun _ _ h _ => h)
theorem pool_st {D : va_G} {cl : List vw_C} {L : List Nat} {f : Nat → va_E} {H : Heap} (hP : va_P D cl (va_pl L f) H) {a : Nat} {cS : Jvm.Cell} (ha : H[a]? = some cS) (hs : cS.vm.isStatics = true) : a ∉ L := by
  intro hL
  obtain ⟨j, hj⟩ := va_pl_get (X := []) (f := f) hL
  have hj : (va_pl L f)[j]? = some (a, f a) := hj
  have h := hP j _ hj
  cases hf : f a with
  | inl q =>
    have h2 : H[a]? = some (vp_cell q.1 q.2) := by simpa [va_at, hf] using h
    rw [ha] at h2
    cases h2
    obtain ⟨q1, n, q2⟩ := q
    rcases q2 with z | z | z | z | z <;> (revert hs; exact fun hs => by cases hs)
  | inr o =>
    have h2 : ∃ r : vw_C, cl[o.1]? = some r ∧ t_OB a (D.1 o.1) r.2.2 (D.2 o.1) H (vp_V o.2) := by simpa [va_at, hf] using h
    obtain ⟨r, -, cell, e1, -, e2, -⟩ := h2
    rw [ha] at e1
    cases e1
    rw [e2] at hs
    cases hs
theorem AL_st {D : va_G} {cl : List vw_C} {L : List Nat} {f : Nat → va_E} {s : State} (hP : va_P D cl (va_pl L f) s.heap) : ∀ (a : Nat) (c : Jvm.Cell), s.heap[a]? = some c → c.vm.isStatics = true → ¬ AL L s.heap.size a := by
  intro a c h1 h2 h3
  have hlt : a < s.heap.size := (Array.getElem?_eq_some_iff.mp h1).1
  rcases h3 with h | h
  · exact pool_st hP h1 h2 h
  · omega
theorem same_nil {s U : State} {k n : Nat} (h : s.sameButNew U [] k n) {a : Nat} (ha : a < s.heap.size) : U.heap[a]? = s.heap[a]? := by
  have hc : s.heap[a]? = some s.heap[a] := Array.getElem?_eq_getElem ha
  obtain ⟨c', h1, h2, -, h4⟩ := h.2.2.2.2.2 a _ hc
  have e : c'.slots = s.heap[a].slots := Array.ext_getElem? (fun i => h4 i (by simp))
  rw [h1, hc, h2, e]
def Thr (X : String) (s : State) (x : Nat) (t : State) : Prop := ∃ cell : Jvm.Cell, t.heap[x]? = some cell ∧ cell.vm.isStatics = false ∧ s.vm.findClass X = some cell.cls ∧ s.vm.assignable cell.cls cell.cls = true
def va_Qt {S : Type} (X : String) (post : S → Prop) (B : S → State → Prop) (A : Nat → Prop) : Array Value → State → Outcome → State → Prop := fun _ st oc t => (∃ (x : Nat) (u : S), oc = .threw x ∧ Thr X st x t ∧ post u ∧ B u t) ∧ va_F A st t
def EndThr (st : State) (oc : Outcome) (t : State) (locs : List Loc) (nc ns : Nat) : Prop := (∃ v, oc = .threw v) ∧ st.WarmedH t.vm ∧ st.sameButNew ({ t with vm := st.vm } : State) locs nc ns
def MQT (below : List Frame) (Qc : Array Value → State → Outcome → State → Prop) (a : Array Value) (s : State) (mc ms : Nat) (free : Addr → Prop) : State → Prop := fun t =>
  ∃ o, t.status = .running ∧ Ended t below o ∧ Qc a s o t ∧ ∃ L, EndThr s o t L mc ms ∧ ∀ q ∈ L, free q.base
def MetT (l : Launch) (y : MethodName) (ws : List Cond) (rm : Room) (Pc : Array Value → State → Prop) (Qc : Array Value → State → Outcome → State → Prop) (mc ms : Nat) (free : Addr → Prop) : Prop :=
  MetFree l y (headSpec ws rm) Pc (fun _ _ _ _ _ => True) (fun a st o t => Qc a st o t ∧ ∃ L, EndThr st o t L mc ms ∧ ∀ q ∈ L, free q.base)
theorem MetT.ofW {l : Launch} {y : MethodName} {ws ws' : List Cond} {rm : Room} {Pc : Array Value → State → Prop} {Qc : Array Value → State → Outcome → State → Prop} {mc ms : Nat} {free : Addr → Prop} {cc : ByteArray} {maxL : Nat} {ret : Option FieldType}
    (hy : plainName y.cls = true) (hw : ws = Cond.code y cc maxL ret :: ws')
    (body : ∀ p e s m args below meth c s₁, BodyLoose p l y (headSpec ws rm) cc maxL ret e s m args below meth c s₁ → c.maxLocals = maxL → c.exceptionTable.toList = [] → Pc args s →
      W p l e (headSpec ws rm).room s m args below meth c s.heap [] 0 0 (MQT below Qc args s mc ms free) (entryFrame m args maxL)) : MetT l y ws rm Pc Qc mc ms free := by
  refine MetFree.of_bodyS (code := cc) (maxLocals := maxL) (ret := ret) hy ?_ ?_
  · intro args s m h hn
    obtain ⟨meth, c, h1, h2, h3, h4, h5, h6, -, -⟩ := Cond.code_spec hn (atoms_spec (ws := ws) h _ (by rw [hw]; exact List.mem_cons_self))
    exact ⟨meth, c, h1, h2, h3, h4, h5, h6⟩
  · intro p e s m args below meth c s₁ B hml hP _
    have hh0 : s₁.heap = s.heap := by rw [B.state]; rfl
    have hcw : (Cond.code y cc maxL ret).before args s = true := atoms_spec (ws := ws) B.pre _ (by rw [hw]; exact List.mem_cons_self)
    obtain ⟨meth', c', g1, g2, -, -, -, -, g7, -⟩ := Cond.code_spec B.named hcw
    have X0 := Stand.of_body B
    have hexc : c.exceptionTable.toList = [] := by
      cases X0.method.symm.trans g1
      cases X0.code.symm.trans g2
      simpa using g7
    obtain ⟨t, a1, o, b1, b2, b3⟩ := body p e s m args below meth c s₁ B hml hexc hP s₁ hh0 X0
    exact ⟨t, o, a1, b1, b2, ⟨b3.1, b3.2⟩⟩
