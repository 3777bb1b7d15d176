theorem w_592 : (Cond.lays "java/lang/ArithmeticException" "java/lang/Throwable" "cause" "Ljava/lang/Throwable;") ∈ gw := gw_t3 112 rfl rfl
theorem w_593 : (Cond.lays "java/lang/Throwable" "java/lang/Throwable" "cause" "Ljava/lang/Throwable;") ∈ gw := gw_t3 113 rfl rfl
theorem w_594 : (Cond.lays "java/lang/ArithmeticException" "java/lang/Throwable" "stackTrace" "[Ljava/lang/StackTraceElement;") ∈ gw := gw_t3 114 rfl rfl
theorem w_595 : (Cond.lays "java/lang/Throwable" "java/lang/Throwable" "stackTrace" "[Ljava/lang/StackTraceElement;") ∈ gw := gw_t3 115 rfl rfl
theorem w_596 : (Cond.lays "java/lang/ArithmeticException" "java/lang/Throwable" "suppressedExceptions" "Ljava/util/List;") ∈ gw := gw_t3 116 rfl rfl
theorem w_597 : (Cond.lays "java/lang/Throwable" "java/lang/Throwable" "suppressedExceptions" "Ljava/util/List;") ∈ gw := gw_t3 117 rfl rfl
theorem w_598 : (Cond.lays "java/lang/ArithmeticException" "java/lang/Throwable" "detailMessage" "Ljava/lang/String;") ∈ gw := gw_t3 118 rfl rfl
theorem w_599 : (Cond.lays "java/lang/Throwable" "java/lang/Throwable" "detailMessage" "Ljava/lang/String;") ∈ gw := gw_t3 119 rfl rfl
theorem w_600 : (Cond.lays "java/lang/ArithmeticException" "java/lang/Throwable" "backtrace" "Ljava/lang/Object;") ∈ gw := gw_t3 120 rfl rfl
theorem w_601 : (Cond.lays "java/lang/Throwable" "java/lang/Throwable" "backtrace" "Ljava/lang/Object;") ∈ gw := gw_t3 121 rfl rfl
theorem w_603 : (Cond.superclass "java/lang/Throwable" "java/lang/Object") ∈ gw := gw_t3 123 rfl rfl
theorem w_614 : (Cond.codeSync ⟨"java/lang/Throwable", "fillInStackTrace", "()Ljava/lang/Throwable;"⟩ prog_16_method_18_code 1 (Option.some (Jvm.ClassFile.FieldType.object "java/lang/Throwable"))) ∈ gw := gw_t3 134 rfl rfl
theorem w_619 : (Cond.native ⟨"java/lang/Throwable", "fillInStackTrace", "(I)Ljava/lang/Throwable;"⟩) ∈ gw := gw_t3 139 rfl rfl
theorem own_words {av : Array Value} {s : State} (hts : ∀ w ∈ gw, w.before av s = true) (hT : ThS s) : ∀ a ∈ Bundle.ownAtoms "RealRoots" 201 "java/lang/ArithmeticException" ["java/lang/RuntimeException", "java/lang/Exception"], a.before av s = true := by
  have d1 : ∀ w, w ∈ ThW → w.onTables = true → w.keepsFace = true → w.before av s = true := fun w hw h1 h2 => face_at (State.WarmedH.refl s) h1 h2 (hT.2.2.1 w hw)
  have dR := d1 (.declares ⟨"java/lang/RuntimeException", "<init>", "(Ljava/lang/String;)V"⟩) (by simp [ThW]) rfl rfl
  have dE := d1 (.declares ⟨"java/lang/Exception", "<init>", "(Ljava/lang/String;)V"⟩) (by simp [ThW]) rfl rfl
  have dT := d1 (.declares ⟨"java/lang/Throwable", "<init>", "(Ljava/lang/String;)V"⟩) (by simp [ThW]) rfl rfl
  have dC := d1 (.castable "java/lang/ArithmeticException" "java/lang/ArithmeticException") (by simp [ThW]) rfl rfl
  have h1 := hT.1.before av
  have h2 := hT.2.1.before av
  have h3 := hT.1.lays av
  have h4 := hT.2.1.lays av
  exact List.forall_mem_cons.mpr ⟨hts _ w_11, List.forall_mem_cons.mpr ⟨hts _ w_603, List.forall_mem_cons.mpr ⟨hts _ w_612, List.forall_mem_cons.mpr ⟨hts _ w_614, List.forall_mem_cons.mpr ⟨hts _ w_617, List.forall_mem_cons.mpr ⟨hts _ w_619, List.forall_mem_cons.mpr ⟨hts _ w_604, List.forall_mem_cons.mpr ⟨hts _ w_605, List.forall_mem_cons.mpr ⟨hts _ w_21, List.forall_mem_cons.mpr ⟨hts _ w_22, List.forall_mem_cons.mpr ⟨hts _ w_606, List.forall_mem_cons.mpr ⟨hts _ w_611, List.forall_mem_cons.mpr ⟨hts _ w_615, List.forall_mem_cons.mpr ⟨hts _ w_635, List.forall_mem_cons.mpr ⟨hts _ w_593, List.forall_mem_cons.mpr ⟨hts _ w_636, List.forall_mem_cons.mpr ⟨hts _ w_595, List.forall_mem_cons.mpr ⟨hts _ w_637, List.forall_mem_cons.mpr ⟨hts _ w_597, List.forall_mem_cons.mpr ⟨hts _ w_607, List.forall_mem_cons.mpr ⟨h3, List.forall_mem_cons.mpr ⟨hts _ w_609, List.forall_mem_cons.mpr ⟨h4, List.forall_mem_cons.mpr ⟨hts _ w_599, List.forall_mem_cons.mpr ⟨hts _ w_631, List.forall_mem_cons.mpr ⟨hts _ w_632, List.forall_mem_cons.mpr ⟨hts _ w_634, List.forall_mem_cons.mpr ⟨hts _ w_599, List.forall_mem_cons.mpr ⟨hts _ w_622, List.forall_mem_cons.mpr ⟨hts _ w_623, List.forall_mem_cons.mpr ⟨hts _ w_624, List.forall_mem_cons.mpr ⟨hts _ w_625, List.forall_mem_cons.mpr ⟨dR, List.forall_mem_cons.mpr ⟨hts _ w_625, List.forall_mem_cons.mpr ⟨hts _ w_626, List.forall_mem_cons.mpr ⟨hts _ w_627, List.forall_mem_cons.mpr ⟨hts _ w_628, List.forall_mem_cons.mpr ⟨dE, List.forall_mem_cons.mpr ⟨hts _ w_628, List.forall_mem_cons.mpr ⟨hts _ w_629, List.forall_mem_cons.mpr ⟨hts _ w_630, List.forall_mem_cons.mpr ⟨hts _ w_631, List.forall_mem_cons.mpr ⟨dT, List.forall_mem_cons.mpr ⟨hts _ w_621, List.forall_mem_cons.mpr ⟨hts _ w_582, List.forall_mem_cons.mpr ⟨dC, List.forall_mem_cons.mpr ⟨hts _ w_590, List.forall_mem_cons.mpr ⟨hts _ w_591, List.forall_mem_cons.mpr ⟨hts _ w_592, List.forall_mem_cons.mpr ⟨hts _ w_594, List.forall_mem_cons.mpr ⟨hts _ w_596, List.forall_mem_cons.mpr ⟨hts _ w_598, List.forall_mem_cons.mpr ⟨h1, List.forall_mem_cons.mpr ⟨h2, List.forall_mem_cons.mpr ⟨hts _ w_602, List.forall_mem_cons.mpr ⟨hts _ w_601, List.forall_mem_cons.mpr ⟨hts _ w_600, fun _ h => (by cases h)⟩⟩⟩⟩⟩⟩⟩⟩⟩⟩⟩⟩⟩⟩⟩⟩⟩⟩⟩⟩⟩⟩⟩⟩⟩⟩⟩⟩⟩⟩⟩⟩⟩⟩⟩⟩⟩⟩⟩⟩⟩⟩⟩⟩⟩⟩⟩⟩⟩⟩⟩⟩⟩⟩⟩⟩⟩
theorem x_throw {p : Program} {l : Launch} {e : Env} {R : Room} {s : State} {m : MethodId} {args : Array Value} {below : List Frame} {meth : Method} {c : Code} {H : Heap} {locs : List Loc} {cells slots : Nat} {cc : ByteArray} {ls : Array Slot} {D : va_G} {cl : List vw_C} {tys : List (ClassId × FieldType)} {L : List Nat} {f : Nat → va_E} {post : (Nat → va_E) → Prop}
    (hx : p.tables.exec = Jvm.exec) (hb : c.code = cc) (hlocks : meth.locks = false) (htr : l.stackTraces = false) (hown : s.vm.findClass "RealRoots" = some m.cls) (hts : ∀ w ∈ gw, w.before args s = true) (hT0 : ThS s) (hSt : ∀ (a : Nat) (c : Jvm.Cell), s.heap[a]? = some c → c.vm.isStatics = true → ¬ AL L s.heap.size a) (hexc : c.exceptionTable.toList = []) (hls : ls.size = c.maxLocals)
    (B : Wb D cl tys L f (AL L s.heap.size) s H locs) (d98 : decode cc 98 = .ok (.new 197, 3)) (d101 : decode cc 101 = .ok (.dup, 1)) (d102 : decode cc 102 = .ok (.ldc 199, 2)) (d104 : decode cc 104 = .ok (.invokespecial 201, 3)) (d107 : decode cc 107 = .ok (.athrow, 1))
    (hRf : 5 < R.frames) (hRl : 100 ≤ R.locals) (hRc : cells + 1 ≤ R.cells) (hRs : slots + 6 ≤ R.slots) (hp : post f) :
    W p l e R s m args below meth c H locs cells slots (MQT below (va_Qt "java/lang/ArithmeticException" post (K1 D cl tys (AL L s.heap.size) L) (AL L s.heap.size)) args s (cells + 1) (slots + 6) (AL L s.heap.size)) (F0 m 98 ls []) := by
  intro T hT X
  have htr' : e.platform.stackTraces = false := by rw [X.admits.platform]; exact htr
  have hbook := X.book
  have hz1 := X.heapSize
  have hz2 := X.used
  have hroom : ({ s with heap := T.heap, slotsUsed := T.slotsUsed } : State).hasRoom e.platform { R with cells := R.cells - cells, slots := R.slots - slots } = true := by
    have h := X.room
    simp only [State.hasRoom, Bool.and_eq_true, decide_eq_true_eq] at h ⊢
    obtain ⟨⟨⟨⟨a1, a2⟩, a3⟩, a4⟩, a5⟩ := h
    refine ⟨⟨⟨⟨a1, a2⟩, ?_⟩, ?_⟩, hbook⟩
    · show T.heap.size + (R.cells - cells) ≤ _
      omega
    · show T.slotsUsed + (R.slots - slots) ≤ _
      omega
  have hsame0 : ({ s with heap := T.heap, slotsUsed := T.slotsUsed } : State).sameButNew (T.setVm s.vm) [] 0 0 := by
    refine ⟨X.same.1, Nat.le_refl _, Nat.le_refl _, ?_, ?_, fun a c h => ⟨c, h, rfl, rfl, fun _ _ => rfl⟩⟩
    · show T.slotsUsed = T.slotsUsed + ((T.heap.toList.drop T.heap.size).map (·.slots.size)).sum
      rw [List.drop_eq_nil_of_le (by simp)]
      simp
    · show ((T.heap.toList.drop T.heap.size).map (·.slots.size)).sum ≤ 0
      rw [List.drop_eq_nil_of_le (by simp)]
      simp
  have X' : Stand p l e { R with cells := R.cells - cells, slots := R.slots - slots } ({ s with heap := T.heap, slotsUsed := T.slotsUsed } : State) m args below meth c T [] 0 0 :=
    ⟨X.admits, X.cas, X.clock, X.frames, hroom, X.hears, X.method, X.code, X.here, X.tail, X.warmed, X.limits, X.bytes, hsame0⟩
  have hts' : ∀ w ∈ gw, w.before args ({ s with heap := T.heap, slotsUsed := T.slotsUsed } : State) = true := fun w hw =>
    word_at (s := s) (U := ({ s with heap := T.heap, slotsUsed := T.slotsUsed } : State)) (State.WarmedH.refl s) (good_of_word (List.mem_filter.mp hw).2) (hts w hw)
  have hT' : ThS ({ s with heap := T.heap, slotsUsed := T.slotsUsed } : State) := hT0.wb hSt B.2.2.2.1 hT (State.WarmedH.refl s)
  generalize hs' : ({ s with heap := T.heap, slotsUsed := T.slotsUsed } : State) = s' at X' hts' hT' hsame0
  have hvm' : s'.vm = s.vm := by rw [← hs']
  have hhp' : s'.heap = T.heap := by rw [← hs']
  have hown' : s'.vm.findClass "RealRoots" = some m.cls := by rw [hvm']; exact hown
  obtain ⟨vm₁, cX, kX, hfX, hkX, -, -, X₁, st1⟩ := X'.newCold hx (own := "RealRoots") (C := "java/lang/ArithmeticException") (index := 197) (n := 6) hown' (hts' _ w_581) (hts' _ w_582) (hts' _ w_14)
    (g := F0 m 98 ls []) rfl (by rw [hb]; exact d98) (by show 0 + 1 ≤ R.cells - cells; omega) (by show 0 + 6 ≤ R.slots - slots; omega)
  generalize hT1 : (T.setVm vm₁).pushCell { cls := cX, slots := kX.instanceTypes.map defaultValue, vm := .none } = T₁ at X₁ st1
  have hcellA : T₁.heap[T.heap.size]? = some (freshCell cX kX) := by rw [← hT1]; exact State.heap_pushCell_size _ _
  have hconst : (Cond.stringRef "RealRoots" 199 "the derivative is 0 there").before args s' = true := hT'.2.2.2
  obtain ⟨-, -, -, sa, -, -, -, -, -, hev⟩ := Cond.stringRef_spec hown' hconst
  obtain ⟨U, hsteps, hrun, hend, hW, hsame, ce, hce, K⟩ := X₁.ctorThrowS hx htr' (own := "RealRoots") (cls := "java/lang/ArithmeticException") (names := ["java/lang/RuntimeException", "java/lang/Exception"]) (ic := 201) hown' (by decide +kernel) (by decide +kernel)
    (own_words hts' hT') (fun y hy => by cases hy) hfX hkX hcellA (by rw [hhp']; exact Nat.le_refl _) (msg := .ref sa) rfl
    (g := F0 m 104 ls [.ref sa, .ref T.heap.size, .ref T.heap.size]) rfl hls rfl rfl (rest := []) rfl
    (by rw [hb]; exact d104) (by rw [hb]; exact d107) (by rw [hexc]; intro x hx; cases hx) (by show 2 + 3 < R.frames; exact hRf) (by show _ ≤ R.locals; simp [Value.category, JFrame.monitorRoom]; omega) hlocks
  have hold : ∀ q : Nat, q < T.heap.size → U.heap[q]? = T.heap[q]? := fun q hq => by
    have h := same_nil hsame (a := q) (by rw [hhp']; exact hq)
    rw [hhp'] at h
    exact h
  have hWs : s.WarmedH U.vm := by rw [← hs'] at hW; exact hW
  have hsz : T.heap.size ≤ U.heap.size := by
    have h := hsame.2.1
    rw [hhp'] at h
    exact h
  have hlen : ∀ q ∈ L, q < T.heap.size := fun q hq => by
    obtain ⟨j, hj⟩ := va_pl_get (X := []) (f := f) hq
    have h := (B.1 j _ hj).lt
    rw [hT]; exact h
  refine ⟨U, ?_, .threw T.heap.size, hrun, hend, ⟨⟨T.heap.size, f, rfl, ⟨ce, hce, by rw [K.vm]; rfl, ?_, ?_⟩, hp, ?_, va_K.moved hWs.alike B.2.1, B.2.2.1⟩, ?_, ?_⟩, locs, ⟨⟨_, rfl⟩, hWs, ?_⟩, B.2.2.2.1.2.2⟩
  · refine st1 _ ?_
    show Steps p.tables e below (T₁.setTop (F0 m 101 ls [.ref T.heap.size])) _
    jvm_step X₁.here [X₁.here.top, hx, hb, d101, Value.category]
    exact X₁.ldcString hx (own := "RealRoots") (text := "the derivative is 0 there") (index := 199) (a := sa) hown' hconst hev (g := F0 m 102 ls [.ref T.heap.size, .ref T.heap.size]) rfl (by rw [hb]; exact d102) _ hsteps
  · rw [← hvm']; exact K.cls
  · rw [← hvm']; exact K.self
  · intro k q hk
    have hq : q.1 ∈ L := pl_mem hk
    exact (B.1 k q hk).kept (by rw [hold q.1 (hlen _ hq), hT])
  · exact Nat.le_trans (by rw [hT]; exact B.2.2.2.1.1) hsz
  · intro q h1 h2
    rw [hold q (by rw [hT]; exact Nat.lt_of_lt_of_le h1 B.2.2.2.1.1), hT]
    exact B.2.2.2.1.2.1 q h1 h2
  · have h2 : (T.setVm s.vm).sameButNew ({ U with vm := s.vm } : State) [] 1 6 := by
      rw [← hs'] at hsame
      obtain ⟨e1, e2, e3, e4, e5, e6⟩ := hsame
      refine ⟨?_, e2, e3, e4, e5, e6⟩
      rw [X.same.1]
      refine e1.trans ?_
      show _ = ({ (s.setFrames (T.setVm s.vm).frames).setFrames U.frames with heap := U.heap, slotsUsed := U.slotsUsed } : State)
      rw [State.setFrames_setFrames]
      rfl
    have h3 := X.same.trans h2
    rw [List.append_nil] at h3
    exact h3
