/-! contracts over one pool of cells: starts, ends, calls, new cells (written by wip/whole/mkcalls.py) -/
def AL (L : List Nat) (sz : Nat) : Nat → Prop := fun q => q ∈ L ∨ sz ≤ q
def K0 (D : va_G) (cl : List vw_C) (tys : List (ClassId × FieldType)) (L : List Nat) (f : Nat → va_E) (sz : Nat) (U : State) : Prop := U.heap.size = sz ∧ va_P D cl (va_pl L f) U.heap ∧ va_K D cl tys U ∧ va_D (fun _ => True) (va_pl L f) ∧ Xw U
def K1 (D : va_G) (cl : List vw_C) (tys : List (ClassId × FieldType)) (A : Nat → Prop) (L : List Nat) (f : Nat → va_E) (U : State) : Prop := va_P D cl (va_pl L f) U.heap ∧ va_K D cl tys U ∧ va_D A (va_pl L f)
def K2 (D : va_G) (cl : List vw_C) (tys : List (ClassId × FieldType)) (A : Nat → Prop) (u : List Nat × (Nat → va_E)) (U : State) : Prop := va_P D cl (va_pl u.1 u.2) U.heap ∧ va_K D cl tys U ∧ va_D A (va_pl u.1 u.2)
theorem pl_mem {L : List Nat} {f : Nat → va_E} {k : Nat} {q : Nat × va_E} (h : (va_pl L f)[k]? = some q) : q.1 ∈ L := by
  obtain ⟨a, ha, e⟩ := List.mem_map.mp (List.mem_of_getElem? h)
  rw [← e]
  exact ha
theorem K0.start {D : va_G} {cl : List vw_C} {tys : List (ClassId × FieldType)} {L : List Nat} {f : Nat → va_E} {sz : Nat} {s : State} (h : K0 D cl tys L f sz s) : s.heap.size = sz ∧ Wb D cl tys L f (AL L sz) s s.heap [] :=
  ⟨h.1, h.2.1, h.2.2.1, h.2.2.2.1.weaken (fun _ _ hk _ => Or.inl (pl_mem hk)), va_S.rf, h.2.2.2.2⟩
theorem K0.blind {D : va_G} {cl : List vw_C} {tys : List (ClassId × FieldType)} {L : List Nat} {f : Nat → va_E} {sz : Nat} {av : List Value} : FrameBlind (va_Pc av (K0 D cl tys L f sz)) := by
  intro a U g mk q
  obtain ⟨q0, q1, qP, qK, qD, qX⟩ := q
  exact ⟨q0, q1, qP, va_K.moved (u := U) (U := U.calling g mk a) (Vm.Alike.refl U.vm) qK, qD, qX.calling g mk a⟩
theorem Wb.pre {D : va_G} {cl : List vw_C} {tys : List (ClassId × FieldType)} {L : List Nat} {f : Nat → va_E} {A : Nat → Prop} {s : State} {H : Heap} {locs : List Loc} (B : Wb D cl tys L f A s H locs) (av : List Value) : ∀ U : State, U.heap = H → s.WarmedH U.vm → va_Pc av (K0 D cl tys L f H.size) av.toArray U := fun U hU hW =>
  ⟨rfl, by rw [hU], by rw [hU]; exact B.1, va_K.moved hW.alike B.2.1, B.2.2.1.weaken (fun _ _ _ _ => trivial), B.2.2.2.2.warm hW⟩
theorem Wb.recv {D : va_G} {cl : List vw_C} {tys : List (ClassId × FieldType)} {L : List Nat} {f : Nat → va_E} {A : Nat → Prop} {s : State} {H : Heap} {locs : List Loc} (B : Wb D cl tys L f A s H locs) {b ci : Nat} {q : vw_C} {fs : List Value} (hb : b ∈ L) (hv : f b = .inr (ci, fs)) (hc : cl[ci]? = some q) : ∃ cell : Cell, H[b]? = some cell ∧ cell.vm.isStatics = false ∧ s.vm.findClass q.1 = some cell.cls := by
  obtain ⟨j, hj⟩ := va_pl_get (X := []) (f := f) hb
  have hj : (va_pl L f)[j]? = some (b, f b) := hj
  rw [hv] at hj
  exact va_recv B.2.1 B.1 hc hj
theorem Wb.AL {D : va_G} {cl : List vw_C} {tys : List (ClassId × FieldType)} {L : List Nat} {f : Nat → va_E} {A : Nat → Prop} {s : State} {H : Heap} {locs : List Loc} (B : Wb D cl tys L f A s H locs) (hA : ∀ q, s.heap.size ≤ q → A q) : ∀ q, AL L H.size q → A q := by
  intro q h
  rcases h with h | h
  · obtain ⟨j, hj⟩ := va_pl_get (X := []) (f := f) h
    exact B.2.2.1.2 j _ hj
  · exact hA q (Nat.le_trans B.2.2.2.1.1 h)
theorem Fc.push {L ks : List Nat} {q : Nat} (h : Fc L ks) (hq : q ∉ L) : Fc (L ++ [q]) (q :: ks) := by
  refine ⟨List.nodup_cons.mpr ⟨fun z => hq (h.2 q z), h.1⟩, fun x hx => ?_⟩
  rcases List.mem_cons.mp hx with h1 | h1
  · rw [h1]; exact List.mem_append_right _ (List.mem_singleton.mpr rfl)
  · exact List.mem_append_left _ (h.2 x h1)
section XC
variable {p : Program} {l : Launch} {e : Env} {R : Room} {s : State} {m : MethodId} {args : Array Value} {below : List Frame} {meth : Method} {c : Code} {H : Heap} {locs : List Loc} {cells slots : Nat} {Q : State → Prop}
variable {cc : ByteArray} {pc : Nat} {ls : Array Slot} {rest st0 : List Value}
variable {D : va_G} {cl : List vw_C} {tys : List (ClassId × FieldType)} {L : List Nat} {f : Nat → va_E} {X : List (Nat × va_E)} {A : Nat → Prop} {a : Array Value} {mc ms : Nat}
theorem x_calli {post : Int32 → (Nat → va_E) → Prop} (B : Wb D cl tys L f A s H locs) (hA : ∀ q, s.heap.size ≤ q → A q) (hr : va_Run p l e R s m args below meth c H locs cells slots mc ms (F0 m pc ls st0) rest (va_Qi post (K1 D cl tys (AL L H.size) L) (AL L H.size) a) (AL L H.size))
    (kk : ∀ (r : Int32) (g : (Nat → va_E)) (H : Heap) (locs : List Loc), post r g → Wb D cl tys L g A s H locs → W p l e R s m args below meth c H locs (cells + mc) (slots + ms) Q (F0 m (pc + 3) ls (.int r :: rest))) : W p l e R s m args below meth c H locs cells slots Q (F0 m pc ls st0) := by
  refine va_calli hr B.2.2.2.1 (fun q _ h => B.AL hA q h) (B.AL hA) (fun r u t H1 locs1 ht hvm hw hB hz hk hS => ?_)
  obtain ⟨hP1, hK1, hD1⟩ := hB
  rw [ht] at hP1
  exact kk r u H1 locs1 hw ⟨hP1, B.2.1, hD1.weaken (fun _ _ _ h => B.AL hA _ h), hS, B.2.2.2.2⟩
theorem x_calliG {post : Int32 → (List Nat × (Nat → va_E)) → Prop} (B : Wb D cl tys L f A s H locs) (hA : ∀ q, s.heap.size ≤ q → A q) (hr : va_Run p l e R s m args below meth c H locs cells slots mc ms (F0 m pc ls st0) rest (va_Qi post (K2 D cl tys (AL L H.size)) (AL L H.size) a) (AL L H.size))
    (kk : ∀ (r : Int32) (u : (List Nat × (Nat → va_E))) (H : Heap) (locs : List Loc), post r u → Wb D cl tys u.1 u.2 A s H locs → W p l e R s m args below meth c H locs (cells + mc) (slots + ms) Q (F0 m (pc + 3) ls (.int r :: rest))) : W p l e R s m args below meth c H locs cells slots Q (F0 m pc ls st0) := by
  refine va_calli hr B.2.2.2.1 (fun q _ h => B.AL hA q h) (B.AL hA) (fun r u t H1 locs1 ht hvm hw hB hz hk hS => ?_)
  obtain ⟨hP1, hK1, hD1⟩ := hB
  rw [ht] at hP1
  exact kk r u H1 locs1 hw ⟨hP1, B.2.1, hD1.weaken (fun _ _ _ h => B.AL hA _ h), hS, B.2.2.2.2⟩
theorem x_calll {post : Int64 → (Nat → va_E) → Prop} (B : Wb D cl tys L f A s H locs) (hA : ∀ q, s.heap.size ≤ q → A q) (hr : va_Run p l e R s m args below meth c H locs cells slots mc ms (F0 m pc ls st0) rest (va_Ql post (K1 D cl tys (AL L H.size) L) (AL L H.size) a) (AL L H.size))
    (kk : ∀ (r : Int64) (g : (Nat → va_E)) (H : Heap) (locs : List Loc), post r g → Wb D cl tys L g A s H locs → W p l e R s m args below meth c H locs (cells + mc) (slots + ms) Q (F0 m (pc + 3) ls (.long r :: rest))) : W p l e R s m args below meth c H locs cells slots Q (F0 m pc ls st0) := by
  refine va_calll hr B.2.2.2.1 (fun q _ h => B.AL hA q h) (B.AL hA) (fun r u t H1 locs1 ht hvm hw hB hz hk hS => ?_)
  obtain ⟨hP1, hK1, hD1⟩ := hB
  rw [ht] at hP1
  exact kk r u H1 locs1 hw ⟨hP1, B.2.1, hD1.weaken (fun _ _ _ h => B.AL hA _ h), hS, B.2.2.2.2⟩
theorem x_calllG {post : Int64 → (List Nat × (Nat → va_E)) → Prop} (B : Wb D cl tys L f A s H locs) (hA : ∀ q, s.heap.size ≤ q → A q) (hr : va_Run p l e R s m args below meth c H locs cells slots mc ms (F0 m pc ls st0) rest (va_Ql post (K2 D cl tys (AL L H.size)) (AL L H.size) a) (AL L H.size))
    (kk : ∀ (r : Int64) (u : (List Nat × (Nat → va_E))) (H : Heap) (locs : List Loc), post r u → Wb D cl tys u.1 u.2 A s H locs → W p l e R s m args below meth c H locs (cells + mc) (slots + ms) Q (F0 m (pc + 3) ls (.long r :: rest))) : W p l e R s m args below meth c H locs cells slots Q (F0 m pc ls st0) := by
  refine va_calll hr B.2.2.2.1 (fun q _ h => B.AL hA q h) (B.AL hA) (fun r u t H1 locs1 ht hvm hw hB hz hk hS => ?_)
  obtain ⟨hP1, hK1, hD1⟩ := hB
  rw [ht] at hP1
  exact kk r u H1 locs1 hw ⟨hP1, B.2.1, hD1.weaken (fun _ _ _ h => B.AL hA _ h), hS, B.2.2.2.2⟩
theorem x_callv {post : (Nat → va_E) → Prop} (B : Wb D cl tys L f A s H locs) (hA : ∀ q, s.heap.size ≤ q → A q) (hr : va_Run p l e R s m args below meth c H locs cells slots mc ms (F0 m pc ls st0) rest (va_Qv post (K1 D cl tys (AL L H.size) L) (AL L H.size) a) (AL L H.size))
    (kk : ∀ (g : (Nat → va_E)) (H : Heap) (locs : List Loc), post g → Wb D cl tys L g A s H locs → W p l e R s m args below meth c H locs (cells + mc) (slots + ms) Q (F0 m (pc + 3) ls (rest))) : W p l e R s m args below meth c H locs cells slots Q (F0 m pc ls st0) := by
  refine va_callv hr B.2.2.2.1 (fun q _ h => B.AL hA q h) (B.AL hA) (fun u t H1 locs1 ht hvm hw hB hz hk hS => ?_)
  obtain ⟨hP1, hK1, hD1⟩ := hB
  rw [ht] at hP1
  exact kk u H1 locs1 hw ⟨hP1, B.2.1, hD1.weaken (fun _ _ _ h => B.AL hA _ h), hS, B.2.2.2.2⟩
theorem x_callvG {post : (List Nat × (Nat → va_E)) → Prop} (B : Wb D cl tys L f A s H locs) (hA : ∀ q, s.heap.size ≤ q → A q) (hr : va_Run p l e R s m args below meth c H locs cells slots mc ms (F0 m pc ls st0) rest (va_Qv post (K2 D cl tys (AL L H.size)) (AL L H.size) a) (AL L H.size))
    (kk : ∀ (u : (List Nat × (Nat → va_E))) (H : Heap) (locs : List Loc), post u → Wb D cl tys u.1 u.2 A s H locs → W p l e R s m args below meth c H locs (cells + mc) (slots + ms) Q (F0 m (pc + 3) ls (rest))) : W p l e R s m args below meth c H locs cells slots Q (F0 m pc ls st0) := by
  refine va_callv hr B.2.2.2.1 (fun q _ h => B.AL hA q h) (B.AL hA) (fun u t H1 locs1 ht hvm hw hB hz hk hS => ?_)
  obtain ⟨hP1, hK1, hD1⟩ := hB
  rw [ht] at hP1
  exact kk u H1 locs1 hw ⟨hP1, B.2.1, hD1.weaken (fun _ _ _ h => B.AL hA _ h), hS, B.2.2.2.2⟩
theorem x_iret {post : Int32 → (Nat → va_E) → Prop} {v : Int32} (hx : p.tables.exec = Jvm.exec) (hb : c.code = cc) (hr : meth.sig.returnType = some .int) (hlocks : meth.locks = false) (B : Wb D cl tys L f (AL L s.heap.size) s H locs) (hd : decode cc pc = .ok (.ireturn, 1)) (hp : post v f) :
    W p l e R s m args below meth c H locs cells slots (MQ below (va_Qi post (K1 D cl tys (AL L s.heap.size) L) (AL L s.heap.size)) args s cells slots (AL L s.heap.size)) (F0 m pc ls [.int v]) :=
  W.iret hx hb hr (fun t ht hW => ⟨⟨v, f, rfl, hp, by rw [ht]; exact B.1, va_K.moved hW.alike B.2.1, B.2.2.1⟩, B.2.2.2.1.F ht⟩) B.2.2.2.1.2.2 hd hlocks
theorem x_iretG {post : Int32 → (List Nat × (Nat → va_E)) → Prop} {v : Int32} {L2 : List Nat} (hx : p.tables.exec = Jvm.exec) (hb : c.code = cc) (hr : meth.sig.returnType = some .int) (hlocks : meth.locks = false) (B : Wb D cl tys L2 f (AL L s.heap.size) s H locs) (hd : decode cc pc = .ok (.ireturn, 1)) (hp : post v (L2, f)) :
    W p l e R s m args below meth c H locs cells slots (MQ below (va_Qi post (K2 D cl tys (AL L s.heap.size)) (AL L s.heap.size)) args s cells slots (AL L s.heap.size)) (F0 m pc ls [.int v]) :=
  W.iret hx hb hr (fun t ht hW => ⟨⟨v, (L2, f), rfl, hp, by rw [ht]; exact B.1, va_K.moved hW.alike B.2.1, B.2.2.1⟩, B.2.2.2.1.F ht⟩) B.2.2.2.1.2.2 hd hlocks
theorem x_lret {post : Int64 → (Nat → va_E) → Prop} {v : Int64} (hx : p.tables.exec = Jvm.exec) (hb : c.code = cc) (hr : meth.sig.returnType = some .long) (hlocks : meth.locks = false) (B : Wb D cl tys L f (AL L s.heap.size) s H locs) (hd : decode cc pc = .ok (.lreturn, 1)) (hp : post v f) :
    W p l e R s m args below meth c H locs cells slots (MQ below (va_Ql post (K1 D cl tys (AL L s.heap.size) L) (AL L s.heap.size)) args s cells slots (AL L s.heap.size)) (F0 m pc ls [.long v]) :=
  W.lret hx hb hr (fun t ht hW => ⟨⟨v, f, rfl, hp, by rw [ht]; exact B.1, va_K.moved hW.alike B.2.1, B.2.2.1⟩, B.2.2.2.1.F ht⟩) B.2.2.2.1.2.2 hd hlocks
theorem x_lretG {post : Int64 → (List Nat × (Nat → va_E)) → Prop} {v : Int64} {L2 : List Nat} (hx : p.tables.exec = Jvm.exec) (hb : c.code = cc) (hr : meth.sig.returnType = some .long) (hlocks : meth.locks = false) (B : Wb D cl tys L2 f (AL L s.heap.size) s H locs) (hd : decode cc pc = .ok (.lreturn, 1)) (hp : post v (L2, f)) :
    W p l e R s m args below meth c H locs cells slots (MQ below (va_Ql post (K2 D cl tys (AL L s.heap.size)) (AL L s.heap.size)) args s cells slots (AL L s.heap.size)) (F0 m pc ls [.long v]) :=
  W.lret hx hb hr (fun t ht hW => ⟨⟨v, (L2, f), rfl, hp, by rw [ht]; exact B.1, va_K.moved hW.alike B.2.1, B.2.2.1⟩, B.2.2.2.1.F ht⟩) B.2.2.2.1.2.2 hd hlocks
theorem x_vret {post : (Nat → va_E) → Prop} (hx : p.tables.exec = Jvm.exec) (hb : c.code = cc) (hr : meth.sig.returnType = none) (hlocks : meth.locks = false) (B : Wb D cl tys L f (AL L s.heap.size) s H locs) (hd : decode cc pc = .ok (.return_, 1)) (hp : post f) :
    W p l e R s m args below meth c H locs cells slots (MQ below (va_Qv post (K1 D cl tys (AL L s.heap.size) L) (AL L s.heap.size)) args s cells slots (AL L s.heap.size)) (F0 m pc ls []) :=
  W.vret hx hb hr (fun t ht hW => ⟨⟨f, rfl, hp, by rw [ht]; exact B.1, va_K.moved hW.alike B.2.1, B.2.2.1⟩, B.2.2.2.1.F ht⟩) B.2.2.2.1.2.2 hd hlocks
theorem x_vretG {post : (List Nat × (Nat → va_E)) → Prop} {L2 : List Nat} (hx : p.tables.exec = Jvm.exec) (hb : c.code = cc) (hr : meth.sig.returnType = none) (hlocks : meth.locks = false) (B : Wb D cl tys L2 f (AL L s.heap.size) s H locs) (hd : decode cc pc = .ok (.return_, 1)) (hp : post (L2, f)) :
    W p l e R s m args below meth c H locs cells slots (MQ below (va_Qv post (K2 D cl tys (AL L s.heap.size)) (AL L s.heap.size)) args s cells slots (AL L s.heap.size)) (F0 m pc ls []) :=
  W.vret hx hb hr (fun t ht hW => ⟨⟨(L2, f), rfl, hp, by rw [ht]; exact B.1, va_K.moved hW.alike B.2.1, B.2.2.1⟩, B.2.2.2.1.F ht⟩) B.2.2.2.1.2.2 hd hlocks
theorem x_zret {post : Int32 → (Nat → va_E) → Prop} {v : Int32} (hx : p.tables.exec = Jvm.exec) (hb : c.code = cc) (hr : meth.sig.returnType = some .boolean) (hn : narrow .boolean (.int v) = .int v) (hlocks : meth.locks = false) (B : Wb D cl tys L f (AL L s.heap.size) s H locs) (hd : decode cc pc = .ok (.ireturn, 1)) (hp : post v f) :
    W p l e R s m args below meth c H locs cells slots (MQ below (va_Qi post (K1 D cl tys (AL L s.heap.size) L) (AL L s.heap.size)) args s cells slots (AL L s.heap.size)) (F0 m pc ls [.int v]) :=
  W.zret hx hb hr hn (fun t ht hW => ⟨⟨v, f, rfl, hp, by rw [ht]; exact B.1, va_K.moved hW.alike B.2.1, B.2.2.1⟩, B.2.2.2.1.F ht⟩) B.2.2.2.1.2.2 hd hlocks
theorem x_new (hx : p.tables.exec = Jvm.exec) (hb : c.code = cc) {own C : String} {T : u_T} {N ci index : Nat} {Ts : List Cond} (hts : ∀ w ∈ Ts, w.before args s = true) (hin : ∀ w ∈ u_ws C T N, w ∈ Ts) (ty : Nat → FieldType) (hty : ∀ k, k < N → parseFieldDescriptor (T k).2.2.1 = some (ty k)) (hown : s.vm.findClass own = some m.cls) (hcl : (Cond.classLink own index C).before args s = true) (hinst : (Cond.instantiable C N).before args s = true) (hini : (Cond.initialized C).before args s = true)
    (B : Wb D cl tys L (mw f X) A s H locs) (hF : Fc L (X.map Prod.fst)) (hA : ∀ q, s.heap.size ≤ q → A q) (hc : cl[ci]? = some (C, T, N)) {fs : List Value} (hfs : ∀ j, j < N → defaultValue (ty j) = vp_V fs j) (hcells : cells + 1 ≤ R.cells) (hslots : slots + N ≤ R.slots) (hd : decode cc pc = .ok (.new index, 3))
    (kk : ∀ (q : Nat) (H : Heap), q ∉ L → Fc (L ++ [q]) (((q, (.inr (ci, fs) : va_E)) :: X).map Prod.fst) → Wb D cl tys (L ++ [q]) (mw f ((q, .inr (ci, fs)) :: X)) A s H locs → W p l e R s m args below meth c H locs (cells + 1) (slots + N) Q (F0 m (pc + 3) ls (.ref q :: rest))) : W p l e R s m args below meth c H locs cells slots Q (F0 m pc ls rest) := by
  refine va_new hx hb hts hin ty hty hown hcl hinst hini B.2.1 B.1 B.2.2.1 B.2.2.2.1 hA hc hfs hcells hslots hd (fun q H1 hP hD hS => ?_)
  have hq : q ∉ L := va_pl_fresh2 (X := []) hD
  rw [va_pl_push hq] at hP hD
  exact kk q H1 hq (hF.push hq) ⟨hP, B.2.1, hD, hS, B.2.2.2.2⟩
theorem x_newai (hx : p.tables.exec = Jvm.exec) (hb : c.code = cc) (harr : (Cond.arrayClass .int).before args s = true) (B : Wb D cl tys L (mw f X) A s H locs) (hF : Fc L (X.map Prod.fst)) (hA : ∀ q, s.heap.size ≤ q → A q) (t0 : Nat) {cA : ClassId} (ht : tys[t0]? = some (cA, .int)) {z : Int} (n : Nat) (hz : z = (n : Int)) (hn : n ≤ 67108864) (hcells : cells + 1 ≤ R.cells) (hslots : slots + n ≤ R.slots) (hd : decode cc pc = .ok (.newarray .int, 2))
    (kk : ∀ (q : Nat) (H : Heap), q ∉ L → Fc (L ++ [q]) (((q, (.inl (cA, n, .inl (ai (fun _ => 0))) : va_E)) :: X).map Prod.fst) → Wb D cl tys (L ++ [q]) (mw f ((q, .inl (cA, n, .inl (ai (fun _ => 0)))) :: X)) A s H locs → W p l e R s m args below meth c H locs (cells + 1) (slots + n) Q (F0 m (pc + 2) ls (.ref q :: rest))) : W p l e R s m args below meth c H locs cells slots Q (F0 m pc ls (.int (iI z) :: rest)) := by
  refine va_newa (atype := .int) hx hb (ty := .int) harr rfl B.2.1 B.1 B.2.2.1 B.2.2.2.1 hA (a0 := (n, .inl (ai (fun _ => 0)))) (fun _ => rfl) (fun h => ?_) (by rw [iI_clamp (by omega)]; omega) (by simp [componentBytes]; omega) hcells hslots hd (fun q cB H1 hK hP hD hS => ?_)
  · rw [iI_zero, iI_lt (by omega) (by omega)] at h
    omega
  · have hq : q ∉ L := va_pl_fresh2 (X := []) hD
    have e1 : cB = cA := by
      have h1 := (hK.2 tys.length (cB, .int) (by simp)).2
      have h2 := (B.2.1.2 t0 _ ht).2
      exact Option.some.inj (h1.symm.trans h2)
    subst e1
    rw [va_pl_push hq] at hP hD
    exact kk q H1 hq (hF.push hq) ⟨hP, B.2.1, hD, hS, B.2.2.2.2⟩
theorem x_newal (hx : p.tables.exec = Jvm.exec) (hb : c.code = cc) (harr : (Cond.arrayClass .long).before args s = true) (B : Wb D cl tys L (mw f X) A s H locs) (hF : Fc L (X.map Prod.fst)) (hA : ∀ q, s.heap.size ≤ q → A q) (t0 : Nat) {cA : ClassId} (ht : tys[t0]? = some (cA, .long)) {z : Int} (n : Nat) (hz : z = (n : Int)) (hn : n ≤ 67108864) (hcells : cells + 1 ≤ R.cells) (hslots : slots + n ≤ R.slots) (hd : decode cc pc = .ok (.newarray .long, 2))
    (kk : ∀ (q : Nat) (H : Heap), q ∉ L → Fc (L ++ [q]) (((q, (.inl (cA, n, .inr (.inl (al (fun _ => 0)))) : va_E)) :: X).map Prod.fst) → Wb D cl tys (L ++ [q]) (mw f ((q, .inl (cA, n, .inr (.inl (al (fun _ => 0))))) :: X)) A s H locs → W p l e R s m args below meth c H locs (cells + 1) (slots + n) Q (F0 m (pc + 2) ls (.ref q :: rest))) : W p l e R s m args below meth c H locs cells slots Q (F0 m pc ls (.int (iI z) :: rest)) := by
  refine va_newa (atype := .long) hx hb (ty := .long) harr rfl B.2.1 B.1 B.2.2.1 B.2.2.2.1 hA (a0 := (n, .inr (.inl (al (fun _ => 0))))) (fun _ => rfl) (fun h => ?_) (by rw [iI_clamp (by omega)]; omega) (by simp [componentBytes]; omega) hcells hslots hd (fun q cB H1 hK hP hD hS => ?_)
  · rw [iI_zero, iI_lt (by omega) (by omega)] at h
    omega
  · have hq : q ∉ L := va_pl_fresh2 (X := []) hD
    have e1 : cB = cA := by
      have h1 := (hK.2 tys.length (cB, .long) (by simp)).2
      have h2 := (B.2.1.2 t0 _ ht).2
      exact Option.some.inj (h1.symm.trans h2)
    subst e1
    rw [va_pl_push hq] at hP hD
    exact kk q H1 hq (hF.push hq) ⟨hP, B.2.1, hD, hS, B.2.2.2.2⟩
theorem x_newq (hx : p.tables.exec = Jvm.exec) (hb : c.code = cc) {own C : String} {index : Nat} (hown : s.vm.findClass own = some m.cls) (hclink : (Cond.classLink own index C).before args s = true) (hover : va_AO C s) (B : Wb D cl tys L (mw f X) A s H locs) (hF : Fc L (X.map Prod.fst)) (hA : ∀ q, s.heap.size ≤ q → A q) (t0 : Nat) {cA : ClassId} (ht : tys[t0]? = some (cA, .object C)) {z : Int} (n : Nat) (hz : z = (n : Int)) (hn : n ≤ 67108864) (hcells : cells + 1 ≤ R.cells) (hslots : slots + n ≤ R.slots) (hd : decode cc pc = .ok (.anewarray index, 3))
    (kk : ∀ (q : Nat) (H : Heap), q ∉ L → Fc (L ++ [q]) (((q, (.inl (cA, n, .inr (.inr (.inr (.inr (fun _ => none))))) : va_E)) :: X).map Prod.fst) → Wb D cl tys (L ++ [q]) (mw f ((q, .inl (cA, n, .inr (.inr (.inr (.inr (fun _ => none)))))) :: X)) A s H locs → W p l e R s m args below meth c H locs (cells + 1) (slots + n) Q (F0 m (pc + 3) ls (.ref q :: rest))) : W p l e R s m args below meth c H locs cells slots Q (F0 m pc ls (.int (iI z) :: rest)) := by
  refine va_newq hx hb hown hclink hover B.2.1 B.1 B.2.2.1 B.2.2.2.1 hA (N' := n) (fun h => ?_) (by rw [iI_clamp (by omega)]; omega) (by omega) hcells hslots hd (fun q cB H1 hK hP hD hS => ?_)
  · rw [iI_zero, iI_lt (by omega) (by omega)] at h
    omega
  · have hq : q ∉ L := va_pl_fresh2 (X := []) hD
    have e1 : cB = cA := by
      obtain ⟨_, _, _, _, _, h1⟩ := (hK.2 tys.length (cB, .object C) (by simp)).2
      obtain ⟨_, _, _, _, _, h2⟩ := (B.2.1.2 t0 _ ht).2
      exact Option.some.inj (h1.symm.trans h2)
    subst e1
    rw [va_pl_push hq] at hP hD
    exact kk q H1 hq (hF.push hq) ⟨hP, B.2.1, hD, hS, B.2.2.2.2⟩
end XC
