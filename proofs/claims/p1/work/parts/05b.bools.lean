/-! arrays of booleans -/
section XZ
variable {p : Program} {l : Launch} {e : Env} {R : Room} {s : State} {m : MethodId} {args : Array Value} {below : List Frame} {meth : Method} {c : Code} {H : Heap} {locs : List Loc} {cells slots : Nat} {Q : State → Prop}
variable {cc : ByteArray} {pc : Nat} {ls : Array Slot} {rest st0 : List Value}
variable {D : va_G} {cl : List vw_C} {tys : List (ClassId × FieldType)} {L : List Nat} {f : Nat → va_E} {X : List (Nat × va_E)} {A : Nat → Prop} {a : Nat} {mc ms : Nat}
theorem x_newaz (hx : p.tables.exec = Jvm.exec) (hb : c.code = cc) (harr : (Cond.arrayClass .boolean).before args s = true) (B : Wb D cl tys L (mw f X) A s H locs) (hF : Fc L (X.map Prod.fst)) (hA : ∀ q, s.heap.size ≤ q → A q) (t0 : Nat) {cA : ClassId} (ht : tys[t0]? = some (cA, .boolean)) {z : Int} (n : Nat) (hz : z = (n : Int)) (hn : n ≤ 67108864) (hcells : cells + 1 ≤ R.cells) (hslots : slots + n ≤ R.slots) (hd : decode cc pc = .ok (.newarray .boolean, 2))
    (kk : ∀ (q : Nat) (H : Heap), q ∉ L → Fc (L ++ [q]) (((q, (.inl (cA, n, .inl (ai (fun _ => 0))) : va_E)) :: X).map Prod.fst) → Wb D cl tys (L ++ [q]) (mw f ((q, .inl (cA, n, .inl (ai (fun _ => 0)))) :: X)) A s H locs → W p l e R s m args below meth c H locs (cells + 1) (slots + n) Q (F0 m (pc + 2) ls (.ref q :: rest))) : W p l e R s m args below meth c H locs cells slots Q (F0 m pc ls (.int (iI z) :: rest)) := by
  refine va_newa (atype := .boolean) hx hb (ty := .boolean) harr rfl B.2.1 B.1 B.2.2.1 B.2.2.2.1 hA (a0 := (n, .inl (ai (fun _ => 0)))) (fun _ => rfl) (fun h => ?_) (by rw [iI_clamp (by omega)]; omega) (by simp [componentBytes]; omega) hcells hslots hd (fun q cB H1 hK hP hD hS => ?_)
  · rw [iI_zero, iI_lt (by omega) (by omega)] at h
    omega
  · have hq : q ∉ L := va_pl_fresh2 (X := []) hD
    have e1 : cB = cA := by
      have h1 := (hK.2 tys.length (cB, .boolean) (by simp)).2
      have h2 := (B.2.1.2 t0 _ ht).2
      exact Option.some.inj (h1.symm.trans h2)
    subst e1
    rw [va_pl_push hq] at hP hD
    exact kk q H1 hq (hF.push hq) ⟨hP, B.2.1, hD, hS, B.2.2.2.2⟩
theorem x_zald (hx : p.tables.exec = Jvm.exec) (hb : c.code = cc) (B : Wb D cl tys L (mw f X) A s H locs) (hF : Fc L (X.map Prod.fst)) (q0 t0 : Nat) {cA : ClassId} {n : Nat} {g : Nat → Int} (he : X[q0]? = some (a, .inl (cA, n, .inl (ai g)))) (ht : tys[t0]? = some (cA, .boolean)) {z : Int} (j : Nat) (hz : z = (j : Int)) (hj : j < n) (hn : n ≤ 2147483647) (hd : decode cc pc = .ok (.baload, 1))
    (kk : W p l e R s m args below meth c H locs cells slots Q (F0 m (pc + 1) ls (.int (iI (g j)) :: rest))) : W p l e R s m args below meth c H locs cells slots Q (F0 m pc ls (.int (iI z) :: .ref a :: rest)) := by
  obtain ⟨q, -, hq⟩ := x_at (f := f) hF he
  refine va_zald hx hb B.2.1 B.1 q t0 hq ht (iI_in (by omega) hn) hd ?_
  rw [iI_clamp (by omega), show z.toNat = j by omega]
  exact kk
theorem x_zast (hx : p.tables.exec = Jvm.exec) (hb : c.code = cc) (B : Wb D cl tys L (mw f X) A s H locs) (hF : Fc L (X.map Prod.fst)) (q0 t0 : Nat) {cA : ClassId} {n : Nat} {g : Nat → Int} (he : X[q0]? = some (a, .inl (cA, n, .inl (ai g)))) (ht : tys[t0]? = some (cA, .boolean)) {z v : Int} (j : Nat) (hz : z = (j : Int)) (hj : j < n) (hn : n ≤ 2147483647) (hnar : vp_nar .boolean (iI v) = iI v) (hd : decode cc pc = .ok (.bastore, 1))
    (kk : ∀ (H : Heap) (locs : List Loc), Wb D cl tys L (mw f (X.set q0 (a, .inl (cA, n, .inl (ai (up g j v)))))) A s H locs → W p l e R s m args below meth c H locs cells slots Q (F0 m (pc + 1) ls rest)) : W p l e R s m args below meth c H locs cells slots Q (F0 m pc ls (.int (iI v) :: .int (iI z) :: .ref a :: rest)) := by
  obtain ⟨q, hq0, hq⟩ := x_at (f := f) hF he
  refine va_zast hx hb B.2.1 B.1 B.2.2.1 B.2.2.2.1 q t0 hq ht (iI_in (by omega) hn) hd (fun H1 locs1 hP hD hS => ?_)
  rw [iI_clamp (by omega), show z.toNat = j by omega, hnar, ai_up, x_re hF he B.2.2.1 hq0] at hP hD
  exact kk H1 locs1 ⟨hP, B.2.1, hD, hS, B.2.2.2.2⟩
end XZ
