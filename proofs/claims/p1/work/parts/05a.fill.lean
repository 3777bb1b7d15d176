/-! the goal's fixed parts as names; lists of new cells; filling an array with new objects -/
theorem absQ {p : Program} {l : Launch} {e : Env} {R : Room} {s : State} {m : MethodId} {args : Array Value} {below : List Frame} {meth : Method} {c : Code} {H : Heap} {locs : List Loc} {cells slots : Nat} {Q : State → Prop} {g : JFrame}
    (h : ∀ (Q' : State → Prop) (R' : Room) (A' : Array Value), Q' = Q → R' = R → A' = args → W p l e R' s m A' below meth c H locs cells slots Q' g) : W p l e R s m args below meth c H locs cells slots Q g := h Q R args rfl rfl rfl
theorem mw_in {f g : Nat → va_E} {X : List (Nat × va_E)} {a : Nat} (h : a ∈ X.map Prod.fst) : mw f X a = mw g X a := by
  induction X with
  | nil => simp at h
  | cons p r ih =>
    rw [mw, mw]
    simp only [va_up]
    split
    · rfl
    · rename_i h1
      rw [List.map_cons, List.mem_cons] at h
      exact ih (h.resolve_left h1)
theorem mw_swap {f : Nat → va_E} {X Y : List (Nat × va_E)} (h : ∀ a ∈ Y.map Prod.fst, a ∉ X.map Prod.fst) : mw f (Y ++ X) = mw (mw f Y) X := by
  rw [← mw_app]
  funext q
  by_cases hY : q ∈ Y.map Prod.fst
  · rw [mw_out (h q hY)]
    exact mw_in hY
  · rw [mw_out hY]
    by_cases hX : q ∈ X.map Prod.fst
    · exact mw_in hX
    · rw [mw_out hX, mw_out hX, mw_out hY]
theorem mw_new2 (f : Nat → va_E) (X : List (Nat × va_E)) (q q2 : Nat) (e0 e1 e2 : va_E) : mw (mw f ((q, e0) :: X)) [(q2, e2), (q, e1)] = mw f ((q2, e2) :: (q, e1) :: X) := by
  show va_up (va_up (va_up (mw f X) q e0) q e1) q2 e2 = va_up (va_up (mw f X) q e1) q2 e2
  rw [bx_uu]
theorem fm_congr {α β : Type} {l : List α} {f g : α → List β} (h : ∀ a ∈ l, f a = g a) : l.flatMap f = l.flatMap g := by
  induction l with
  | nil => rfl
  | cons a l ih => rw [List.flatMap_cons, List.flatMap_cons, h a List.mem_cons_self, ih (fun b hb => h b (List.mem_cons_of_mem _ hb))]
def Fill (Lx : List Nat) (h0 : Nat → va_E) (PR : (Nat → va_E) → Nat → List Nat → Prop) (n : Nat) (tm : Nat → Nat) (bl : Nat → List Nat) (L : List Nat) (h : Nat → va_E) : Prop :=
  L = Lx ++ (List.range n).flatMap (fun k => tm k :: bl k) ∧ (∀ q ∈ Lx, h q = h0 q) ∧ ∀ k, k < n → PR h (tm k) (bl k)
theorem Fill.zero {Lx : List Nat} {h0 : Nat → va_E} {PR : (Nat → va_E) → Nat → List Nat → Prop} {tm : Nat → Nat} {bl : Nat → List Nat} : Fill Lx h0 PR 0 tm bl Lx h0 := ⟨by simp, fun _ _ => rfl, fun k hk => absurd hk (Nat.not_lt_zero k)⟩
theorem Fill.step {Lx : List Nat} {h0 h h' : Nat → va_E} {PR : (Nat → va_E) → Nat → List Nat → Prop} {n : Nat} {tm : Nat → Nat} {bl : Nat → List Nat} {L : List Nat} {q : Nat} {b : List Nat}
    (hloc : ∀ (h h' : Nat → va_E) (x : Nat) (b : List Nat), (∀ r ∈ x :: b, h' r = h r) → PR h x b → PR h' x b) (F : Fill Lx h0 PR n tm bl L h) (hag : ∀ r ∈ L, h' r = h r) (hp : PR h' q b) :
    Fill Lx h0 PR (n + 1) (fun k => if k = n then q else tm k) (fun k => if k = n then b else bl k) (L ++ (q :: b)) h' := by
  obtain ⟨e1, e2, e3⟩ := F
  refine ⟨?_, fun r hr => ?_, fun k hk => ?_⟩
  · rw [e1, List.range_succ, List.flatMap_append, List.append_assoc]
    congr 2
    · apply fm_congr
      intro k hk
      have : k ≠ n := by have := List.mem_range.mp hk; omega
      simp [this]
    · simp
  · rw [hag r (by rw [e1]; exact List.mem_append_left _ hr), e2 r hr]
  · by_cases hkn : k = n
    · subst hkn
      simpa using hp
    · simp only [if_neg hkn]
      have hk' : k < n := by omega
      refine hloc h h' _ _ (fun r hr => hag r ?_) (e3 k hk')
      rw [e1]
      exact List.mem_append_right _ (List.mem_flatMap.mpr ⟨k, List.mem_range.mpr hk', hr⟩)
/-- the references of an array that is filled up to n -/
def rfs (n : Nat) (tm : Nat → Nat) : Nat → Option Nat := fun k => if k < n then some (tm k) else none
theorem rfs_step (n q : Nat) (tm : Nat → Nat) : va_up (rfs n tm) n (some q) = rfs (n + 1) (fun k => if k = n then q else tm k) := by
  funext k
  simp only [va_up, rfs]
  by_cases h : k = n
  · subst h; simp
  · by_cases h2 : k < n
    · have : k < n + 1 := by omega
      simp [h, h2, this]
    · have : ¬ k < n + 1 := by omega
      simp [h, h2, this]
theorem rfs_zero (tm : Nat → Nat) : rfs 0 tm = fun _ => none := by
  funext k
  simp [rfs]
/-- an object with two ints and an array of n ints, all 0: a Big (ci 0, n 48), a Place (ci 3, n 8) -/
def New3 (cs : Nat → ClassId) (ci n : Nat) (h : Nat → va_E) (x : Nat) (b : List Nat) : Prop := ∃ w, b = [w] ∧ h x = .inr (ci, [.int (iI 0), .int (iI 0), .ref w]) ∧ h w = .inl (cs 0, n, .inl (ai (fun _ => 0)))
theorem New3.loc {cs : Nat → ClassId} {ci n : Nat} : ∀ (h h' : Nat → va_E) (x : Nat) (b : List Nat), (∀ r ∈ x :: b, h' r = h r) → New3 cs ci n h x b → New3 cs ci n h' x b := by
  intro h h' x b hr ⟨w, e1, e2, e3⟩
  subst e1
  exact ⟨w, rfl, by rw [hr x (by simp), e2], by rw [hr w (by simp), e3]⟩
theorem Fc.of {L L' ks : List Nat} (h : Fc L ks) (hL : ∀ x ∈ L, x ∈ L') : Fc L' ks := ⟨h.1, fun x hx => hL x (h.2 x hx)⟩
theorem Fc.tail {L ks : List Nat} {q : Nat} (h : Fc L (q :: ks)) : Fc L ks := ⟨(List.nodup_cons.mp h.1).2, fun x hx => h.2 x (List.mem_cons_of_mem _ hx)⟩
theorem Fc.one {L : List Nat} {q : Nat} (h : q ∈ L) : Fc L [q] := ⟨by simp, fun x hx => by rw [List.mem_singleton] at hx; rw [hx]; exact h⟩
theorem Fc.hd {L ks : List Nat} {q : Nat} (h : Fc L (q :: ks)) : Fc L [q] := Fc.one (h.2 q List.mem_cons_self)
theorem Wb.nodup {D : va_G} {cl : List vw_C} {tys : List (ClassId × FieldType)} {L : List Nat} {f : Nat → va_E} {A : Nat → Prop} {s : State} {H : Heap} {locs : List Loc} (B : Wb D cl tys L f A s H locs) : L.Nodup := by
  unfold List.Nodup
  rw [List.pairwise_iff_getElem]
  intro i j hi hj hij e2
  have h1 : (va_pl L f)[i]? = some (L[i], f L[i]) := by simp [va_pl, hi]
  have h2 : (va_pl L f)[j]? = some (L[j], f L[j]) := by simp [va_pl, hj]
  have := B.2.2.1.1 i j _ _ h1 h2 e2
  omega
theorem Fill.out {Lx : List Nat} {h0 h : Nat → va_E} {PR : (Nat → va_E) → Nat → List Nat → Prop} {n : Nat} {tm : Nat → Nat} {bl : Nat → List Nat} {L : List Nat} (F : Fill Lx h0 PR n tm bl L h) (hN : L.Nodup) {k : Nat} (hk : k < n) {r : Nat} (hr : r ∈ tm k :: bl k) : r ∉ Lx := by
  intro hx
  rw [F.1, List.nodup_append] at hN
  exact hN.2.2 r hx r (List.mem_flatMap.mpr ⟨k, List.mem_range.mpr hk, hr⟩) rfl
theorem mw_congr {f g : Nat → va_E} {X : List (Nat × va_E)} (h : ∀ r, r ∉ X.map Prod.fst → f r = g r) : mw f X = mw g X := by
  funext q
  by_cases hX : q ∈ X.map Prod.fst
  · exact mw_in hX
  · rw [mw_out hX, mw_out hX, h q hX]
/-- a heap function that is the old one on the old addresses -/
def mix (L : List Nat) (h g : Nat → va_E) : Nat → va_E := fun r => if r ∈ L then h r else g r
theorem mix_old {L : List Nat} {h g : Nat → va_E} {r : Nat} (hr : r ∈ L) : mix L h g r = h r := by simp [mix, hr]
theorem mix_new {L : List Nat} {h g : Nat → va_E} {r : Nat} (hr : r ∉ L) : mix L h g r = g r := by simp [mix, hr]
theorem x_ldc2 {p : Program} {l : Launch} {e : Env} {R : Room} {s : State} {m : MethodId} {args : Array Value} {below : List Frame} {meth : Method} {c : Code} {H : Heap} {locs : List Loc} {cells slots : Nat} {Q : State → Prop} {cc : ByteArray} {pc : Nat} {ls : Array Slot} {rest : List Value} {z : Int} (hx : p.tables.exec = Jvm.exec) (hb : c.code = cc) {own : String} {index : Nat} {v : Int64} (hown : s.vm.findClass own = some m.cls) (hconst : (Jvm.Cond.constantLong own index v).before args s = true) (hz : v = lI z) (hd : decode cc pc = .ok (.ldc2_w index, 3)) (k : W p l e R s m args below meth c H locs cells slots Q (F0 m (pc + 3) ls (.long (lI z) :: rest))) : W p l e R s m args below meth c H locs cells slots Q (F0 m pc ls rest) := lv_ldc2 hx hb hown hconst hd (by rw [hz]; exact k)
theorem x_ldc {p : Program} {l : Launch} {e : Env} {R : Room} {s : State} {m : MethodId} {args : Array Value} {below : List Frame} {meth : Method} {c : Code} {H : Heap} {locs : List Loc} {cells slots : Nat} {Q : State → Prop} {cc : ByteArray} {pc : Nat} {ls : Array Slot} {rest : List Value} {z : Int} (hx : p.tables.exec = Jvm.exec) (hb : c.code = cc) {own : String} {index : Nat} {v : Int32} (hown : s.vm.findClass own = some m.cls) (hconst : (Jvm.Cond.constant own index v).before args s = true) (hz : v = iI z) (hd : decode cc pc = .ok (.ldc index, 2)) (k : W p l e R s m args below meth c H locs cells slots Q (F0 m (pc + 2) ls (.int (iI z) :: rest))) : W p l e R s m args below meth c H locs cells slots Q (F0 m pc ls rest) := lv_ldc hx hb hown hconst hd (by rw [hz]; exact k)
