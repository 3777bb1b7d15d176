/-- the first k places from a, the others from b -/
def cf (k : Int) (a b : Nat → Int) : Nat → Int := fun j => if (j : Int) < k then a j else b j
theorem cf_0 (a b : Nat → Int) : cf 0 a b = b := by
  funext j
  simp only [cf]
  rw [if_neg (by omega)]
theorem cf_step {k : Int} (hk : 0 ≤ k) (a b : Nat → Int) : up (cf k a b) k.toNat (a k.toNat) = cf (k + 1) a b := by
  funext j
  simp only [cf, up]
  by_cases h : j = k.toNat
  · subst h
    rw [if_pos rfl, if_pos (by omega)]
  · rw [if_neg h]
    by_cases h2 : (j : Int) < k
    · rw [if_pos h2, if_pos (by omega)]
    · rw [if_neg h2, if_neg (by omega)]
theorem mw_drop {f : Nat → va_E} {X : List (Nat × va_E)} {a : Nat} {e : va_E} (h : f a = e) (hn : a ∉ X.map Prod.fst) : mw f ((a, e) :: X) = mw f X := by
  funext q
  rw [mw]
  simp only [va_up]
  split
  · rename_i hq
    rw [hq, mw_out hn, h]
  · rfl
theorem mw_put {f : Nat → va_E} {X : List (Nat × va_E)} (hN : (X.map Prod.fst).Nodup) {k a : Nat} {e0 e : va_E} (h : X[k]? = some (a, e0)) : mw (mw f X) [(a, e)] = mw f (X.set k (a, e)) := (mw_set hN h).symm
def inb (j : Nat) (z : Int) : Prop := if j < 6 then -1000 ≤ z ∧ z ≤ 1000 else z = 0
theorem d_RR_clearWide_0 : decode prog_1_method_24_code 0 = .ok (.iconst 0, 1) := by decide +kernel
theorem d_RR_clearWide_1 : decode prog_1_method_24_code 1 = .ok (.istore_n 1, 1) := by decide +kernel
theorem d_RR_clearWide_2 : decode prog_1_method_24_code 2 = .ok (.iload_n 1, 1) := by decide +kernel
theorem d_RR_clearWide_3 : decode prog_1_method_24_code 3 = .ok (.aload_n 0, 1) := by decide +kernel
theorem d_RR_clearWide_4 : decode prog_1_method_24_code 4 = .ok (.getfield 40, 3) := by decide +kernel
theorem d_RR_clearWide_7 : decode prog_1_method_24_code 7 = .ok (.arraylength, 1) := by decide +kernel
theorem d_RR_clearWide_8 : decode prog_1_method_24_code 8 = .ok (.if_icmp .ge 16, 3) := by decide +kernel
theorem d_RR_clearWide_11 : decode prog_1_method_24_code 11 = .ok (.aload_n 0, 1) := by decide +kernel
theorem d_RR_clearWide_12 : decode prog_1_method_24_code 12 = .ok (.getfield 40, 3) := by decide +kernel
theorem d_RR_clearWide_15 : decode prog_1_method_24_code 15 = .ok (.iload_n 1, 1) := by decide +kernel
theorem d_RR_clearWide_16 : decode prog_1_method_24_code 16 = .ok (.lconst 0, 1) := by decide +kernel
theorem d_RR_clearWide_17 : decode prog_1_method_24_code 17 = .ok (.lastore, 1) := by decide +kernel
theorem d_RR_clearWide_18 : decode prog_1_method_24_code 18 = .ok (.iinc 1 1, 3) := by decide +kernel
theorem d_RR_clearWide_21 : decode prog_1_method_24_code 21 = .ok (.goto (-19), 3) := by decide +kernel
theorem d_RR_clearWide_24 : decode prog_1_method_24_code 24 = .ok (.return_, 1) := by decide +kernel
set_option maxHeartbeats 8000000 in
set_option maxRecDepth 100000 in
theorem c_RR_clearWide (l : Launch) (D : va_G) (cs : Nat → ClassId) (L : List Nat) (f : Nat → va_E) (sz : Nat) (x c0 c2 c3 c4 c5 c6 c7 c8 c9 c10 c11 : Nat) (hd ll ln : Int) (w : Nat → Int) (hF : Fc L [x, c5]) (ha : f x = .inr (6, [.ref c0, .int (iI hd), .ref c2, .ref c3, .ref c4, .ref c5, .ref c6, .ref c7, .ref c8, .ref c9, .ref c10, .ref c11, .int (iI ll), .int (iI ln)])) (hhd : 0 ≤ hd ∧ hd ≤ 12) (hw : f c5 = .inl (cs 1, 12, .inr (.inl (al w)))) : Met l (⟨"RealRoots", "clearWide", "()V"⟩ : MethodName) (.code (⟨"RealRoots", "clearWide", "()V"⟩ : MethodName) prog_1_method_24_code 2 (Option.none : Option Jvm.ClassFile.FieldType) :: gw) ({ frames := 0, cells := 0, slots := 0, locals := 0 }) (va_Pc [.ref x] (K0 D vwCl (TY cs) L f sz)) (va_Qv (fun (g : Nat → va_E) => g = mw f [(c5, .inl (cs 1, 12, .inr (.inl (al (cf 12 (fun _ => 0) w)))))]) (K1 D vwCl (TY cs) (AL L sz) L) (AL L sz)) 0 0 (AL L sz) := by
  refine Met.ofW (cc := prog_1_method_24_code) (maxL := 2) (ret := (Option.none : Option Jvm.ClassFile.FieldType)) (by decide) rfl ?_
  intro p e s m args below meth c s₁ Bd hml hv
  obtain ⟨rfl, hk0⟩ := hv
  obtain ⟨hsz, B⟩ := hk0.start
  subst hsz
  have hx := Bd.exec
  have hb := Bd.bytes
  have hr := Bd.returns
  have hlocks := Bd.notSynchronized
  have hts0 := atoms_spec Bd.pre
  have hown : s.vm.findClass RX6 = some m.cls := findClass_of_methodNamed Bd.named
  have hA : ∀ q, s.heap.size ≤ q → AL L s.heap.size q := fun _ h => Or.inr h
  have hl := lv_entry ([.ref x]) (n := 2) (Nat.le_of_ble_eq_true rfl)
  rw [lg_entry_eq]
  generalize (lg_sl ([.ref x]) ++ List.replicate (2 - (lg_sl ([.ref x])).length) Slot.unset).toArray = ls at hl ⊢
  refine absQ (fun Q R av hQ hR hav => ?_)
  have hts : ∀ w ∈ gw, w.before av s = true := by rw [hav]; exact fun w h => hts0 w (List.mem_cons_of_mem _ h)
  have hRf : R.frames = 0 := by rw [hR]; rfl
  have hRl : R.locals = 0 := by rw [hR]; rfl
  have hRc : R.cells = 0 := by rw [hR]; rfl
  have hRs : R.slots = 0 := by rw [hR]; rfl
  clear hR hts0 Bd
  have hl : lv_has ls 2 [(0, .ref x)] := hl
  have hfx : ∀ q ∈ ([(x, .inr (6, [.ref c0, .int (iI hd), .ref c2, .ref c3, .ref c4, .ref c5, .ref c6, .ref c7, .ref c8, .ref c9, .ref c10, .ref c11, .int (iI ll), .int (iI ln)])), (c5, .inl (cs 1, 12, .inr (.inl (al w))))] : List (Nat × va_E)), f q.1 = q.2 := fun q hq => by
    simp only [List.mem_cons, List.not_mem_nil, or_false] at hq
    rcases hq with rfl | rfl
    · exact ha
    · exact hw
  have hmw : mw f [(x, .inr (6, [.ref c0, .int (iI hd), .ref c2, .ref c3, .ref c4, .ref c5, .ref c6, .ref c7, .ref c8, .ref c9, .ref c10, .ref c11, .int (iI ll), .int (iI ln)])), (c5, .inl (cs 1, 12, .inr (.inl (al w))))] = f := mw_self (fun k a e hk => hfx (a, e) (List.mem_of_getElem? hk))
  have B := B.focus [(x, .inr (6, [.ref c0, .int (iI hd), .ref c2, .ref c3, .ref c4, .ref c5, .ref c6, .ref c7, .ref c8, .ref c9, .ref c10, .ref c11, .int (iI ll), .int (iI ln)])), (c5, .inl (cs 1, 12, .inr (.inl (al w))))] hfx
  refine x_iconst hx hb d_RR_clearWide_0 ?_
  refine lv_istore_n (lv' := [(1, .int (iI 0)), (0, .ref x)]) hx hb d_RR_clearWide_1 rfl hl (by decide) rfl (fun ls hl => ?_)
  have LOOP : ∀ (n : Nat) (k : Int), 0 ≤ k → k + n = 12 → ∀ (H : Heap) (locs : List Loc) (ls : Array Slot), Wb D vwCl (TY cs) L (mw f [(x, .inr (6, [.ref c0, .int (iI hd), .ref c2, .ref c3, .ref c4, .ref c5, .ref c6, .ref c7, .ref c8, .ref c9, .ref c10, .ref c11, .int (iI ll), .int (iI ln)])), (c5, .inl (cs 1, 12, .inr (.inl (al (cf k (fun _ => 0) w)))))]) (AL L s.heap.size) s H locs → lv_has ls 2 [(1, .int (iI k)), (0, .ref x)] → W p l e R s m av below meth c H locs (0) (0) Q (F0 m 2 ls []) := by
    intro n
    induction n with
    | zero =>
      intro k hk0 hkn  H locs ls B hl
      have hke : k = 12 := by omega
      refine lv_iload_n hx hb d_RR_clearWide_2 rfl (lv_at hl 0 rfl) ?_
      refine lv_aload_n hx hb d_RR_clearWide_3 rfl (lv_at hl 1 rfl) ?_
      refine x_get (C := RX6) (T := TX6) (N := 14) hx hb hts inX6 hown B hF 0 rfl rfl 5 (by decide) (hts _ w_202) (fun _ h9 => h9) rfl d_RR_clearWide_4 ?_
      refine x_alen hx hb B hF 1 1 rfl rfl d_RR_clearWide_7 ?_
      refine x_icmp_ge (tgt := 24) hx hb d_RR_clearWide_8 (by decide) (by omega) (by omega) (fun h8 => ?_) (fun h8 => ?_)
      · subst hQ hav
        exact x_vret hx hb hr hlocks B d_RR_clearWide_24 (by
      subst hke
      exact mw_drop ha (fun hx => (List.nodup_cons.mp hF.1).1 hx))
      · exfalso; omega
    | succ n ih =>
      intro k hk0 hkn  H locs ls B hl
      refine lv_iload_n hx hb d_RR_clearWide_2 rfl (lv_at hl 0 rfl) ?_
      refine lv_aload_n hx hb d_RR_clearWide_3 rfl (lv_at hl 1 rfl) ?_
      refine x_get (C := RX6) (T := TX6) (N := 14) hx hb hts inX6 hown B hF 0 rfl rfl 5 (by decide) (hts _ w_202) (fun _ h9 => h9) rfl d_RR_clearWide_4 ?_
      refine x_alen hx hb B hF 1 1 rfl rfl d_RR_clearWide_7 ?_
      refine x_icmp_ge (tgt := 24) hx hb d_RR_clearWide_8 (by decide) (by omega) (by omega) (fun h8 => ?_) (fun h8 => ?_)
      · exfalso; omega
      · refine lv_aload_n hx hb d_RR_clearWide_11 rfl (lv_at hl 1 rfl) ?_
        refine x_get (C := RX6) (T := TX6) (N := 14) hx hb hts inX6 hown B hF 0 rfl rfl 5 (by decide) (hts _ w_202) (fun _ h9 => h9) rfl d_RR_clearWide_12 ?_
        refine lv_iload_n hx hb d_RR_clearWide_15 rfl (lv_at hl 0 rfl) ?_
        refine x_lconst (z := 0) hx hb d_RR_clearWide_16 (by decide) ?_
        refine x_last hx hb B hF 1 1 rfl rfl k.toNat (by omega) (by omega) (by decide) d_RR_clearWide_17 (fun H locs B => ?_)
        have B : Wb D vwCl (TY cs) L (mw f [(x, .inr (6, [.ref c0, .int (iI hd), .ref c2, .ref c3, .ref c4, .ref c5, .ref c6, .ref c7, .ref c8, .ref c9, .ref c10, .ref c11, .int (iI ll), .int (iI ln)])), (c5, .inl (cs 1, 12, .inr (.inl (al (up (cf k (fun _ => 0) w) k.toNat 0)))))]) (AL L s.heap.size) s H _ := B
        refine x_iinc (lv' := [(1, .int (iI (k + 1))), (0, .ref x)]) hx hb d_RR_clearWide_18 hl (q := 0) rfl rfl (by decide) rfl (fun ls hl => ?_)
        refine lv_goto (tgt := 2) hx hb d_RR_clearWide_21 (by decide) ?_
        rw [cf_step (a := (fun _ => 0)) hk0] at B
        exact ih (k + 1) (by omega) (by omega)  _ _ _ B (lv_sub hl [0, 1] rfl)
  have B := B.of_eq (show mw f [(x, .inr (6, [.ref c0, .int (iI hd), .ref c2, .ref c3, .ref c4, .ref c5, .ref c6, .ref c7, .ref c8, .ref c9, .ref c10, .ref c11, .int (iI ll), .int (iI ln)])), (c5, .inl (cs 1, 12, .inr (.inl (al w))))] = mw f [(x, .inr (6, [.ref c0, .int (iI hd), .ref c2, .ref c3, .ref c4, .ref c5, .ref c6, .ref c7, .ref c8, .ref c9, .ref c10, .ref c11, .int (iI ll), .int (iI ln)])), (c5, .inl (cs 1, 12, .inr (.inl (al (cf 0 (fun _ => 0) w)))))] by rw [cf_0])
  exact LOOP 12 0 (by omega) (by omega)  _ _ _ B (lv_sub hl [0, 1] rfl)
theorem d_RR_narrow_0 : decode prog_1_method_26_code 0 = .ok (.iconst 0, 1) := by decide +kernel
theorem d_RR_narrow_1 : decode prog_1_method_26_code 1 = .ok (.istore_n 2, 1) := by decide +kernel
theorem d_RR_narrow_2 : decode prog_1_method_26_code 2 = .ok (.iload_n 2, 1) := by decide +kernel
theorem d_RR_narrow_3 : decode prog_1_method_26_code 3 = .ok (.bipush 6, 2) := by decide +kernel
theorem d_RR_narrow_5 : decode prog_1_method_26_code 5 = .ok (.if_icmp .ge 19, 3) := by decide +kernel
theorem d_RR_narrow_8 : decode prog_1_method_26_code 8 = .ok (.aload_n 1, 1) := by decide +kernel
theorem d_RR_narrow_9 : decode prog_1_method_26_code 9 = .ok (.iload_n 2, 1) := by decide +kernel
theorem d_RR_narrow_10 : decode prog_1_method_26_code 10 = .ok (.aload_n 0, 1) := by decide +kernel
theorem d_RR_narrow_11 : decode prog_1_method_26_code 11 = .ok (.getfield 40, 3) := by decide +kernel
theorem d_RR_narrow_14 : decode prog_1_method_26_code 14 = .ok (.iload_n 2, 1) := by decide +kernel
theorem d_RR_narrow_15 : decode prog_1_method_26_code 15 = .ok (.laload, 1) := by decide +kernel
theorem d_RR_narrow_16 : decode prog_1_method_26_code 16 = .ok (.l2i, 1) := by decide +kernel
theorem d_RR_narrow_17 : decode prog_1_method_26_code 17 = .ok (.iastore, 1) := by decide +kernel
theorem d_RR_narrow_18 : decode prog_1_method_26_code 18 = .ok (.iinc 2 1, 3) := by decide +kernel
theorem d_RR_narrow_21 : decode prog_1_method_26_code 21 = .ok (.goto (-19), 3) := by decide +kernel
theorem d_RR_narrow_24 : decode prog_1_method_26_code 24 = .ok (.return_, 1) := by decide +kernel
set_option maxHeartbeats 8000000 in
set_option maxRecDepth 100000 in
theorem c_RR_narrow (l : Launch) (D : va_G) (cs : Nat → ClassId) (L : List Nat) (f : Nat → va_E) (sz : Nat) (x c0 c2 c3 c4 c5 c6 c7 c8 c9 c10 c11 : Nat) (hd ll ln : Int) (t : Nat) (w v : Nat → Int) (hF : Fc L [x, c5, t]) (ha : f x = .inr (6, [.ref c0, .int (iI hd), .ref c2, .ref c3, .ref c4, .ref c5, .ref c6, .ref c7, .ref c8, .ref c9, .ref c10, .ref c11, .int (iI ll), .int (iI ln)])) (hhd : 0 ≤ hd ∧ hd ≤ 12) (hw : f c5 = .inl (cs 1, 12, .inr (.inl (al w)))) (hv : f t = .inl (cs 0, 6, .inl (ai v))) : Met l (⟨"RealRoots", "narrow", "([I)V"⟩ : MethodName) (.code (⟨"RealRoots", "narrow", "([I)V"⟩ : MethodName) prog_1_method_26_code 3 (Option.none : Option Jvm.ClassFile.FieldType) :: gw) ({ frames := 0, cells := 0, slots := 0, locals := 0 }) (va_Pc [.ref x, .ref t] (K0 D vwCl (TY cs) L f sz)) (va_Qv (fun (g : Nat → va_E) => g = mw f [(t, .inl (cs 0, 6, .inl (ai (cf 6 w v))))]) (K1 D vwCl (TY cs) (AL L sz) L) (AL L sz)) 0 0 (AL L sz) := by
  refine Met.ofW (cc := prog_1_method_26_code) (maxL := 3) (ret := (Option.none : Option Jvm.ClassFile.FieldType)) (by decide) rfl ?_
  intro p e s m args below meth c s₁ Bd hml hv
  obtain ⟨rfl, hk0⟩ := hv
  obtain ⟨hsz, B⟩ := hk0.start
  subst hsz
  have hx := Bd.exec
  have hb := Bd.bytes
  have hr := Bd.returns
  have hlocks := Bd.notSynchronized
  have hts0 := atoms_spec Bd.pre
  have hown : s.vm.findClass RX6 = some m.cls := findClass_of_methodNamed Bd.named
  have hA : ∀ q, s.heap.size ≤ q → AL L s.heap.size q := fun _ h => Or.inr h
  have hl := lv_entry ([.ref x, .ref t]) (n := 3) (Nat.le_of_ble_eq_true rfl)
  rw [lg_entry_eq]
  generalize (lg_sl ([.ref x, .ref t]) ++ List.replicate (3 - (lg_sl ([.ref x, .ref t])).length) Slot.unset).toArray = ls at hl ⊢
  refine absQ (fun Q R av hQ hR hav => ?_)
  have hts : ∀ w ∈ gw, w.before av s = true := by rw [hav]; exact fun w h => hts0 w (List.mem_cons_of_mem _ h)
  have hRf : R.frames = 0 := by rw [hR]; rfl
  have hRl : R.locals = 0 := by rw [hR]; rfl
  have hRc : R.cells = 0 := by rw [hR]; rfl
  have hRs : R.slots = 0 := by rw [hR]; rfl
  clear hR hts0 Bd
  have hl : lv_has ls 3 [(0, .ref x), (1, .ref t)] := hl
  have hfx : ∀ q ∈ ([(x, .inr (6, [.ref c0, .int (iI hd), .ref c2, .ref c3, .ref c4, .ref c5, .ref c6, .ref c7, .ref c8, .ref c9, .ref c10, .ref c11, .int (iI ll), .int (iI ln)])), (c5, .inl (cs 1, 12, .inr (.inl (al w)))), (t, .inl (cs 0, 6, .inl (ai v)))] : List (Nat × va_E)), f q.1 = q.2 := fun q hq => by
    simp only [List.mem_cons, List.not_mem_nil, or_false] at hq
    rcases hq with rfl | rfl | rfl
    · exact ha
    · exact hw
    · exact hv
  have hmw : mw f [(x, .inr (6, [.ref c0, .int (iI hd), .ref c2, .ref c3, .ref c4, .ref c5, .ref c6, .ref c7, .ref c8, .ref c9, .ref c10, .ref c11, .int (iI ll), .int (iI ln)])), (c5, .inl (cs 1, 12, .inr (.inl (al w)))), (t, .inl (cs 0, 6, .inl (ai v)))] = f := mw_self (fun k a e hk => hfx (a, e) (List.mem_of_getElem? hk))
  have B := B.focus [(x, .inr (6, [.ref c0, .int (iI hd), .ref c2, .ref c3, .ref c4, .ref c5, .ref c6, .ref c7, .ref c8, .ref c9, .ref c10, .ref c11, .int (iI ll), .int (iI ln)])), (c5, .inl (cs 1, 12, .inr (.inl (al w)))), (t, .inl (cs 0, 6, .inl (ai v)))] hfx
  refine x_iconst hx hb d_RR_narrow_0 ?_
  refine lv_istore_n (lv' := [(2, .int (iI 0)), (0, .ref x), (1, .ref t)]) hx hb d_RR_narrow_1 rfl hl (by decide) rfl (fun ls hl => ?_)
  have LOOP : ∀ (n : Nat) (k : Int), 0 ≤ k → k + n = 6 → ∀ (H : Heap) (locs : List Loc) (ls : Array Slot), Wb D vwCl (TY cs) L (mw f [(x, .inr (6, [.ref c0, .int (iI hd), .ref c2, .ref c3, .ref c4, .ref c5, .ref c6, .ref c7, .ref c8, .ref c9, .ref c10, .ref c11, .int (iI ll), .int (iI ln)])), (c5, .inl (cs 1, 12, .inr (.inl (al w)))), (t, .inl (cs 0, 6, .inl (ai (cf k w v))))]) (AL L s.heap.size) s H locs → lv_has ls 3 [(2, .int (iI k)), (0, .ref x), (1, .ref t)] → W p l e R s m av below meth c H locs (0) (0) Q (F0 m 2 ls []) := by
    intro n
    induction n with
    | zero =>
      intro k hk0 hkn  H locs ls B hl
      have hke : k = 6 := by omega
      refine lv_iload_n hx hb d_RR_narrow_2 rfl (lv_at hl 0 rfl) ?_
      refine x_bipush hx hb d_RR_narrow_3 (by decide) ?_
      refine x_icmp_ge (tgt := 24) hx hb d_RR_narrow_5 (by decide) (by omega) (by omega) (fun h5 => ?_) (fun h5 => ?_)
      · subst hQ hav
        exact x_vret hx hb hr hlocks B d_RR_narrow_24 (by
      subst hke
      have h1 := List.nodup_cons.mp hF.1
      have h2 := List.nodup_cons.mp h1.2
      refine Eq.trans (mw_drop ha ?_) (mw_drop hw ?_)
      · exact h1.1
      · exact h2.1)
      · exfalso; omega
    | succ n ih =>
      intro k hk0 hkn  H locs ls B hl
      refine lv_iload_n hx hb d_RR_narrow_2 rfl (lv_at hl 0 rfl) ?_
      refine x_bipush hx hb d_RR_narrow_3 (by decide) ?_
      refine x_icmp_ge (tgt := 24) hx hb d_RR_narrow_5 (by decide) (by omega) (by omega) (fun h5 => ?_) (fun h5 => ?_)
      · exfalso; omega
      · refine lv_aload_n hx hb d_RR_narrow_8 rfl (lv_at hl 2 rfl) ?_
        refine lv_iload_n hx hb d_RR_narrow_9 rfl (lv_at hl 0 rfl) ?_
        refine lv_aload_n hx hb d_RR_narrow_10 rfl (lv_at hl 1 rfl) ?_
        refine x_get (C := RX6) (T := TX6) (N := 14) hx hb hts inX6 hown B hF 0 rfl rfl 5 (by decide) (hts _ w_202) (fun _ h9 => h9) rfl d_RR_narrow_11 ?_
        refine lv_iload_n hx hb d_RR_narrow_14 rfl (lv_at hl 0 rfl) ?_
        refine x_lald hx hb B hF 1 1 rfl rfl k.toNat (by omega) (by omega) (by decide) d_RR_narrow_15 ?_
        refine x_l2i hx hb d_RR_narrow_16 ?_
        refine x_iast hx hb B hF 2 0 rfl rfl k.toNat (by omega) (by omega) (by decide) d_RR_narrow_17 (fun H locs B => ?_)
        have B : Wb D vwCl (TY cs) L (mw f [(x, .inr (6, [.ref c0, .int (iI hd), .ref c2, .ref c3, .ref c4, .ref c5, .ref c6, .ref c7, .ref c8, .ref c9, .ref c10, .ref c11, .int (iI ll), .int (iI ln)])), (c5, .inl (cs 1, 12, .inr (.inl (al w)))), (t, .inl (cs 0, 6, .inl (ai (up (cf k w v) k.toNat (w k.toNat)))))]) (AL L s.heap.size) s H _ := B
        refine x_iinc (lv' := [(2, .int (iI (k + 1))), (0, .ref x), (1, .ref t)]) hx hb d_RR_narrow_18 hl (q := 0) rfl rfl (by decide) rfl (fun ls hl => ?_)
        refine lv_goto (tgt := 2) hx hb d_RR_narrow_21 (by decide) ?_
        rw [cf_step hk0] at B
        exact ih (k + 1) (by omega) (by omega)  _ _ _ B (lv_sub hl [0, 1, 2] rfl)
  have B := B.of_eq (show mw f [(x, .inr (6, [.ref c0, .int (iI hd), .ref c2, .ref c3, .ref c4, .ref c5, .ref c6, .ref c7, .ref c8, .ref c9, .ref c10, .ref c11, .int (iI ll), .int (iI ln)])), (c5, .inl (cs 1, 12, .inr (.inl (al w)))), (t, .inl (cs 0, 6, .inl (ai v)))] = mw f [(x, .inr (6, [.ref c0, .int (iI hd), .ref c2, .ref c3, .ref c4, .ref c5, .ref c6, .ref c7, .ref c8, .ref c9, .ref c10, .ref c11, .int (iI ll), .int (iI ln)])), (c5, .inl (cs 1, 12, .inr (.inl (al w)))), (t, .inl (cs 0, 6, .inl (ai (cf 0 w v))))] by rw [cf_0])
  exact LOOP 6 0 (by omega) (by omega)  _ _ _ B (lv_sub hl [0, 1, 2] rfl)
theorem d_RR_count_0 : decode prog_1_method_21_code 0 = .ok (.aload_n 0, 1) := by decide +kernel
theorem d_RR_count_1 : decode prog_1_method_21_code 1 = .ok (.getfield 15, 3) := by decide +kernel
theorem d_RR_count_4 : decode prog_1_method_21_code 4 = .ok (.ireturn, 1) := by decide +kernel
set_option maxHeartbeats 8000000 in
set_option maxRecDepth 100000 in
theorem c_RR_count (l : Launch) (D : va_G) (cs : Nat → ClassId) (L : List Nat) (f : Nat → va_E) (sz : Nat) (x c0 c2 c3 c4 c5 c6 c7 c8 c9 c10 c11 : Nat) (hd ll ln : Int) (hF : Fc L [x]) (ha : f x = .inr (6, [.ref c0, .int (iI hd), .ref c2, .ref c3, .ref c4, .ref c5, .ref c6, .ref c7, .ref c8, .ref c9, .ref c10, .ref c11, .int (iI ll), .int (iI ln)])) (hhd : 0 ≤ hd ∧ hd ≤ 12) : Met l (⟨"RealRoots", "count", "()I"⟩ : MethodName) (.code (⟨"RealRoots", "count", "()I"⟩ : MethodName) prog_1_method_21_code 1 (Option.some Jvm.ClassFile.FieldType.int) :: gw) ({ frames := 0, cells := 0, slots := 0, locals := 0 }) (va_Pc [.ref x] (K0 D vwCl (TY cs) L f sz)) (va_Qi (fun (r : Int32) (g : Nat → va_E) => r = iI hd ∧ g = f) (K1 D vwCl (TY cs) (AL L sz) L) (AL L sz)) 0 0 (AL L sz) := by
  refine Met.ofW (cc := prog_1_method_21_code) (maxL := 1) (ret := (Option.some Jvm.ClassFile.FieldType.int)) (by decide) rfl ?_
  intro p e s m args below meth c s₁ Bd hml hv
  obtain ⟨rfl, hk0⟩ := hv
  obtain ⟨hsz, B⟩ := hk0.start
  subst hsz
  have hx := Bd.exec
  have hb := Bd.bytes
  have hr := Bd.returns
  have hlocks := Bd.notSynchronized
  have hts0 := atoms_spec Bd.pre
  have hown : s.vm.findClass RX6 = some m.cls := findClass_of_methodNamed Bd.named
  have hA : ∀ q, s.heap.size ≤ q → AL L s.heap.size q := fun _ h => Or.inr h
  have hl := lv_entry ([.ref x]) (n := 1) (Nat.le_of_ble_eq_true rfl)
  rw [lg_entry_eq]
  generalize (lg_sl ([.ref x]) ++ List.replicate (1 - (lg_sl ([.ref x])).length) Slot.unset).toArray = ls at hl ⊢
  refine absQ (fun Q R av hQ hR hav => ?_)
  have hts : ∀ w ∈ gw, w.before av s = true := by rw [hav]; exact fun w h => hts0 w (List.mem_cons_of_mem _ h)
  have hRf : R.frames = 0 := by rw [hR]; rfl
  have hRl : R.locals = 0 := by rw [hR]; rfl
  have hRc : R.cells = 0 := by rw [hR]; rfl
  have hRs : R.slots = 0 := by rw [hR]; rfl
  clear hR hts0 Bd
  have hl : lv_has ls 1 [(0, .ref x)] := hl
  have hfx : ∀ q ∈ ([(x, .inr (6, [.ref c0, .int (iI hd), .ref c2, .ref c3, .ref c4, .ref c5, .ref c6, .ref c7, .ref c8, .ref c9, .ref c10, .ref c11, .int (iI ll), .int (iI ln)]))] : List (Nat × va_E)), f q.1 = q.2 := fun q hq => by
    simp only [List.mem_cons, List.not_mem_nil, or_false] at hq
    rcases hq with rfl
    · exact ha
  have hmw : mw f [(x, .inr (6, [.ref c0, .int (iI hd), .ref c2, .ref c3, .ref c4, .ref c5, .ref c6, .ref c7, .ref c8, .ref c9, .ref c10, .ref c11, .int (iI ll), .int (iI ln)]))] = f := mw_self (fun k a e hk => hfx (a, e) (List.mem_of_getElem? hk))
  have B := B.focus [(x, .inr (6, [.ref c0, .int (iI hd), .ref c2, .ref c3, .ref c4, .ref c5, .ref c6, .ref c7, .ref c8, .ref c9, .ref c10, .ref c11, .int (iI ll), .int (iI ln)]))] hfx
  refine lv_aload_n hx hb d_RR_count_0 rfl (lv_at hl 0 rfl) ?_
  refine x_get (C := RX6) (T := TX6) (N := 14) hx hb hts inX6 hown B hF 0 rfl rfl 1 (by decide) (hts _ w_198) (fun _ h9 => h9) rfl d_RR_count_1 ?_
  have B := B.of_eq hmw
  subst hQ hav
  exact x_iret hx hb hr hlocks B d_RR_count_4 (⟨rfl, rfl⟩)
