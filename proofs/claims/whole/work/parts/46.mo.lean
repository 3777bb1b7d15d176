theorem iI_eq0 {a : Int} (h : 0 ≤ a ∧ a < 4294967296) : iI a = 0 ↔ a = 0 := by
  constructor
  · intro hh
    have h1 : (iI a).toBitVec = (iI 0).toBitVec := by rw [hh]; rfl
    rw [iI_bv, iI_bv] at h1
    have h2 := congrArg BitVec.toNat h1
    rw [BitVec.toNat_ofInt, BitVec.toNat_ofInt] at h2
    omega
  · intro hh
    rw [hh]; rfl
section XC
variable {p : Program} {l : Launch} {e : Env} {R : Room} {s : State} {m : MethodId} {args : Array Value} {below : List Frame} {meth : Method} {c : Code} {H : Heap} {locs : List Loc} {cells slots : Nat} {Q : State → Prop}
variable {cc : ByteArray} {pc : Nat} {ls : Array Slot} {rest : List Value}
theorem x_i2lw (hx : p.tables.exec = Jvm.exec) (hb : c.code = cc) {a : Int} (hd : decode cc pc = .ok (.i2l, 1)) (k : W p l e R s m args below meth c H locs cells slots Q (F0 m (pc + 1) ls (.long (lI (a.bmod 4294967296)) :: rest))) : W p l e R s m args below meth c H locs cells slots Q (F0 m pc ls (.int (iI a) :: rest)) := lv_i2l hx hb hd (by rw [← lI_of (iI a).toInt64, Int32.toInt_toInt64]; congr 1; exact Int32.toInt_ofInt) k
theorem x_l2iw (hx : p.tables.exec = Jvm.exec) (hb : c.code = cc) {a : Int} (hd : decode cc pc = .ok (.l2i, 1)) (k : W p l e R s m args below meth c H locs cells slots Q (F0 m (pc + 1) ls (.int (iI (a % 4294967296)) :: rest))) : W p l e R s m args below meth c H locs cells slots Q (F0 m pc ls (.long (lI a) :: rest)) := lv_l2i hx hb hd ((lI_i a).trans (iI_wrap (by omega))) k
theorem x_lushr32 (hx : p.tables.exec = Jvm.exec) (hb : c.code = cc) {a : Int} (hd : decode cc pc = .ok (.lushr, 1)) (h1 : 0 ≤ a ∧ a < 18446744073709551616) (k : W p l e R s m args below meth c H locs cells slots Q (F0 m (pc + 1) ls (.long (lI (a / 4294967296)) :: rest))) : W p l e R s m args below meth c H locs cells slots Q (F0 m pc ls (.int (iI 32) :: .long (lI a) :: rest)) := lv_lushr hx hb hd (lI_ushr (k := 32) h1 (by decide)) k
theorem x_lshr32 (hx : p.tables.exec = Jvm.exec) (hb : c.code = cc) {a : Int} (hd : decode cc pc = .ok (.lshr, 1)) (h1 : -9223372036854775808 ≤ a ∧ a < 9223372036854775808) (k : W p l e R s m args below meth c H locs cells slots Q (F0 m (pc + 1) ls (.long (lI (a / 4294967296)) :: rest))) : W p l e R s m args below meth c H locs cells slots Q (F0 m pc ls (.int (iI 32) :: .long (lI a) :: rest)) := lv_lshr hx hb hd (lI_shr (k := 32) h1 (by decide)) k
theorem x_ifw_ne (hx : p.tables.exec = Jvm.exec) (hb : c.code = cc) {a : Int} {off : Int} {tgt : Nat} (hd : decode cc pc = .ok (.ifCond .ne off, 3)) (ht : (pc : Int) + off = (tgt : Int)) (h1 : 0 ≤ a ∧ a < 4294967296) (kt : a ≠ 0 → W p l e R s m args below meth c H locs cells slots Q (F0 m tgt ls rest)) (kf : a = 0 → W p l e R s m args below meth c H locs cells slots Q (F0 m (pc + 3) ls rest)) : W p l e R s m args below meth c H locs cells slots Q (F0 m pc ls (.int (iI a) :: rest)) := lv_if_ne hx hb hd ht (fun q => kt (fun z => q ((iI_eq0 h1).mpr z))) (fun q => kf ((iI_eq0 h1).mp q))
end XC
theorem d_Mo_low_0 : decode prog_9_method_6_code 0 = .ok (.iload_n 0, 1) := by decide +kernel
theorem d_Mo_low_1 : decode prog_9_method_6_code 1 = .ok (.i2l, 1) := by decide +kernel
theorem d_Mo_low_2 : decode prog_9_method_6_code 2 = .ok (.ldc2_w 55, 3) := by decide +kernel
theorem d_Mo_low_5 : decode prog_9_method_6_code 5 = .ok (.land, 1) := by decide +kernel
theorem d_Mo_low_6 : decode prog_9_method_6_code 6 = .ok (.lreturn, 1) := by decide +kernel
set_option maxHeartbeats 8000000 in
set_option maxRecDepth 100000 in
theorem c_Mo_low (l : Launch) (D : va_G) (cs : Nat → ClassId) (L : List Nat) (f : Nat → va_E) (sz : Nat) (v : Int)  : Met l (⟨"RealRootsModel", "low", "(I)J"⟩ : MethodName) (.code (⟨"RealRootsModel", "low", "(I)J"⟩ : MethodName) prog_9_method_6_code 1 (Option.some Jvm.ClassFile.FieldType.long) :: gw) ({ frames := 0, cells := 0, slots := 0, locals := 0 }) (va_Pc [.int (iI v)] (K0 D vwCl (TY cs) L f sz)) (va_Ql (fun (r : Int64) (g : Nat → va_E) => r = lI (v % 4294967296) ∧ g = f) (K1 D vwCl (TY cs) (AL L sz) L) (AL L sz)) 0 0 (AL L sz) := by
  refine Met.ofW (cc := prog_9_method_6_code) (maxL := 1) (ret := (Option.some Jvm.ClassFile.FieldType.long)) (by decide) rfl ?_
  intro p e s m args below meth c s₁ Bd hml hv
  obtain ⟨rfl, hk0⟩ := hv
  obtain ⟨hsz, B⟩ := hk0.start
  subst hsz
  have hx := Bd.exec
  have hb := Bd.bytes
  have hr := Bd.returns
  have hlocks := Bd.notSynchronized
  have hts0 := atoms_spec Bd.pre
  have hown : s.vm.findClass RX7 = some m.cls := findClass_of_methodNamed Bd.named
  have hA : ∀ q, s.heap.size ≤ q → AL L s.heap.size q := fun _ h => Or.inr h
  have hl := lv_entry ([.int (iI v)]) (n := 1) (Nat.le_of_ble_eq_true rfl)
  rw [lg_entry_eq]
  generalize (lg_sl ([.int (iI v)]) ++ List.replicate (1 - (lg_sl ([.int (iI v)])).length) Slot.unset).toArray = ls at hl ⊢
  refine absQ (fun Q R av hQ hR hav => ?_)
  have hts : ∀ w ∈ gw, w.before av s = true := by rw [hav]; exact fun w h => hts0 w (List.mem_cons_of_mem _ h)
  have hRf : R.frames = 0 := by rw [hR]; rfl
  have hRl : R.locals = 0 := by rw [hR]; rfl
  have hRc : R.cells = 0 := by rw [hR]; rfl
  have hRs : R.slots = 0 := by rw [hR]; rfl
  clear hR hts0 Bd
  have hl : lv_has ls 1 [(0, .int (iI v))] := hl
  refine lv_iload_n hx hb d_Mo_low_0 rfl (lv_at hl 0 rfl) ?_
  refine x_i2lw hx hb d_Mo_low_1 ?_
  refine x_ldc2 (z := 4294967295) hx hb hown (hts _ w_815) (by decide) d_Mo_low_2 ?_
  refine x_land32 hx hb d_Mo_low_5 ?_
  subst hQ hav
  exact x_lret hx hb hr hlocks B d_Mo_low_6 (⟨by rw [show v.bmod 4294967296 % 4294967296 = v % 4294967296 from Int.bmod_emod], rfl⟩)
theorem d_Mo_limbOf_0 : decode prog_9_method_10_code 0 = .ok (.iload_n 2, 1) := by decide +kernel
theorem d_Mo_limbOf_1 : decode prog_9_method_10_code 1 = .ok (.aload_n 0, 1) := by decide +kernel
theorem d_Mo_limbOf_2 : decode prog_9_method_10_code 2 = .ok (.getfield 13, 3) := by decide +kernel
theorem d_Mo_limbOf_5 : decode prog_9_method_10_code 5 = .ok (.iload_n 1, 1) := by decide +kernel
theorem d_Mo_limbOf_6 : decode prog_9_method_10_code 6 = .ok (.iaload, 1) := by decide +kernel
theorem d_Mo_limbOf_7 : decode prog_9_method_10_code 7 = .ok (.if_icmp .ge 20, 3) := by decide +kernel
theorem d_Mo_limbOf_10 : decode prog_9_method_10_code 10 = .ok (.aload_n 0, 1) := by decide +kernel
theorem d_Mo_limbOf_11 : decode prog_9_method_10_code 11 = .ok (.getfield 7, 3) := by decide +kernel
theorem d_Mo_limbOf_14 : decode prog_9_method_10_code 14 = .ok (.bipush 64, 2) := by decide +kernel
theorem d_Mo_limbOf_16 : decode prog_9_method_10_code 16 = .ok (.iload_n 1, 1) := by decide +kernel
theorem d_Mo_limbOf_17 : decode prog_9_method_10_code 17 = .ok (.imul, 1) := by decide +kernel
theorem d_Mo_limbOf_18 : decode prog_9_method_10_code 18 = .ok (.iload_n 2, 1) := by decide +kernel
theorem d_Mo_limbOf_19 : decode prog_9_method_10_code 19 = .ok (.iadd, 1) := by decide +kernel
theorem d_Mo_limbOf_20 : decode prog_9_method_10_code 20 = .ok (.iaload, 1) := by decide +kernel
theorem d_Mo_limbOf_21 : decode prog_9_method_10_code 21 = .ok (.invokestatic 57, 3) := by decide +kernel
theorem d_Mo_limbOf_24 : decode prog_9_method_10_code 24 = .ok (.goto 4, 3) := by decide +kernel
theorem d_Mo_limbOf_27 : decode prog_9_method_10_code 27 = .ok (.lconst 0, 1) := by decide +kernel
theorem d_Mo_limbOf_28 : decode prog_9_method_10_code 28 = .ok (.lreturn, 1) := by decide +kernel
set_option maxHeartbeats 8000000 in
set_option maxRecDepth 100000 in
theorem c_Mo_limbOf (l : Launch) (D : va_G) (cs : Nat → ClassId) (L : List Nat) (f : Nat → va_E) (sz : Nat) (y m1 m2 m3 m5 m6 m7 m8 m9 m10 m11 m12 m13 m15 : Nat) (th pn rw_ fu fb : Int) (lm mn sn : Nat → Int) (x k nx : Nat) (hF : Fc L [y, m1, m2, m3]) (ha : f y = .inr (7, [.int (iI th), .ref m1, .ref m2, .ref m3, .int (iI pn), .ref m5, .ref m6, .ref m7, .ref m8, .ref m9, .ref m10, .ref m11, .ref m12, .ref m13, .int (iI rw_), .ref m15, .long (lI fu), .long (lI fb)])) (hm1 : f m1 = .inl (cs 0, 11520, .inl (ai lm))) (hm2 : f m2 = .inl (cs 0, 180, .inl (ai mn))) (hm3 : f m3 = .inl (cs 0, 180, .inl (ai sn))) (hx8 : x < 180) (hk8 : k < 64) (hnx : mn x = (nx : Int)) (hn8 : nx ≤ 64) (hMb : k < nx → 0 ≤ fl lm x k ∧ fl lm x k < 4294967296) : Met l (⟨"RealRootsModel", "limbOf", "(II)J"⟩ : MethodName) (.code (⟨"RealRootsModel", "limbOf", "(II)J"⟩ : MethodName) prog_9_method_10_code 3 (Option.some Jvm.ClassFile.FieldType.long) :: gw) ({ frames := 1, cells := 0, slots := 0, locals := 20 }) (va_Pc [.ref y, .int (iI ((x : Int))), .int (iI ((k : Int)))] (K0 D vwCl (TY cs) L f sz)) (va_Ql (fun (r : Int64) (g : Nat → va_E) => r = lI (mAt (fl lm x) nx k) ∧ g = f) (K1 D vwCl (TY cs) (AL L sz) L) (AL L sz)) 0 0 (AL L sz) := by
  refine Met.ofW (cc := prog_9_method_10_code) (maxL := 3) (ret := (Option.some Jvm.ClassFile.FieldType.long)) (by decide) rfl ?_
  intro p e s m args below meth c s₁ Bd hml hv
  obtain ⟨rfl, hk0⟩ := hv
  obtain ⟨hsz, B⟩ := hk0.start
  subst hsz
  have hx := Bd.exec
  have hb := Bd.bytes
  have hr := Bd.returns
  have hlocks := Bd.notSynchronized
  have hts0 := atoms_spec Bd.pre
  have hown : s.vm.findClass RX7 = some m.cls := findClass_of_methodNamed Bd.named
  have hA : ∀ q, s.heap.size ≤ q → AL L s.heap.size q := fun _ h => Or.inr h
  have hl := lv_entry ([.ref y, .int (iI ((x : Int))), .int (iI ((k : Int)))]) (n := 3) (Nat.le_of_ble_eq_true rfl)
  rw [lg_entry_eq]
  generalize (lg_sl ([.ref y, .int (iI ((x : Int))), .int (iI ((k : Int)))]) ++ List.replicate (3 - (lg_sl ([.ref y, .int (iI ((x : Int))), .int (iI ((k : Int)))])).length) Slot.unset).toArray = ls at hl ⊢
  refine absQ (fun Q R av hQ hR hav => ?_)
  have hts : ∀ w ∈ gw, w.before av s = true := by rw [hav]; exact fun w h => hts0 w (List.mem_cons_of_mem _ h)
  have hRf : R.frames = 1 := by rw [hR]; rfl
  have hRl : R.locals = 20 := by rw [hR]; rfl
  have hRc : R.cells = 0 := by rw [hR]; rfl
  have hRs : R.slots = 0 := by rw [hR]; rfl
  clear hR hts0 Bd
  have hl : lv_has ls 3 [(0, .ref y), (1, .int (iI ((x : Int)))), (2, .int (iI ((k : Int))))] := hl
  have hfx : ∀ q ∈ ([(y, .inr (7, [.int (iI th), .ref m1, .ref m2, .ref m3, .int (iI pn), .ref m5, .ref m6, .ref m7, .ref m8, .ref m9, .ref m10, .ref m11, .ref m12, .ref m13, .int (iI rw_), .ref m15, .long (lI fu), .long (lI fb)])), (m1, .inl (cs 0, 11520, .inl (ai lm))), (m2, .inl (cs 0, 180, .inl (ai mn))), (m3, .inl (cs 0, 180, .inl (ai sn)))] : List (Nat × va_E)), f q.1 = q.2 := fun q hq => by
    simp only [List.mem_cons, List.not_mem_nil, or_false] at hq
    rcases hq with rfl | rfl | rfl | rfl
    · exact ha
    · exact hm1
    · exact hm2
    · exact hm3
  have hmw : mw f [(y, .inr (7, [.int (iI th), .ref m1, .ref m2, .ref m3, .int (iI pn), .ref m5, .ref m6, .ref m7, .ref m8, .ref m9, .ref m10, .ref m11, .ref m12, .ref m13, .int (iI rw_), .ref m15, .long (lI fu), .long (lI fb)])), (m1, .inl (cs 0, 11520, .inl (ai lm))), (m2, .inl (cs 0, 180, .inl (ai mn))), (m3, .inl (cs 0, 180, .inl (ai sn)))] = f := mw_self (fun k a e hk => hfx (a, e) (List.mem_of_getElem? hk))
  have B := B.focus [(y, .inr (7, [.int (iI th), .ref m1, .ref m2, .ref m3, .int (iI pn), .ref m5, .ref m6, .ref m7, .ref m8, .ref m9, .ref m10, .ref m11, .ref m12, .ref m13, .int (iI rw_), .ref m15, .long (lI fu), .long (lI fb)])), (m1, .inl (cs 0, 11520, .inl (ai lm))), (m2, .inl (cs 0, 180, .inl (ai mn))), (m3, .inl (cs 0, 180, .inl (ai sn)))] hfx
  refine lv_iload_n hx hb d_Mo_limbOf_0 rfl (lv_at hl 2 rfl) ?_
  refine lv_aload_n hx hb d_Mo_limbOf_1 rfl (lv_at hl 0 rfl) ?_
  refine x_get (C := RX7) (T := TX7) (N := 18) hx hb hts inX7 hown B hF 0 rfl rfl 2 (by decide) (hts _ w_679) (fun _ h9 => h9) rfl d_Mo_limbOf_2 ?_
  refine lv_iload_n hx hb d_Mo_limbOf_5 rfl (lv_at hl 1 rfl) ?_
  refine x_iald hx hb B hF 2 0 rfl rfl x (by omega) (by omega) (by decide) d_Mo_limbOf_6 ?_
  refine x_icmp_ge (tgt := 27) hx hb d_Mo_limbOf_7 (by decide) (by omega) (by omega) (fun h7 => ?_) (fun h7 => ?_)
  · refine x_lconst (z := 0) hx hb d_Mo_limbOf_27 (by decide) ?_
    have B := B.of_eq hmw
    subst hQ hav
    exact x_lret hx hb hr hlocks B d_Mo_limbOf_28 (⟨by rw [mAt, if_neg (by omega)], rfl⟩)
  · refine lv_aload_n hx hb d_Mo_limbOf_10 rfl (lv_at hl 0 rfl) ?_
    refine x_get (C := RX7) (T := TX7) (N := 18) hx hb hts inX7 hown B hF 0 rfl rfl 1 (by decide) (hts _ w_678) (fun _ h9 => h9) rfl d_Mo_limbOf_11 ?_
    refine x_bipush hx hb d_Mo_limbOf_14 (by decide) ?_
    refine lv_iload_n hx hb d_Mo_limbOf_16 rfl (lv_at hl 1 rfl) ?_
    refine x_imul hx hb d_Mo_limbOf_17 ?_
    refine lv_iload_n hx hb d_Mo_limbOf_18 rfl (lv_at hl 2 rfl) ?_
    refine x_iadd hx hb d_Mo_limbOf_19 ?_
    refine x_iald hx hb B hF 1 0 rfl rfl (64 * x + k) (by omega) (by omega) (by decide) d_Mo_limbOf_20 ?_
    refine x_calll B hA (va_runS (As := [.int (iI (lm (64 * x + k)))]) (rest := []) ⟨hx, hb, hml, hown, hts⟩ (c_Mo_low l D cs _ _ _ (lm (64 * x + k))) (va_cwS 1 hts (gw_S w_812 w_813 w_8 w_814) rfl rfl rfl (by decide +kernel) ⟨by rw [hRf]; exact Nat.le_of_ble_eq_true rfl, by rw [hRl]; exact Nat.le_of_ble_eq_true rfl⟩) ⟨K0.blind, B.pre _⟩ rfl rfl hl.1 rfl (lv_room (Nat.le_of_ble_eq_true rfl)) d_Mo_limbOf_21 ⟨by rw [hRc]; omega, by rw [hRs]; omega⟩) (fun r21 g21 H locs hw B => ?_)
    obtain ⟨rfl, rfl⟩ := hw
    have B : Wb D vwCl (TY cs) L (mw f [(y, .inr (7, [.int (iI th), .ref m1, .ref m2, .ref m3, .int (iI pn), .ref m5, .ref m6, .ref m7, .ref m8, .ref m9, .ref m10, .ref m11, .ref m12, .ref m13, .int (iI rw_), .ref m15, .long (lI fu), .long (lI fb)])), (m1, .inl (cs 0, 11520, .inl (ai lm))), (m2, .inl (cs 0, 180, .inl (ai mn))), (m3, .inl (cs 0, 180, .inl (ai sn)))]) (AL L s.heap.size) s H _ := B
    refine lv_goto (tgt := 28) hx hb d_Mo_limbOf_24 (by decide) ?_
    have B := B.of_eq hmw
    subst hQ hav
    exact x_lret hx hb hr hlocks B d_Mo_limbOf_28 (⟨by rw [mAt, if_pos (by omega)]; have := hMb (by omega); rw [show lm (64 * x + k) % 4294967296 = fl lm x k from Int.emod_eq_of_lt this.1 this.2], rfl⟩)
theorem d_Mo_lay0_0 : decode prog_9_method_4_code 0 = .ok (.lload_n 2, 1) := by decide +kernel
theorem d_Mo_lay0_1 : decode prog_9_method_4_code 1 = .ok (.lconst 0, 1) := by decide +kernel
theorem d_Mo_lay0_2 : decode prog_9_method_4_code 2 = .ok (.lcmp, 1) := by decide +kernel
theorem d_Mo_lay0_3 : decode prog_9_method_4_code 3 = .ok (.ifCond .ge 8, 3) := by decide +kernel
theorem d_Mo_lay0_6 : decode prog_9_method_4_code 6 = .ok (.lload_n 2, 1) := by decide +kernel
theorem d_Mo_lay0_7 : decode prog_9_method_4_code 7 = .ok (.lneg, 1) := by decide +kernel
theorem d_Mo_lay0_8 : decode prog_9_method_4_code 8 = .ok (.goto 4, 3) := by decide +kernel
theorem d_Mo_lay0_11 : decode prog_9_method_4_code 11 = .ok (.lload_n 2, 1) := by decide +kernel
theorem d_Mo_lay0_12 : decode prog_9_method_4_code 12 = .ok (.lstore 4, 2) := by decide +kernel
theorem d_Mo_lay0_14 : decode prog_9_method_4_code 14 = .ok (.aload_n 0, 1) := by decide +kernel
theorem d_Mo_lay0_15 : decode prog_9_method_4_code 15 = .ok (.getfield 16, 3) := by decide +kernel
theorem d_Mo_lay0_18 : decode prog_9_method_4_code 18 = .ok (.iload_n 1, 1) := by decide +kernel
theorem d_Mo_lay0_19 : decode prog_9_method_4_code 19 = .ok (.lload_n 2, 1) := by decide +kernel
theorem d_Mo_lay0_20 : decode prog_9_method_4_code 20 = .ok (.lconst 0, 1) := by decide +kernel
theorem d_Mo_lay0_21 : decode prog_9_method_4_code 21 = .ok (.lcmp, 1) := by decide +kernel
theorem d_Mo_lay0_22 : decode prog_9_method_4_code 22 = .ok (.ifCond .ge 7, 3) := by decide +kernel
theorem d_Mo_lay0_25 : decode prog_9_method_4_code 25 = .ok (.iconst (-1), 1) := by decide +kernel
theorem d_Mo_lay0_26 : decode prog_9_method_4_code 26 = .ok (.goto 14, 3) := by decide +kernel
theorem d_Mo_lay0_29 : decode prog_9_method_4_code 29 = .ok (.lload_n 2, 1) := by decide +kernel
theorem d_Mo_lay0_30 : decode prog_9_method_4_code 30 = .ok (.lconst 0, 1) := by decide +kernel
theorem d_Mo_lay0_31 : decode prog_9_method_4_code 31 = .ok (.lcmp, 1) := by decide +kernel
theorem d_Mo_lay0_32 : decode prog_9_method_4_code 32 = .ok (.ifCond .le 7, 3) := by decide +kernel
theorem d_Mo_lay0_35 : decode prog_9_method_4_code 35 = .ok (.iconst 1, 1) := by decide +kernel
theorem d_Mo_lay0_36 : decode prog_9_method_4_code 36 = .ok (.goto 4, 3) := by decide +kernel
theorem d_Mo_lay0_39 : decode prog_9_method_4_code 39 = .ok (.iconst 0, 1) := by decide +kernel
theorem d_Mo_lay0_40 : decode prog_9_method_4_code 40 = .ok (.iastore, 1) := by decide +kernel
theorem d_Mo_lay0_41 : decode prog_9_method_4_code 41 = .ok (.aload_n 0, 1) := by decide +kernel
theorem d_Mo_lay0_42 : decode prog_9_method_4_code 42 = .ok (.getfield 7, 3) := by decide +kernel
theorem d_Mo_lay0_45 : decode prog_9_method_4_code 45 = .ok (.bipush 64, 2) := by decide +kernel
theorem d_Mo_lay0_47 : decode prog_9_method_4_code 47 = .ok (.iload_n 1, 1) := by decide +kernel
theorem d_Mo_lay0_48 : decode prog_9_method_4_code 48 = .ok (.imul, 1) := by decide +kernel
theorem d_Mo_lay0_49 : decode prog_9_method_4_code 49 = .ok (.lload 4, 2) := by decide +kernel
theorem d_Mo_lay0_51 : decode prog_9_method_4_code 51 = .ok (.l2i, 1) := by decide +kernel
theorem d_Mo_lay0_52 : decode prog_9_method_4_code 52 = .ok (.iastore, 1) := by decide +kernel
theorem d_Mo_lay0_53 : decode prog_9_method_4_code 53 = .ok (.aload_n 0, 1) := by decide +kernel
theorem d_Mo_lay0_54 : decode prog_9_method_4_code 54 = .ok (.getfield 7, 3) := by decide +kernel
theorem d_Mo_lay0_57 : decode prog_9_method_4_code 57 = .ok (.bipush 64, 2) := by decide +kernel
theorem d_Mo_lay0_59 : decode prog_9_method_4_code 59 = .ok (.iload_n 1, 1) := by decide +kernel
theorem d_Mo_lay0_60 : decode prog_9_method_4_code 60 = .ok (.imul, 1) := by decide +kernel
theorem d_Mo_lay0_61 : decode prog_9_method_4_code 61 = .ok (.iconst 1, 1) := by decide +kernel
theorem d_Mo_lay0_62 : decode prog_9_method_4_code 62 = .ok (.iadd, 1) := by decide +kernel
theorem d_Mo_lay0_63 : decode prog_9_method_4_code 63 = .ok (.lload 4, 2) := by decide +kernel
theorem d_Mo_lay0_65 : decode prog_9_method_4_code 65 = .ok (.bipush 32, 2) := by decide +kernel
theorem d_Mo_lay0_67 : decode prog_9_method_4_code 67 = .ok (.lushr, 1) := by decide +kernel
theorem d_Mo_lay0_68 : decode prog_9_method_4_code 68 = .ok (.l2i, 1) := by decide +kernel
theorem d_Mo_lay0_69 : decode prog_9_method_4_code 69 = .ok (.iastore, 1) := by decide +kernel
theorem d_Mo_lay0_70 : decode prog_9_method_4_code 70 = .ok (.aload_n 0, 1) := by decide +kernel
theorem d_Mo_lay0_71 : decode prog_9_method_4_code 71 = .ok (.getfield 13, 3) := by decide +kernel
theorem d_Mo_lay0_74 : decode prog_9_method_4_code 74 = .ok (.iload_n 1, 1) := by decide +kernel
theorem d_Mo_lay0_75 : decode prog_9_method_4_code 75 = .ok (.lload 4, 2) := by decide +kernel
theorem d_Mo_lay0_77 : decode prog_9_method_4_code 77 = .ok (.lconst 0, 1) := by decide +kernel
theorem d_Mo_lay0_78 : decode prog_9_method_4_code 78 = .ok (.lcmp, 1) := by decide +kernel
theorem d_Mo_lay0_79 : decode prog_9_method_4_code 79 = .ok (.ifCond .ne 7, 3) := by decide +kernel
theorem d_Mo_lay0_82 : decode prog_9_method_4_code 82 = .ok (.iconst 0, 1) := by decide +kernel
theorem d_Mo_lay0_83 : decode prog_9_method_4_code 83 = .ok (.goto 18, 3) := by decide +kernel
theorem d_Mo_lay0_86 : decode prog_9_method_4_code 86 = .ok (.lload 4, 2) := by decide +kernel
theorem d_Mo_lay0_88 : decode prog_9_method_4_code 88 = .ok (.bipush 32, 2) := by decide +kernel
theorem d_Mo_lay0_90 : decode prog_9_method_4_code 90 = .ok (.lushr, 1) := by decide +kernel
theorem d_Mo_lay0_91 : decode prog_9_method_4_code 91 = .ok (.lconst 0, 1) := by decide +kernel
theorem d_Mo_lay0_92 : decode prog_9_method_4_code 92 = .ok (.lcmp, 1) := by decide +kernel
theorem d_Mo_lay0_93 : decode prog_9_method_4_code 93 = .ok (.ifCond .ne 7, 3) := by decide +kernel
theorem d_Mo_lay0_96 : decode prog_9_method_4_code 96 = .ok (.iconst 1, 1) := by decide +kernel
theorem d_Mo_lay0_97 : decode prog_9_method_4_code 97 = .ok (.goto 4, 3) := by decide +kernel
theorem d_Mo_lay0_100 : decode prog_9_method_4_code 100 = .ok (.iconst 2, 1) := by decide +kernel
theorem d_Mo_lay0_101 : decode prog_9_method_4_code 101 = .ok (.iastore, 1) := by decide +kernel
theorem d_Mo_lay0_102 : decode prog_9_method_4_code 102 = .ok (.return_, 1) := by decide +kernel
set_option maxHeartbeats 8000000 in
set_option maxRecDepth 100000 in
theorem c_Mo_lay0 (l : Launch) (D : va_G) (cs : Nat → ClassId) (L : List Nat) (f : Nat → va_E) (sz : Nat) (y m1 m2 m3 m5 m6 m7 m8 m9 m10 m11 m12 m13 m15 : Nat) (th pn rw_ fu fb : Int) (lm mn sn Z : Nat → Int) (x : Nat) (v : Int) (hF : Fc L [y, m1, m2, m3]) (ha : f y = .inr (7, [.int (iI th), .ref m1, .ref m2, .ref m3, .int (iI pn), .ref m5, .ref m6, .ref m7, .ref m8, .ref m9, .ref m10, .ref m11, .ref m12, .ref m13, .int (iI rw_), .ref m15, .long (lI fu), .long (lI fb)])) (hm1 : f m1 = .inl (cs 0, 11520, .inl (ai lm))) (hm2 : f m2 = .inl (cs 0, 180, .inl (ai mn))) (hm3 : f m3 = .inl (cs 0, 180, .inl (ai sn))) (hRS : RS lm mn sn Z) (hx8 : x < 180) (hvr : -9223372036854775808 < v ∧ v < 9223372036854775808) : Met l (⟨"RealRootsModel", "lay0", "(IJ)V"⟩ : MethodName) (.code (⟨"RealRootsModel", "lay0", "(IJ)V"⟩ : MethodName) prog_9_method_4_code 6 (Option.none : Option Jvm.ClassFile.FieldType) :: gw) ({ frames := 0, cells := 0, slots := 0, locals := 0 }) (va_Pc [.ref y, .int (iI ((x : Int))), .long (lI v)] (K0 D vwCl (TY cs) L f sz)) (va_Qv (fun (g : Nat → va_E) => ∃ lm' mn' sn' : Nat → Int, RS lm' mn' sn' (up Z x v) ∧ g = mw f [(m1, .inl (cs 0, 11520, .inl (ai (lm')))), (m2, .inl (cs 0, 180, .inl (ai (mn')))), (m3, .inl (cs 0, 180, .inl (ai (sn'))))]) (K1 D vwCl (TY cs) (AL L sz) L) (AL L sz)) 0 0 (AL L sz) := by
  refine Met.ofW (cc := prog_9_method_4_code) (maxL := 6) (ret := (Option.none : Option Jvm.ClassFile.FieldType)) (by decide) rfl ?_
  intro p e s m args below meth c s₁ Bd hml hv
  obtain ⟨rfl, hk0⟩ := hv
  obtain ⟨hsz, B⟩ := hk0.start
  subst hsz
  have hx := Bd.exec
  have hb := Bd.bytes
  have hr := Bd.returns
  have hlocks := Bd.notSynchronized
  have hts0 := atoms_spec Bd.pre
  have hown : s.vm.findClass RX7 = some m.cls := findClass_of_methodNamed Bd.named
  have hA : ∀ q, s.heap.size ≤ q → AL L s.heap.size q := fun _ h => Or.inr h
  have hl := lv_entry ([.ref y, .int (iI ((x : Int))), .long (lI v)]) (n := 6) (Nat.le_of_ble_eq_true rfl)
  rw [lg_entry_eq]
  generalize (lg_sl ([.ref y, .int (iI ((x : Int))), .long (lI v)]) ++ List.replicate (6 - (lg_sl ([.ref y, .int (iI ((x : Int))), .long (lI v)])).length) Slot.unset).toArray = ls at hl ⊢
  refine absQ (fun Q R av hQ hR hav => ?_)
  have hts : ∀ w ∈ gw, w.before av s = true := by rw [hav]; exact fun w h => hts0 w (List.mem_cons_of_mem _ h)
  have hRf : R.frames = 0 := by rw [hR]; rfl
  have hRl : R.locals = 0 := by rw [hR]; rfl
  have hRc : R.cells = 0 := by rw [hR]; rfl
  have hRs : R.slots = 0 := by rw [hR]; rfl
  clear hR hts0 Bd
  have hl : lv_has ls 6 [(0, .ref y), (1, .int (iI ((x : Int)))), (2, .long (lI v))] := hl
  have hfx : ∀ q ∈ ([(y, .inr (7, [.int (iI th), .ref m1, .ref m2, .ref m3, .int (iI pn), .ref m5, .ref m6, .ref m7, .ref m8, .ref m9, .ref m10, .ref m11, .ref m12, .ref m13, .int (iI rw_), .ref m15, .long (lI fu), .long (lI fb)])), (m1, .inl (cs 0, 11520, .inl (ai lm))), (m2, .inl (cs 0, 180, .inl (ai mn))), (m3, .inl (cs 0, 180, .inl (ai sn)))] : List (Nat × va_E)), f q.1 = q.2 := fun q hq => by
    simp only [List.mem_cons, List.not_mem_nil, or_false] at hq
    rcases hq with rfl | rfl | rfl | rfl
    · exact ha
    · exact hm1
    · exact hm2
    · exact hm3
  have hmw : mw f [(y, .inr (7, [.int (iI th), .ref m1, .ref m2, .ref m3, .int (iI pn), .ref m5, .ref m6, .ref m7, .ref m8, .ref m9, .ref m10, .ref m11, .ref m12, .ref m13, .int (iI rw_), .ref m15, .long (lI fu), .long (lI fb)])), (m1, .inl (cs 0, 11520, .inl (ai lm))), (m2, .inl (cs 0, 180, .inl (ai mn))), (m3, .inl (cs 0, 180, .inl (ai sn)))] = f := mw_self (fun k a e hk => hfx (a, e) (List.mem_of_getElem? hk))
  have B := B.focus [(y, .inr (7, [.int (iI th), .ref m1, .ref m2, .ref m3, .int (iI pn), .ref m5, .ref m6, .ref m7, .ref m8, .ref m9, .ref m10, .ref m11, .ref m12, .ref m13, .int (iI rw_), .ref m15, .long (lI fu), .long (lI fb)])), (m1, .inl (cs 0, 11520, .inl (ai lm))), (m2, .inl (cs 0, 180, .inl (ai mn))), (m3, .inl (cs 0, 180, .inl (ai sn)))] hfx
  have J1 : ∀ (mg : Int), (mg = (v.natAbs : Int)) → ∀ (H : Heap) (locs : List Loc) (ls : Array Slot), Wb D vwCl (TY cs) L (mw f [(y, .inr (7, [.int (iI th), .ref m1, .ref m2, .ref m3, .int (iI pn), .ref m5, .ref m6, .ref m7, .ref m8, .ref m9, .ref m10, .ref m11, .ref m12, .ref m13, .int (iI rw_), .ref m15, .long (lI fu), .long (lI fb)])), (m1, .inl (cs 0, 11520, .inl (ai lm))), (m2, .inl (cs 0, 180, .inl (ai mn))), (m3, .inl (cs 0, 180, .inl (ai sn)))]) (AL L s.heap.size) s H locs → lv_has ls 6 [(0, .ref y), (1, .int (iI ((x : Int)))), (2, .long (lI v))] → W p l e R s m av below meth c H locs (0) (0) Q (F0 m 12 ls [.long (lI mg)]) := by
    intro mg hmg H locs ls B hl
    refine lv_lstore (lv' := [(4, .long (lI mg)), (0, .ref y), (1, .int (iI ((x : Int)))), (2, .long (lI v))]) hx hb d_Mo_lay0_12 hl (by decide) rfl (fun ls hl => ?_)
    have J2 : ∀ (t : Int), (t = v.sign) → ∀ (H : Heap) (locs : List Loc) (ls : Array Slot), Wb D vwCl (TY cs) L (mw f [(y, .inr (7, [.int (iI th), .ref m1, .ref m2, .ref m3, .int (iI pn), .ref m5, .ref m6, .ref m7, .ref m8, .ref m9, .ref m10, .ref m11, .ref m12, .ref m13, .int (iI rw_), .ref m15, .long (lI fu), .long (lI fb)])), (m1, .inl (cs 0, 11520, .inl (ai lm))), (m2, .inl (cs 0, 180, .inl (ai mn))), (m3, .inl (cs 0, 180, .inl (ai sn)))]) (AL L s.heap.size) s H locs → lv_has ls 6 [(4, .long (lI mg)), (0, .ref y), (1, .int (iI ((x : Int)))), (2, .long (lI v))] → W p l e R s m av below meth c H locs (0) (0) Q (F0 m 40 ls [.int (iI t), .int (iI ((x : Int))), .ref m3]) := by
      intro t ht H locs ls B hl
      refine x_iast hx hb B hF 3 0 rfl rfl x (by omega) (by omega) (by decide) d_Mo_lay0_40 (fun H locs B => ?_)
      have B : Wb D vwCl (TY cs) L (mw f [(y, .inr (7, [.int (iI th), .ref m1, .ref m2, .ref m3, .int (iI pn), .ref m5, .ref m6, .ref m7, .ref m8, .ref m9, .ref m10, .ref m11, .ref m12, .ref m13, .int (iI rw_), .ref m15, .long (lI fu), .long (lI fb)])), (m1, .inl (cs 0, 11520, .inl (ai lm))), (m2, .inl (cs 0, 180, .inl (ai mn))), (m3, .inl (cs 0, 180, .inl (ai (up sn x t))))]) (AL L s.heap.size) s H _ := B
      refine lv_aload_n hx hb d_Mo_lay0_41 rfl (lv_at hl 1 rfl) ?_
      refine x_get (C := RX7) (T := TX7) (N := 18) hx hb hts inX7 hown B hF 0 rfl rfl 1 (by decide) (hts _ w_678) (fun _ h9 => h9) rfl d_Mo_lay0_42 ?_
      refine x_bipush hx hb d_Mo_lay0_45 (by decide) ?_
      refine lv_iload_n hx hb d_Mo_lay0_47 rfl (lv_at hl 2 rfl) ?_
      refine x_imul hx hb d_Mo_lay0_48 ?_
      refine lv_lload hx hb d_Mo_lay0_49 (lv_at hl 0 rfl) ?_
      refine x_l2iw hx hb d_Mo_lay0_51 ?_
      refine x_iast hx hb B hF 1 0 rfl rfl (64 * x + 0) (by omega) (by omega) (by decide) d_Mo_lay0_52 (fun H locs B => ?_)
      have B : Wb D vwCl (TY cs) L (mw f [(y, .inr (7, [.int (iI th), .ref m1, .ref m2, .ref m3, .int (iI pn), .ref m5, .ref m6, .ref m7, .ref m8, .ref m9, .ref m10, .ref m11, .ref m12, .ref m13, .int (iI rw_), .ref m15, .long (lI fu), .long (lI fb)])), (m1, .inl (cs 0, 11520, .inl (ai (up lm (64 * x + 0) (mg % 4294967296))))), (m2, .inl (cs 0, 180, .inl (ai mn))), (m3, .inl (cs 0, 180, .inl (ai (up sn x t))))]) (AL L s.heap.size) s H _ := B
      refine lv_aload_n hx hb d_Mo_lay0_53 rfl (lv_at hl 1 rfl) ?_
      refine x_get (C := RX7) (T := TX7) (N := 18) hx hb hts inX7 hown B hF 0 rfl rfl 1 (by decide) (hts _ w_678) (fun _ h9 => h9) rfl d_Mo_lay0_54 ?_
      refine x_bipush hx hb d_Mo_lay0_57 (by decide) ?_
      refine lv_iload_n hx hb d_Mo_lay0_59 rfl (lv_at hl 2 rfl) ?_
      refine x_imul hx hb d_Mo_lay0_60 ?_
      refine x_iconst hx hb d_Mo_lay0_61 ?_
      refine x_iadd hx hb d_Mo_lay0_62 ?_
      refine lv_lload hx hb d_Mo_lay0_63 (lv_at hl 0 rfl) ?_
      refine x_bipush hx hb d_Mo_lay0_65 (by decide) ?_
      refine x_lushr32 hx hb d_Mo_lay0_67 (by omega) ?_
      refine x_l2iw hx hb d_Mo_lay0_68 ?_
      refine x_iast hx hb B hF 1 0 rfl rfl (64 * x + 1) (by omega) (by omega) (by decide) d_Mo_lay0_69 (fun H locs B => ?_)
      have B : Wb D vwCl (TY cs) L (mw f [(y, .inr (7, [.int (iI th), .ref m1, .ref m2, .ref m3, .int (iI pn), .ref m5, .ref m6, .ref m7, .ref m8, .ref m9, .ref m10, .ref m11, .ref m12, .ref m13, .int (iI rw_), .ref m15, .long (lI fu), .long (lI fb)])), (m1, .inl (cs 0, 11520, .inl (ai (up (up lm (64 * x + 0) (mg % 4294967296)) (64 * x + 1) ((mg / 4294967296) % 4294967296))))), (m2, .inl (cs 0, 180, .inl (ai mn))), (m3, .inl (cs 0, 180, .inl (ai (up sn x t))))]) (AL L s.heap.size) s H _ := B
      have J3 : ∀ (k3 : Int), (k3 = if mg = 0 then 0 else if mg / 4294967296 = 0 then 1 else 2) → ∀ (H : Heap) (locs : List Loc) (ls : Array Slot), Wb D vwCl (TY cs) L (mw f [(y, .inr (7, [.int (iI th), .ref m1, .ref m2, .ref m3, .int (iI pn), .ref m5, .ref m6, .ref m7, .ref m8, .ref m9, .ref m10, .ref m11, .ref m12, .ref m13, .int (iI rw_), .ref m15, .long (lI fu), .long (lI fb)])), (m1, .inl (cs 0, 11520, .inl (ai (up (up lm (64 * x + 0) (mg % 4294967296)) (64 * x + 1) ((mg / 4294967296) % 4294967296))))), (m2, .inl (cs 0, 180, .inl (ai mn))), (m3, .inl (cs 0, 180, .inl (ai (up sn x t))))]) (AL L s.heap.size) s H locs → lv_has ls 6 [(4, .long (lI mg)), (0, .ref y), (1, .int (iI ((x : Int)))), (2, .long (lI v))] → W p l e R s m av below meth c H locs (0) (0) Q (F0 m 101 ls [.int (iI k3), .int (iI ((x : Int))), .ref m2]) := by
        intro k3 hk3 H locs ls B hl
        refine x_iast hx hb B hF 2 0 rfl rfl x (by omega) (by omega) (by decide) d_Mo_lay0_101 (fun H locs B => ?_)
        have B : Wb D vwCl (TY cs) L (mw f [(y, .inr (7, [.int (iI th), .ref m1, .ref m2, .ref m3, .int (iI pn), .ref m5, .ref m6, .ref m7, .ref m8, .ref m9, .ref m10, .ref m11, .ref m12, .ref m13, .int (iI rw_), .ref m15, .long (lI fu), .long (lI fb)])), (m1, .inl (cs 0, 11520, .inl (ai (up (up lm (64 * x + 0) (mg % 4294967296)) (64 * x + 1) ((mg / 4294967296) % 4294967296))))), (m2, .inl (cs 0, 180, .inl (ai (up mn x k3)))), (m3, .inl (cs 0, 180, .inl (ai (up sn x t))))]) (AL L s.heap.size) s H _ := B
        subst hQ hav
        exact x_vret hx hb hr hlocks B d_Mo_lay0_102 (⟨_, _, _, RS.set (hRS.off x) ((((Off.refl x lm mn sn).sign _).limb (k := 0) (by decide) _).limb (k := 1) (by decide) _ |>.many _) (by
        rw [up_self, up_self, ht]
        exact lay_rv hmg (by omega) (by rw [fl_up, up_ne _ _ (by decide), fl_up, up_self]) (by rw [fl_up, up_self]; omega) hk3), mw_drop (f := f) (X := [(m1, .inl (cs 0, 11520, .inl (ai (up (up lm (64 * x + 0) (mg % 4294967296)) (64 * x + 1) ((mg / 4294967296) % 4294967296))))), (m2, .inl (cs 0, 180, .inl (ai (up mn x k3)))), (m3, .inl (cs 0, 180, .inl (ai (up sn x t))))]) ha (List.nodup_cons.mp hF.1).1⟩)
      refine lv_aload_n hx hb d_Mo_lay0_70 rfl (lv_at hl 1 rfl) ?_
      refine x_get (C := RX7) (T := TX7) (N := 18) hx hb hts inX7 hown B hF 0 rfl rfl 2 (by decide) (hts _ w_679) (fun _ h9 => h9) rfl d_Mo_lay0_71 ?_
      refine lv_iload_n hx hb d_Mo_lay0_74 rfl (lv_at hl 2 rfl) ?_
      refine lv_lload hx hb d_Mo_lay0_75 (lv_at hl 0 rfl) ?_
      refine x_lconst (z := 0) hx hb d_Mo_lay0_77 (by decide) ?_
      refine x_lc_ne (tgt := 86) hx hb d_Mo_lay0_78 rfl d_Mo_lay0_79 (by decide) (by omega) (by omega) (fun h79 => ?_) (fun h79 => ?_)
      · refine lv_lload hx hb d_Mo_lay0_86 (lv_at hl 0 rfl) ?_
        refine x_bipush hx hb d_Mo_lay0_88 (by decide) ?_
        refine x_lushr32 hx hb d_Mo_lay0_90 (by omega) ?_
        refine x_lconst (z := 0) hx hb d_Mo_lay0_91 (by decide) ?_
        refine x_lc_ne (tgt := 100) hx hb d_Mo_lay0_92 rfl d_Mo_lay0_93 (by decide) (by omega) (by omega) (fun h93 => ?_) (fun h93 => ?_)
        · refine x_iconst hx hb d_Mo_lay0_100 ?_
          exact J3 2 (by rw [if_neg h79, if_neg h93]) _ _ _ B (lv_sub hl [0, 1, 2, 3] rfl)
        · refine x_iconst hx hb d_Mo_lay0_96 ?_
          refine lv_goto (tgt := 101) hx hb d_Mo_lay0_97 (by decide) ?_
          exact J3 1 (by rw [if_neg h79, if_pos h93]) _ _ _ B (lv_sub hl [0, 1, 2, 3] rfl)
      · refine x_iconst hx hb d_Mo_lay0_82 ?_
        refine lv_goto (tgt := 101) hx hb d_Mo_lay0_83 (by decide) ?_
        exact J3 0 (by rw [if_pos h79]) _ _ _ B (lv_sub hl [0, 1, 2, 3] rfl)
    refine lv_aload_n hx hb d_Mo_lay0_14 rfl (lv_at hl 1 rfl) ?_
    refine x_get (C := RX7) (T := TX7) (N := 18) hx hb hts inX7 hown B hF 0 rfl rfl 3 (by decide) (hts _ w_680) (fun _ h9 => h9) rfl d_Mo_lay0_15 ?_
    refine lv_iload_n hx hb d_Mo_lay0_18 rfl (lv_at hl 2 rfl) ?_
    refine lv_lload_n hx hb d_Mo_lay0_19 rfl (lv_at hl 3 rfl) ?_
    refine x_lconst (z := 0) hx hb d_Mo_lay0_20 (by decide) ?_
    refine x_lc_ge (tgt := 29) hx hb d_Mo_lay0_21 rfl d_Mo_lay0_22 (by decide) (by omega) (by omega) (fun h22 => ?_) (fun h22 => ?_)
    · refine lv_lload_n hx hb d_Mo_lay0_29 rfl (lv_at hl 3 rfl) ?_
      refine x_lconst (z := 0) hx hb d_Mo_lay0_30 (by decide) ?_
      refine x_lc_le (tgt := 39) hx hb d_Mo_lay0_31 rfl d_Mo_lay0_32 (by decide) (by omega) (by omega) (fun h32 => ?_) (fun h32 => ?_)
      · refine x_iconst hx hb d_Mo_lay0_39 ?_
        exact J2 0 (by rw [show v = 0 by omega]; rfl) _ _ _ B (lv_sub hl [0, 1, 2, 3] rfl)
      · refine x_iconst hx hb d_Mo_lay0_35 ?_
        refine lv_goto (tgt := 40) hx hb d_Mo_lay0_36 (by decide) ?_
        exact J2 1 ((Int.sign_eq_one_of_pos (by omega)).symm) _ _ _ B (lv_sub hl [0, 1, 2, 3] rfl)
    · refine x_iconst hx hb d_Mo_lay0_25 ?_
      refine lv_goto (tgt := 40) hx hb d_Mo_lay0_26 (by decide) ?_
      exact J2 (-1) ((Int.sign_eq_neg_one_of_neg (by omega)).symm) _ _ _ B (lv_sub hl [0, 1, 2, 3] rfl)
  refine lv_lload_n hx hb d_Mo_lay0_0 rfl (lv_at hl 2 rfl) ?_
  refine x_lconst (z := 0) hx hb d_Mo_lay0_1 (by decide) ?_
  refine x_lc_ge (tgt := 11) hx hb d_Mo_lay0_2 rfl d_Mo_lay0_3 (by decide) (by omega) (by omega) (fun h3 => ?_) (fun h3 => ?_)
  · refine lv_lload_n hx hb d_Mo_lay0_11 rfl (lv_at hl 2 rfl) ?_
    exact J1 v (by omega) _ _ _ B (lv_sub hl [0, 1, 2] rfl)
  · refine lv_lload_n hx hb d_Mo_lay0_6 rfl (lv_at hl 2 rfl) ?_
    refine x_lneg hx hb d_Mo_lay0_7 ?_
    refine lv_goto (tgt := 12) hx hb d_Mo_lay0_8 (by decide) ?_
    exact J1 (-v) (by omega) _ _ _ B (lv_sub hl [0, 1, 2] rfl)
theorem d_Mo_copy_0 : decode prog_9_method_5_code 0 = .ok (.aload_n 0, 1) := by decide +kernel
theorem d_Mo_copy_1 : decode prog_9_method_5_code 1 = .ok (.getfield 16, 3) := by decide +kernel
theorem d_Mo_copy_4 : decode prog_9_method_5_code 4 = .ok (.iload_n 1, 1) := by decide +kernel
theorem d_Mo_copy_5 : decode prog_9_method_5_code 5 = .ok (.aload_n 0, 1) := by decide +kernel
theorem d_Mo_copy_6 : decode prog_9_method_5_code 6 = .ok (.getfield 16, 3) := by decide +kernel
theorem d_Mo_copy_9 : decode prog_9_method_5_code 9 = .ok (.iload_n 2, 1) := by decide +kernel
theorem d_Mo_copy_10 : decode prog_9_method_5_code 10 = .ok (.iaload, 1) := by decide +kernel
theorem d_Mo_copy_11 : decode prog_9_method_5_code 11 = .ok (.iastore, 1) := by decide +kernel
theorem d_Mo_copy_12 : decode prog_9_method_5_code 12 = .ok (.aload_n 0, 1) := by decide +kernel
theorem d_Mo_copy_13 : decode prog_9_method_5_code 13 = .ok (.getfield 13, 3) := by decide +kernel
theorem d_Mo_copy_16 : decode prog_9_method_5_code 16 = .ok (.iload_n 1, 1) := by decide +kernel
theorem d_Mo_copy_17 : decode prog_9_method_5_code 17 = .ok (.aload_n 0, 1) := by decide +kernel
theorem d_Mo_copy_18 : decode prog_9_method_5_code 18 = .ok (.getfield 13, 3) := by decide +kernel
theorem d_Mo_copy_21 : decode prog_9_method_5_code 21 = .ok (.iload_n 2, 1) := by decide +kernel
theorem d_Mo_copy_22 : decode prog_9_method_5_code 22 = .ok (.iaload, 1) := by decide +kernel
theorem d_Mo_copy_23 : decode prog_9_method_5_code 23 = .ok (.iastore, 1) := by decide +kernel
theorem d_Mo_copy_24 : decode prog_9_method_5_code 24 = .ok (.iconst 0, 1) := by decide +kernel
theorem d_Mo_copy_25 : decode prog_9_method_5_code 25 = .ok (.istore_n 3, 1) := by decide +kernel
theorem d_Mo_copy_26 : decode prog_9_method_5_code 26 = .ok (.iload_n 3, 1) := by decide +kernel
theorem d_Mo_copy_27 : decode prog_9_method_5_code 27 = .ok (.aload_n 0, 1) := by decide +kernel
theorem d_Mo_copy_28 : decode prog_9_method_5_code 28 = .ok (.getfield 13, 3) := by decide +kernel
theorem d_Mo_copy_31 : decode prog_9_method_5_code 31 = .ok (.iload_n 2, 1) := by decide +kernel
theorem d_Mo_copy_32 : decode prog_9_method_5_code 32 = .ok (.iaload, 1) := by decide +kernel
theorem d_Mo_copy_33 : decode prog_9_method_5_code 33 = .ok (.if_icmp .ge 31, 3) := by decide +kernel
theorem d_Mo_copy_36 : decode prog_9_method_5_code 36 = .ok (.aload_n 0, 1) := by decide +kernel
theorem d_Mo_copy_37 : decode prog_9_method_5_code 37 = .ok (.getfield 7, 3) := by decide +kernel
theorem d_Mo_copy_40 : decode prog_9_method_5_code 40 = .ok (.bipush 64, 2) := by decide +kernel
theorem d_Mo_copy_42 : decode prog_9_method_5_code 42 = .ok (.iload_n 1, 1) := by decide +kernel
theorem d_Mo_copy_43 : decode prog_9_method_5_code 43 = .ok (.imul, 1) := by decide +kernel
theorem d_Mo_copy_44 : decode prog_9_method_5_code 44 = .ok (.iload_n 3, 1) := by decide +kernel
theorem d_Mo_copy_45 : decode prog_9_method_5_code 45 = .ok (.iadd, 1) := by decide +kernel
theorem d_Mo_copy_46 : decode prog_9_method_5_code 46 = .ok (.aload_n 0, 1) := by decide +kernel
theorem d_Mo_copy_47 : decode prog_9_method_5_code 47 = .ok (.getfield 7, 3) := by decide +kernel
theorem d_Mo_copy_50 : decode prog_9_method_5_code 50 = .ok (.bipush 64, 2) := by decide +kernel
theorem d_Mo_copy_52 : decode prog_9_method_5_code 52 = .ok (.iload_n 2, 1) := by decide +kernel
theorem d_Mo_copy_53 : decode prog_9_method_5_code 53 = .ok (.imul, 1) := by decide +kernel
theorem d_Mo_copy_54 : decode prog_9_method_5_code 54 = .ok (.iload_n 3, 1) := by decide +kernel
theorem d_Mo_copy_55 : decode prog_9_method_5_code 55 = .ok (.iadd, 1) := by decide +kernel
theorem d_Mo_copy_56 : decode prog_9_method_5_code 56 = .ok (.iaload, 1) := by decide +kernel
theorem d_Mo_copy_57 : decode prog_9_method_5_code 57 = .ok (.iastore, 1) := by decide +kernel
theorem d_Mo_copy_58 : decode prog_9_method_5_code 58 = .ok (.iinc 3 1, 3) := by decide +kernel
theorem d_Mo_copy_61 : decode prog_9_method_5_code 61 = .ok (.goto (-35), 3) := by decide +kernel
theorem d_Mo_copy_64 : decode prog_9_method_5_code 64 = .ok (.return_, 1) := by decide +kernel
set_option maxHeartbeats 8000000 in
set_option maxRecDepth 100000 in
theorem c_Mo_copy (l : Launch) (D : va_G) (cs : Nat → ClassId) (L : List Nat) (f : Nat → va_E) (sz : Nat) (y m1 m2 m3 m5 m6 m7 m8 m9 m10 m11 m12 m13 m15 : Nat) (th pn rw_ fu fb : Int) (lm mn sn Z : Nat → Int) (t x : Nat) (hF : Fc L [y, m1, m2, m3]) (ha : f y = .inr (7, [.int (iI th), .ref m1, .ref m2, .ref m3, .int (iI pn), .ref m5, .ref m6, .ref m7, .ref m8, .ref m9, .ref m10, .ref m11, .ref m12, .ref m13, .int (iI rw_), .ref m15, .long (lI fu), .long (lI fb)])) (hm1 : f m1 = .inl (cs 0, 11520, .inl (ai lm))) (hm2 : f m2 = .inl (cs 0, 180, .inl (ai mn))) (hm3 : f m3 = .inl (cs 0, 180, .inl (ai sn))) (hRS : RS lm mn sn Z) (ht8 : t < 180) (hx8 : x < 180) : Met l (⟨"RealRootsModel", "copy", "(II)V"⟩ : MethodName) (.code (⟨"RealRootsModel", "copy", "(II)V"⟩ : MethodName) prog_9_method_5_code 4 (Option.none : Option Jvm.ClassFile.FieldType) :: gw) ({ frames := 0, cells := 0, slots := 0, locals := 0 }) (va_Pc [.ref y, .int (iI ((t : Int))), .int (iI ((x : Int)))] (K0 D vwCl (TY cs) L f sz)) (va_Qv (fun (g : Nat → va_E) => ∃ lm' mn' sn' : Nat → Int, RS lm' mn' sn' (up Z t (Z x)) ∧ g = mw f [(m1, .inl (cs 0, 11520, .inl (ai (lm')))), (m2, .inl (cs 0, 180, .inl (ai (mn')))), (m3, .inl (cs 0, 180, .inl (ai (sn'))))]) (K1 D vwCl (TY cs) (AL L sz) L) (AL L sz)) 0 0 (AL L sz) := by
  refine Met.ofW (cc := prog_9_method_5_code) (maxL := 4) (ret := (Option.none : Option Jvm.ClassFile.FieldType)) (by decide) rfl ?_
  intro p e s m args below meth c s₁ Bd hml hv
  obtain ⟨rfl, hk0⟩ := hv
  obtain ⟨hsz, B⟩ := hk0.start
  subst hsz
  have hx := Bd.exec
  have hb := Bd.bytes
  have hr := Bd.returns
  have hlocks := Bd.notSynchronized
  have hts0 := atoms_spec Bd.pre
  have hown : s.vm.findClass RX7 = some m.cls := findClass_of_methodNamed Bd.named
  have hA : ∀ q, s.heap.size ≤ q → AL L s.heap.size q := fun _ h => Or.inr h
  have hl := lv_entry ([.ref y, .int (iI ((t : Int))), .int (iI ((x : Int)))]) (n := 4) (Nat.le_of_ble_eq_true rfl)
  rw [lg_entry_eq]
  generalize (lg_sl ([.ref y, .int (iI ((t : Int))), .int (iI ((x : Int)))]) ++ List.replicate (4 - (lg_sl ([.ref y, .int (iI ((t : Int))), .int (iI ((x : Int)))])).length) Slot.unset).toArray = ls at hl ⊢
  refine absQ (fun Q R av hQ hR hav => ?_)
  have hts : ∀ w ∈ gw, w.before av s = true := by rw [hav]; exact fun w h => hts0 w (List.mem_cons_of_mem _ h)
  have hRf : R.frames = 0 := by rw [hR]; rfl
  have hRl : R.locals = 0 := by rw [hR]; rfl
  have hRc : R.cells = 0 := by rw [hR]; rfl
  have hRs : R.slots = 0 := by rw [hR]; rfl
  clear hR hts0 Bd
  have hl : lv_has ls 4 [(0, .ref y), (1, .int (iI ((t : Int)))), (2, .int (iI ((x : Int))))] := hl
  obtain ⟨nx, hnx, hn8, hMb, htop, hval⟩ := (hRS x hx8).nat
  have hfx : ∀ q ∈ ([(y, .inr (7, [.int (iI th), .ref m1, .ref m2, .ref m3, .int (iI pn), .ref m5, .ref m6, .ref m7, .ref m8, .ref m9, .ref m10, .ref m11, .ref m12, .ref m13, .int (iI rw_), .ref m15, .long (lI fu), .long (lI fb)])), (m1, .inl (cs 0, 11520, .inl (ai lm))), (m2, .inl (cs 0, 180, .inl (ai mn))), (m3, .inl (cs 0, 180, .inl (ai sn)))] : List (Nat × va_E)), f q.1 = q.2 := fun q hq => by
    simp only [List.mem_cons, List.not_mem_nil, or_false] at hq
    rcases hq with rfl | rfl | rfl | rfl
    · exact ha
    · exact hm1
    · exact hm2
    · exact hm3
  have hmw : mw f [(y, .inr (7, [.int (iI th), .ref m1, .ref m2, .ref m3, .int (iI pn), .ref m5, .ref m6, .ref m7, .ref m8, .ref m9, .ref m10, .ref m11, .ref m12, .ref m13, .int (iI rw_), .ref m15, .long (lI fu), .long (lI fb)])), (m1, .inl (cs 0, 11520, .inl (ai lm))), (m2, .inl (cs 0, 180, .inl (ai mn))), (m3, .inl (cs 0, 180, .inl (ai sn)))] = f := mw_self (fun k a e hk => hfx (a, e) (List.mem_of_getElem? hk))
  have B := B.focus [(y, .inr (7, [.int (iI th), .ref m1, .ref m2, .ref m3, .int (iI pn), .ref m5, .ref m6, .ref m7, .ref m8, .ref m9, .ref m10, .ref m11, .ref m12, .ref m13, .int (iI rw_), .ref m15, .long (lI fu), .long (lI fb)])), (m1, .inl (cs 0, 11520, .inl (ai lm))), (m2, .inl (cs 0, 180, .inl (ai mn))), (m3, .inl (cs 0, 180, .inl (ai sn)))] hfx
  refine lv_aload_n hx hb d_Mo_copy_0 rfl (lv_at hl 0 rfl) ?_
  refine x_get (C := RX7) (T := TX7) (N := 18) hx hb hts inX7 hown B hF 0 rfl rfl 3 (by decide) (hts _ w_680) (fun _ h9 => h9) rfl d_Mo_copy_1 ?_
  refine lv_iload_n hx hb d_Mo_copy_4 rfl (lv_at hl 1 rfl) ?_
  refine lv_aload_n hx hb d_Mo_copy_5 rfl (lv_at hl 0 rfl) ?_
  refine x_get (C := RX7) (T := TX7) (N := 18) hx hb hts inX7 hown B hF 0 rfl rfl 3 (by decide) (hts _ w_680) (fun _ h9 => h9) rfl d_Mo_copy_6 ?_
  refine lv_iload_n hx hb d_Mo_copy_9 rfl (lv_at hl 2 rfl) ?_
  refine x_iald hx hb B hF 3 0 rfl rfl x (by omega) (by omega) (by decide) d_Mo_copy_10 ?_
  refine x_iast hx hb B hF 3 0 rfl rfl t (by omega) (by omega) (by decide) d_Mo_copy_11 (fun H locs B => ?_)
  have B : Wb D vwCl (TY cs) L (mw f [(y, .inr (7, [.int (iI th), .ref m1, .ref m2, .ref m3, .int (iI pn), .ref m5, .ref m6, .ref m7, .ref m8, .ref m9, .ref m10, .ref m11, .ref m12, .ref m13, .int (iI rw_), .ref m15, .long (lI fu), .long (lI fb)])), (m1, .inl (cs 0, 11520, .inl (ai lm))), (m2, .inl (cs 0, 180, .inl (ai mn))), (m3, .inl (cs 0, 180, .inl (ai (up sn t (sn x)))))]) (AL L s.heap.size) s H _ := B
  refine lv_aload_n hx hb d_Mo_copy_12 rfl (lv_at hl 0 rfl) ?_
  refine x_get (C := RX7) (T := TX7) (N := 18) hx hb hts inX7 hown B hF 0 rfl rfl 2 (by decide) (hts _ w_679) (fun _ h9 => h9) rfl d_Mo_copy_13 ?_
  refine lv_iload_n hx hb d_Mo_copy_16 rfl (lv_at hl 1 rfl) ?_
  refine lv_aload_n hx hb d_Mo_copy_17 rfl (lv_at hl 0 rfl) ?_
  refine x_get (C := RX7) (T := TX7) (N := 18) hx hb hts inX7 hown B hF 0 rfl rfl 2 (by decide) (hts _ w_679) (fun _ h9 => h9) rfl d_Mo_copy_18 ?_
  refine lv_iload_n hx hb d_Mo_copy_21 rfl (lv_at hl 2 rfl) ?_
  refine x_iald hx hb B hF 2 0 rfl rfl x (by omega) (by omega) (by decide) d_Mo_copy_22 ?_
  refine x_iast hx hb B hF 2 0 rfl rfl t (by omega) (by omega) (by decide) d_Mo_copy_23 (fun H locs B => ?_)
  have B : Wb D vwCl (TY cs) L (mw f [(y, .inr (7, [.int (iI th), .ref m1, .ref m2, .ref m3, .int (iI pn), .ref m5, .ref m6, .ref m7, .ref m8, .ref m9, .ref m10, .ref m11, .ref m12, .ref m13, .int (iI rw_), .ref m15, .long (lI fu), .long (lI fb)])), (m1, .inl (cs 0, 11520, .inl (ai lm))), (m2, .inl (cs 0, 180, .inl (ai (up mn t (mn x))))), (m3, .inl (cs 0, 180, .inl (ai (up sn t (sn x)))))]) (AL L s.heap.size) s H _ := B
  refine x_iconst hx hb d_Mo_copy_24 ?_
  refine lv_istore_n (lv' := [(3, .int (iI 0)), (0, .ref y), (1, .int (iI ((t : Int)))), (2, .int (iI ((x : Int))))]) hx hb d_Mo_copy_25 rfl hl (by decide) rfl (fun ls hl => ?_)
  have LP : ∀ (fuel : Nat) (k : Nat) (lm2 : Nat → Int), nx - k < fuel → (k ≤ nx) → (Off t lm mn sn lm2 (up mn t (mn x)) (up sn t (sn x))) → (∀ j, j < k → fl lm2 t j = fl lm x j) → (∀ j, k ≤ j → j < 64 → fl lm2 x j = fl lm x j) → ∀ (H : Heap) (locs : List Loc) (ls : Array Slot), Wb D vwCl (TY cs) L (mw f [(y, .inr (7, [.int (iI th), .ref m1, .ref m2, .ref m3, .int (iI pn), .ref m5, .ref m6, .ref m7, .ref m8, .ref m9, .ref m10, .ref m11, .ref m12, .ref m13, .int (iI rw_), .ref m15, .long (lI fu), .long (lI fb)])), (m1, .inl (cs 0, 11520, .inl (ai lm2))), (m2, .inl (cs 0, 180, .inl (ai (up mn t (mn x))))), (m3, .inl (cs 0, 180, .inl (ai (up sn t (sn x)))))]) (AL L s.heap.size) s H locs → lv_has ls 4 [(3, .int (iI ((k : Int)))), (0, .ref y), (1, .int (iI ((t : Int)))), (2, .int (iI ((x : Int))))] → W p l e R s m av below meth c H locs (0) (0) Q (F0 m 26 ls []) := by
    intro fuel
    induction fuel with
    | zero => intro k lm2 hfu; exact absurd hfu (Nat.not_lt_zero _)
    | succ fuel ih_LP =>
      intro k lm2 hfu_LP hk hO hI hJ H locs ls B hl
      have hmt : up mn t (mn x) x = (nx : Int) := by by_cases htx : x = t; rw [htx, up_self, ← htx]; exact hnx; rw [up_ne _ _ htx]; exact hnx
      refine lv_iload_n hx hb d_Mo_copy_26 rfl (lv_at hl 0 rfl) ?_
      refine lv_aload_n hx hb d_Mo_copy_27 rfl (lv_at hl 1 rfl) ?_
      refine x_get (C := RX7) (T := TX7) (N := 18) hx hb hts inX7 hown B hF 0 rfl rfl 2 (by decide) (hts _ w_679) (fun _ h9 => h9) rfl d_Mo_copy_28 ?_
      refine lv_iload_n hx hb d_Mo_copy_31 rfl (lv_at hl 3 rfl) ?_
      refine x_iald hx hb B hF 2 0 rfl rfl x (by omega) (by omega) (by decide) d_Mo_copy_32 ?_
      refine x_icmp_ge (tgt := 64) hx hb d_Mo_copy_33 (by decide) (by omega) (by omega) (fun h33 => ?_) (fun h33 => ?_)
      · subst hQ hav
        exact x_vret hx hb hr hlocks B d_Mo_copy_64 (⟨_, _, _, RS.set (hRS.off t) hO (by
        rw [up_self, up_self]
        exact (hRS x hx8).copy (fun j hj => hI j (by omega))), mw_drop (f := f) (X := [(m1, .inl (cs 0, 11520, .inl (ai lm2))), (m2, .inl (cs 0, 180, .inl (ai (up mn t (mn x))))), (m3, .inl (cs 0, 180, .inl (ai (up sn t (sn x)))))]) ha (List.nodup_cons.mp hF.1).1⟩)
      · refine lv_aload_n hx hb d_Mo_copy_36 rfl (lv_at hl 1 rfl) ?_
        refine x_get (C := RX7) (T := TX7) (N := 18) hx hb hts inX7 hown B hF 0 rfl rfl 1 (by decide) (hts _ w_678) (fun _ h9 => h9) rfl d_Mo_copy_37 ?_
        refine x_bipush hx hb d_Mo_copy_40 (by decide) ?_
        refine lv_iload_n hx hb d_Mo_copy_42 rfl (lv_at hl 2 rfl) ?_
        refine x_imul hx hb d_Mo_copy_43 ?_
        refine lv_iload_n hx hb d_Mo_copy_44 rfl (lv_at hl 0 rfl) ?_
        refine x_iadd hx hb d_Mo_copy_45 ?_
        refine lv_aload_n hx hb d_Mo_copy_46 rfl (lv_at hl 1 rfl) ?_
        refine x_get (C := RX7) (T := TX7) (N := 18) hx hb hts inX7 hown B hF 0 rfl rfl 1 (by decide) (hts _ w_678) (fun _ h9 => h9) rfl d_Mo_copy_47 ?_
        refine x_bipush hx hb d_Mo_copy_50 (by decide) ?_
        refine lv_iload_n hx hb d_Mo_copy_52 rfl (lv_at hl 3 rfl) ?_
        refine x_imul hx hb d_Mo_copy_53 ?_
        refine lv_iload_n hx hb d_Mo_copy_54 rfl (lv_at hl 0 rfl) ?_
        refine x_iadd hx hb d_Mo_copy_55 ?_
        refine x_iald hx hb B hF 1 0 rfl rfl (64 * x + k) (by omega) (by omega) (by decide) d_Mo_copy_56 ?_
        refine x_iast hx hb B hF 1 0 rfl rfl (64 * t + k) (by omega) (by omega) (by decide) d_Mo_copy_57 (fun H locs B => ?_)
        have B : Wb D vwCl (TY cs) L (mw f [(y, .inr (7, [.int (iI th), .ref m1, .ref m2, .ref m3, .int (iI pn), .ref m5, .ref m6, .ref m7, .ref m8, .ref m9, .ref m10, .ref m11, .ref m12, .ref m13, .int (iI rw_), .ref m15, .long (lI fu), .long (lI fb)])), (m1, .inl (cs 0, 11520, .inl (ai (up lm2 (64 * t + k) (lm2 (64 * x + k)))))), (m2, .inl (cs 0, 180, .inl (ai (up mn t (mn x))))), (m3, .inl (cs 0, 180, .inl (ai (up sn t (sn x)))))]) (AL L s.heap.size) s H _ := B
        refine x_iinc (lv' := [(3, .int (iI (((k : Int)) + 1))), (0, .ref y), (1, .int (iI ((t : Int)))), (2, .int (iI ((x : Int))))]) hx hb d_Mo_copy_58 hl (q := 0) rfl rfl (by decide) rfl (fun ls hl => ?_)
        refine lv_goto (tgt := 26) hx hb d_Mo_copy_61 (by decide) ?_
        exact ih_LP (k + 1) (up lm2 (64 * t + k) (lm2 (64 * x + k))) (by omega) (by omega) (hO.limb (by omega) _) (fun j hj => by
          rw [fl_up]
          by_cases hjk : j = k
          · rw [hjk, up_self]; exact hJ k (Nat.le_refl _) (by omega)
          · rw [up_ne _ _ hjk]; exact hI j (by omega)) (fun j hj hj2 => by
          by_cases htx : t = x
          · rw [htx, fl_up, up_ne _ _ (by omega)]; exact hJ j (by omega) hj2
          · rw [fl_out _ _ (by omega) hj2 htx]; exact hJ j (by omega) hj2) _ _ _ B (lv_sub hl [0, 1, 2, 3] rfl)
  exact LP _ 0 lm (Nat.lt_succ_self _) (by omega) (((Off.refl t lm mn sn).sign _).many _) (fun j hj => by omega) (fun j _ _ => rfl) _ _ _ B (lv_sub hl [0, 1, 2, 3] rfl)
theorem d_Mo_trim_0 : decode prog_9_method_7_code 0 = .ok (.aload_n 0, 1) := by decide +kernel
theorem d_Mo_trim_1 : decode prog_9_method_7_code 1 = .ok (.getfield 13, 3) := by decide +kernel
theorem d_Mo_trim_4 : decode prog_9_method_7_code 4 = .ok (.iload_n 1, 1) := by decide +kernel
theorem d_Mo_trim_5 : decode prog_9_method_7_code 5 = .ok (.iaload, 1) := by decide +kernel
theorem d_Mo_trim_6 : decode prog_9_method_7_code 6 = .ok (.ifCond .le 37, 3) := by decide +kernel
theorem d_Mo_trim_9 : decode prog_9_method_7_code 9 = .ok (.aload_n 0, 1) := by decide +kernel
theorem d_Mo_trim_10 : decode prog_9_method_7_code 10 = .ok (.getfield 7, 3) := by decide +kernel
theorem d_Mo_trim_13 : decode prog_9_method_7_code 13 = .ok (.bipush 64, 2) := by decide +kernel
theorem d_Mo_trim_15 : decode prog_9_method_7_code 15 = .ok (.iload_n 1, 1) := by decide +kernel
theorem d_Mo_trim_16 : decode prog_9_method_7_code 16 = .ok (.imul, 1) := by decide +kernel
theorem d_Mo_trim_17 : decode prog_9_method_7_code 17 = .ok (.aload_n 0, 1) := by decide +kernel
theorem d_Mo_trim_18 : decode prog_9_method_7_code 18 = .ok (.getfield 13, 3) := by decide +kernel
theorem d_Mo_trim_21 : decode prog_9_method_7_code 21 = .ok (.iload_n 1, 1) := by decide +kernel
theorem d_Mo_trim_22 : decode prog_9_method_7_code 22 = .ok (.iaload, 1) := by decide +kernel
theorem d_Mo_trim_23 : decode prog_9_method_7_code 23 = .ok (.iadd, 1) := by decide +kernel
theorem d_Mo_trim_24 : decode prog_9_method_7_code 24 = .ok (.iconst 1, 1) := by decide +kernel
theorem d_Mo_trim_25 : decode prog_9_method_7_code 25 = .ok (.isub, 1) := by decide +kernel
theorem d_Mo_trim_26 : decode prog_9_method_7_code 26 = .ok (.iaload, 1) := by decide +kernel
theorem d_Mo_trim_27 : decode prog_9_method_7_code 27 = .ok (.ifCond .ne 16, 3) := by decide +kernel
theorem d_Mo_trim_30 : decode prog_9_method_7_code 30 = .ok (.aload_n 0, 1) := by decide +kernel
theorem d_Mo_trim_31 : decode prog_9_method_7_code 31 = .ok (.getfield 13, 3) := by decide +kernel
theorem d_Mo_trim_34 : decode prog_9_method_7_code 34 = .ok (.iload_n 1, 1) := by decide +kernel
theorem d_Mo_trim_35 : decode prog_9_method_7_code 35 = .ok (.dup2, 1) := by decide +kernel
theorem d_Mo_trim_36 : decode prog_9_method_7_code 36 = .ok (.iaload, 1) := by decide +kernel
theorem d_Mo_trim_37 : decode prog_9_method_7_code 37 = .ok (.iconst 1, 1) := by decide +kernel
theorem d_Mo_trim_38 : decode prog_9_method_7_code 38 = .ok (.isub, 1) := by decide +kernel
theorem d_Mo_trim_39 : decode prog_9_method_7_code 39 = .ok (.iastore, 1) := by decide +kernel
theorem d_Mo_trim_40 : decode prog_9_method_7_code 40 = .ok (.goto (-40), 3) := by decide +kernel
theorem d_Mo_trim_43 : decode prog_9_method_7_code 43 = .ok (.aload_n 0, 1) := by decide +kernel
theorem d_Mo_trim_44 : decode prog_9_method_7_code 44 = .ok (.getfield 16, 3) := by decide +kernel
theorem d_Mo_trim_47 : decode prog_9_method_7_code 47 = .ok (.iload_n 1, 1) := by decide +kernel
theorem d_Mo_trim_48 : decode prog_9_method_7_code 48 = .ok (.aload_n 0, 1) := by decide +kernel
theorem d_Mo_trim_49 : decode prog_9_method_7_code 49 = .ok (.getfield 13, 3) := by decide +kernel
theorem d_Mo_trim_52 : decode prog_9_method_7_code 52 = .ok (.iload_n 1, 1) := by decide +kernel
theorem d_Mo_trim_53 : decode prog_9_method_7_code 53 = .ok (.iaload, 1) := by decide +kernel
theorem d_Mo_trim_54 : decode prog_9_method_7_code 54 = .ok (.ifCond .ne 7, 3) := by decide +kernel
theorem d_Mo_trim_57 : decode prog_9_method_7_code 57 = .ok (.iconst 0, 1) := by decide +kernel
theorem d_Mo_trim_58 : decode prog_9_method_7_code 58 = .ok (.goto 9, 3) := by decide +kernel
theorem d_Mo_trim_61 : decode prog_9_method_7_code 61 = .ok (.aload_n 0, 1) := by decide +kernel
theorem d_Mo_trim_62 : decode prog_9_method_7_code 62 = .ok (.getfield 16, 3) := by decide +kernel
theorem d_Mo_trim_65 : decode prog_9_method_7_code 65 = .ok (.iload_n 1, 1) := by decide +kernel
theorem d_Mo_trim_66 : decode prog_9_method_7_code 66 = .ok (.iaload, 1) := by decide +kernel
theorem d_Mo_trim_67 : decode prog_9_method_7_code 67 = .ok (.iastore, 1) := by decide +kernel
theorem d_Mo_trim_68 : decode prog_9_method_7_code 68 = .ok (.return_, 1) := by decide +kernel
set_option maxHeartbeats 8000000 in
set_option maxRecDepth 100000 in
theorem c_Mo_trim (l : Launch) (D : va_G) (cs : Nat → ClassId) (L : List Nat) (f : Nat → va_E) (sz : Nat) (y m1 m2 m3 m5 m6 m7 m8 m9 m10 m11 m12 m13 m15 : Nat) (th pn rw_ fu fb : Int) (lm mn sn Z : Nat → Int) (x nx : Nat) (z : Int) (hF : Fc L [y, m1, m2, m3]) (ha : f y = .inr (7, [.int (iI th), .ref m1, .ref m2, .ref m3, .int (iI pn), .ref m5, .ref m6, .ref m7, .ref m8, .ref m9, .ref m10, .ref m11, .ref m12, .ref m13, .int (iI rw_), .ref m15, .long (lI fu), .long (lI fb)])) (hm1 : f m1 = .inl (cs 0, 11520, .inl (ai lm))) (hm2 : f m2 = .inl (cs 0, 180, .inl (ai mn))) (hm3 : f m3 = .inl (cs 0, 180, .inl (ai sn))) (hR0 : ∀ w, w < 180 → w ≠ x → RV (sn w) (mn w) (fl lm w) (Z w)) (hx8 : x < 180) (hnx : mn x = (nx : Int)) (hn8 : nx ≤ 64) (hT0 : MTrim nx (fl lm x) (z.natAbs : Int)) (hsx : z ≠ 0 → sn x = z.sign) : Met l (⟨"RealRootsModel", "trim", "(I)V"⟩ : MethodName) (.code (⟨"RealRootsModel", "trim", "(I)V"⟩ : MethodName) prog_9_method_7_code 2 (Option.none : Option Jvm.ClassFile.FieldType) :: gw) ({ frames := 0, cells := 0, slots := 0, locals := 0 }) (va_Pc [.ref y, .int (iI ((x : Int)))] (K0 D vwCl (TY cs) L f sz)) (va_Qv (fun (g : Nat → va_E) => ∃ lm' mn' sn' : Nat → Int, RS lm' mn' sn' (up Z x z) ∧ g = mw f [(m1, .inl (cs 0, 11520, .inl (ai (lm')))), (m2, .inl (cs 0, 180, .inl (ai (mn')))), (m3, .inl (cs 0, 180, .inl (ai (sn'))))]) (K1 D vwCl (TY cs) (AL L sz) L) (AL L sz)) 0 0 (AL L sz) := by
  refine Met.ofW (cc := prog_9_method_7_code) (maxL := 2) (ret := (Option.none : Option Jvm.ClassFile.FieldType)) (by decide) rfl ?_
  intro p e s m args below meth c s₁ Bd hml hv
  obtain ⟨rfl, hk0⟩ := hv
  obtain ⟨hsz, B⟩ := hk0.start
  subst hsz
  have hx := Bd.exec
  have hb := Bd.bytes
  have hr := Bd.returns
  have hlocks := Bd.notSynchronized
  have hts0 := atoms_spec Bd.pre
  have hown : s.vm.findClass RX7 = some m.cls := findClass_of_methodNamed Bd.named
  have hA : ∀ q, s.heap.size ≤ q → AL L s.heap.size q := fun _ h => Or.inr h
  have hl := lv_entry ([.ref y, .int (iI ((x : Int)))]) (n := 2) (Nat.le_of_ble_eq_true rfl)
  rw [lg_entry_eq]
  generalize (lg_sl ([.ref y, .int (iI ((x : Int)))]) ++ List.replicate (2 - (lg_sl ([.ref y, .int (iI ((x : Int)))])).length) Slot.unset).toArray = ls at hl ⊢
  refine absQ (fun Q R av hQ hR hav => ?_)
  have hts : ∀ w ∈ gw, w.before av s = true := by rw [hav]; exact fun w h => hts0 w (List.mem_cons_of_mem _ h)
  have hRf : R.frames = 0 := by rw [hR]; rfl
  have hRl : R.locals = 0 := by rw [hR]; rfl
  have hRc : R.cells = 0 := by rw [hR]; rfl
  have hRs : R.slots = 0 := by rw [hR]; rfl
  clear hR hts0 Bd
  have hl : lv_has ls 2 [(0, .ref y), (1, .int (iI ((x : Int))))] := hl
  have hfx : ∀ q ∈ ([(y, .inr (7, [.int (iI th), .ref m1, .ref m2, .ref m3, .int (iI pn), .ref m5, .ref m6, .ref m7, .ref m8, .ref m9, .ref m10, .ref m11, .ref m12, .ref m13, .int (iI rw_), .ref m15, .long (lI fu), .long (lI fb)])), (m1, .inl (cs 0, 11520, .inl (ai lm))), (m2, .inl (cs 0, 180, .inl (ai mn))), (m3, .inl (cs 0, 180, .inl (ai sn)))] : List (Nat × va_E)), f q.1 = q.2 := fun q hq => by
    simp only [List.mem_cons, List.not_mem_nil, or_false] at hq
    rcases hq with rfl | rfl | rfl | rfl
    · exact ha
    · exact hm1
    · exact hm2
    · exact hm3
  have hmw : mw f [(y, .inr (7, [.int (iI th), .ref m1, .ref m2, .ref m3, .int (iI pn), .ref m5, .ref m6, .ref m7, .ref m8, .ref m9, .ref m10, .ref m11, .ref m12, .ref m13, .int (iI rw_), .ref m15, .long (lI fu), .long (lI fb)])), (m1, .inl (cs 0, 11520, .inl (ai lm))), (m2, .inl (cs 0, 180, .inl (ai mn))), (m3, .inl (cs 0, 180, .inl (ai sn)))] = f := mw_self (fun k a e hk => hfx (a, e) (List.mem_of_getElem? hk))
  have B := B.focus [(y, .inr (7, [.int (iI th), .ref m1, .ref m2, .ref m3, .int (iI pn), .ref m5, .ref m6, .ref m7, .ref m8, .ref m9, .ref m10, .ref m11, .ref m12, .ref m13, .int (iI rw_), .ref m15, .long (lI fu), .long (lI fb)])), (m1, .inl (cs 0, 11520, .inl (ai lm))), (m2, .inl (cs 0, 180, .inl (ai mn))), (m3, .inl (cs 0, 180, .inl (ai sn)))] hfx
  have LP : ∀ (fuel : Nat) (n2 : Nat) (mn2 : Nat → Int), n2 < fuel → (n2 ≤ 64) → (mn2 x = (n2 : Int)) → (Off x lm mn sn lm mn2 sn) → (MTrim n2 (fl lm x) (z.natAbs : Int)) → ∀ (H : Heap) (locs : List Loc) (ls : Array Slot), Wb D vwCl (TY cs) L (mw f [(y, .inr (7, [.int (iI th), .ref m1, .ref m2, .ref m3, .int (iI pn), .ref m5, .ref m6, .ref m7, .ref m8, .ref m9, .ref m10, .ref m11, .ref m12, .ref m13, .int (iI rw_), .ref m15, .long (lI fu), .long (lI fb)])), (m1, .inl (cs 0, 11520, .inl (ai lm))), (m2, .inl (cs 0, 180, .inl (ai mn2))), (m3, .inl (cs 0, 180, .inl (ai sn)))]) (AL L s.heap.size) s H locs → lv_has ls 2 [(0, .ref y), (1, .int (iI ((x : Int))))] → W p l e R s m av below meth c H locs (0) (0) Q (F0 m 0 ls []) := by
    intro fuel
    induction fuel with
    | zero => intro n2 mn2 hfu; exact absurd hfu (Nat.not_lt_zero _)
    | succ fuel ih_LP =>
      intro n2 mn2 hfu_LP hn2 hm2x hO hT H locs ls B hl
      have hlr : 0 < n2 → 0 ≤ lm (64 * x + (n2 - 1)) ∧ lm (64 * x + (n2 - 1)) < 4294967296 := fun h => hT.1 (n2 - 1) (by omega)
      refine lv_aload_n hx hb d_Mo_trim_0 rfl (lv_at hl 0 rfl) ?_
      refine x_get (C := RX7) (T := TX7) (N := 18) hx hb hts inX7 hown B hF 0 rfl rfl 2 (by decide) (hts _ w_679) (fun _ h9 => h9) rfl d_Mo_trim_1 ?_
      refine lv_iload_n hx hb d_Mo_trim_4 rfl (lv_at hl 1 rfl) ?_
      refine x_iald hx hb B hF 2 0 rfl rfl x (by omega) (by omega) (by decide) d_Mo_trim_5 ?_
      refine x_if_le (tgt := 43) hx hb d_Mo_trim_6 (by decide) (by omega) (fun h6 => ?_) (fun h6 => ?_)
      · refine lv_aload_n hx hb d_Mo_trim_43 rfl (lv_at hl 0 rfl) ?_
        refine x_get (C := RX7) (T := TX7) (N := 18) hx hb hts inX7 hown B hF 0 rfl rfl 3 (by decide) (hts _ w_680) (fun _ h9 => h9) rfl d_Mo_trim_44 ?_
        refine lv_iload_n hx hb d_Mo_trim_47 rfl (lv_at hl 1 rfl) ?_
        refine lv_aload_n hx hb d_Mo_trim_48 rfl (lv_at hl 0 rfl) ?_
        refine x_get (C := RX7) (T := TX7) (N := 18) hx hb hts inX7 hown B hF 0 rfl rfl 2 (by decide) (hts _ w_679) (fun _ h9 => h9) rfl d_Mo_trim_49 ?_
        refine lv_iload_n hx hb d_Mo_trim_52 rfl (lv_at hl 1 rfl) ?_
        refine x_iald hx hb B hF 2 0 rfl rfl x (by omega) (by omega) (by decide) d_Mo_trim_53 ?_
        refine x_if_ne (tgt := 61) hx hb d_Mo_trim_54 (by decide) (by omega) (fun h54 => ?_) (fun h54 => ?_)
        · refine lv_aload_n hx hb d_Mo_trim_61 rfl (lv_at hl 0 rfl) ?_
          refine x_get (C := RX7) (T := TX7) (N := 18) hx hb hts inX7 hown B hF 0 rfl rfl 3 (by decide) (hts _ w_680) (fun _ h9 => h9) rfl d_Mo_trim_62 ?_
          refine lv_iload_n hx hb d_Mo_trim_65 rfl (lv_at hl 1 rfl) ?_
          refine x_iald hx hb B hF 3 0 rfl rfl x (by omega) (by omega) (by decide) d_Mo_trim_66 ?_
          refine x_iast hx hb B hF 3 0 rfl rfl x (by omega) (by omega) (by decide) d_Mo_trim_67 (fun H locs B => ?_)
          have B : Wb D vwCl (TY cs) L (mw f [(y, .inr (7, [.int (iI th), .ref m1, .ref m2, .ref m3, .int (iI pn), .ref m5, .ref m6, .ref m7, .ref m8, .ref m9, .ref m10, .ref m11, .ref m12, .ref m13, .int (iI rw_), .ref m15, .long (lI fu), .long (lI fb)])), (m1, .inl (cs 0, 11520, .inl (ai lm))), (m2, .inl (cs 0, 180, .inl (ai mn2))), (m3, .inl (cs 0, 180, .inl (ai (up sn x (sn x)))))]) (AL L s.heap.size) s H _ := B
          subst hQ hav
          exact x_vret hx hb hr hlocks B d_Mo_trim_68 (⟨_, _, _, RS.set hR0 (hO.sign _) (by
        rw [up_self, hm2x]
        have h9 := rv_fin (sd := sn x) hn2 hT (fun h0 => by first | exact h27 | (exfalso; omega)) (fun h0 => hsx (fun hz0 => by
          have := Ms_range hT.1
          have h8 := hT.2
          rw [hz0] at h8
          have := Ms_top (g := fl lm x) (n := n2 - 1) (by rw [show n2 - 1 + 1 = n2 by omega]; exact hT.1) (by first | exact h27 | (exfalso; omega))
          rw [show n2 - 1 + 1 = n2 by omega] at this
          have := Mp_pos (n2 - 1)
          omega))
        rw [if_neg (by omega)] at h9
        exact h9), mw_drop (f := f) (X := [(m1, .inl (cs 0, 11520, .inl (ai lm))), (m2, .inl (cs 0, 180, .inl (ai mn2))), (m3, .inl (cs 0, 180, .inl (ai (up sn x (sn x)))))]) ha (List.nodup_cons.mp hF.1).1⟩)
        · refine x_iconst hx hb d_Mo_trim_57 ?_
          refine lv_goto (tgt := 67) hx hb d_Mo_trim_58 (by decide) ?_
          refine x_iast hx hb B hF 3 0 rfl rfl x (by omega) (by omega) (by decide) d_Mo_trim_67 (fun H locs B => ?_)
          have B : Wb D vwCl (TY cs) L (mw f [(y, .inr (7, [.int (iI th), .ref m1, .ref m2, .ref m3, .int (iI pn), .ref m5, .ref m6, .ref m7, .ref m8, .ref m9, .ref m10, .ref m11, .ref m12, .ref m13, .int (iI rw_), .ref m15, .long (lI fu), .long (lI fb)])), (m1, .inl (cs 0, 11520, .inl (ai lm))), (m2, .inl (cs 0, 180, .inl (ai mn2))), (m3, .inl (cs 0, 180, .inl (ai (up sn x 0))))]) (AL L s.heap.size) s H _ := B
          subst hQ hav
          exact x_vret hx hb hr hlocks B d_Mo_trim_68 (⟨_, _, _, RS.set hR0 (hO.sign _) (by
        rw [up_self, hm2x]
        have h9 := rv_fin (sd := sn x) hn2 hT (fun h0 => by first | exact h27 | (exfalso; omega)) (fun h0 => hsx (fun hz0 => by
          have := Ms_range hT.1
          have h8 := hT.2
          rw [hz0] at h8
          have := Ms_top (g := fl lm x) (n := n2 - 1) (by rw [show n2 - 1 + 1 = n2 by omega]; exact hT.1) (by first | exact h27 | (exfalso; omega))
          rw [show n2 - 1 + 1 = n2 by omega] at this
          have := Mp_pos (n2 - 1)
          omega))
        rw [if_pos (by omega)] at h9
        exact h9), mw_drop (f := f) (X := [(m1, .inl (cs 0, 11520, .inl (ai lm))), (m2, .inl (cs 0, 180, .inl (ai mn2))), (m3, .inl (cs 0, 180, .inl (ai (up sn x 0))))]) ha (List.nodup_cons.mp hF.1).1⟩)
      · refine lv_aload_n hx hb d_Mo_trim_9 rfl (lv_at hl 0 rfl) ?_
        refine x_get (C := RX7) (T := TX7) (N := 18) hx hb hts inX7 hown B hF 0 rfl rfl 1 (by decide) (hts _ w_678) (fun _ h9 => h9) rfl d_Mo_trim_10 ?_
        refine x_bipush hx hb d_Mo_trim_13 (by decide) ?_
        refine lv_iload_n hx hb d_Mo_trim_15 rfl (lv_at hl 1 rfl) ?_
        refine x_imul hx hb d_Mo_trim_16 ?_
        refine lv_aload_n hx hb d_Mo_trim_17 rfl (lv_at hl 0 rfl) ?_
        refine x_get (C := RX7) (T := TX7) (N := 18) hx hb hts inX7 hown B hF 0 rfl rfl 2 (by decide) (hts _ w_679) (fun _ h9 => h9) rfl d_Mo_trim_18 ?_
        refine lv_iload_n hx hb d_Mo_trim_21 rfl (lv_at hl 1 rfl) ?_
        refine x_iald hx hb B hF 2 0 rfl rfl x (by omega) (by omega) (by decide) d_Mo_trim_22 ?_
        refine x_iadd hx hb d_Mo_trim_23 ?_
        refine x_iconst hx hb d_Mo_trim_24 ?_
        refine x_isub hx hb d_Mo_trim_25 ?_
        refine x_iald hx hb B hF 1 0 rfl rfl (64 * x + (n2 - 1)) (by omega) (by omega) (by decide) d_Mo_trim_26 ?_
        have hlr2 := hlr (by omega)
        refine x_ifw_ne (tgt := 43) hx hb d_Mo_trim_27 (by decide) (by omega) (fun h27 => ?_) (fun h27 => ?_)
        · refine lv_aload_n hx hb d_Mo_trim_43 rfl (lv_at hl 0 rfl) ?_
          refine x_get (C := RX7) (T := TX7) (N := 18) hx hb hts inX7 hown B hF 0 rfl rfl 3 (by decide) (hts _ w_680) (fun _ h9 => h9) rfl d_Mo_trim_44 ?_
          refine lv_iload_n hx hb d_Mo_trim_47 rfl (lv_at hl 1 rfl) ?_
          refine lv_aload_n hx hb d_Mo_trim_48 rfl (lv_at hl 0 rfl) ?_
          refine x_get (C := RX7) (T := TX7) (N := 18) hx hb hts inX7 hown B hF 0 rfl rfl 2 (by decide) (hts _ w_679) (fun _ h9 => h9) rfl d_Mo_trim_49 ?_
          refine lv_iload_n hx hb d_Mo_trim_52 rfl (lv_at hl 1 rfl) ?_
          refine x_iald hx hb B hF 2 0 rfl rfl x (by omega) (by omega) (by decide) d_Mo_trim_53 ?_
          refine x_if_ne (tgt := 61) hx hb d_Mo_trim_54 (by decide) (by omega) (fun h54 => ?_) (fun h54 => ?_)
          · refine lv_aload_n hx hb d_Mo_trim_61 rfl (lv_at hl 0 rfl) ?_
            refine x_get (C := RX7) (T := TX7) (N := 18) hx hb hts inX7 hown B hF 0 rfl rfl 3 (by decide) (hts _ w_680) (fun _ h9 => h9) rfl d_Mo_trim_62 ?_
            refine lv_iload_n hx hb d_Mo_trim_65 rfl (lv_at hl 1 rfl) ?_
            refine x_iald hx hb B hF 3 0 rfl rfl x (by omega) (by omega) (by decide) d_Mo_trim_66 ?_
            refine x_iast hx hb B hF 3 0 rfl rfl x (by omega) (by omega) (by decide) d_Mo_trim_67 (fun H locs B => ?_)
            have B : Wb D vwCl (TY cs) L (mw f [(y, .inr (7, [.int (iI th), .ref m1, .ref m2, .ref m3, .int (iI pn), .ref m5, .ref m6, .ref m7, .ref m8, .ref m9, .ref m10, .ref m11, .ref m12, .ref m13, .int (iI rw_), .ref m15, .long (lI fu), .long (lI fb)])), (m1, .inl (cs 0, 11520, .inl (ai lm))), (m2, .inl (cs 0, 180, .inl (ai mn2))), (m3, .inl (cs 0, 180, .inl (ai (up sn x (sn x)))))]) (AL L s.heap.size) s H _ := B
            subst hQ hav
            exact x_vret hx hb hr hlocks B d_Mo_trim_68 (⟨_, _, _, RS.set hR0 (hO.sign _) (by
        rw [up_self, hm2x]
        have h9 := rv_fin (sd := sn x) hn2 hT (fun h0 => by first | exact h27 | (exfalso; omega)) (fun h0 => hsx (fun hz0 => by
          have := Ms_range hT.1
          have h8 := hT.2
          rw [hz0] at h8
          have := Ms_top (g := fl lm x) (n := n2 - 1) (by rw [show n2 - 1 + 1 = n2 by omega]; exact hT.1) (by first | exact h27 | (exfalso; omega))
          rw [show n2 - 1 + 1 = n2 by omega] at this
          have := Mp_pos (n2 - 1)
          omega))
        rw [if_neg (by omega)] at h9
        exact h9), mw_drop (f := f) (X := [(m1, .inl (cs 0, 11520, .inl (ai lm))), (m2, .inl (cs 0, 180, .inl (ai mn2))), (m3, .inl (cs 0, 180, .inl (ai (up sn x (sn x)))))]) ha (List.nodup_cons.mp hF.1).1⟩)
          · refine x_iconst hx hb d_Mo_trim_57 ?_
            refine lv_goto (tgt := 67) hx hb d_Mo_trim_58 (by decide) ?_
            refine x_iast hx hb B hF 3 0 rfl rfl x (by omega) (by omega) (by decide) d_Mo_trim_67 (fun H locs B => ?_)
            have B : Wb D vwCl (TY cs) L (mw f [(y, .inr (7, [.int (iI th), .ref m1, .ref m2, .ref m3, .int (iI pn), .ref m5, .ref m6, .ref m7, .ref m8, .ref m9, .ref m10, .ref m11, .ref m12, .ref m13, .int (iI rw_), .ref m15, .long (lI fu), .long (lI fb)])), (m1, .inl (cs 0, 11520, .inl (ai lm))), (m2, .inl (cs 0, 180, .inl (ai mn2))), (m3, .inl (cs 0, 180, .inl (ai (up sn x 0))))]) (AL L s.heap.size) s H _ := B
            subst hQ hav
            exact x_vret hx hb hr hlocks B d_Mo_trim_68 (⟨_, _, _, RS.set hR0 (hO.sign _) (by
        rw [up_self, hm2x]
        have h9 := rv_fin (sd := sn x) hn2 hT (fun h0 => by first | exact h27 | (exfalso; omega)) (fun h0 => hsx (fun hz0 => by
          have := Ms_range hT.1
          have h8 := hT.2
          rw [hz0] at h8
          have := Ms_top (g := fl lm x) (n := n2 - 1) (by rw [show n2 - 1 + 1 = n2 by omega]; exact hT.1) (by first | exact h27 | (exfalso; omega))
          rw [show n2 - 1 + 1 = n2 by omega] at this
          have := Mp_pos (n2 - 1)
          omega))
        rw [if_pos (by omega)] at h9
        exact h9), mw_drop (f := f) (X := [(m1, .inl (cs 0, 11520, .inl (ai lm))), (m2, .inl (cs 0, 180, .inl (ai mn2))), (m3, .inl (cs 0, 180, .inl (ai (up sn x 0))))]) ha (List.nodup_cons.mp hF.1).1⟩)
        · refine lv_aload_n hx hb d_Mo_trim_30 rfl (lv_at hl 0 rfl) ?_
          refine x_get (C := RX7) (T := TX7) (N := 18) hx hb hts inX7 hown B hF 0 rfl rfl 2 (by decide) (hts _ w_679) (fun _ h9 => h9) rfl d_Mo_trim_31 ?_
          refine lv_iload_n hx hb d_Mo_trim_34 rfl (lv_at hl 1 rfl) ?_
          refine lv_dup2_11 hx hb d_Mo_trim_35 rfl rfl ?_
          refine x_iald hx hb B hF 2 0 rfl rfl x (by omega) (by omega) (by decide) d_Mo_trim_36 ?_
          refine x_iconst hx hb d_Mo_trim_37 ?_
          refine x_isub hx hb d_Mo_trim_38 ?_
          refine x_iast hx hb B hF 2 0 rfl rfl x (by omega) (by omega) (by decide) d_Mo_trim_39 (fun H locs B => ?_)
          have B : Wb D vwCl (TY cs) L (mw f [(y, .inr (7, [.int (iI th), .ref m1, .ref m2, .ref m3, .int (iI pn), .ref m5, .ref m6, .ref m7, .ref m8, .ref m9, .ref m10, .ref m11, .ref m12, .ref m13, .int (iI rw_), .ref m15, .long (lI fu), .long (lI fb)])), (m1, .inl (cs 0, 11520, .inl (ai lm))), (m2, .inl (cs 0, 180, .inl (ai (up mn2 x ((mn2 x) - 1))))), (m3, .inl (cs 0, 180, .inl (ai sn)))]) (AL L s.heap.size) s H _ := B
          refine lv_goto (tgt := 0) hx hb d_Mo_trim_40 (by decide) ?_
          exact ih_LP (n2 - 1) (up mn2 x ((mn2 x) - 1)) (by omega) (by omega) (by rw [up_self]; omega) (hO.many _) (hT.step (by omega) h27) _ _ _ B (lv_sub hl [0, 1] rfl)
  exact LP _ nx mn (Nat.lt_succ_self _) hn8 hnx (Off.refl x lm mn sn) hT0 _ _ _ B (lv_sub hl [0, 1] rfl)
