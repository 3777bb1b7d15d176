def Ne4 (gt gp ga gb : Nat) : Prop := (gt ≠ gp ∧ gt ≠ ga ∧ gt ≠ gb) ∧ (gp ≠ ga ∧ gp ≠ gb) ∧ ga ≠ gb
theorem d_Chain_look_0 : decode prog_3_method_4_code 0 = .ok (.iconst 0, 1) := by decide +kernel
theorem d_Chain_look_1 : decode prog_3_method_4_code 1 = .ok (.istore_n 2, 1) := by decide +kernel
theorem d_Chain_look_2 : decode prog_3_method_4_code 2 = .ok (.aload_n 0, 1) := by decide +kernel
theorem d_Chain_look_3 : decode prog_3_method_4_code 3 = .ok (.iconst 0, 1) := by decide +kernel
theorem d_Chain_look_4 : decode prog_3_method_4_code 4 = .ok (.putfield 25, 3) := by decide +kernel
theorem d_Chain_look_7 : decode prog_3_method_4_code 7 = .ok (.iconst 0, 1) := by decide +kernel
theorem d_Chain_look_8 : decode prog_3_method_4_code 8 = .ok (.istore_n 3, 1) := by decide +kernel
theorem d_Chain_look_9 : decode prog_3_method_4_code 9 = .ok (.iload_n 3, 1) := by decide +kernel
theorem d_Chain_look_10 : decode prog_3_method_4_code 10 = .ok (.aload_n 0, 1) := by decide +kernel
theorem d_Chain_look_11 : decode prog_3_method_4_code 11 = .ok (.getfield 21, 3) := by decide +kernel
theorem d_Chain_look_14 : decode prog_3_method_4_code 14 = .ok (.if_icmp .ge 79, 3) := by decide +kernel
theorem d_Chain_look_17 : decode prog_3_method_4_code 17 = .ok (.aload_n 1, 1) := by decide +kernel
theorem d_Chain_look_18 : decode prog_3_method_4_code 18 = .ok (.aload_n 0, 1) := by decide +kernel
theorem d_Chain_look_19 : decode prog_3_method_4_code 19 = .ok (.getfield 13, 3) := by decide +kernel
theorem d_Chain_look_22 : decode prog_3_method_4_code 22 = .ok (.iload_n 3, 1) := by decide +kernel
theorem d_Chain_look_23 : decode prog_3_method_4_code 23 = .ok (.bipush 6, 2) := by decide +kernel
theorem d_Chain_look_25 : decode prog_3_method_4_code 25 = .ok (.imul, 1) := by decide +kernel
theorem d_Chain_look_26 : decode prog_3_method_4_code 26 = .ok (.aload_n 0, 1) := by decide +kernel
theorem d_Chain_look_27 : decode prog_3_method_4_code 27 = .ok (.getfield 17, 3) := by decide +kernel
theorem d_Chain_look_30 : decode prog_3_method_4_code 30 = .ok (.iload_n 3, 1) := by decide +kernel
theorem d_Chain_look_31 : decode prog_3_method_4_code 31 = .ok (.iaload, 1) := by decide +kernel
theorem d_Chain_look_32 : decode prog_3_method_4_code 32 = .ok (.invokevirtual 65, 3) := by decide +kernel
theorem d_Chain_look_35 : decode prog_3_method_4_code 35 = .ok (.istore 4, 2) := by decide +kernel
theorem d_Chain_look_37 : decode prog_3_method_4_code 37 = .ok (.aload_n 0, 1) := by decide +kernel
theorem d_Chain_look_38 : decode prog_3_method_4_code 38 = .ok (.iload_n 3, 1) := by decide +kernel
theorem d_Chain_look_39 : decode prog_3_method_4_code 39 = .ok (.ifCond .ne 8, 3) := by decide +kernel
theorem d_Chain_look_42 : decode prog_3_method_4_code 42 = .ok (.iload 4, 2) := by decide +kernel
theorem d_Chain_look_44 : decode prog_3_method_4_code 44 = .ok (.goto 7, 3) := by decide +kernel
theorem d_Chain_look_47 : decode prog_3_method_4_code 47 = .ok (.aload_n 0, 1) := by decide +kernel
theorem d_Chain_look_48 : decode prog_3_method_4_code 48 = .ok (.getfield 28, 3) := by decide +kernel
theorem d_Chain_look_51 : decode prog_3_method_4_code 51 = .ok (.putfield 28, 3) := by decide +kernel
theorem d_Chain_look_54 : decode prog_3_method_4_code 54 = .ok (.aload_n 0, 1) := by decide +kernel
theorem d_Chain_look_55 : decode prog_3_method_4_code 55 = .ok (.dup, 1) := by decide +kernel
theorem d_Chain_look_56 : decode prog_3_method_4_code 56 = .ok (.getfield 25, 3) := by decide +kernel
theorem d_Chain_look_59 : decode prog_3_method_4_code 59 = .ok (.iload 4, 2) := by decide +kernel
theorem d_Chain_look_61 : decode prog_3_method_4_code 61 = .ok (.iload_n 2, 1) := by decide +kernel
theorem d_Chain_look_62 : decode prog_3_method_4_code 62 = .ok (.imul, 1) := by decide +kernel
theorem d_Chain_look_63 : decode prog_3_method_4_code 63 = .ok (.ifCond .ge 7, 3) := by decide +kernel
theorem d_Chain_look_66 : decode prog_3_method_4_code 66 = .ok (.iconst 1, 1) := by decide +kernel
theorem d_Chain_look_67 : decode prog_3_method_4_code 67 = .ok (.goto 4, 3) := by decide +kernel
theorem d_Chain_look_70 : decode prog_3_method_4_code 70 = .ok (.iconst 0, 1) := by decide +kernel
theorem d_Chain_look_71 : decode prog_3_method_4_code 71 = .ok (.iadd, 1) := by decide +kernel
theorem d_Chain_look_72 : decode prog_3_method_4_code 72 = .ok (.putfield 25, 3) := by decide +kernel
theorem d_Chain_look_75 : decode prog_3_method_4_code 75 = .ok (.iload 4, 2) := by decide +kernel
theorem d_Chain_look_77 : decode prog_3_method_4_code 77 = .ok (.ifCond .eq 8, 3) := by decide +kernel
theorem d_Chain_look_80 : decode prog_3_method_4_code 80 = .ok (.iload 4, 2) := by decide +kernel
theorem d_Chain_look_82 : decode prog_3_method_4_code 82 = .ok (.goto 4, 3) := by decide +kernel
theorem d_Chain_look_85 : decode prog_3_method_4_code 85 = .ok (.iload_n 2, 1) := by decide +kernel
theorem d_Chain_look_86 : decode prog_3_method_4_code 86 = .ok (.istore_n 2, 1) := by decide +kernel
theorem d_Chain_look_87 : decode prog_3_method_4_code 87 = .ok (.iinc 3 1, 3) := by decide +kernel
theorem d_Chain_look_90 : decode prog_3_method_4_code 90 = .ok (.goto (-81), 3) := by decide +kernel
theorem d_Chain_look_93 : decode prog_3_method_4_code 93 = .ok (.return_, 1) := by decide +kernel
set_option maxHeartbeats 8000000 in
set_option maxRecDepth 100000 in
theorem c_Chain_look (l : Launch) (D : va_G) (cs : Nat → ClassId) (L : List Nat) (f : Nat → va_E) (sz : Nat) (ch tt tq cl cr n : Nat) (tu fi : Int) (tps : Nat → Int) (dg : Nat → Nat) (gg : Nat → Option Nat) (tm : Nat → Nat) (x gu gl gs gt gp ga gb : Nat) (tp : Int) (Wk : Nat → Prop) (S : Nat → Prop) (Qm : Nat → Nat) (Zf : Nat → Int) (hF : Fc L [ch, tt, tq, x]) (ha : f ch = .inr (1, [.ref tt, .ref tq, .int (iI ((n : Int))), .int (iI tu), .int (iI fi), .ref cl, .ref cr])) (htt : f tt = .inl (cs 3, 42, .inr (.inr (.inr (.inr gg))))) (htq : f tq = .inl (cs 0, 7, .inl (ai tps))) (hn : 1 ≤ n ∧ n ≤ 6) (htp : ∀ k, k < n → tps k = (dg k : Int) ∧ dg k < 6) (hG : ∀ t, t < 42 → gg t = some (tm t)) (hSt : ∀ t, t < 42 → S (tm t)) (hlead : ∀ k, k < n → Zf (tm (6 * k + dg k)) ≠ 0 ∧ ∀ j, dg k < j → j < 6 → Zf (tm (6 * k + j)) = 0) (hx0 : f x = .inr (5, [.ref gu, .ref gl, .ref gs, .int (iI tp), .ref gt, .ref gp, .ref ga, .ref gb])) (hSp : Sp L S Qm) (hB : BH cs f S Qm Zf) (hOk : ∀ k ∈ ([ch, tt, tq, x] : List Nat), Out S Qm k) (hW : ∀ b, Wk b → S b) (hWd : Wk gt ∧ Wk gp ∧ Wk ga ∧ Wk gb) (hne : Ne4 gt gp ga gb) (hSu : S gu) (hSl : S gl) (hnu : ¬ Wk gu) (hnl : ¬ Wk gl) (hTw : ∀ t, t < 42 → ¬ Wk (tm t)) (hv0 : 0 < Zf gl) (hroom : ∀ Z2 : Nat → Int, (∀ b, ¬ Wk b → Z2 b = Zf b) → ∀ k, k < n → ∀ i, i ≤ dg k → ((hs0 (fun j => Z2 (tm (6 * k + j))) (dg k) (Z2 gu) (Z2 gl) i * Z2 gu).natAbs : Int) < Bp 47 ∧ ((Z2 (tm (6 * k + (dg k - i))) * Z2 gl ^ i).natAbs : Int) < Bp 47 ∧ ((hs0 (fun j => Z2 (tm (6 * k + j))) (dg k) (Z2 gu) (Z2 gl) i * Z2 gu).natAbs : Int) + ((Z2 (tm (6 * k + (dg k - i))) * Z2 gl ^ i).natAbs : Int) < Bp 48 ∧ (i < dg k → ((Z2 gl ^ i * Z2 gl).natAbs : Int) < Bp 47)) : Met l (⟨"RealRoots$Chain", "look", "(LRealRoots$Spot;)V"⟩ : MethodName) (.code (⟨"RealRoots$Chain", "look", "(LRealRoots$Spot;)V"⟩ : MethodName) prog_3_method_4_code 5 (Option.none : Option Jvm.ClassFile.FieldType) :: gw) ({ frames := 2, cells := 0, slots := 0, locals := 100 }) (va_Pc [.ref ch, .ref x] (K0 D vwCl (TY cs) L f sz)) (va_Qv (fun (g : Nat → va_E) => ∃ (gt' gp' ga' gb' : Nat) (Z' : Nat → Int), (Wk gt' ∧ Wk gp' ∧ Wk ga' ∧ Wk gb') ∧ Ne4 gt' gp' ga' gb' ∧ (∀ b, ¬ Wk b → Z' b = Zf b) ∧ BH cs g S Qm Z' ∧ (∀ k, Out S Qm k → k ∉ ([ch, tt, tq, x] : List Nat) → g k = f k) ∧ g ch = .inr (1, [.ref tt, .ref tq, .int (iI ((n : Int))), .int (iI (tn (fun k => sg (es (fun j => Zf (tm (6 * k + j))) 6 ((Zf gu : Rat) / (Zf gl : Rat)))) n)), .int (iI ((fun k => sg (es (fun j => Zf (tm (6 * k + j))) 6 ((Zf gu : Rat) / (Zf gl : Rat)))) 0)), .ref cl, .ref cr]) ∧ g tt = .inl (cs 3, 42, .inr (.inr (.inr (.inr gg)))) ∧ g tq = .inl (cs 0, 7, .inl (ai tps)) ∧ g x = .inr (5, [.ref gu, .ref gl, .ref gs, .int (iI tp), .ref (gt'), .ref (gp'), .ref (ga'), .ref (gb')])) (K1 D vwCl (TY cs) (AL L sz) L) (AL L sz)) 0 0 (AL L sz) := by
  refine Met.ofW (cc := prog_3_method_4_code) (maxL := 5) (ret := (Option.none : Option Jvm.ClassFile.FieldType)) (by decide) rfl ?_
  intro p e s m args below meth c s₁ Bd hml hv
  obtain ⟨rfl, hk0⟩ := hv
  obtain ⟨hsz, B⟩ := hk0.start
  subst hsz
  have hx := Bd.exec
  have hb := Bd.bytes
  have hr := Bd.returns
  have hlocks := Bd.notSynchronized
  have hts0 := atoms_spec Bd.pre
  have hown : s.vm.findClass RX1 = some m.cls := findClass_of_methodNamed Bd.named
  have hA : ∀ q, s.heap.size ≤ q → AL L s.heap.size q := fun _ h => Or.inr h
  have hl := lv_entry ([.ref ch, .ref x]) (n := 5) (Nat.le_of_ble_eq_true rfl)
  rw [lg_entry_eq]
  generalize (lg_sl ([.ref ch, .ref x]) ++ List.replicate (5 - (lg_sl ([.ref ch, .ref x])).length) Slot.unset).toArray = ls at hl ⊢
  refine absQ (fun Q R av hQ hR hav => ?_)
  have hts : ∀ w ∈ gw, w.before av s = true := by rw [hav]; exact fun w h => hts0 w (List.mem_cons_of_mem _ h)
  have hRf : R.frames = 2 := by rw [hR]; rfl
  have hRl : R.locals = 100 := by rw [hR]; rfl
  have hRc : R.cells = 0 := by rw [hR]; rfl
  have hRs : R.slots = 0 := by rw [hR]; rfl
  clear hR hts0 Bd
  have hl : lv_has ls 5 [(0, .ref ch), (1, .ref x)] := hl
  obtain ⟨Sg, hSd⟩ : ∃ Sg, Sg = (fun k => sg (es (fun j => Zf (tm (6 * k + j))) 6 ((Zf gu : Rat) / (Zf gl : Rat)))) := ⟨_, rfl⟩
  have hSm : ∀ k, Sg k = 1 ∨ Sg k = 0 ∨ Sg k = -1 := fun k => by rw [hSd]; exact sg_mem _
  have hnch : ch ∉ ([x, tt] : List Nat) := by have h9 := hF.1; simp only [List.nodup_cons, List.mem_cons, List.not_mem_nil, or_false, not_or, List.nodup_nil, not_false_eq_true, and_true] at h9 ⊢; exact ⟨h9.1.2.2, h9.1.1⟩
  have hntq : tq ∉ ([x, tt] : List Nat) := by have h9 := hF.1; simp only [List.nodup_cons, List.mem_cons, List.not_mem_nil, or_false, not_or, List.nodup_nil, not_false_eq_true, and_true] at h9 ⊢; exact ⟨h9.2.2, fun h => h9.2.1.1 h.symm⟩
  have hfx : ∀ q ∈ ([(ch, .inr (1, [.ref tt, .ref tq, .int (iI ((n : Int))), .int (iI tu), .int (iI fi), .ref cl, .ref cr])), (tt, .inl (cs 3, 42, .inr (.inr (.inr (.inr gg))))), (tq, .inl (cs 0, 7, .inl (ai tps))), (x, .inr (5, [.ref gu, .ref gl, .ref gs, .int (iI tp), .ref gt, .ref gp, .ref ga, .ref gb]))] : List (Nat × va_E)), f q.1 = q.2 := fun q hq => by
    simp only [List.mem_cons, List.not_mem_nil, or_false] at hq
    rcases hq with rfl | rfl | rfl | rfl
    · exact ha
    · exact htt
    · exact htq
    · exact hx0
  have hmw : mw f [(ch, .inr (1, [.ref tt, .ref tq, .int (iI ((n : Int))), .int (iI tu), .int (iI fi), .ref cl, .ref cr])), (tt, .inl (cs 3, 42, .inr (.inr (.inr (.inr gg))))), (tq, .inl (cs 0, 7, .inl (ai tps))), (x, .inr (5, [.ref gu, .ref gl, .ref gs, .int (iI tp), .ref gt, .ref gp, .ref ga, .ref gb]))] = f := mw_self (fun k a e hk => hfx (a, e) (List.mem_of_getElem? hk))
  have B := B.focus [(ch, .inr (1, [.ref tt, .ref tq, .int (iI ((n : Int))), .int (iI tu), .int (iI fi), .ref cl, .ref cr])), (tt, .inl (cs 3, 42, .inr (.inr (.inr (.inr gg))))), (tq, .inl (cs 0, 7, .inl (ai tps))), (x, .inr (5, [.ref gu, .ref gl, .ref gs, .int (iI tp), .ref gt, .ref gp, .ref ga, .ref gb]))] hfx
  refine x_iconst hx hb d_Chain_look_0 ?_
  refine lv_istore_n (lv' := [(2, .int (iI 0)), (0, .ref ch), (1, .ref x)]) hx hb d_Chain_look_1 rfl hl (by decide) rfl (fun ls hl => ?_)
  refine lv_aload_n hx hb d_Chain_look_2 rfl (lv_at hl 1 rfl) ?_
  refine x_iconst hx hb d_Chain_look_3 ?_
  refine x_put (C := RX1) (T := TX1) (N := 7) hx hb hts inX1 tyX1 tyX1_ok nmX1 hown B hF 0 rfl rfl 3 (by decide) (hts _ w_56) (fun _ h9 => h9) rfl (tyX1_ok 3 (by decide)) rfl rfl (Nat.le_of_ble_eq_true rfl) d_Chain_look_4 (fun H locs B => ?_)
  have B : Wb D vwCl (TY cs) L (mw f [(ch, .inr (1, [.ref tt, .ref tq, .int (iI ((n : Int))), .int (iI 0), .int (iI fi), .ref cl, .ref cr])), (tt, .inl (cs 3, 42, .inr (.inr (.inr (.inr gg))))), (tq, .inl (cs 0, 7, .inl (ai tps))), (x, .inr (5, [.ref gu, .ref gl, .ref gs, .int (iI tp), .ref gt, .ref gp, .ref ga, .ref gb]))]) (AL L s.heap.size) s H _ := B
  refine x_iconst hx hb d_Chain_look_7 ?_
  refine lv_istore_n (lv' := [(3, .int (iI 0)), (2, .int (iI 0)), (0, .ref ch), (1, .ref x)]) hx hb d_Chain_look_8 rfl hl (by decide) rfl (fun ls hl => ?_)
  have LP : ∀ (fuel : Nat) (k : Nat) (f2 : Nat → va_E) (gt : Nat) (gp : Nat) (ga : Nat) (gb : Nat) (Z2 : Nat → Int) (fi : Int), n - k < fuel → (k ≤ n) → (BH cs f2 S Qm Z2) → (Wk gt ∧ Wk gp ∧ Wk ga ∧ Wk gb) → (Ne4 gt gp ga gb) → (∀ b, ¬ Wk b → Z2 b = Zf b) → (0 < k → fi = Sg 0) → (∀ k, Out S Qm k → k ∉ ([ch, tt, tq, x] : List Nat) → f2 k = f k) → ∀ (H : Heap) (locs : List Loc) (ls : Array Slot), Wb D vwCl (TY cs) L (mw f2 [(ch, .inr (1, [.ref tt, .ref tq, .int (iI ((n : Int))), .int (iI (tn Sg k)), .int (iI fi), .ref cl, .ref cr])), (tt, .inl (cs 3, 42, .inr (.inr (.inr (.inr gg))))), (tq, .inl (cs 0, 7, .inl (ai tps))), (x, .inr (5, [.ref gu, .ref gl, .ref gs, .int (iI tp), .ref gt, .ref gp, .ref ga, .ref gb]))]) (AL L s.heap.size) s H locs → lv_has ls 5 [(3, .int (iI ((k : Int)))), (2, .int (iI (lst Sg k))), (0, .ref ch), (1, .ref x)] → W p l e R s m av below meth c H locs (0) (0) Q (F0 m 9 ls []) := by
    intro fuel
    induction fuel with
    | zero => intro k f2 gt gp ga gb Z2 fi hfu; exact absurd hfu (Nat.not_lt_zero _)
    | succ fuel ih_LP =>
      intro k f2 gt gp ga gb Z2 fi hfu_LP hk hB2 hWd hne hZo hfi hfr2 H locs ls B hl
      have hS1 := hSm k
      have hl1 := lst_mem hSm k
      refine lv_iload_n hx hb d_Chain_look_9 rfl (lv_at hl 0 rfl) ?_
      refine lv_aload_n hx hb d_Chain_look_10 rfl (lv_at hl 2 rfl) ?_
      refine x_get (C := RX1) (T := TX1) (N := 7) hx hb hts inX1 hown B hF 0 rfl rfl 2 (by decide) (hts _ w_54) (fun _ h9 => h9) rfl d_Chain_look_11 ?_
      refine x_icmp_ge (tgt := 93) hx hb d_Chain_look_14 (by decide) (by omega) (by omega) (fun h14 => ?_) (fun h14 => ?_)
      · subst hQ hav
        exact x_vret hx hb hr hlocks B d_Chain_look_93 (⟨gt, gp, ga, gb, Z2, hWd, hne, hZo, hB2.keep (X := [(ch, .inr (1, [.ref tt, .ref tq, .int (iI ((n : Int))), .int (iI (tn Sg k)), .int (iI fi), .ref cl, .ref cr])), (tt, .inl (cs 3, 42, .inr (.inr (.inr (.inr gg))))), (tq, .inl (cs 0, 7, .inl (ai tps))), (x, .inr (5, [.ref gu, .ref gl, .ref gs, .int (iI tp), .ref gt, .ref gp, .ref ga, .ref gb]))]) hOk, fun c0 h1 h2 => by rw [mw_out (X := [(ch, .inr (1, [.ref tt, .ref tq, .int (iI ((n : Int))), .int (iI (tn Sg k)), .int (iI fi), .ref cl, .ref cr])), (tt, .inl (cs 3, 42, .inr (.inr (.inr (.inr gg))))), (tq, .inl (cs 0, 7, .inl (ai tps))), (x, .inr (5, [.ref gu, .ref gl, .ref gs, .int (iI tp), .ref gt, .ref gp, .ref ga, .ref gb]))]) h2]; exact hfr2 c0 h1 h2, (mw_get (X := [(ch, .inr (1, [.ref tt, .ref tq, .int (iI ((n : Int))), .int (iI (tn Sg k)), .int (iI fi), .ref cl, .ref cr])), (tt, .inl (cs 3, 42, .inr (.inr (.inr (.inr gg))))), (tq, .inl (cs 0, 7, .inl (ai tps))), (x, .inr (5, [.ref gu, .ref gl, .ref gs, .int (iI tp), .ref gt, .ref gp, .ref ga, .ref gb]))]) hF.1 (k := 0) rfl).trans (by rw [show k = n by omega, hfi (by omega), hSd]), mw_get (X := [(ch, .inr (1, [.ref tt, .ref tq, .int (iI ((n : Int))), .int (iI (tn Sg k)), .int (iI fi), .ref cl, .ref cr])), (tt, .inl (cs 3, 42, .inr (.inr (.inr (.inr gg))))), (tq, .inl (cs 0, 7, .inl (ai tps))), (x, .inr (5, [.ref gu, .ref gl, .ref gs, .int (iI tp), .ref gt, .ref gp, .ref ga, .ref gb]))]) hF.1 (k := 1) rfl, mw_get (X := [(ch, .inr (1, [.ref tt, .ref tq, .int (iI ((n : Int))), .int (iI (tn Sg k)), .int (iI fi), .ref cl, .ref cr])), (tt, .inl (cs 3, 42, .inr (.inr (.inr (.inr gg))))), (tq, .inl (cs 0, 7, .inl (ai tps))), (x, .inr (5, [.ref gu, .ref gl, .ref gs, .int (iI tp), .ref gt, .ref gp, .ref ga, .ref gb]))]) hF.1 (k := 2) rfl, mw_get (X := [(ch, .inr (1, [.ref tt, .ref tq, .int (iI ((n : Int))), .int (iI (tn Sg k)), .int (iI fi), .ref cl, .ref cr])), (tt, .inl (cs 3, 42, .inr (.inr (.inr (.inr gg))))), (tq, .inl (cs 0, 7, .inl (ai tps))), (x, .inr (5, [.ref gu, .ref gl, .ref gs, .int (iI tp), .ref gt, .ref gp, .ref ga, .ref gb]))]) hF.1 (k := 3) rfl⟩)
      · have htk := htp k (by omega)
        obtain ⟨hld, hlz⟩ := hlead k (by omega)
        have hZu : Z2 gu = Zf gu := hZo _ hnu
        have hZl : Z2 gl = Zf gl := hZo _ hnl
        have hZr : ∀ j, j < 6 → Z2 (tm (6 * k + j)) = Zf (tm (6 * k + j)) := fun j hj => hZo _ (hTw _ (by omega))
        refine lv_aload_n hx hb d_Chain_look_17 rfl (lv_at hl 3 rfl) ?_
        refine lv_aload_n hx hb d_Chain_look_18 rfl (lv_at hl 2 rfl) ?_
        refine x_get (C := RX1) (T := TX1) (N := 7) hx hb hts inX1 hown B hF 0 rfl rfl 0 (by decide) (hts _ w_52) (fun _ h9 => h9) rfl d_Chain_look_19 ?_
        refine lv_iload_n hx hb d_Chain_look_22 rfl (lv_at hl 0 rfl) ?_
        refine x_bipush hx hb d_Chain_look_23 (by decide) ?_
        refine x_imul hx hb d_Chain_look_25 ?_
        refine lv_aload_n hx hb d_Chain_look_26 rfl (lv_at hl 2 rfl) ?_
        refine x_get (C := RX1) (T := TX1) (N := 7) hx hb hts inX1 hown B hF 0 rfl rfl 1 (by decide) (hts _ w_53) (fun _ h9 => h9) rfl d_Chain_look_27 ?_
        refine lv_iload_n hx hb d_Chain_look_30 rfl (lv_at hl 0 rfl) ?_
        refine x_iald hx hb B hF 2 0 rfl rfl k (by omega) (by omega) (by decide) d_Chain_look_31 ?_
        rw [htk.1, show (k : Int) * 6 = ((6 * k : Nat) : Int) by omega]
        refine x_calli B hA (va_runV (As := [.ref tt, .int (iI (((6 * k : Nat) : Int))), .int (iI ((dg k : Int)))]) (rest := []) ⟨hx, hb, hml, hown, hts⟩ (c_Spot_signOf_c l D cs _ _ _ x tt gu gl gs gt gp ga gb (6 * k) (dg k) tp S Wk Qm Z2 gg tm (hF.pick [3, 1] rfl rfl) (mw_get (X := [(ch, .inr (1, [.ref tt, .ref tq, .int (iI ((n : Int))), .int (iI (tn Sg k)), .int (iI fi), .ref cl, .ref cr])), (tt, .inl (cs 3, 42, .inr (.inr (.inr (.inr gg))))), (tq, .inl (cs 0, 7, .inl (ai tps))), (x, .inr (5, [.ref gu, .ref gl, .ref gs, .int (iI tp), .ref gt, .ref gp, .ref ga, .ref gb]))]) hF.1 (k := 3) rfl) (mw_get (X := [(ch, .inr (1, [.ref tt, .ref tq, .int (iI ((n : Int))), .int (iI (tn Sg k)), .int (iI fi), .ref cl, .ref cr])), (tt, .inl (cs 3, 42, .inr (.inr (.inr (.inr gg))))), (tq, .inl (cs 0, 7, .inl (ai tps))), (x, .inr (5, [.ref gu, .ref gl, .ref gs, .int (iI tp), .ref gt, .ref gp, .ref ga, .ref gb]))]) hF.1 (k := 1) rfl) hSp (hB2.keep (X := [(ch, .inr (1, [.ref tt, .ref tq, .int (iI ((n : Int))), .int (iI (tn Sg k)), .int (iI fi), .ref cl, .ref cr])), (tt, .inl (cs 3, 42, .inr (.inr (.inr (.inr gg))))), (tq, .inl (cs 0, 7, .inl (ai tps))), (x, .inr (5, [.ref gu, .ref gl, .ref gs, .int (iI tp), .ref gt, .ref gp, .ref ga, .ref gb]))]) hOk) (fun q hq => hOk q (by simp only [List.mem_cons, List.not_mem_nil, or_false] at hq ⊢; rcases hq with h | h <;> simp [h])) hW hWd hne hSu hSl hnu hnl htk.2 (by omega) (fun j hj => hG _ (by omega)) (fun j hj => ⟨hSt _ (by omega), hTw _ (by omega)⟩) (hroom Z2 hZo k (by omega))) (cwV 3 hts (gw_V w_410 w_411 w_412 w_4 w_413) rfl rfl rfl (by decide +kernel) ⟨by rw [hRf]; exact Nat.le_of_ble_eq_true rfl, by rw [hRl]; exact Nat.le_of_ble_eq_true rfl⟩) ⟨K0.blind, B.recv (hF.2 _ (mw_key (k := 3) (X := [(ch, .inr (1, [.ref tt, .ref tq, .int (iI ((n : Int))), .int (iI (tn Sg k)), .int (iI fi), .ref cl, .ref cr])), (tt, .inl (cs 3, 42, .inr (.inr (.inr (.inr gg))))), (tq, .inl (cs 0, 7, .inl (ai tps))), (x, .inr (5, [.ref gu, .ref gl, .ref gs, .int (iI tp), .ref gt, .ref gp, .ref ga, .ref gb]))]) rfl)) (mw_get (X := [(ch, .inr (1, [.ref tt, .ref tq, .int (iI ((n : Int))), .int (iI (tn Sg k)), .int (iI fi), .ref cl, .ref cr])), (tt, .inl (cs 3, 42, .inr (.inr (.inr (.inr gg))))), (tq, .inl (cs 0, 7, .inl (ai tps))), (x, .inr (5, [.ref gu, .ref gl, .ref gs, .int (iI tp), .ref gt, .ref gp, .ref ga, .ref gb]))]) hF.1 (k := 3) rfl) rfl, B.pre _⟩ rfl rfl hl.1 rfl (lv_room (Nat.le_of_ble_eq_true rfl)) d_Chain_look_32 ⟨by rw [hRc]; omega, by rw [hRs]; omega⟩) (fun r32 g32 H locs hw B => ?_)
        obtain ⟨gt', gp', ga', gb', Z3, rfl, hZt3, hWd3, hne3, hZo3, hB3, hfr9, hx9, htt9⟩ := hw
        have hne3 : Ne4 gt' gp' ga' gb' := hne3
        have hch9 : g32 ch = .inr (1, [.ref tt, .ref tq, .int (iI ((n : Int))), .int (iI (tn Sg k)), .int (iI fi), .ref cl, .ref cr]) := (hfr9 ch (hOk ch (by simp)) hnch).trans (mw_get (X := [(ch, .inr (1, [.ref tt, .ref tq, .int (iI ((n : Int))), .int (iI (tn Sg k)), .int (iI fi), .ref cl, .ref cr])), (tt, .inl (cs 3, 42, .inr (.inr (.inr (.inr gg))))), (tq, .inl (cs 0, 7, .inl (ai tps))), (x, .inr (5, [.ref gu, .ref gl, .ref gs, .int (iI tp), .ref gt, .ref gp, .ref ga, .ref gb]))]) hF.1 (k := 0) rfl)
        have htq9 : g32 tq = .inl (cs 0, 7, .inl (ai tps)) := (hfr9 tq (hOk tq (by simp)) hntq).trans (mw_get (X := [(ch, .inr (1, [.ref tt, .ref tq, .int (iI ((n : Int))), .int (iI (tn Sg k)), .int (iI fi), .ref cl, .ref cr])), (tt, .inl (cs 3, 42, .inr (.inr (.inr (.inr gg))))), (tq, .inl (cs 0, 7, .inl (ai tps))), (x, .inr (5, [.ref gu, .ref gl, .ref gs, .int (iI tp), .ref gt, .ref gp, .ref ga, .ref gb]))]) hF.1 (k := 2) rfl)
        have hfr3 : ∀ k, Out S Qm k → k ∉ ([ch, tt, tq, x] : List Nat) → g32 k = f k := fun c0 h1 h2 => by rw [hfr9 c0 h1 (fun hm => h2 (by simp only [List.mem_cons, List.not_mem_nil, or_false] at hm ⊢; rcases hm with h | h <;> simp [h])), mw_out (X := [(ch, .inr (1, [.ref tt, .ref tq, .int (iI ((n : Int))), .int (iI (tn Sg k)), .int (iI fi), .ref cl, .ref cr])), (tt, .inl (cs 3, 42, .inr (.inr (.inr (.inr gg))))), (tq, .inl (cs 0, 7, .inl (ai tps))), (x, .inr (5, [.ref gu, .ref gl, .ref gs, .int (iI tp), .ref gt, .ref gp, .ref ga, .ref gb]))]) h2]; exact hfr2 c0 h1 h2
        have B := B.focus [(ch, .inr (1, [.ref tt, .ref tq, .int (iI ((n : Int))), .int (iI (tn Sg k)), .int (iI fi), .ref cl, .ref cr])), (tt, .inl (cs 3, 42, .inr (.inr (.inr (.inr gg))))), (tq, .inl (cs 0, 7, .inl (ai tps))), (x, .inr (5, [.ref gu, .ref gl, .ref gs, .int (iI tp), .ref (gt'), .ref (gp'), .ref (ga'), .ref (gb')]))] (fun q hq => by
            simp only [List.mem_cons, List.not_mem_nil, or_false] at hq
            rcases hq with rfl | rfl | rfl | rfl
            · exact hch9
            · exact htt9
            · exact htq9
            · exact hx9)
        have B : Wb D vwCl (TY cs) L (mw g32 [(ch, .inr (1, [.ref tt, .ref tq, .int (iI ((n : Int))), .int (iI (tn Sg k)), .int (iI fi), .ref cl, .ref cr])), (tt, .inl (cs 3, 42, .inr (.inr (.inr (.inr gg))))), (tq, .inl (cs 0, 7, .inl (ai tps))), (x, .inr (5, [.ref gu, .ref gl, .ref gs, .int (iI tp), .ref (gt'), .ref (gp'), .ref (ga'), .ref (gb')]))]) (AL L s.heap.size) s H _ := B
        have hsk : (hsum (fun j => Z2 (tm (6 * k + j))) (dg k) (Z2 gu) (Z2 gl) (dg k)).sign = Sg k := by
          have h8 := sgn_at (c := (fun j => Zf (tm (6 * k + j)))) (k := dg k + 1) (u := Zf gu) (v := Zf gl) hv0 (by omega) (fun j h1 h2 => hlz j (by omega) h2)
          rw [if_neg (by omega), Nat.add_sub_cancel] at h8
          rw [hZu, hZl, hsum_congr hZr htk.2, h8, hSd]
        rw [hsk]
        refine lv_istore (lv' := [(4, .int (iI (Sg k))), (3, .int (iI ((k : Int)))), (2, .int (iI (lst Sg k))), (0, .ref ch), (1, .ref x)]) hx hb d_Chain_look_35 hl (by decide) rfl (fun ls hl => ?_)
        have J51 : ∀ (fv : Int), (fv = Sg 0) → ∀ (H : Heap) (locs : List Loc) (ls : Array Slot), Wb D vwCl (TY cs) L (mw g32 [(ch, .inr (1, [.ref tt, .ref tq, .int (iI ((n : Int))), .int (iI (tn Sg k)), .int (iI fi), .ref cl, .ref cr])), (tt, .inl (cs 3, 42, .inr (.inr (.inr (.inr gg))))), (tq, .inl (cs 0, 7, .inl (ai tps))), (x, .inr (5, [.ref gu, .ref gl, .ref gs, .int (iI tp), .ref (gt'), .ref (gp'), .ref (ga'), .ref (gb')]))]) (AL L s.heap.size) s H locs → lv_has ls 5 [(4, .int (iI (Sg k))), (3, .int (iI ((k : Int)))), (2, .int (iI (lst Sg k))), (0, .ref ch), (1, .ref x)] → W p l e R s m av below meth c H locs (0) (0) Q (F0 m 51 ls [.int (iI fv), .ref ch]) := by
          intro fv hfv H locs ls B hl
          refine x_put (C := RX1) (T := TX1) (N := 7) hx hb hts inX1 tyX1 tyX1_ok nmX1 hown B hF 0 rfl rfl 4 (by decide) (hts _ w_58) (fun _ h9 => h9) rfl (tyX1_ok 4 (by decide)) rfl rfl (Nat.le_of_ble_eq_true rfl) d_Chain_look_51 (fun H locs B => ?_)
          have B : Wb D vwCl (TY cs) L (mw g32 [(ch, .inr (1, [.ref tt, .ref tq, .int (iI ((n : Int))), .int (iI (tn Sg k)), .int (iI fv), .ref cl, .ref cr])), (tt, .inl (cs 3, 42, .inr (.inr (.inr (.inr gg))))), (tq, .inl (cs 0, 7, .inl (ai tps))), (x, .inr (5, [.ref gu, .ref gl, .ref gs, .int (iI tp), .ref (gt'), .ref (gp'), .ref (ga'), .ref (gb')]))]) (AL L s.heap.size) s H _ := B
          have J71 : ∀ (t : Int), (t = if Sg k * lst Sg k < 0 then 1 else 0) → ∀ (H : Heap) (locs : List Loc) (ls : Array Slot), Wb D vwCl (TY cs) L (mw g32 [(ch, .inr (1, [.ref tt, .ref tq, .int (iI ((n : Int))), .int (iI (tn Sg k)), .int (iI fv), .ref cl, .ref cr])), (tt, .inl (cs 3, 42, .inr (.inr (.inr (.inr gg))))), (tq, .inl (cs 0, 7, .inl (ai tps))), (x, .inr (5, [.ref gu, .ref gl, .ref gs, .int (iI tp), .ref (gt'), .ref (gp'), .ref (ga'), .ref (gb')]))]) (AL L s.heap.size) s H locs → lv_has ls 5 [(4, .int (iI (Sg k))), (3, .int (iI ((k : Int)))), (2, .int (iI (lst Sg k))), (0, .ref ch), (1, .ref x)] → W p l e R s m av below meth c H locs (0) (0) Q (F0 m 71 ls [.int (iI t), .int (iI (tn Sg k)), .ref ch]) := by
            intro t ht H locs ls B hl
            refine x_iadd hx hb d_Chain_look_71 ?_
            refine x_put (C := RX1) (T := TX1) (N := 7) hx hb hts inX1 tyX1 tyX1_ok nmX1 hown B hF 0 rfl rfl 3 (by decide) (hts _ w_56) (fun _ h9 => h9) rfl (tyX1_ok 3 (by decide)) rfl rfl (Nat.le_of_ble_eq_true rfl) d_Chain_look_72 (fun H locs B => ?_)
            have B : Wb D vwCl (TY cs) L (mw g32 [(ch, .inr (1, [.ref tt, .ref tq, .int (iI ((n : Int))), .int (iI ((tn Sg k) + t)), .int (iI fv), .ref cl, .ref cr])), (tt, .inl (cs 3, 42, .inr (.inr (.inr (.inr gg))))), (tq, .inl (cs 0, 7, .inl (ai tps))), (x, .inr (5, [.ref gu, .ref gl, .ref gs, .int (iI tp), .ref (gt'), .ref (gp'), .ref (ga'), .ref (gb')]))]) (AL L s.heap.size) s H _ := B
            have J86 : ∀ (v2 : Int), (v2 = lst Sg (k + 1)) → ∀ (H : Heap) (locs : List Loc) (ls : Array Slot), Wb D vwCl (TY cs) L (mw g32 [(ch, .inr (1, [.ref tt, .ref tq, .int (iI ((n : Int))), .int (iI ((tn Sg k) + t)), .int (iI fv), .ref cl, .ref cr])), (tt, .inl (cs 3, 42, .inr (.inr (.inr (.inr gg))))), (tq, .inl (cs 0, 7, .inl (ai tps))), (x, .inr (5, [.ref gu, .ref gl, .ref gs, .int (iI tp), .ref (gt'), .ref (gp'), .ref (ga'), .ref (gb')]))]) (AL L s.heap.size) s H locs → lv_has ls 5 [(4, .int (iI (Sg k))), (3, .int (iI ((k : Int)))), (2, .int (iI (lst Sg k))), (0, .ref ch), (1, .ref x)] → W p l e R s m av below meth c H locs (0) (0) Q (F0 m 86 ls [.int (iI v2)]) := by
              intro v2 hv2 H locs ls B hl
              refine lv_istore_n (lv' := [(2, .int (iI v2)), (4, .int (iI (Sg k))), (3, .int (iI ((k : Int)))), (0, .ref ch), (1, .ref x)]) hx hb d_Chain_look_86 rfl hl (by decide) rfl (fun ls hl => ?_)
              refine x_iinc (lv' := [(3, .int (iI (((k : Int)) + 1))), (2, .int (iI v2)), (4, .int (iI (Sg k))), (0, .ref ch), (1, .ref x)]) hx hb d_Chain_look_87 hl (q := 2) rfl rfl (by decide) rfl (fun ls hl => ?_)
              refine lv_goto (tgt := 9) hx hb d_Chain_look_90 (by decide) ?_
              subst ht hv2
              exact ih_LP (k + 1) g32 gt' gp' ga' gb' Z3 fv (by omega) (by omega) hB3 hWd3 hne3 (fun b hb => by rw [hZo3 b hb]; exact hZo b hb) (fun _ => hfv) hfr3 _ _ _ B (lv_sub hl [0, 1, 3, 4] rfl)
            refine lv_iload hx hb d_Chain_look_75 (lv_at hl 0 rfl) ?_
            refine x_if_eq (tgt := 85) hx hb d_Chain_look_77 (by decide) (by omega) (fun h77 => ?_) (fun h77 => ?_)
            · refine lv_iload_n hx hb d_Chain_look_85 rfl (lv_at hl 2 rfl) ?_
              exact J86 (lst Sg k) (by first | rw [lst, if_pos (show Sg k ≠ 0 by omega)] | rw [lst, if_neg (show ¬ Sg k ≠ 0 by omega)]) _ _ _ B (lv_sub hl [0, 1, 2, 3, 4] rfl)
            · refine lv_iload hx hb d_Chain_look_80 (lv_at hl 0 rfl) ?_
              refine lv_goto (tgt := 86) hx hb d_Chain_look_82 (by decide) ?_
              exact J86 (Sg k) (by first | rw [lst, if_pos (show Sg k ≠ 0 by omega)] | rw [lst, if_neg (show ¬ Sg k ≠ 0 by omega)]) _ _ _ B (lv_sub hl [0, 1, 2, 3, 4] rfl)
          have hprod : -1 ≤ Sg k * lst Sg k ∧ Sg k * lst Sg k ≤ 1 := by rcases hS1 with h | h | h <;> rcases hl1 with h2 | h2 | h2 <;> rw [h, h2] <;> decide
          refine lv_aload_n hx hb d_Chain_look_54 rfl (lv_at hl 3 rfl) ?_
          refine lv_dup hx hb d_Chain_look_55 rfl ?_
          refine x_get (C := RX1) (T := TX1) (N := 7) hx hb hts inX1 hown B hF 0 rfl rfl 3 (by decide) (hts _ w_56) (fun _ h9 => h9) rfl d_Chain_look_56 ?_
          refine lv_iload hx hb d_Chain_look_59 (lv_at hl 0 rfl) ?_
          refine lv_iload_n hx hb d_Chain_look_61 rfl (lv_at hl 2 rfl) ?_
          refine x_imul hx hb d_Chain_look_62 ?_
          refine x_if_ge (tgt := 70) hx hb d_Chain_look_63 (by decide) (by omega) (fun h63 => ?_) (fun h63 => ?_)
          · refine x_iconst hx hb d_Chain_look_70 ?_
            exact J71 0 (by have h9 := tn_mul hS1 hl1; first | rw [if_pos (show Sg k * lst Sg k < 0 by omega)] | rw [if_neg (show ¬ Sg k * lst Sg k < 0 by omega)]) _ _ _ B (lv_sub hl [0, 1, 2, 3, 4] rfl)
          · refine x_iconst hx hb d_Chain_look_66 ?_
            refine lv_goto (tgt := 71) hx hb d_Chain_look_67 (by decide) ?_
            exact J71 1 (by have h9 := tn_mul hS1 hl1; first | rw [if_pos (show Sg k * lst Sg k < 0 by omega)] | rw [if_neg (show ¬ Sg k * lst Sg k < 0 by omega)]) _ _ _ B (lv_sub hl [0, 1, 2, 3, 4] rfl)
        refine lv_aload_n hx hb d_Chain_look_37 rfl (lv_at hl 3 rfl) ?_
        refine lv_iload_n hx hb d_Chain_look_38 rfl (lv_at hl 1 rfl) ?_
        refine x_if_ne (tgt := 47) hx hb d_Chain_look_39 (by decide) (by omega) (fun h39 => ?_) (fun h39 => ?_)
        · refine lv_aload_n hx hb d_Chain_look_47 rfl (lv_at hl 3 rfl) ?_
          refine x_get (C := RX1) (T := TX1) (N := 7) hx hb hts inX1 hown B hF 0 rfl rfl 4 (by decide) (hts _ w_58) (fun _ h9 => h9) rfl d_Chain_look_48 ?_
          exact J51 fi (by first | rw [show k = 0 by omega] | exact hfi (by omega)) _ _ _ B (lv_sub hl [0, 1, 2, 3, 4] rfl)
        · refine lv_iload hx hb d_Chain_look_42 (lv_at hl 0 rfl) ?_
          refine lv_goto (tgt := 51) hx hb d_Chain_look_44 (by decide) ?_
          exact J51 (Sg k) (by first | rw [show k = 0 by omega] | exact hfi (by omega)) _ _ _ B (lv_sub hl [0, 1, 2, 3, 4] rfl)
  exact LP _ 0 f gt gp ga gb Zf fi (Nat.lt_succ_self _) (by omega) hB hWd hne (fun b _ => rfl) (fun h => by omega) (fun k _ _ => rfl) _ _ _ B (lv_sub hl [0, 1, 2, 3] rfl)
