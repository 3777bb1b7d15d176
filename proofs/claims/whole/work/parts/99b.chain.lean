theorem d_Chain_turnsFar_0 : decode prog_3_method_5_code 0 = .ok (.iconst 0, 1) := by decide +kernel
theorem d_Chain_turnsFar_1 : decode prog_3_method_5_code 1 = .ok (.istore_n 2, 1) := by decide +kernel
theorem d_Chain_turnsFar_2 : decode prog_3_method_5_code 2 = .ok (.iconst 0, 1) := by decide +kernel
theorem d_Chain_turnsFar_3 : decode prog_3_method_5_code 3 = .ok (.istore_n 3, 1) := by decide +kernel
theorem d_Chain_turnsFar_4 : decode prog_3_method_5_code 4 = .ok (.iconst 0, 1) := by decide +kernel
theorem d_Chain_turnsFar_5 : decode prog_3_method_5_code 5 = .ok (.istore 4, 2) := by decide +kernel
theorem d_Chain_turnsFar_7 : decode prog_3_method_5_code 7 = .ok (.iload 4, 2) := by decide +kernel
theorem d_Chain_turnsFar_9 : decode prog_3_method_5_code 9 = .ok (.aload_n 0, 1) := by decide +kernel
theorem d_Chain_turnsFar_10 : decode prog_3_method_5_code 10 = .ok (.getfield 21, 3) := by decide +kernel
theorem d_Chain_turnsFar_13 : decode prog_3_method_5_code 13 = .ok (.if_icmp .ge 79, 3) := by decide +kernel
theorem d_Chain_turnsFar_16 : decode prog_3_method_5_code 16 = .ok (.aload_n 0, 1) := by decide +kernel
theorem d_Chain_turnsFar_17 : decode prog_3_method_5_code 17 = .ok (.getfield 17, 3) := by decide +kernel
theorem d_Chain_turnsFar_20 : decode prog_3_method_5_code 20 = .ok (.iload 4, 2) := by decide +kernel
theorem d_Chain_turnsFar_22 : decode prog_3_method_5_code 22 = .ok (.iaload, 1) := by decide +kernel
theorem d_Chain_turnsFar_23 : decode prog_3_method_5_code 23 = .ok (.ifCond .lt 69, 3) := by decide +kernel
theorem d_Chain_turnsFar_26 : decode prog_3_method_5_code 26 = .ok (.aload_n 0, 1) := by decide +kernel
theorem d_Chain_turnsFar_27 : decode prog_3_method_5_code 27 = .ok (.getfield 13, 3) := by decide +kernel
theorem d_Chain_turnsFar_30 : decode prog_3_method_5_code 30 = .ok (.iload 4, 2) := by decide +kernel
theorem d_Chain_turnsFar_32 : decode prog_3_method_5_code 32 = .ok (.bipush 6, 2) := by decide +kernel
theorem d_Chain_turnsFar_34 : decode prog_3_method_5_code 34 = .ok (.imul, 1) := by decide +kernel
theorem d_Chain_turnsFar_35 : decode prog_3_method_5_code 35 = .ok (.aload_n 0, 1) := by decide +kernel
theorem d_Chain_turnsFar_36 : decode prog_3_method_5_code 36 = .ok (.getfield 17, 3) := by decide +kernel
theorem d_Chain_turnsFar_39 : decode prog_3_method_5_code 39 = .ok (.iload 4, 2) := by decide +kernel
theorem d_Chain_turnsFar_41 : decode prog_3_method_5_code 41 = .ok (.iaload, 1) := by decide +kernel
theorem d_Chain_turnsFar_42 : decode prog_3_method_5_code 42 = .ok (.iadd, 1) := by decide +kernel
theorem d_Chain_turnsFar_43 : decode prog_3_method_5_code 43 = .ok (.aaload, 1) := by decide +kernel
theorem d_Chain_turnsFar_44 : decode prog_3_method_5_code 44 = .ok (.getfield 54, 3) := by decide +kernel
theorem d_Chain_turnsFar_47 : decode prog_3_method_5_code 47 = .ok (.aload_n 0, 1) := by decide +kernel
theorem d_Chain_turnsFar_48 : decode prog_3_method_5_code 48 = .ok (.getfield 17, 3) := by decide +kernel
theorem d_Chain_turnsFar_51 : decode prog_3_method_5_code 51 = .ok (.iload 4, 2) := by decide +kernel
theorem d_Chain_turnsFar_53 : decode prog_3_method_5_code 53 = .ok (.iaload, 1) := by decide +kernel
theorem d_Chain_turnsFar_54 : decode prog_3_method_5_code 54 = .ok (.iconst 2, 1) := by decide +kernel
theorem d_Chain_turnsFar_55 : decode prog_3_method_5_code 55 = .ok (.irem, 1) := by decide +kernel
theorem d_Chain_turnsFar_56 : decode prog_3_method_5_code 56 = .ok (.iconst 1, 1) := by decide +kernel
theorem d_Chain_turnsFar_57 : decode prog_3_method_5_code 57 = .ok (.if_icmp .ne 7, 3) := by decide +kernel
theorem d_Chain_turnsFar_60 : decode prog_3_method_5_code 60 = .ok (.iload_n 1, 1) := by decide +kernel
theorem d_Chain_turnsFar_61 : decode prog_3_method_5_code 61 = .ok (.goto 4, 3) := by decide +kernel
theorem d_Chain_turnsFar_64 : decode prog_3_method_5_code 64 = .ok (.iconst 1, 1) := by decide +kernel
theorem d_Chain_turnsFar_65 : decode prog_3_method_5_code 65 = .ok (.imul, 1) := by decide +kernel
theorem d_Chain_turnsFar_66 : decode prog_3_method_5_code 66 = .ok (.istore 5, 2) := by decide +kernel
theorem d_Chain_turnsFar_68 : decode prog_3_method_5_code 68 = .ok (.iload_n 2, 1) := by decide +kernel
theorem d_Chain_turnsFar_69 : decode prog_3_method_5_code 69 = .ok (.iload 5, 2) := by decide +kernel
theorem d_Chain_turnsFar_71 : decode prog_3_method_5_code 71 = .ok (.iload_n 3, 1) := by decide +kernel
theorem d_Chain_turnsFar_72 : decode prog_3_method_5_code 72 = .ok (.imul, 1) := by decide +kernel
theorem d_Chain_turnsFar_73 : decode prog_3_method_5_code 73 = .ok (.ifCond .ge 7, 3) := by decide +kernel
theorem d_Chain_turnsFar_76 : decode prog_3_method_5_code 76 = .ok (.iconst 1, 1) := by decide +kernel
theorem d_Chain_turnsFar_77 : decode prog_3_method_5_code 77 = .ok (.goto 4, 3) := by decide +kernel
theorem d_Chain_turnsFar_80 : decode prog_3_method_5_code 80 = .ok (.iconst 0, 1) := by decide +kernel
theorem d_Chain_turnsFar_81 : decode prog_3_method_5_code 81 = .ok (.iadd, 1) := by decide +kernel
theorem d_Chain_turnsFar_82 : decode prog_3_method_5_code 82 = .ok (.istore_n 2, 1) := by decide +kernel
theorem d_Chain_turnsFar_83 : decode prog_3_method_5_code 83 = .ok (.iload 5, 2) := by decide +kernel
theorem d_Chain_turnsFar_85 : decode prog_3_method_5_code 85 = .ok (.istore_n 3, 1) := by decide +kernel
theorem d_Chain_turnsFar_86 : decode prog_3_method_5_code 86 = .ok (.iinc 4 1, 3) := by decide +kernel
theorem d_Chain_turnsFar_89 : decode prog_3_method_5_code 89 = .ok (.goto (-82), 3) := by decide +kernel
theorem d_Chain_turnsFar_92 : decode prog_3_method_5_code 92 = .ok (.iload_n 2, 1) := by decide +kernel
theorem d_Chain_turnsFar_93 : decode prog_3_method_5_code 93 = .ok (.ireturn, 1) := by decide +kernel
set_option maxHeartbeats 8000000 in
set_option maxRecDepth 100000 in
theorem c_Chain_turnsFar_r (l : Launch) (D : va_G) (cs : Nat → ClassId) (L : List Nat) (f : Nat → va_E) (sz : Nat) (ch tt tq cl cr n : Nat) (tu fi : Int) (tps : Nat → Int) (dg : Nat → Nat) (gg : Nat → Option Nat) (tm : Nat → Nat) (S : Nat → Prop) (Qm : Nat → Nat) (Zf : Nat → Int) (hF : Fc L [ch, tt, tq]) (ha : f ch = .inr (1, [.ref tt, .ref tq, .int (iI ((n : Int))), .int (iI tu), .int (iI fi), .ref cl, .ref cr])) (htt : f tt = .inl (cs 3, 42, .inr (.inr (.inr (.inr gg))))) (htq : f tq = .inl (cs 0, 7, .inl (ai tps))) (hn : 1 ≤ n ∧ n ≤ 6) (htp : ∀ k, k < n → tps k = (dg k : Int) ∧ dg k < 6) (hG : ∀ t, t < 42 → gg t = some (tm t)) (hSt : ∀ t, t < 42 → S (tm t)) (hlead : ∀ k, k < n → Zf (tm (6 * k + dg k)) ≠ 0 ∧ ∀ j, dg k < j → j < 6 → Zf (tm (6 * k + j)) = 0) (hSp : Sp L S Qm) (hB : BH cs f S Qm Zf) (hOk : ∀ k ∈ ([ch, tt, tq] : List Nat), Out S Qm k) : Met l (⟨"RealRoots$Chain", "turnsFar", "(I)I"⟩ : MethodName) (.code (⟨"RealRoots$Chain", "turnsFar", "(I)I"⟩ : MethodName) prog_3_method_5_code 6 (Option.some Jvm.ClassFile.FieldType.int) :: gw) ({ frames := 0, cells := 0, slots := 0, locals := 0 }) (va_Pc [.ref ch, .int (iI 1)] (K0 D vwCl (TY cs) L f sz)) (va_Qi (fun (r : Int32) (g : Nat → va_E) => r = iI (tn (fun k => sgR (fun j => Zf (tm (6 * k + j)))) n) ∧ g = f) (K1 D vwCl (TY cs) (AL L sz) L) (AL L sz)) 0 0 (AL L sz) := by
  refine Met.ofW (cc := prog_3_method_5_code) (maxL := 6) (ret := (Option.some Jvm.ClassFile.FieldType.int)) (by decide) rfl ?_
  intro p e s m args below meth c s₁ Bd hml hv
  obtain ⟨rfl, hk0⟩ := hv
  obtain ⟨hsz, B⟩ := hk0.start
  subst hsz
  have hx := Bd.exec
  have hb := Bd.bytes
  have hr := Bd.returns
  have hlocks := Bd.notSynchronized
  have hts0 := atoms_spec Bd.pre
  have hown : s.vm.findClass RX1 = some m.cls := findClass_of_methodNamed Bd.named
  have hA : ∀ q, s.heap.size ≤ q → AL L s.heap.size q := fun _ h => Or.inr h
  have hl := lv_entry ([.ref ch, .int (iI 1)]) (n := 6) (Nat.le_of_ble_eq_true rfl)
  rw [lg_entry_eq]
  generalize (lg_sl ([.ref ch, .int (iI 1)]) ++ List.replicate (6 - (lg_sl ([.ref ch, .int (iI 1)])).length) Slot.unset).toArray = ls at hl ⊢
  refine absQ (fun Q R av hQ hR hav => ?_)
  have hts : ∀ w ∈ gw, w.before av s = true := by rw [hav]; exact fun w h => hts0 w (List.mem_cons_of_mem _ h)
  have hRf : R.frames = 0 := by rw [hR]; rfl
  have hRl : R.locals = 0 := by rw [hR]; rfl
  have hRc : R.cells = 0 := by rw [hR]; rfl
  have hRs : R.slots = 0 := by rw [hR]; rfl
  clear hR hts0 Bd
  have hl : lv_has ls 6 [(0, .ref ch), (1, .int (iI 1))] := hl
  obtain ⟨Sg, hSd⟩ : ∃ Sg, Sg = fun k => sgR (fun j => Zf (tm (6 * k + j))) := ⟨_, rfl⟩
  have hSm : ∀ k, Sg k = 1 ∨ Sg k = 0 ∨ Sg k = -1 := fun k => by rw [hSd]; exact sgR_mem _
  have hfx : ∀ q ∈ ([(ch, .inr (1, [.ref tt, .ref tq, .int (iI ((n : Int))), .int (iI tu), .int (iI fi), .ref cl, .ref cr])), (tt, .inl (cs 3, 42, .inr (.inr (.inr (.inr gg))))), (tq, .inl (cs 0, 7, .inl (ai tps)))] : List (Nat × va_E)), f q.1 = q.2 := fun q hq => by
    simp only [List.mem_cons, List.not_mem_nil, or_false] at hq
    rcases hq with rfl | rfl | rfl
    · exact ha
    · exact htt
    · exact htq
  have hmw : mw f [(ch, .inr (1, [.ref tt, .ref tq, .int (iI ((n : Int))), .int (iI tu), .int (iI fi), .ref cl, .ref cr])), (tt, .inl (cs 3, 42, .inr (.inr (.inr (.inr gg))))), (tq, .inl (cs 0, 7, .inl (ai tps)))] = f := mw_self (fun k a e hk => hfx (a, e) (List.mem_of_getElem? hk))
  have B := B.focus [(ch, .inr (1, [.ref tt, .ref tq, .int (iI ((n : Int))), .int (iI tu), .int (iI fi), .ref cl, .ref cr])), (tt, .inl (cs 3, 42, .inr (.inr (.inr (.inr gg))))), (tq, .inl (cs 0, 7, .inl (ai tps)))] hfx
  refine x_iconst hx hb d_Chain_turnsFar_0 ?_
  refine lv_istore_n (lv' := [(2, .int (iI 0)), (0, .ref ch), (1, .int (iI 1))]) hx hb d_Chain_turnsFar_1 rfl hl (by decide) rfl (fun ls hl => ?_)
  refine x_iconst hx hb d_Chain_turnsFar_2 ?_
  refine lv_istore_n (lv' := [(3, .int (iI 0)), (2, .int (iI 0)), (0, .ref ch), (1, .int (iI 1))]) hx hb d_Chain_turnsFar_3 rfl hl (by decide) rfl (fun ls hl => ?_)
  refine x_iconst hx hb d_Chain_turnsFar_4 ?_
  refine lv_istore (lv' := [(4, .int (iI 0)), (3, .int (iI 0)), (2, .int (iI 0)), (0, .ref ch), (1, .int (iI 1))]) hx hb d_Chain_turnsFar_5 hl (by decide) rfl (fun ls hl => ?_)
  have LP : ∀ (fuel : Nat) (k : Nat), n - k < fuel → (k ≤ n) → ∀ (H : Heap) (locs : List Loc) (ls : Array Slot), Wb D vwCl (TY cs) L (mw f [(ch, .inr (1, [.ref tt, .ref tq, .int (iI ((n : Int))), .int (iI tu), .int (iI fi), .ref cl, .ref cr])), (tt, .inl (cs 3, 42, .inr (.inr (.inr (.inr gg))))), (tq, .inl (cs 0, 7, .inl (ai tps)))]) (AL L s.heap.size) s H locs → lv_has ls 6 [(4, .int (iI ((k : Int)))), (3, .int (iI (lst Sg k))), (2, .int (iI (tn Sg k))), (0, .ref ch), (1, .int (iI 1))] → W p l e R s m av below meth c H locs (0) (0) Q (F0 m 7 ls []) := by
    intro fuel
    induction fuel with
    | zero => intro k hfu; exact absurd hfu (Nat.not_lt_zero _)
    | succ fuel ih_LP =>
      intro k hfu_LP hk H locs ls B hl
      have hS1 := hSm k
      have hl1 := lst_mem hSm k
      refine lv_iload hx hb d_Chain_turnsFar_7 (lv_at hl 0 rfl) ?_
      refine lv_aload_n hx hb d_Chain_turnsFar_9 rfl (lv_at hl 3 rfl) ?_
      refine x_get (C := RX1) (T := TX1) (N := 7) hx hb hts inX1 hown B hF 0 rfl rfl 2 (by decide) (hts _ w_54) (fun _ h9 => h9) rfl d_Chain_turnsFar_10 ?_
      refine x_icmp_ge (tgt := 92) hx hb d_Chain_turnsFar_13 (by decide) (by omega) (by omega) (fun h13 => ?_) (fun h13 => ?_)
      · refine lv_iload_n hx hb d_Chain_turnsFar_92 rfl (lv_at hl 2 rfl) ?_
        have B := B.of_eq hmw
        subst hQ hav
        exact x_iret hx hb hr hlocks B d_Chain_turnsFar_93 (by first | (exfalso; omega) | exact ⟨by rw [← hSd, show k = n by omega], rfl⟩)
      · have htk := htp k (by omega)
        obtain ⟨hld, hlz⟩ := hlead k (by omega)
        have hS1' := hS1
        have hdg : dgn (fun j => Zf (tm (6 * k + j))) 6 = dg k + 1 := dgn_eq (c := (fun j => Zf (tm (6 * k + j)))) (k := dg k + 1) (fun _ => by rw [Nat.add_sub_cancel]; exact hld) 6 (by omega) (fun j h1 h2 => hlz j (by omega) h2)
        have hsR : sgR (fun j => Zf (tm (6 * k + j))) = (Zf (tm (6 * k + dg k))).sign := by rw [sgR, hdg, Nat.add_sub_cancel]
        have hSk : Sg k = sgR (fun j => Zf (tm (6 * k + j))) := by rw [hSd]
        have hsn0 : (Zf (tm (6 * k + dg k))).sign ≠ 0 := fun h => hld (Int.sign_eq_zero_iff_zero.mp h)
        have hsnr : -1 ≤ (Zf (tm (6 * k + dg k))).sign ∧ (Zf (tm (6 * k + dg k))).sign ≤ 1 := by rcases sign_cases (Zf (tm (6 * k + dg k))) with h | h | h <;> rw [h] <;> decide
        obtain ⟨ta, hta⟩ : ∃ ta, ta = tm (6 * k + dg k) := ⟨_, rfl⟩
        have hSa : S ta := by rw [hta]; exact hSt _ (by omega)
        have hga : gg (6 * k + dg k) = some ta := by rw [hta]; exact hG _ (by omega)
        rw [← hta] at hsR hsn0 hsnr hld
        have hmod : (tps k).tmod 2 = ((dg k % 2 : Nat) : Int) := by rw [htk.1, Int.tmod_eq_emod_of_nonneg (by omega)]; omega
        refine lv_aload_n hx hb d_Chain_turnsFar_16 rfl (lv_at hl 3 rfl) ?_
        refine x_get (C := RX1) (T := TX1) (N := 7) hx hb hts inX1 hown B hF 0 rfl rfl 1 (by decide) (hts _ w_53) (fun _ h9 => h9) rfl d_Chain_turnsFar_17 ?_
        refine lv_iload hx hb d_Chain_turnsFar_20 (lv_at hl 0 rfl) ?_
        refine x_iald hx hb B hF 2 0 rfl rfl k (by omega) (by omega) (by decide) d_Chain_turnsFar_22 ?_
        refine x_if_lt (tgt := 92) hx hb d_Chain_turnsFar_23 (by decide) (by omega) (fun h23 => ?_) (fun h23 => ?_)
        · refine lv_iload_n hx hb d_Chain_turnsFar_92 rfl (lv_at hl 2 rfl) ?_
          have B := B.of_eq hmw
          subst hQ hav
          exact x_iret hx hb hr hlocks B d_Chain_turnsFar_93 (by first | (exfalso; omega) | exact ⟨by rw [← hSd, show k = n by omega], rfl⟩)
        · refine lv_aload_n hx hb d_Chain_turnsFar_26 rfl (lv_at hl 3 rfl) ?_
          refine x_get (C := RX1) (T := TX1) (N := 7) hx hb hts inX1 hown B hF 0 rfl rfl 0 (by decide) (hts _ w_52) (fun _ h9 => h9) rfl d_Chain_turnsFar_27 ?_
          refine lv_iload hx hb d_Chain_turnsFar_30 (lv_at hl 0 rfl) ?_
          refine x_bipush hx hb d_Chain_turnsFar_32 (by decide) ?_
          refine x_imul hx hb d_Chain_turnsFar_34 ?_
          refine lv_aload_n hx hb d_Chain_turnsFar_35 rfl (lv_at hl 3 rfl) ?_
          refine x_get (C := RX1) (T := TX1) (N := 7) hx hb hts inX1 hown B hF 0 rfl rfl 1 (by decide) (hts _ w_53) (fun _ h9 => h9) rfl d_Chain_turnsFar_36 ?_
          refine lv_iload hx hb d_Chain_turnsFar_39 (lv_at hl 0 rfl) ?_
          refine x_iald hx hb B hF 2 0 rfl rfl k (by omega) (by omega) (by decide) d_Chain_turnsFar_41 ?_
          refine x_iadd hx hb d_Chain_turnsFar_42 ?_
          refine x_aald hx hb B hF 1 3 rfl rfl (6 * k + dg k) (by rw [htk.1]; omega) (by omega) (by decide) (hga) d_Chain_turnsFar_43 ?_
          obtain ⟨sd9, n9, lm9, d1, d2, d3⟩ := (hB.keep (X := [(ch, .inr (1, [.ref tt, .ref tq, .int (iI ((n : Int))), .int (iI tu), .int (iI fi), .ref cl, .ref cr])), (tt, .inl (cs 3, 42, .inr (.inr (.inr (.inr gg))))), (tq, .inl (cs 0, 7, .inl (ai tps)))]) hOk) ta hSa
          have hF0 := hF
          have hF : Fc L [ta, ch, tt, tq] := ⟨List.nodup_cons.mpr ⟨fun hm => (hOk ta hm).1 hSa, hF.1⟩, fun q hq => by rcases List.mem_cons.mp hq with rfl | hq; exact (hSp.1 _ hSa).1; exact hF.2 q hq⟩
          have B := (B.focus [(ta, .inr (0, [.int (iI sd9), .int (iI (n9 : Int)), .ref (Qm ta)]))] (fun p hp => by rw [List.mem_singleton.mp hp]; exact d1)).of_eq (mw_app _ _ _)
          have B : Wb D vwCl (TY cs) L (mw f [(ta, .inr (0, [.int (iI sd9), .int (iI ((n9 : Int))), .ref ((Qm ta))])), (ch, .inr (1, [.ref tt, .ref tq, .int (iI ((n : Int))), .int (iI tu), .int (iI fi), .ref cl, .ref cr])), (tt, .inl (cs 3, 42, .inr (.inr (.inr (.inr gg))))), (tq, .inl (cs 0, 7, .inl (ai tps)))]) (AL L s.heap.size) s H _ := B
          refine x_get (C := RX0) (T := TX0) (N := 3) hx hb hts inX0 hown B hF 0 rfl rfl 0 (by decide) (hts _ w_40) (fun _ h9 => h9) rfl d_Chain_turnsFar_44 ?_
          have d0 : f ta = .inr (0, [.int (iI sd9), .int (iI (n9 : Int)), .ref (Qm ta)]) := (mw_out (f := f) (X := [(ch, .inr (1, [.ref tt, .ref tq, .int (iI ((n : Int))), .int (iI tu), .int (iI fi), .ref cl, .ref cr])), (tt, .inl (cs 3, 42, .inr (.inr (.inr (.inr gg))))), (tq, .inl (cs 0, 7, .inl (ai tps)))]) (fun hm => (hOk ta hm).1 hSa)).symm.trans d1
          have B := B.of_eq (mw_drop (f := f) (X := [(ch, .inr (1, [.ref tt, .ref tq, .int (iI ((n : Int))), .int (iI tu), .int (iI fi), .ref cl, .ref cr])), (tt, .inl (cs 3, 42, .inr (.inr (.inr (.inr gg))))), (tq, .inl (cs 0, 7, .inl (ai tps)))]) d0 (fun hm => (hOk ta hm).1 hSa))
          have hF := hF0
          have B : Wb D vwCl (TY cs) L (mw f [(ch, .inr (1, [.ref tt, .ref tq, .int (iI ((n : Int))), .int (iI tu), .int (iI fi), .ref cl, .ref cr])), (tt, .inl (cs 3, 42, .inr (.inr (.inr (.inr gg))))), (tq, .inl (cs 0, 7, .inl (ai tps)))]) (AL L s.heap.size) s H _ := B
          have hsd : sd9 = (Zf ta).sign := d3.2.2.2.2.1
          have J66 : ∀ (v : Int), (v = Sg k) → (v ≠ 0) → ∀ (H : Heap) (locs : List Loc) (ls : Array Slot), Wb D vwCl (TY cs) L (mw f [(ch, .inr (1, [.ref tt, .ref tq, .int (iI ((n : Int))), .int (iI tu), .int (iI fi), .ref cl, .ref cr])), (tt, .inl (cs 3, 42, .inr (.inr (.inr (.inr gg))))), (tq, .inl (cs 0, 7, .inl (ai tps)))]) (AL L s.heap.size) s H locs → lv_has ls 6 [(4, .int (iI ((k : Int)))), (3, .int (iI (lst Sg k))), (2, .int (iI (tn Sg k))), (0, .ref ch), (1, .int (iI 1))] → W p l e R s m av below meth c H locs (0) (0) Q (F0 m 66 ls [.int (iI v)]) := by
            intro v hv hv0 H locs ls B hl
            refine lv_istore (lv' := [(5, .int (iI v)), (4, .int (iI ((k : Int)))), (3, .int (iI (lst Sg k))), (2, .int (iI (tn Sg k))), (0, .ref ch), (1, .int (iI 1))]) hx hb d_Chain_turnsFar_66 hl (by decide) rfl (fun ls hl => ?_)
            have J81 : ∀ (t : Int), (t = if Sg k * lst Sg k < 0 then 1 else 0) → ∀ (H : Heap) (locs : List Loc) (ls : Array Slot), Wb D vwCl (TY cs) L (mw f [(ch, .inr (1, [.ref tt, .ref tq, .int (iI ((n : Int))), .int (iI tu), .int (iI fi), .ref cl, .ref cr])), (tt, .inl (cs 3, 42, .inr (.inr (.inr (.inr gg))))), (tq, .inl (cs 0, 7, .inl (ai tps)))]) (AL L s.heap.size) s H locs → lv_has ls 6 [(5, .int (iI v)), (4, .int (iI ((k : Int)))), (3, .int (iI (lst Sg k))), (2, .int (iI (tn Sg k))), (0, .ref ch), (1, .int (iI 1))] → W p l e R s m av below meth c H locs (0) (0) Q (F0 m 81 ls [.int (iI t), .int (iI (tn Sg k))]) := by
              intro t ht H locs ls B hl
              refine x_iadd hx hb d_Chain_turnsFar_81 ?_
              refine lv_istore_n (lv' := [(2, .int (iI ((tn Sg k) + t))), (5, .int (iI v)), (4, .int (iI ((k : Int)))), (3, .int (iI (lst Sg k))), (0, .ref ch), (1, .int (iI 1))]) hx hb d_Chain_turnsFar_82 rfl hl (by decide) rfl (fun ls hl => ?_)
              refine lv_iload hx hb d_Chain_turnsFar_83 (lv_at hl 1 rfl) ?_
              refine lv_istore_n (lv' := [(3, .int (iI v)), (2, .int (iI ((tn Sg k) + t))), (5, .int (iI v)), (4, .int (iI ((k : Int)))), (0, .ref ch), (1, .int (iI 1))]) hx hb d_Chain_turnsFar_85 rfl hl (by decide) rfl (fun ls hl => ?_)
              refine x_iinc (lv' := [(4, .int (iI (((k : Int)) + 1))), (3, .int (iI v)), (2, .int (iI ((tn Sg k) + t))), (5, .int (iI v)), (0, .ref ch), (1, .int (iI 1))]) hx hb d_Chain_turnsFar_86 hl (q := 3) rfl rfl (by decide) rfl (fun ls hl => ?_)
              refine lv_goto (tgt := 7) hx hb d_Chain_turnsFar_89 (by decide) ?_
              subst ht
              have hv2 : v = lst Sg (k + 1) := by rw [lst, if_pos (show Sg k ≠ 0 by omega)]; exact hv
              subst hv2
              exact ih_LP (k + 1) (by omega) (by omega) _ _ _ B (lv_sub hl [0, 1, 2, 4, 5] rfl)
            have hprod : -1 ≤ v * lst Sg k ∧ v * lst Sg k ≤ 1 := by rw [hv]; rcases hS1 with h | h | h <;> rcases hl1 with h2 | h2 | h2 <;> rw [h, h2] <;> decide
            have hprod2 : v * lst Sg k = Sg k * lst Sg k := by rw [hv]
            refine lv_iload_n hx hb d_Chain_turnsFar_68 rfl (lv_at hl 3 rfl) ?_
            refine lv_iload hx hb d_Chain_turnsFar_69 (lv_at hl 0 rfl) ?_
            refine lv_iload_n hx hb d_Chain_turnsFar_71 rfl (lv_at hl 2 rfl) ?_
            refine x_imul hx hb d_Chain_turnsFar_72 ?_
            refine x_if_ge (tgt := 80) hx hb d_Chain_turnsFar_73 (by decide) (by omega) (fun h73 => ?_) (fun h73 => ?_)
            · refine x_iconst hx hb d_Chain_turnsFar_80 ?_
              exact J81 0 (by have h9 := tn_mul hS1 hl1; first | rw [if_pos (show Sg k * lst Sg k < 0 by omega)] | rw [if_neg (show ¬ Sg k * lst Sg k < 0 by omega)]) _ _ _ B (lv_sub hl [0, 1, 2, 3, 4, 5] rfl)
            · refine x_iconst hx hb d_Chain_turnsFar_76 ?_
              refine lv_goto (tgt := 81) hx hb d_Chain_turnsFar_77 (by decide) ?_
              exact J81 1 (by have h9 := tn_mul hS1 hl1; first | rw [if_pos (show Sg k * lst Sg k < 0 by omega)] | rw [if_neg (show ¬ Sg k * lst Sg k < 0 by omega)]) _ _ _ B (lv_sub hl [0, 1, 2, 3, 4, 5] rfl)
          refine lv_aload_n hx hb d_Chain_turnsFar_47 rfl (lv_at hl 3 rfl) ?_
          refine x_get (C := RX1) (T := TX1) (N := 7) hx hb hts inX1 hown B hF 0 rfl rfl 1 (by decide) (hts _ w_53) (fun _ h9 => h9) rfl d_Chain_turnsFar_48 ?_
          refine lv_iload hx hb d_Chain_turnsFar_51 (lv_at hl 0 rfl) ?_
          refine x_iald hx hb B hF 2 0 rfl rfl k (by omega) (by omega) (by decide) d_Chain_turnsFar_53 ?_
          refine x_iconst hx hb d_Chain_turnsFar_54 ?_
          refine x_irem hx hb d_Chain_turnsFar_55 (by omega) (by omega) (by omega) ?_
          refine x_iconst hx hb d_Chain_turnsFar_56 ?_
          refine x_icmp_ne (tgt := 64) hx hb d_Chain_turnsFar_57 (by decide) (by rw [hmod]; omega) (by omega) (fun h57 => ?_) (fun h57 => ?_)
          · refine x_iconst hx hb d_Chain_turnsFar_64 ?_
            refine x_imul hx hb d_Chain_turnsFar_65 ?_
            exact J66 (sd9 * 1) (by rw [hSk, hsR, Int.mul_one]; exact hsd) (by omega) _ _ _ B (lv_sub hl [0, 1, 2, 3, 4] rfl)
          · refine lv_iload_n hx hb d_Chain_turnsFar_60 rfl (lv_at hl 4 rfl) ?_
            refine lv_goto (tgt := 65) hx hb d_Chain_turnsFar_61 (by decide) ?_
            refine x_imul hx hb d_Chain_turnsFar_65 ?_
            exact J66 (sd9 * 1) (by rw [hSk, hsR, Int.mul_one]; exact hsd) (by omega) _ _ _ B (lv_sub hl [0, 1, 2, 3, 4] rfl)
  exact LP _ 0 (Nat.lt_succ_self _) (by omega) _ _ _ B (lv_sub hl [0, 1, 2, 3, 4] rfl)
set_option maxHeartbeats 8000000 in
set_option maxRecDepth 100000 in
theorem c_Chain_turnsFar_l (l : Launch) (D : va_G) (cs : Nat → ClassId) (L : List Nat) (f : Nat → va_E) (sz : Nat) (ch tt tq cl cr n : Nat) (tu fi : Int) (tps : Nat → Int) (dg : Nat → Nat) (gg : Nat → Option Nat) (tm : Nat → Nat) (S : Nat → Prop) (Qm : Nat → Nat) (Zf : Nat → Int) (hF : Fc L [ch, tt, tq]) (ha : f ch = .inr (1, [.ref tt, .ref tq, .int (iI ((n : Int))), .int (iI tu), .int (iI fi), .ref cl, .ref cr])) (htt : f tt = .inl (cs 3, 42, .inr (.inr (.inr (.inr gg))))) (htq : f tq = .inl (cs 0, 7, .inl (ai tps))) (hn : 1 ≤ n ∧ n ≤ 6) (htp : ∀ k, k < n → tps k = (dg k : Int) ∧ dg k < 6) (hG : ∀ t, t < 42 → gg t = some (tm t)) (hSt : ∀ t, t < 42 → S (tm t)) (hlead : ∀ k, k < n → Zf (tm (6 * k + dg k)) ≠ 0 ∧ ∀ j, dg k < j → j < 6 → Zf (tm (6 * k + j)) = 0) (hSp : Sp L S Qm) (hB : BH cs f S Qm Zf) (hOk : ∀ k ∈ ([ch, tt, tq] : List Nat), Out S Qm k) : Met l (⟨"RealRoots$Chain", "turnsFar", "(I)I"⟩ : MethodName) (.code (⟨"RealRoots$Chain", "turnsFar", "(I)I"⟩ : MethodName) prog_3_method_5_code 6 (Option.some Jvm.ClassFile.FieldType.int) :: gw) ({ frames := 0, cells := 0, slots := 0, locals := 0 }) (va_Pc [.ref ch, .int (iI (-1))] (K0 D vwCl (TY cs) L f sz)) (va_Qi (fun (r : Int32) (g : Nat → va_E) => r = iI (tn (fun k => sgL (fun j => Zf (tm (6 * k + j)))) n) ∧ g = f) (K1 D vwCl (TY cs) (AL L sz) L) (AL L sz)) 0 0 (AL L sz) := by
  refine Met.ofW (cc := prog_3_method_5_code) (maxL := 6) (ret := (Option.some Jvm.ClassFile.FieldType.int)) (by decide) rfl ?_
  intro p e s m args below meth c s₁ Bd hml hv
  obtain ⟨rfl, hk0⟩ := hv
  obtain ⟨hsz, B⟩ := hk0.start
  subst hsz
  have hx := Bd.exec
  have hb := Bd.bytes
  have hr := Bd.returns
  have hlocks := Bd.notSynchronized
  have hts0 := atoms_spec Bd.pre
  have hown : s.vm.findClass RX1 = some m.cls := findClass_of_methodNamed Bd.named
  have hA : ∀ q, s.heap.size ≤ q → AL L s.heap.size q := fun _ h => Or.inr h
  have hl := lv_entry ([.ref ch, .int (iI (-1))]) (n := 6) (Nat.le_of_ble_eq_true rfl)
  rw [lg_entry_eq]
  generalize (lg_sl ([.ref ch, .int (iI (-1))]) ++ List.replicate (6 - (lg_sl ([.ref ch, .int (iI (-1))])).length) Slot.unset).toArray = ls at hl ⊢
  refine absQ (fun Q R av hQ hR hav => ?_)
  have hts : ∀ w ∈ gw, w.before av s = true := by rw [hav]; exact fun w h => hts0 w (List.mem_cons_of_mem _ h)
  have hRf : R.frames = 0 := by rw [hR]; rfl
  have hRl : R.locals = 0 := by rw [hR]; rfl
  have hRc : R.cells = 0 := by rw [hR]; rfl
  have hRs : R.slots = 0 := by rw [hR]; rfl
  clear hR hts0 Bd
  have hl : lv_has ls 6 [(0, .ref ch), (1, .int (iI (-1)))] := hl
  obtain ⟨Sg, hSd⟩ : ∃ Sg, Sg = fun k => sgL (fun j => Zf (tm (6 * k + j))) := ⟨_, rfl⟩
  have hSm : ∀ k, Sg k = 1 ∨ Sg k = 0 ∨ Sg k = -1 := fun k => by rw [hSd]; exact sgL_mem _
  have hfx : ∀ q ∈ ([(ch, .inr (1, [.ref tt, .ref tq, .int (iI ((n : Int))), .int (iI tu), .int (iI fi), .ref cl, .ref cr])), (tt, .inl (cs 3, 42, .inr (.inr (.inr (.inr gg))))), (tq, .inl (cs 0, 7, .inl (ai tps)))] : List (Nat × va_E)), f q.1 = q.2 := fun q hq => by
    simp only [List.mem_cons, List.not_mem_nil, or_false] at hq
    rcases hq with rfl | rfl | rfl
    · exact ha
    · exact htt
    · exact htq
  have hmw : mw f [(ch, .inr (1, [.ref tt, .ref tq, .int (iI ((n : Int))), .int (iI tu), .int (iI fi), .ref cl, .ref cr])), (tt, .inl (cs 3, 42, .inr (.inr (.inr (.inr gg))))), (tq, .inl (cs 0, 7, .inl (ai tps)))] = f := mw_self (fun k a e hk => hfx (a, e) (List.mem_of_getElem? hk))
  have B := B.focus [(ch, .inr (1, [.ref tt, .ref tq, .int (iI ((n : Int))), .int (iI tu), .int (iI fi), .ref cl, .ref cr])), (tt, .inl (cs 3, 42, .inr (.inr (.inr (.inr gg))))), (tq, .inl (cs 0, 7, .inl (ai tps)))] hfx
  refine x_iconst hx hb d_Chain_turnsFar_0 ?_
  refine lv_istore_n (lv' := [(2, .int (iI 0)), (0, .ref ch), (1, .int (iI (-1)))]) hx hb d_Chain_turnsFar_1 rfl hl (by decide) rfl (fun ls hl => ?_)
  refine x_iconst hx hb d_Chain_turnsFar_2 ?_
  refine lv_istore_n (lv' := [(3, .int (iI 0)), (2, .int (iI 0)), (0, .ref ch), (1, .int (iI (-1)))]) hx hb d_Chain_turnsFar_3 rfl hl (by decide) rfl (fun ls hl => ?_)
  refine x_iconst hx hb d_Chain_turnsFar_4 ?_
  refine lv_istore (lv' := [(4, .int (iI 0)), (3, .int (iI 0)), (2, .int (iI 0)), (0, .ref ch), (1, .int (iI (-1)))]) hx hb d_Chain_turnsFar_5 hl (by decide) rfl (fun ls hl => ?_)
  have LP : ∀ (fuel : Nat) (k : Nat), n - k < fuel → (k ≤ n) → ∀ (H : Heap) (locs : List Loc) (ls : Array Slot), Wb D vwCl (TY cs) L (mw f [(ch, .inr (1, [.ref tt, .ref tq, .int (iI ((n : Int))), .int (iI tu), .int (iI fi), .ref cl, .ref cr])), (tt, .inl (cs 3, 42, .inr (.inr (.inr (.inr gg))))), (tq, .inl (cs 0, 7, .inl (ai tps)))]) (AL L s.heap.size) s H locs → lv_has ls 6 [(4, .int (iI ((k : Int)))), (3, .int (iI (lst Sg k))), (2, .int (iI (tn Sg k))), (0, .ref ch), (1, .int (iI (-1)))] → W p l e R s m av below meth c H locs (0) (0) Q (F0 m 7 ls []) := by
    intro fuel
    induction fuel with
    | zero => intro k hfu; exact absurd hfu (Nat.not_lt_zero _)
    | succ fuel ih_LP =>
      intro k hfu_LP hk H locs ls B hl
      have hS1 := hSm k
      have hl1 := lst_mem hSm k
      refine lv_iload hx hb d_Chain_turnsFar_7 (lv_at hl 0 rfl) ?_
      refine lv_aload_n hx hb d_Chain_turnsFar_9 rfl (lv_at hl 3 rfl) ?_
      refine x_get (C := RX1) (T := TX1) (N := 7) hx hb hts inX1 hown B hF 0 rfl rfl 2 (by decide) (hts _ w_54) (fun _ h9 => h9) rfl d_Chain_turnsFar_10 ?_
      refine x_icmp_ge (tgt := 92) hx hb d_Chain_turnsFar_13 (by decide) (by omega) (by omega) (fun h13 => ?_) (fun h13 => ?_)
      · refine lv_iload_n hx hb d_Chain_turnsFar_92 rfl (lv_at hl 2 rfl) ?_
        have B := B.of_eq hmw
        subst hQ hav
        exact x_iret hx hb hr hlocks B d_Chain_turnsFar_93 (by first | (exfalso; omega) | exact ⟨by rw [← hSd, show k = n by omega], rfl⟩)
      · have htk := htp k (by omega)
        obtain ⟨hld, hlz⟩ := hlead k (by omega)
        have hS1' := hS1
        have hdg : dgn (fun j => Zf (tm (6 * k + j))) 6 = dg k + 1 := dgn_eq (c := (fun j => Zf (tm (6 * k + j)))) (k := dg k + 1) (fun _ => by rw [Nat.add_sub_cancel]; exact hld) 6 (by omega) (fun j h1 h2 => hlz j (by omega) h2)
        have hsR : sgR (fun j => Zf (tm (6 * k + j))) = (Zf (tm (6 * k + dg k))).sign := by rw [sgR, hdg, Nat.add_sub_cancel]
        have hSk : Sg k = sgL (fun j => Zf (tm (6 * k + j))) := by rw [hSd]
        have hsn0 : (Zf (tm (6 * k + dg k))).sign ≠ 0 := fun h => hld (Int.sign_eq_zero_iff_zero.mp h)
        have hsnr : -1 ≤ (Zf (tm (6 * k + dg k))).sign ∧ (Zf (tm (6 * k + dg k))).sign ≤ 1 := by rcases sign_cases (Zf (tm (6 * k + dg k))) with h | h | h <;> rw [h] <;> decide
        obtain ⟨ta, hta⟩ : ∃ ta, ta = tm (6 * k + dg k) := ⟨_, rfl⟩
        have hSa : S ta := by rw [hta]; exact hSt _ (by omega)
        have hga : gg (6 * k + dg k) = some ta := by rw [hta]; exact hG _ (by omega)
        rw [← hta] at hsR hsn0 hsnr hld
        have hmod : (tps k).tmod 2 = ((dg k % 2 : Nat) : Int) := by rw [htk.1, Int.tmod_eq_emod_of_nonneg (by omega)]; omega
        refine lv_aload_n hx hb d_Chain_turnsFar_16 rfl (lv_at hl 3 rfl) ?_
        refine x_get (C := RX1) (T := TX1) (N := 7) hx hb hts inX1 hown B hF 0 rfl rfl 1 (by decide) (hts _ w_53) (fun _ h9 => h9) rfl d_Chain_turnsFar_17 ?_
        refine lv_iload hx hb d_Chain_turnsFar_20 (lv_at hl 0 rfl) ?_
        refine x_iald hx hb B hF 2 0 rfl rfl k (by omega) (by omega) (by decide) d_Chain_turnsFar_22 ?_
        refine x_if_lt (tgt := 92) hx hb d_Chain_turnsFar_23 (by decide) (by omega) (fun h23 => ?_) (fun h23 => ?_)
        · refine lv_iload_n hx hb d_Chain_turnsFar_92 rfl (lv_at hl 2 rfl) ?_
          have B := B.of_eq hmw
          subst hQ hav
          exact x_iret hx hb hr hlocks B d_Chain_turnsFar_93 (by first | (exfalso; omega) | exact ⟨by rw [← hSd, show k = n by omega], rfl⟩)
        · refine lv_aload_n hx hb d_Chain_turnsFar_26 rfl (lv_at hl 3 rfl) ?_
          refine x_get (C := RX1) (T := TX1) (N := 7) hx hb hts inX1 hown B hF 0 rfl rfl 0 (by decide) (hts _ w_52) (fun _ h9 => h9) rfl d_Chain_turnsFar_27 ?_
          refine lv_iload hx hb d_Chain_turnsFar_30 (lv_at hl 0 rfl) ?_
          refine x_bipush hx hb d_Chain_turnsFar_32 (by decide) ?_
          refine x_imul hx hb d_Chain_turnsFar_34 ?_
          refine lv_aload_n hx hb d_Chain_turnsFar_35 rfl (lv_at hl 3 rfl) ?_
          refine x_get (C := RX1) (T := TX1) (N := 7) hx hb hts inX1 hown B hF 0 rfl rfl 1 (by decide) (hts _ w_53) (fun _ h9 => h9) rfl d_Chain_turnsFar_36 ?_
          refine lv_iload hx hb d_Chain_turnsFar_39 (lv_at hl 0 rfl) ?_
          refine x_iald hx hb B hF 2 0 rfl rfl k (by omega) (by omega) (by decide) d_Chain_turnsFar_41 ?_
          refine x_iadd hx hb d_Chain_turnsFar_42 ?_
          refine x_aald hx hb B hF 1 3 rfl rfl (6 * k + dg k) (by rw [htk.1]; omega) (by omega) (by decide) (hga) d_Chain_turnsFar_43 ?_
          obtain ⟨sd9, n9, lm9, d1, d2, d3⟩ := (hB.keep (X := [(ch, .inr (1, [.ref tt, .ref tq, .int (iI ((n : Int))), .int (iI tu), .int (iI fi), .ref cl, .ref cr])), (tt, .inl (cs 3, 42, .inr (.inr (.inr (.inr gg))))), (tq, .inl (cs 0, 7, .inl (ai tps)))]) hOk) ta hSa
          have hF0 := hF
          have hF : Fc L [ta, ch, tt, tq] := ⟨List.nodup_cons.mpr ⟨fun hm => (hOk ta hm).1 hSa, hF.1⟩, fun q hq => by rcases List.mem_cons.mp hq with rfl | hq; exact (hSp.1 _ hSa).1; exact hF.2 q hq⟩
          have B := (B.focus [(ta, .inr (0, [.int (iI sd9), .int (iI (n9 : Int)), .ref (Qm ta)]))] (fun p hp => by rw [List.mem_singleton.mp hp]; exact d1)).of_eq (mw_app _ _ _)
          have B : Wb D vwCl (TY cs) L (mw f [(ta, .inr (0, [.int (iI sd9), .int (iI ((n9 : Int))), .ref ((Qm ta))])), (ch, .inr (1, [.ref tt, .ref tq, .int (iI ((n : Int))), .int (iI tu), .int (iI fi), .ref cl, .ref cr])), (tt, .inl (cs 3, 42, .inr (.inr (.inr (.inr gg))))), (tq, .inl (cs 0, 7, .inl (ai tps)))]) (AL L s.heap.size) s H _ := B
          refine x_get (C := RX0) (T := TX0) (N := 3) hx hb hts inX0 hown B hF 0 rfl rfl 0 (by decide) (hts _ w_40) (fun _ h9 => h9) rfl d_Chain_turnsFar_44 ?_
          have d0 : f ta = .inr (0, [.int (iI sd9), .int (iI (n9 : Int)), .ref (Qm ta)]) := (mw_out (f := f) (X := [(ch, .inr (1, [.ref tt, .ref tq, .int (iI ((n : Int))), .int (iI tu), .int (iI fi), .ref cl, .ref cr])), (tt, .inl (cs 3, 42, .inr (.inr (.inr (.inr gg))))), (tq, .inl (cs 0, 7, .inl (ai tps)))]) (fun hm => (hOk ta hm).1 hSa)).symm.trans d1
          have B := B.of_eq (mw_drop (f := f) (X := [(ch, .inr (1, [.ref tt, .ref tq, .int (iI ((n : Int))), .int (iI tu), .int (iI fi), .ref cl, .ref cr])), (tt, .inl (cs 3, 42, .inr (.inr (.inr (.inr gg))))), (tq, .inl (cs 0, 7, .inl (ai tps)))]) d0 (fun hm => (hOk ta hm).1 hSa))
          have hF := hF0
          have B : Wb D vwCl (TY cs) L (mw f [(ch, .inr (1, [.ref tt, .ref tq, .int (iI ((n : Int))), .int (iI tu), .int (iI fi), .ref cl, .ref cr])), (tt, .inl (cs 3, 42, .inr (.inr (.inr (.inr gg))))), (tq, .inl (cs 0, 7, .inl (ai tps)))]) (AL L s.heap.size) s H _ := B
          have hsd : sd9 = (Zf ta).sign := d3.2.2.2.2.1
          have J66 : ∀ (v : Int), (v = Sg k) → (v ≠ 0) → ∀ (H : Heap) (locs : List Loc) (ls : Array Slot), Wb D vwCl (TY cs) L (mw f [(ch, .inr (1, [.ref tt, .ref tq, .int (iI ((n : Int))), .int (iI tu), .int (iI fi), .ref cl, .ref cr])), (tt, .inl (cs 3, 42, .inr (.inr (.inr (.inr gg))))), (tq, .inl (cs 0, 7, .inl (ai tps)))]) (AL L s.heap.size) s H locs → lv_has ls 6 [(4, .int (iI ((k : Int)))), (3, .int (iI (lst Sg k))), (2, .int (iI (tn Sg k))), (0, .ref ch), (1, .int (iI (-1)))] → W p l e R s m av below meth c H locs (0) (0) Q (F0 m 66 ls [.int (iI v)]) := by
            intro v hv hv0 H locs ls B hl
            refine lv_istore (lv' := [(5, .int (iI v)), (4, .int (iI ((k : Int)))), (3, .int (iI (lst Sg k))), (2, .int (iI (tn Sg k))), (0, .ref ch), (1, .int (iI (-1)))]) hx hb d_Chain_turnsFar_66 hl (by decide) rfl (fun ls hl => ?_)
            have J81 : ∀ (t : Int), (t = if Sg k * lst Sg k < 0 then 1 else 0) → ∀ (H : Heap) (locs : List Loc) (ls : Array Slot), Wb D vwCl (TY cs) L (mw f [(ch, .inr (1, [.ref tt, .ref tq, .int (iI ((n : Int))), .int (iI tu), .int (iI fi), .ref cl, .ref cr])), (tt, .inl (cs 3, 42, .inr (.inr (.inr (.inr gg))))), (tq, .inl (cs 0, 7, .inl (ai tps)))]) (AL L s.heap.size) s H locs → lv_has ls 6 [(5, .int (iI v)), (4, .int (iI ((k : Int)))), (3, .int (iI (lst Sg k))), (2, .int (iI (tn Sg k))), (0, .ref ch), (1, .int (iI (-1)))] → W p l e R s m av below meth c H locs (0) (0) Q (F0 m 81 ls [.int (iI t), .int (iI (tn Sg k))]) := by
              intro t ht H locs ls B hl
              refine x_iadd hx hb d_Chain_turnsFar_81 ?_
              refine lv_istore_n (lv' := [(2, .int (iI ((tn Sg k) + t))), (5, .int (iI v)), (4, .int (iI ((k : Int)))), (3, .int (iI (lst Sg k))), (0, .ref ch), (1, .int (iI (-1)))]) hx hb d_Chain_turnsFar_82 rfl hl (by decide) rfl (fun ls hl => ?_)
              refine lv_iload hx hb d_Chain_turnsFar_83 (lv_at hl 1 rfl) ?_
              refine lv_istore_n (lv' := [(3, .int (iI v)), (2, .int (iI ((tn Sg k) + t))), (5, .int (iI v)), (4, .int (iI ((k : Int)))), (0, .ref ch), (1, .int (iI (-1)))]) hx hb d_Chain_turnsFar_85 rfl hl (by decide) rfl (fun ls hl => ?_)
              refine x_iinc (lv' := [(4, .int (iI (((k : Int)) + 1))), (3, .int (iI v)), (2, .int (iI ((tn Sg k) + t))), (5, .int (iI v)), (0, .ref ch), (1, .int (iI (-1)))]) hx hb d_Chain_turnsFar_86 hl (q := 3) rfl rfl (by decide) rfl (fun ls hl => ?_)
              refine lv_goto (tgt := 7) hx hb d_Chain_turnsFar_89 (by decide) ?_
              subst ht
              have hv2 : v = lst Sg (k + 1) := by rw [lst, if_pos (show Sg k ≠ 0 by omega)]; exact hv
              subst hv2
              exact ih_LP (k + 1) (by omega) (by omega) _ _ _ B (lv_sub hl [0, 1, 2, 4, 5] rfl)
            have hprod : -1 ≤ v * lst Sg k ∧ v * lst Sg k ≤ 1 := by rw [hv]; rcases hS1 with h | h | h <;> rcases hl1 with h2 | h2 | h2 <;> rw [h, h2] <;> decide
            have hprod2 : v * lst Sg k = Sg k * lst Sg k := by rw [hv]
            refine lv_iload_n hx hb d_Chain_turnsFar_68 rfl (lv_at hl 3 rfl) ?_
            refine lv_iload hx hb d_Chain_turnsFar_69 (lv_at hl 0 rfl) ?_
            refine lv_iload_n hx hb d_Chain_turnsFar_71 rfl (lv_at hl 2 rfl) ?_
            refine x_imul hx hb d_Chain_turnsFar_72 ?_
            refine x_if_ge (tgt := 80) hx hb d_Chain_turnsFar_73 (by decide) (by omega) (fun h73 => ?_) (fun h73 => ?_)
            · refine x_iconst hx hb d_Chain_turnsFar_80 ?_
              exact J81 0 (by have h9 := tn_mul hS1 hl1; first | rw [if_pos (show Sg k * lst Sg k < 0 by omega)] | rw [if_neg (show ¬ Sg k * lst Sg k < 0 by omega)]) _ _ _ B (lv_sub hl [0, 1, 2, 3, 4, 5] rfl)
            · refine x_iconst hx hb d_Chain_turnsFar_76 ?_
              refine lv_goto (tgt := 81) hx hb d_Chain_turnsFar_77 (by decide) ?_
              exact J81 1 (by have h9 := tn_mul hS1 hl1; first | rw [if_pos (show Sg k * lst Sg k < 0 by omega)] | rw [if_neg (show ¬ Sg k * lst Sg k < 0 by omega)]) _ _ _ B (lv_sub hl [0, 1, 2, 3, 4, 5] rfl)
          refine lv_aload_n hx hb d_Chain_turnsFar_47 rfl (lv_at hl 3 rfl) ?_
          refine x_get (C := RX1) (T := TX1) (N := 7) hx hb hts inX1 hown B hF 0 rfl rfl 1 (by decide) (hts _ w_53) (fun _ h9 => h9) rfl d_Chain_turnsFar_48 ?_
          refine lv_iload hx hb d_Chain_turnsFar_51 (lv_at hl 0 rfl) ?_
          refine x_iald hx hb B hF 2 0 rfl rfl k (by omega) (by omega) (by decide) d_Chain_turnsFar_53 ?_
          refine x_iconst hx hb d_Chain_turnsFar_54 ?_
          refine x_irem hx hb d_Chain_turnsFar_55 (by omega) (by omega) (by omega) ?_
          refine x_iconst hx hb d_Chain_turnsFar_56 ?_
          refine x_icmp_ne (tgt := 64) hx hb d_Chain_turnsFar_57 (by decide) (by rw [hmod]; omega) (by omega) (fun h57 => ?_) (fun h57 => ?_)
          · refine x_iconst hx hb d_Chain_turnsFar_64 ?_
            refine x_imul hx hb d_Chain_turnsFar_65 ?_
            exact J66 (sd9 * 1) (by rw [hSk, sgL, hdg, hsR, Nat.add_sub_cancel]; first | (rw [if_pos (show dg k % 2 = 0 by omega)]; omega) | (rw [if_neg (show ¬ dg k % 2 = 0 by omega)]; omega)) (by omega) _ _ _ B (lv_sub hl [0, 1, 2, 3, 4] rfl)
          · refine lv_iload_n hx hb d_Chain_turnsFar_60 rfl (lv_at hl 4 rfl) ?_
            refine lv_goto (tgt := 65) hx hb d_Chain_turnsFar_61 (by decide) ?_
            refine x_imul hx hb d_Chain_turnsFar_65 ?_
            exact J66 (sd9 * (-1)) (by rw [hSk, sgL, hdg, hsR, Nat.add_sub_cancel]; first | (rw [if_pos (show dg k % 2 = 0 by omega)]; omega) | (rw [if_neg (show ¬ dg k % 2 = 0 by omega)]; omega)) (by omega) _ _ _ B (lv_sub hl [0, 1, 2, 3, 4] rfl)
  exact LP _ 0 (Nat.lt_succ_self _) (by omega) _ _ _ B (lv_sub hl [0, 1, 2, 3, 4] rfl)
theorem d_Chain_rootsBelow_0 : decode prog_3_method_6_code 0 = .ok (.aload_n 0, 1) := by decide +kernel
theorem d_Chain_rootsBelow_1 : decode prog_3_method_6_code 1 = .ok (.iconst (-1), 1) := by decide +kernel
theorem d_Chain_rootsBelow_2 : decode prog_3_method_6_code 2 = .ok (.invokevirtual 71, 3) := by decide +kernel
theorem d_Chain_rootsBelow_5 : decode prog_3_method_6_code 5 = .ok (.aload_n 0, 1) := by decide +kernel
theorem d_Chain_rootsBelow_6 : decode prog_3_method_6_code 6 = .ok (.getfield 25, 3) := by decide +kernel
theorem d_Chain_rootsBelow_9 : decode prog_3_method_6_code 9 = .ok (.isub, 1) := by decide +kernel
theorem d_Chain_rootsBelow_10 : decode prog_3_method_6_code 10 = .ok (.aload_n 0, 1) := by decide +kernel
theorem d_Chain_rootsBelow_11 : decode prog_3_method_6_code 11 = .ok (.getfield 28, 3) := by decide +kernel
theorem d_Chain_rootsBelow_14 : decode prog_3_method_6_code 14 = .ok (.ifCond .ne 7, 3) := by decide +kernel
theorem d_Chain_rootsBelow_17 : decode prog_3_method_6_code 17 = .ok (.iconst 1, 1) := by decide +kernel
theorem d_Chain_rootsBelow_18 : decode prog_3_method_6_code 18 = .ok (.goto 4, 3) := by decide +kernel
theorem d_Chain_rootsBelow_21 : decode prog_3_method_6_code 21 = .ok (.iconst 0, 1) := by decide +kernel
theorem d_Chain_rootsBelow_22 : decode prog_3_method_6_code 22 = .ok (.isub, 1) := by decide +kernel
theorem d_Chain_rootsBelow_23 : decode prog_3_method_6_code 23 = .ok (.ireturn, 1) := by decide +kernel
set_option maxHeartbeats 8000000 in
set_option maxRecDepth 100000 in
theorem c_Chain_rootsBelow (l : Launch) (D : va_G) (cs : Nat → ClassId) (L : List Nat) (f : Nat → va_E) (sz : Nat) (ch tt tq cl cr n : Nat) (tu fi : Int) (tps : Nat → Int) (dg : Nat → Nat) (gg : Nat → Option Nat) (tm : Nat → Nat) (S : Nat → Prop) (Qm : Nat → Nat) (Zf : Nat → Int) (hF : Fc L [ch, tt, tq]) (ha : f ch = .inr (1, [.ref tt, .ref tq, .int (iI ((n : Int))), .int (iI tu), .int (iI fi), .ref cl, .ref cr])) (htt : f tt = .inl (cs 3, 42, .inr (.inr (.inr (.inr gg))))) (htq : f tq = .inl (cs 0, 7, .inl (ai tps))) (hn : 1 ≤ n ∧ n ≤ 6) (htp : ∀ k, k < n → tps k = (dg k : Int) ∧ dg k < 6) (hG : ∀ t, t < 42 → gg t = some (tm t)) (hSt : ∀ t, t < 42 → S (tm t)) (hlead : ∀ k, k < n → Zf (tm (6 * k + dg k)) ≠ 0 ∧ ∀ j, dg k < j → j < 6 → Zf (tm (6 * k + j)) = 0) (hSp : Sp L S Qm) (hB : BH cs f S Qm Zf) (hOk : ∀ k ∈ ([ch, tt, tq] : List Nat), Out S Qm k) (hfi : -1 ≤ fi ∧ fi ≤ 1) : Met l (⟨"RealRoots$Chain", "rootsBelow", "()I"⟩ : MethodName) (.code (⟨"RealRoots$Chain", "rootsBelow", "()I"⟩ : MethodName) prog_3_method_6_code 1 (Option.some Jvm.ClassFile.FieldType.int) :: gw) ({ frames := 1, cells := 0, slots := 0, locals := 40 }) (va_Pc [.ref ch] (K0 D vwCl (TY cs) L f sz)) (va_Qi (fun (r : Int32) (g : Nat → va_E) => r = iI (tn (fun k => sgL (fun j => Zf (tm (6 * k + j)))) n - tu - (if fi = 0 then 1 else 0)) ∧ g = f) (K1 D vwCl (TY cs) (AL L sz) L) (AL L sz)) 0 0 (AL L sz) := by
  refine Met.ofW (cc := prog_3_method_6_code) (maxL := 1) (ret := (Option.some Jvm.ClassFile.FieldType.int)) (by decide) rfl ?_
  intro p e s m args below meth c s₁ Bd hml hv
  obtain ⟨rfl, hk0⟩ := hv
  obtain ⟨hsz, B⟩ := hk0.start
  subst hsz
  have hx := Bd.exec
  have hb := Bd.bytes
  have hr := Bd.returns
  have hlocks := Bd.notSynchronized
  have hts0 := atoms_spec Bd.pre
  have hown : s.vm.findClass RX1 = some m.cls := findClass_of_methodNamed Bd.named
  have hA : ∀ q, s.heap.size ≤ q → AL L s.heap.size q := fun _ h => Or.inr h
  have hl := lv_entry ([.ref ch]) (n := 1) (Nat.le_of_ble_eq_true rfl)
  rw [lg_entry_eq]
  generalize (lg_sl ([.ref ch]) ++ List.replicate (1 - (lg_sl ([.ref ch])).length) Slot.unset).toArray = ls at hl ⊢
  refine absQ (fun Q R av hQ hR hav => ?_)
  have hts : ∀ w ∈ gw, w.before av s = true := by rw [hav]; exact fun w h => hts0 w (List.mem_cons_of_mem _ h)
  have hRf : R.frames = 1 := by rw [hR]; rfl
  have hRl : R.locals = 40 := by rw [hR]; rfl
  have hRc : R.cells = 0 := by rw [hR]; rfl
  have hRs : R.slots = 0 := by rw [hR]; rfl
  clear hR hts0 Bd
  have hl : lv_has ls 1 [(0, .ref ch)] := hl
  have hfx : ∀ q ∈ ([(ch, .inr (1, [.ref tt, .ref tq, .int (iI ((n : Int))), .int (iI tu), .int (iI fi), .ref cl, .ref cr])), (tt, .inl (cs 3, 42, .inr (.inr (.inr (.inr gg))))), (tq, .inl (cs 0, 7, .inl (ai tps)))] : List (Nat × va_E)), f q.1 = q.2 := fun q hq => by
    simp only [List.mem_cons, List.not_mem_nil, or_false] at hq
    rcases hq with rfl | rfl | rfl
    · exact ha
    · exact htt
    · exact htq
  have hmw : mw f [(ch, .inr (1, [.ref tt, .ref tq, .int (iI ((n : Int))), .int (iI tu), .int (iI fi), .ref cl, .ref cr])), (tt, .inl (cs 3, 42, .inr (.inr (.inr (.inr gg))))), (tq, .inl (cs 0, 7, .inl (ai tps)))] = f := mw_self (fun k a e hk => hfx (a, e) (List.mem_of_getElem? hk))
  have B := B.focus [(ch, .inr (1, [.ref tt, .ref tq, .int (iI ((n : Int))), .int (iI tu), .int (iI fi), .ref cl, .ref cr])), (tt, .inl (cs 3, 42, .inr (.inr (.inr (.inr gg))))), (tq, .inl (cs 0, 7, .inl (ai tps)))] hfx
  refine lv_aload_n hx hb d_Chain_rootsBelow_0 rfl (lv_at hl 0 rfl) ?_
  refine x_iconst hx hb d_Chain_rootsBelow_1 ?_
  refine x_calli B hA (va_runV (As := [.int (iI (-1))]) (rest := []) ⟨hx, hb, hml, hown, hts⟩ (c_Chain_turnsFar_l l D cs _ _ _ ch tt tq cl cr n tu fi tps dg gg tm S Qm Zf (hF.pick [0, 1, 2] rfl rfl) (mw_get (X := [(ch, .inr (1, [.ref tt, .ref tq, .int (iI ((n : Int))), .int (iI tu), .int (iI fi), .ref cl, .ref cr])), (tt, .inl (cs 3, 42, .inr (.inr (.inr (.inr gg))))), (tq, .inl (cs 0, 7, .inl (ai tps)))]) hF.1 (k := 0) rfl) (mw_get (X := [(ch, .inr (1, [.ref tt, .ref tq, .int (iI ((n : Int))), .int (iI tu), .int (iI fi), .ref cl, .ref cr])), (tt, .inl (cs 3, 42, .inr (.inr (.inr (.inr gg))))), (tq, .inl (cs 0, 7, .inl (ai tps)))]) hF.1 (k := 1) rfl) (mw_get (X := [(ch, .inr (1, [.ref tt, .ref tq, .int (iI ((n : Int))), .int (iI tu), .int (iI fi), .ref cl, .ref cr])), (tt, .inl (cs 3, 42, .inr (.inr (.inr (.inr gg))))), (tq, .inl (cs 0, 7, .inl (ai tps)))]) hF.1 (k := 2) rfl) hn htp hG hSt hlead hSp (hB.keep (X := [(ch, .inr (1, [.ref tt, .ref tq, .int (iI ((n : Int))), .int (iI tu), .int (iI fi), .ref cl, .ref cr])), (tt, .inl (cs 3, 42, .inr (.inr (.inr (.inr gg))))), (tq, .inl (cs 0, 7, .inl (ai tps)))]) hOk) hOk) (cwV 1 hts (gw_V w_420 w_379 w_380 w_2 w_381) rfl rfl rfl (by decide +kernel) ⟨by rw [hRf]; exact Nat.le_of_ble_eq_true rfl, by rw [hRl]; exact Nat.le_of_ble_eq_true rfl⟩) ⟨K0.blind, B.recv (hF.2 _ (mw_key (k := 0) (X := [(ch, .inr (1, [.ref tt, .ref tq, .int (iI ((n : Int))), .int (iI tu), .int (iI fi), .ref cl, .ref cr])), (tt, .inl (cs 3, 42, .inr (.inr (.inr (.inr gg))))), (tq, .inl (cs 0, 7, .inl (ai tps)))]) rfl)) (mw_get (X := [(ch, .inr (1, [.ref tt, .ref tq, .int (iI ((n : Int))), .int (iI tu), .int (iI fi), .ref cl, .ref cr])), (tt, .inl (cs 3, 42, .inr (.inr (.inr (.inr gg))))), (tq, .inl (cs 0, 7, .inl (ai tps)))]) hF.1 (k := 0) rfl) rfl, B.pre _⟩ rfl rfl hl.1 rfl (lv_room (Nat.le_of_ble_eq_true rfl)) d_Chain_rootsBelow_2 ⟨by rw [hRc]; omega, by rw [hRs]; omega⟩) (fun r2 g2 H locs hw B => ?_)
  obtain ⟨rfl, rfl⟩ := hw
  have B : Wb D vwCl (TY cs) L (mw f [(ch, .inr (1, [.ref tt, .ref tq, .int (iI ((n : Int))), .int (iI tu), .int (iI fi), .ref cl, .ref cr])), (tt, .inl (cs 3, 42, .inr (.inr (.inr (.inr gg))))), (tq, .inl (cs 0, 7, .inl (ai tps)))]) (AL L s.heap.size) s H _ := B
  refine lv_aload_n hx hb d_Chain_rootsBelow_5 rfl (lv_at hl 0 rfl) ?_
  refine x_get (C := RX1) (T := TX1) (N := 7) hx hb hts inX1 hown B hF 0 rfl rfl 3 (by decide) (hts _ w_56) (fun _ h9 => h9) rfl d_Chain_rootsBelow_6 ?_
  refine x_isub hx hb d_Chain_rootsBelow_9 ?_
  refine lv_aload_n hx hb d_Chain_rootsBelow_10 rfl (lv_at hl 0 rfl) ?_
  refine x_get (C := RX1) (T := TX1) (N := 7) hx hb hts inX1 hown B hF 0 rfl rfl 4 (by decide) (hts _ w_58) (fun _ h9 => h9) rfl d_Chain_rootsBelow_11 ?_
  refine x_if_ne (tgt := 21) hx hb d_Chain_rootsBelow_14 (by decide) (by omega) (fun h14 => ?_) (fun h14 => ?_)
  · refine x_iconst hx hb d_Chain_rootsBelow_21 ?_
    refine x_isub hx hb d_Chain_rootsBelow_22 ?_
    have B := B.of_eq hmw
    subst hQ hav
    exact x_iret hx hb hr hlocks B d_Chain_rootsBelow_23 (⟨by first | rw [if_pos (show fi = 0 by omega)] | rw [if_neg (show ¬ fi = 0 by omega)], rfl⟩)
  · refine x_iconst hx hb d_Chain_rootsBelow_17 ?_
    refine lv_goto (tgt := 22) hx hb d_Chain_rootsBelow_18 (by decide) ?_
    refine x_isub hx hb d_Chain_rootsBelow_22 ?_
    have B := B.of_eq hmw
    subst hQ hav
    exact x_iret hx hb hr hlocks B d_Chain_rootsBelow_23 (⟨by first | rw [if_pos (show fi = 0 by omega)] | rw [if_neg (show ¬ fi = 0 by omega)], rfl⟩)
