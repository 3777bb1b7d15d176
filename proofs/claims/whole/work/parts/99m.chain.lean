theorem d_Chain_lastWithLead_0 : decode prog_3_method_7_code 0 = .ok (.aload_n 0, 1) := by decide +kernel
theorem d_Chain_lastWithLead_1 : decode prog_3_method_7_code 1 = .ok (.getfield 21, 3) := by decide +kernel
theorem d_Chain_lastWithLead_4 : decode prog_3_method_7_code 4 = .ok (.iconst 1, 1) := by decide +kernel
theorem d_Chain_lastWithLead_5 : decode prog_3_method_7_code 5 = .ok (.if_icmp .ge 7, 3) := by decide +kernel
theorem d_Chain_lastWithLead_8 : decode prog_3_method_7_code 8 = .ok (.iconst (-1), 1) := by decide +kernel
theorem d_Chain_lastWithLead_9 : decode prog_3_method_7_code 9 = .ok (.goto 14, 3) := by decide +kernel
theorem d_Chain_lastWithLead_12 : decode prog_3_method_7_code 12 = .ok (.aload_n 0, 1) := by decide +kernel
theorem d_Chain_lastWithLead_13 : decode prog_3_method_7_code 13 = .ok (.getfield 17, 3) := by decide +kernel
theorem d_Chain_lastWithLead_16 : decode prog_3_method_7_code 16 = .ok (.aload_n 0, 1) := by decide +kernel
theorem d_Chain_lastWithLead_17 : decode prog_3_method_7_code 17 = .ok (.getfield 21, 3) := by decide +kernel
theorem d_Chain_lastWithLead_20 : decode prog_3_method_7_code 20 = .ok (.iconst 1, 1) := by decide +kernel
theorem d_Chain_lastWithLead_21 : decode prog_3_method_7_code 21 = .ok (.isub, 1) := by decide +kernel
theorem d_Chain_lastWithLead_22 : decode prog_3_method_7_code 22 = .ok (.iaload, 1) := by decide +kernel
theorem d_Chain_lastWithLead_23 : decode prog_3_method_7_code 23 = .ok (.istore 4, 2) := by decide +kernel
theorem d_Chain_lastWithLead_25 : decode prog_3_method_7_code 25 = .ok (.iload_n 3, 1) := by decide +kernel
theorem d_Chain_lastWithLead_26 : decode prog_3_method_7_code 26 = .ok (.ifCond .lt 9, 3) := by decide +kernel
theorem d_Chain_lastWithLead_29 : decode prog_3_method_7_code 29 = .ok (.iload_n 3, 1) := by decide +kernel
theorem d_Chain_lastWithLead_30 : decode prog_3_method_7_code 30 = .ok (.iload 4, 2) := by decide +kernel
theorem d_Chain_lastWithLead_32 : decode prog_3_method_7_code 32 = .ok (.if_icmp .le 5, 3) := by decide +kernel
theorem d_Chain_lastWithLead_35 : decode prog_3_method_7_code 35 = .ok (.lconst 0, 1) := by decide +kernel
theorem d_Chain_lastWithLead_36 : decode prog_3_method_7_code 36 = .ok (.lreturn, 1) := by decide +kernel
theorem d_Chain_lastWithLead_37 : decode prog_3_method_7_code 37 = .ok (.aload_n 0, 1) := by decide +kernel
theorem d_Chain_lastWithLead_38 : decode prog_3_method_7_code 38 = .ok (.getfield 21, 3) := by decide +kernel
theorem d_Chain_lastWithLead_41 : decode prog_3_method_7_code 41 = .ok (.iconst 1, 1) := by decide +kernel
theorem d_Chain_lastWithLead_42 : decode prog_3_method_7_code 42 = .ok (.isub, 1) := by decide +kernel
theorem d_Chain_lastWithLead_43 : decode prog_3_method_7_code 43 = .ok (.bipush 6, 2) := by decide +kernel
theorem d_Chain_lastWithLead_45 : decode prog_3_method_7_code 45 = .ok (.imul, 1) := by decide +kernel
theorem d_Chain_lastWithLead_46 : decode prog_3_method_7_code 46 = .ok (.istore 5, 2) := by decide +kernel
theorem d_Chain_lastWithLead_48 : decode prog_3_method_7_code 48 = .ok (.aload_n 0, 1) := by decide +kernel
theorem d_Chain_lastWithLead_49 : decode prog_3_method_7_code 49 = .ok (.getfield 36, 3) := by decide +kernel
theorem d_Chain_lastWithLead_52 : decode prog_3_method_7_code 52 = .ok (.lload_n 1, 1) := by decide +kernel
theorem d_Chain_lastWithLead_53 : decode prog_3_method_7_code 53 = .ok (.invokevirtual 43, 3) := by decide +kernel
theorem d_Chain_lastWithLead_56 : decode prog_3_method_7_code 56 = .ok (.aload_n 0, 1) := by decide +kernel
theorem d_Chain_lastWithLead_57 : decode prog_3_method_7_code 57 = .ok (.getfield 32, 3) := by decide +kernel
theorem d_Chain_lastWithLead_60 : decode prog_3_method_7_code 60 = .ok (.aload_n 0, 1) := by decide +kernel
theorem d_Chain_lastWithLead_61 : decode prog_3_method_7_code 61 = .ok (.getfield 36, 3) := by decide +kernel
theorem d_Chain_lastWithLead_64 : decode prog_3_method_7_code 64 = .ok (.aload_n 0, 1) := by decide +kernel
theorem d_Chain_lastWithLead_65 : decode prog_3_method_7_code 65 = .ok (.getfield 13, 3) := by decide +kernel
theorem d_Chain_lastWithLead_68 : decode prog_3_method_7_code 68 = .ok (.iload 5, 2) := by decide +kernel
theorem d_Chain_lastWithLead_70 : decode prog_3_method_7_code 70 = .ok (.iload_n 3, 1) := by decide +kernel
theorem d_Chain_lastWithLead_71 : decode prog_3_method_7_code 71 = .ok (.iadd, 1) := by decide +kernel
theorem d_Chain_lastWithLead_72 : decode prog_3_method_7_code 72 = .ok (.aaload, 1) := by decide +kernel
theorem d_Chain_lastWithLead_73 : decode prog_3_method_7_code 73 = .ok (.invokevirtual 57, 3) := by decide +kernel
theorem d_Chain_lastWithLead_76 : decode prog_3_method_7_code 76 = .ok (.aload_n 0, 1) := by decide +kernel
theorem d_Chain_lastWithLead_77 : decode prog_3_method_7_code 77 = .ok (.getfield 36, 3) := by decide +kernel
theorem d_Chain_lastWithLead_80 : decode prog_3_method_7_code 80 = .ok (.aload_n 0, 1) := by decide +kernel
theorem d_Chain_lastWithLead_81 : decode prog_3_method_7_code 81 = .ok (.getfield 13, 3) := by decide +kernel
theorem d_Chain_lastWithLead_84 : decode prog_3_method_7_code 84 = .ok (.iload 5, 2) := by decide +kernel
theorem d_Chain_lastWithLead_86 : decode prog_3_method_7_code 86 = .ok (.iload 4, 2) := by decide +kernel
theorem d_Chain_lastWithLead_88 : decode prog_3_method_7_code 88 = .ok (.iadd, 1) := by decide +kernel
theorem d_Chain_lastWithLead_89 : decode prog_3_method_7_code 89 = .ok (.aaload, 1) := by decide +kernel
theorem d_Chain_lastWithLead_90 : decode prog_3_method_7_code 90 = .ok (.invokevirtual 50, 3) := by decide +kernel
theorem d_Chain_lastWithLead_93 : decode prog_3_method_7_code 93 = .ok (.aload_n 0, 1) := by decide +kernel
theorem d_Chain_lastWithLead_94 : decode prog_3_method_7_code 94 = .ok (.getfield 32, 3) := by decide +kernel
theorem d_Chain_lastWithLead_97 : decode prog_3_method_7_code 97 = .ok (.aload_n 0, 1) := by decide +kernel
theorem d_Chain_lastWithLead_98 : decode prog_3_method_7_code 98 = .ok (.getfield 36, 3) := by decide +kernel
theorem d_Chain_lastWithLead_101 : decode prog_3_method_7_code 101 = .ok (.invokevirtual 75, 3) := by decide +kernel
theorem d_Chain_lastWithLead_104 : decode prog_3_method_7_code 104 = .ok (.lreturn, 1) := by decide +kernel
set_option maxHeartbeats 8000000 in
set_option maxRecDepth 100000 in
theorem c_Chain_last_z (l : Launch) (D : va_G) (cs : Nat → ClassId) (L : List Nat) (f : Nat → va_E) (sz : Nat) (ch tt tq cl cr n dt k0 : Nat) (tu fi lead : Int) (tps : Nat → Int) (gg : Nat → Option Nat) (tm : Nat → Nat) (Ck S : Nat → Prop) (Qm : Nat → Nat) (Zf : Nat → Int) (hF : Fc L [ch, tt, tq]) (ha : f ch = .inr (1, [.ref tt, .ref tq, .int (iI ((n : Int))), .int (iI tu), .int (iI fi), .ref cl, .ref cr])) (htt : f tt = .inl (cs 3, 42, .inr (.inr (.inr (.inr gg))))) (htq : f tq = .inl (cs 0, 7, .inl (ai tps))) (hn : 1 ≤ n ∧ n ≤ 7) (hd1 : tps (n - 1) = (dt : Int)) (hdt : dt < 6) (hk0 : dt < k0 ∧ k0 < 6) : Met l (⟨"RealRoots$Chain", "lastWithLead", "(JI)J"⟩ : MethodName) (.code (⟨"RealRoots$Chain", "lastWithLead", "(JI)J"⟩ : MethodName) prog_3_method_7_code 6 (Option.some Jvm.ClassFile.FieldType.long) :: gw) ({ frames := 0, cells := 0, slots := 0, locals := 0 }) (va_Pc [.ref ch, .long (lI lead), .int (iI ((k0 : Int)))] (K0 D vwCl (TY cs) L f sz)) (va_Ql (fun (r : Int64) (g : Nat → va_E) => r = lI 0 ∧ g = f) (K1 D vwCl (TY cs) (AL L sz) L) (AL L sz)) 0 0 (AL L sz) := by
  refine Met.ofW (cc := prog_3_method_7_code) (maxL := 6) (ret := (Option.some Jvm.ClassFile.FieldType.long)) (by decide) rfl ?_
  intro p e s m args below meth c s₁ Bd hml hv
  obtain ⟨rfl, hk0⟩ := hv
  obtain ⟨hsz, B⟩ := hk0.start
  subst hsz
  have hx := Bd.exec
  have hb := Bd.bytes
  have hr := Bd.returns
  have hlocks := Bd.notSynchronized
  have hts0 := atoms_spec Bd.pre
  have hown : s.vm.findClass RX1 = some m.cls := findClass_of_methodNamed Bd.named
  have hA : ∀ q, s.heap.size ≤ q → AL L s.heap.size q := fun _ h => Or.inr h
  have hl := lv_entry ([.ref ch, .long (lI lead), .int (iI ((k0 : Int)))]) (n := 6) (Nat.le_of_ble_eq_true rfl)
  rw [lg_entry_eq]
  generalize (lg_sl ([.ref ch, .long (lI lead), .int (iI ((k0 : Int)))]) ++ List.replicate (6 - (lg_sl ([.ref ch, .long (lI lead), .int (iI ((k0 : Int)))])).length) Slot.unset).toArray = ls at hl ⊢
  refine absQ (fun Q R av hQ hR hav => ?_)
  have hts : ∀ w ∈ gw, w.before av s = true := by rw [hav]; exact fun w h => hts0 w (List.mem_cons_of_mem _ h)
  have hRf : R.frames = 0 := by rw [hR]; rfl
  have hRl : R.locals = 0 := by rw [hR]; rfl
  have hRc : R.cells = 0 := by rw [hR]; rfl
  have hRs : R.slots = 0 := by rw [hR]; rfl
  clear hR hts0 Bd
  have hl : lv_has ls 6 [(0, .ref ch), (1, .long (lI lead)), (3, .int (iI ((k0 : Int))))] := hl
  have hfx : ∀ q ∈ ([(ch, .inr (1, [.ref tt, .ref tq, .int (iI ((n : Int))), .int (iI tu), .int (iI fi), .ref cl, .ref cr])), (tt, .inl (cs 3, 42, .inr (.inr (.inr (.inr gg))))), (tq, .inl (cs 0, 7, .inl (ai tps)))] : List (Nat × va_E)), f q.1 = q.2 := fun q hq => by
    simp only [List.mem_cons, List.not_mem_nil, or_false] at hq
    rcases hq with rfl | rfl | rfl
    · exact ha
    · exact htt
    · exact htq
  have hmw : mw f [(ch, .inr (1, [.ref tt, .ref tq, .int (iI ((n : Int))), .int (iI tu), .int (iI fi), .ref cl, .ref cr])), (tt, .inl (cs 3, 42, .inr (.inr (.inr (.inr gg))))), (tq, .inl (cs 0, 7, .inl (ai tps)))] = f := mw_self (fun k a e hk => hfx (a, e) (List.mem_of_getElem? hk))
  have B := B.focus [(ch, .inr (1, [.ref tt, .ref tq, .int (iI ((n : Int))), .int (iI tu), .int (iI fi), .ref cl, .ref cr])), (tt, .inl (cs 3, 42, .inr (.inr (.inr (.inr gg))))), (tq, .inl (cs 0, 7, .inl (ai tps)))] hfx
  refine lv_aload_n hx hb d_Chain_lastWithLead_0 rfl (lv_at hl 0 rfl) ?_
  refine x_get (C := RX1) (T := TX1) (N := 7) hx hb hts inX1 hown B hF 0 rfl rfl 2 (by decide) (hts _ w_54) (fun _ h9 => h9) rfl d_Chain_lastWithLead_1 ?_
  refine x_iconst hx hb d_Chain_lastWithLead_4 ?_
  refine x_icmp_ge (tgt := 12) hx hb d_Chain_lastWithLead_5 (by decide) (by omega) (by omega) (fun h5 => ?_) (fun h5 => ?_)
  · refine lv_aload_n hx hb d_Chain_lastWithLead_12 rfl (lv_at hl 0 rfl) ?_
    refine x_get (C := RX1) (T := TX1) (N := 7) hx hb hts inX1 hown B hF 0 rfl rfl 1 (by decide) (hts _ w_53) (fun _ h9 => h9) rfl d_Chain_lastWithLead_13 ?_
    refine lv_aload_n hx hb d_Chain_lastWithLead_16 rfl (lv_at hl 0 rfl) ?_
    refine x_get (C := RX1) (T := TX1) (N := 7) hx hb hts inX1 hown B hF 0 rfl rfl 2 (by decide) (hts _ w_54) (fun _ h9 => h9) rfl d_Chain_lastWithLead_17 ?_
    refine x_iconst hx hb d_Chain_lastWithLead_20 ?_
    refine x_isub hx hb d_Chain_lastWithLead_21 ?_
    refine x_iald hx hb B hF 2 0 rfl rfl (n - 1) (by omega) (by omega) (by decide) d_Chain_lastWithLead_22 ?_
    rw [hd1]
    refine lv_istore (lv' := [(4, .int (iI ((dt : Int)))), (0, .ref ch), (1, .long (lI lead)), (3, .int (iI ((k0 : Int))))]) hx hb d_Chain_lastWithLead_23 hl (by decide) rfl (fun ls hl => ?_)
    refine lv_iload_n hx hb d_Chain_lastWithLead_25 rfl (lv_at hl 3 rfl) ?_
    refine x_if_lt (tgt := 35) hx hb d_Chain_lastWithLead_26 (by decide) (by omega) (fun h26 => ?_) (fun h26 => ?_)
    · refine x_lconst (z := 0) hx hb d_Chain_lastWithLead_35 (by decide) ?_
      have B := B.of_eq hmw
      subst hQ hav
      exact x_lret hx hb hr hlocks B d_Chain_lastWithLead_36 (⟨rfl, rfl⟩)
    · refine lv_iload_n hx hb d_Chain_lastWithLead_29 rfl (lv_at hl 3 rfl) ?_
      refine lv_iload hx hb d_Chain_lastWithLead_30 (lv_at hl 0 rfl) ?_
      refine x_icmp_le (tgt := 37) hx hb d_Chain_lastWithLead_32 (by decide) (by omega) (by omega) (fun h32 => ?_) (fun h32 => ?_)
      · exfalso; omega
      · refine x_lconst (z := 0) hx hb d_Chain_lastWithLead_35 (by decide) ?_
        have B := B.of_eq hmw
        subst hQ hav
        exact x_lret hx hb hr hlocks B d_Chain_lastWithLead_36 (⟨rfl, rfl⟩)
  · exfalso; omega
set_option maxHeartbeats 8000000 in
set_option maxRecDepth 100000 in
theorem c_Chain_last (l : Launch) (D : va_G) (cs : Nat → ClassId) (L : List Nat) (f : Nat → va_E) (sz : Nat) (ch tt tq cl cr n dt k0 : Nat) (tu fi lead : Int) (tps : Nat → Int) (gg : Nat → Option Nat) (tm : Nat → Nat) (Ck S : Nat → Prop) (Qm : Nat → Nat) (Zf : Nat → Int) (hF : Fc L [ch, tt, tq]) (ha : f ch = .inr (1, [.ref tt, .ref tq, .int (iI ((n : Int))), .int (iI tu), .int (iI fi), .ref cl, .ref cr])) (htt : f tt = .inl (cs 3, 42, .inr (.inr (.inr (.inr gg))))) (htq : f tq = .inl (cs 0, 7, .inl (ai tps))) (hn : 1 ≤ n ∧ n ≤ 7) (hd1 : tps (n - 1) = (dt : Int)) (hdt : dt < 6) (hk0 : k0 ≤ dt) (hG : ∀ t, t < 42 → gg t = some (tm t)) (hCI : CI Ck tm cl cr) (hCS : ∀ b, Ck b → S b) (hSp : Sp L S Qm) (hB : BH cs f S Qm Zf) (hOk : ∀ k ∈ ([ch, tt, tq] : List Nat), Out S Qm k) (hld : -9223372036854775808 < lead ∧ lead < 9223372036854775808) (hGT : Zf (tm (6 * (n - 1) + dt)) ≠ 0) (hroom : ((lead * Zf (tm (6 * (n - 1) + k0))).natAbs : Int) < Bp 47) (hdv : Zf (tm (6 * (n - 1) + dt)) ∣ lead * Zf (tm (6 * (n - 1) + k0))) : Met l (⟨"RealRoots$Chain", "lastWithLead", "(JI)J"⟩ : MethodName) (.code (⟨"RealRoots$Chain", "lastWithLead", "(JI)J"⟩ : MethodName) prog_3_method_7_code 6 (Option.some Jvm.ClassFile.FieldType.long) :: gw) ({ frames := 2, cells := 0, slots := 0, locals := 120 }) (va_Pc [.ref ch, .long (lI lead), .int (iI ((k0 : Int)))] (K0 D vwCl (TY cs) L f sz)) (va_Ql (fun (r : Int64) (g : Nat → va_E) => ∃ Z' : Nat → Int, r = lI ((lead * Zf (tm (6 * (n - 1) + k0))).sign * (Zf (tm (6 * (n - 1) + dt))).sign * ((((lead * Zf (tm (6 * (n - 1) + k0))) / Zf (tm (6 * (n - 1) + dt))).natAbs : Int) % 4611686018427387904)) ∧ (∀ b, b ≠ cl → b ≠ cr → Z' b = Zf b) ∧ BH cs g S Qm Z' ∧ (∀ k, Out S Qm k → k ∉ ([ch, tt, tq] : List Nat) → g k = f k) ∧ g ch = .inr (1, [.ref tt, .ref tq, .int (iI ((n : Int))), .int (iI tu), .int (iI fi), .ref cl, .ref cr]) ∧ g tt = .inl (cs 3, 42, .inr (.inr (.inr (.inr gg)))) ∧ g tq = .inl (cs 0, 7, .inl (ai tps))) (K1 D vwCl (TY cs) (AL L sz) L) (AL L sz)) 0 0 (AL L sz) := by
  refine Met.ofW (cc := prog_3_method_7_code) (maxL := 6) (ret := (Option.some Jvm.ClassFile.FieldType.long)) (by decide) rfl ?_
  intro p e s m args below meth c s₁ Bd hml hv
  obtain ⟨rfl, hk0⟩ := hv
  obtain ⟨hsz, B⟩ := hk0.start
  subst hsz
  have hx := Bd.exec
  have hb := Bd.bytes
  have hr := Bd.returns
  have hlocks := Bd.notSynchronized
  have hts0 := atoms_spec Bd.pre
  have hown : s.vm.findClass RX1 = some m.cls := findClass_of_methodNamed Bd.named
  have hA : ∀ q, s.heap.size ≤ q → AL L s.heap.size q := fun _ h => Or.inr h
  have hl := lv_entry ([.ref ch, .long (lI lead), .int (iI ((k0 : Int)))]) (n := 6) (Nat.le_of_ble_eq_true rfl)
  rw [lg_entry_eq]
  generalize (lg_sl ([.ref ch, .long (lI lead), .int (iI ((k0 : Int)))]) ++ List.replicate (6 - (lg_sl ([.ref ch, .long (lI lead), .int (iI ((k0 : Int)))])).length) Slot.unset).toArray = ls at hl ⊢
  refine absQ (fun Q R av hQ hR hav => ?_)
  have hts : ∀ w ∈ gw, w.before av s = true := by rw [hav]; exact fun w h => hts0 w (List.mem_cons_of_mem _ h)
  have hRf : R.frames = 2 := by rw [hR]; rfl
  have hRl : R.locals = 120 := by rw [hR]; rfl
  have hRc : R.cells = 0 := by rw [hR]; rfl
  have hRs : R.slots = 0 := by rw [hR]; rfl
  clear hR hts0 Bd
  have hl : lv_has ls 6 [(0, .ref ch), (1, .long (lI lead)), (3, .int (iI ((k0 : Int))))] := hl
  obtain ⟨tk, htk⟩ : ∃ tk, tk = tm (6 * (n - 1) + k0) := ⟨_, rfl⟩
  obtain ⟨tt2, htt2⟩ : ∃ tt2, tt2 = tm (6 * (n - 1) + dt) := ⟨_, rfl⟩
  have hgtk : gg (6 * (n - 1) + k0) = some tk := by rw [htk]; exact hG _ (by omega)
  have hgtt : gg (6 * (n - 1) + dt) = some tt2 := by rw [htt2]; exact hG _ (by omega)
  have hSt : S tk := by rw [htk]; exact hCS _ (hCI.1 _ (by omega)).1
  have hSt2 : S tt2 := by rw [htt2]; exact hCS _ (hCI.1 _ (by omega)).1
  have hSl : S cl := hCS _ hCI.2.2.1
  have hSr : S cr := hCS _ hCI.2.2.2.1
  have hlr : cl ≠ cr := hCI.2.2.2.2
  have htl : tk ≠ cl := by rw [htk]; exact (hCI.1 _ (by omega)).2.1
  have htr : tk ≠ cr := by rw [htk]; exact (hCI.1 _ (by omega)).2.2
  have htl2 : tt2 ≠ cl := by rw [htt2]; exact (hCI.1 _ (by omega)).2.1
  have htr2 : tt2 ≠ cr := by rw [htt2]; exact (hCI.1 _ (by omega)).2.2
  rw [← htk] at hroom hdv
  rw [← htt2] at hdv hGT
  have hfx : ∀ q ∈ ([(ch, .inr (1, [.ref tt, .ref tq, .int (iI ((n : Int))), .int (iI tu), .int (iI fi), .ref cl, .ref cr])), (tt, .inl (cs 3, 42, .inr (.inr (.inr (.inr gg))))), (tq, .inl (cs 0, 7, .inl (ai tps)))] : List (Nat × va_E)), f q.1 = q.2 := fun q hq => by
    simp only [List.mem_cons, List.not_mem_nil, or_false] at hq
    rcases hq with rfl | rfl | rfl
    · exact ha
    · exact htt
    · exact htq
  have hmw : mw f [(ch, .inr (1, [.ref tt, .ref tq, .int (iI ((n : Int))), .int (iI tu), .int (iI fi), .ref cl, .ref cr])), (tt, .inl (cs 3, 42, .inr (.inr (.inr (.inr gg))))), (tq, .inl (cs 0, 7, .inl (ai tps)))] = f := mw_self (fun k a e hk => hfx (a, e) (List.mem_of_getElem? hk))
  have B := B.focus [(ch, .inr (1, [.ref tt, .ref tq, .int (iI ((n : Int))), .int (iI tu), .int (iI fi), .ref cl, .ref cr])), (tt, .inl (cs 3, 42, .inr (.inr (.inr (.inr gg))))), (tq, .inl (cs 0, 7, .inl (ai tps)))] hfx
  refine lv_aload_n hx hb d_Chain_lastWithLead_0 rfl (lv_at hl 0 rfl) ?_
  refine x_get (C := RX1) (T := TX1) (N := 7) hx hb hts inX1 hown B hF 0 rfl rfl 2 (by decide) (hts _ w_54) (fun _ h9 => h9) rfl d_Chain_lastWithLead_1 ?_
  refine x_iconst hx hb d_Chain_lastWithLead_4 ?_
  refine x_icmp_ge (tgt := 12) hx hb d_Chain_lastWithLead_5 (by decide) (by omega) (by omega) (fun h5 => ?_) (fun h5 => ?_)
  · refine lv_aload_n hx hb d_Chain_lastWithLead_12 rfl (lv_at hl 0 rfl) ?_
    refine x_get (C := RX1) (T := TX1) (N := 7) hx hb hts inX1 hown B hF 0 rfl rfl 1 (by decide) (hts _ w_53) (fun _ h9 => h9) rfl d_Chain_lastWithLead_13 ?_
    refine lv_aload_n hx hb d_Chain_lastWithLead_16 rfl (lv_at hl 0 rfl) ?_
    refine x_get (C := RX1) (T := TX1) (N := 7) hx hb hts inX1 hown B hF 0 rfl rfl 2 (by decide) (hts _ w_54) (fun _ h9 => h9) rfl d_Chain_lastWithLead_17 ?_
    refine x_iconst hx hb d_Chain_lastWithLead_20 ?_
    refine x_isub hx hb d_Chain_lastWithLead_21 ?_
    refine x_iald hx hb B hF 2 0 rfl rfl (n - 1) (by omega) (by omega) (by decide) d_Chain_lastWithLead_22 ?_
    rw [hd1]
    refine lv_istore (lv' := [(4, .int (iI ((dt : Int)))), (0, .ref ch), (1, .long (lI lead)), (3, .int (iI ((k0 : Int))))]) hx hb d_Chain_lastWithLead_23 hl (by decide) rfl (fun ls hl => ?_)
    refine lv_iload_n hx hb d_Chain_lastWithLead_25 rfl (lv_at hl 3 rfl) ?_
    refine x_if_lt (tgt := 35) hx hb d_Chain_lastWithLead_26 (by decide) (by omega) (fun h26 => ?_) (fun h26 => ?_)
    · exfalso; omega
    · refine lv_iload_n hx hb d_Chain_lastWithLead_29 rfl (lv_at hl 3 rfl) ?_
      refine lv_iload hx hb d_Chain_lastWithLead_30 (lv_at hl 0 rfl) ?_
      refine x_icmp_le (tgt := 37) hx hb d_Chain_lastWithLead_32 (by decide) (by omega) (by omega) (fun h32 => ?_) (fun h32 => ?_)
      · refine lv_aload_n hx hb d_Chain_lastWithLead_37 rfl (lv_at hl 1 rfl) ?_
        refine x_get (C := RX1) (T := TX1) (N := 7) hx hb hts inX1 hown B hF 0 rfl rfl 2 (by decide) (hts _ w_54) (fun _ h9 => h9) rfl d_Chain_lastWithLead_38 ?_
        refine x_iconst hx hb d_Chain_lastWithLead_41 ?_
        refine x_isub hx hb d_Chain_lastWithLead_42 ?_
        refine x_bipush hx hb d_Chain_lastWithLead_43 (by decide) ?_
        refine x_imul hx hb d_Chain_lastWithLead_45 ?_
        rw [show (((n : Int)) - 1) * 6 = ((6 * (n - 1) : Nat) : Int) by omega]
        refine lv_istore (lv' := [(5, .int (iI (((6 * (n - 1) : Nat) : Int)))), (4, .int (iI ((dt : Int)))), (0, .ref ch), (1, .long (lI lead)), (3, .int (iI ((k0 : Int))))]) hx hb d_Chain_lastWithLead_46 hl (by decide) rfl (fun ls hl => ?_)
        refine lv_aload_n hx hb d_Chain_lastWithLead_48 rfl (lv_at hl 2 rfl) ?_
        refine x_get (C := RX1) (T := TX1) (N := 7) hx hb hts inX1 hown B hF 0 rfl rfl 6 (by decide) (hts _ w_60) (fun _ h9 => h9) rfl d_Chain_lastWithLead_49 ?_
        refine lv_lload_n hx hb d_Chain_lastWithLead_52 rfl (lv_at hl 3 rfl) ?_
        have hx_53 := hB.keep (X := [(ch, .inr (1, [.ref tt, .ref tq, .int (iI ((n : Int))), .int (iI tu), .int (iI fi), .ref cl, .ref cr])), (tt, .inl (cs 3, 42, .inr (.inr (.inr (.inr gg))))), (tq, .inl (cs 0, 7, .inl (ai tps)))]) hOk
        obtain ⟨sd_530, n_530, lm_530, c1_530, c2_530, c3_530⟩ := hx_53 cr hSr
        refine x_callv B hA (va_runV (As := [.long (lI lead)]) (rest := []) ⟨hx, hb, hml, hown, hts⟩ (c_Big_put l D cs _ _ _ cr (Qm cr) sd_530 n_530 lm_530 lead (hSp.fc1 hSr) c1_530 c2_530 (by omega)) (cwV 1 hts (gw_V w_293 w_294 w_295 w_3 w_296) rfl rfl rfl (by decide +kernel) ⟨by rw [hRf]; exact Nat.le_of_ble_eq_true rfl, by rw [hRl]; exact Nat.le_of_ble_eq_true rfl⟩) ⟨K0.blind, B.recv (hSp.1 _ (hSr)).1 c1_530 rfl, B.pre _⟩ rfl rfl hl.1 rfl (lv_room (Nat.le_of_ble_eq_true rfl)) d_Chain_lastWithLead_53 ⟨by rw [hRc]; omega, by rw [hRs]; omega⟩) (fun g53 H locs hw B => ?_)
        obtain ⟨s_53, n_53, l_53, hz_53, rfl⟩ := hw
        obtain ⟨f_53, hf_53⟩ : ∃ f_53, f_53 = mw (mw f [(ch, .inr (1, [.ref tt, .ref tq, .int (iI ((n : Int))), .int (iI tu), .int (iI fi), .ref cl, .ref cr])), (tt, .inl (cs 3, 42, .inr (.inr (.inr (.inr gg))))), (tq, .inl (cs 0, 7, .inl (ai tps)))]) [(cr, .inr (0, [.int (iI s_53), .int (iI (n_53 : Int)), .ref (Qm cr)])), (Qm cr, .inl (cs 0, 48, .inl (ai l_53)))] := ⟨_, rfl⟩
        have hB_53 : BH cs f_53 S Qm (up Zf cr (lead)) := by rw [hf_53]; exact BH.set hSp (hB.keep (X := [(ch, .inr (1, [.ref tt, .ref tq, .int (iI ((n : Int))), .int (iI tu), .int (iI fi), .ref cl, .ref cr])), (tt, .inl (cs 3, 42, .inr (.inr (.inr (.inr gg))))), (tq, .inl (cs 0, 7, .inl (ai tps)))]) hOk) hSr hz_53
        have hfr_53 : ∀ k, Out S Qm k → k ∉ ([ch, tt, tq] : List Nat) → f_53 k = f k := fun k h1 h2 => by rw [hf_53, mw_out (h1.two hSr), mw_out (X := [(ch, .inr (1, [.ref tt, .ref tq, .int (iI ((n : Int))), .int (iI tu), .int (iI fi), .ref cl, .ref cr])), (tt, .inl (cs 3, 42, .inr (.inr (.inr (.inr gg))))), (tq, .inl (cs 0, 7, .inl (ai tps)))]) h2]
        rw [← hf_53] at B
        have B := B.focus [(ch, .inr (1, [.ref tt, .ref tq, .int (iI ((n : Int))), .int (iI tu), .int (iI fi), .ref cl, .ref cr])), (tt, .inl (cs 3, 42, .inr (.inr (.inr (.inr gg))))), (tq, .inl (cs 0, 7, .inl (ai tps)))] (by rw [hf_53]; exact foc hF.1 (fun k hk => (hOk k hk).two hSr))
        have B : Wb D vwCl (TY cs) L (mw f_53 [(ch, .inr (1, [.ref tt, .ref tq, .int (iI ((n : Int))), .int (iI tu), .int (iI fi), .ref cl, .ref cr])), (tt, .inl (cs 3, 42, .inr (.inr (.inr (.inr gg))))), (tq, .inl (cs 0, 7, .inl (ai tps)))]) (AL L s.heap.size) s H _ := B
        refine lv_aload_n hx hb d_Chain_lastWithLead_56 rfl (lv_at hl 2 rfl) ?_
        refine x_get (C := RX1) (T := TX1) (N := 7) hx hb hts inX1 hown B hF 0 rfl rfl 5 (by decide) (hts _ w_59) (fun _ h9 => h9) rfl d_Chain_lastWithLead_57 ?_
        refine lv_aload_n hx hb d_Chain_lastWithLead_60 rfl (lv_at hl 2 rfl) ?_
        refine x_get (C := RX1) (T := TX1) (N := 7) hx hb hts inX1 hown B hF 0 rfl rfl 6 (by decide) (hts _ w_60) (fun _ h9 => h9) rfl d_Chain_lastWithLead_61 ?_
        refine lv_aload_n hx hb d_Chain_lastWithLead_64 rfl (lv_at hl 2 rfl) ?_
        refine x_get (C := RX1) (T := TX1) (N := 7) hx hb hts inX1 hown B hF 0 rfl rfl 0 (by decide) (hts _ w_52) (fun _ h9 => h9) rfl d_Chain_lastWithLead_65 ?_
        refine lv_iload hx hb d_Chain_lastWithLead_68 (lv_at hl 0 rfl) ?_
        refine lv_iload_n hx hb d_Chain_lastWithLead_70 rfl (lv_at hl 4 rfl) ?_
        refine x_iadd hx hb d_Chain_lastWithLead_71 ?_
        refine x_aald hx hb B hF 1 3 rfl rfl (6 * (n - 1) + k0) (by omega) (by omega) (by decide) (hgtk) d_Chain_lastWithLead_72 ?_
        have hx_73 := hB_53.keep (X := [(ch, .inr (1, [.ref tt, .ref tq, .int (iI ((n : Int))), .int (iI tu), .int (iI fi), .ref cl, .ref cr])), (tt, .inl (cs 3, 42, .inr (.inr (.inr (.inr gg))))), (tq, .inl (cs 0, 7, .inl (ai tps)))]) hOk
        obtain ⟨sd_730, n_730, lm_730, c1_730, c2_730, c3_730⟩ := hx_73 cl hSl
        obtain ⟨sd_731, n_731, lm_731, c1_731, c2_731, c3_731⟩ := hx_73 cr hSr
        obtain ⟨sd_732, n_732, lm_732, c1_732, c2_732, c3_732⟩ := hx_73 tk hSt
        refine x_callv B hA (va_runV (As := [.ref cr, .ref tk]) (rest := []) ⟨hx, hb, hml, hown, hts⟩ (c_Big_product l D cs _ _ _ cl (Qm cl) sd_730 n_730 lm_730 cr (Qm cr) sd_731 n_731 lm_731 ((up Zf cr (lead)) cr) tk (Qm tk) sd_732 n_732 lm_732 ((up Zf cr (lead)) tk)  (hSp.fc3 hSl hSr hSt hlr (Ne.symm htl) (Ne.symm htr)) c1_730 c2_730 c1_731 c2_731 c3_731 c1_732 c2_732 c3_732 (by rw [up_self, up_ne _ _ htr]; exact hroom)) (cwV 2 hts (gw_V w_306 w_307 w_308 w_3 w_309) rfl rfl rfl (by decide +kernel) ⟨by rw [hRf]; exact Nat.le_of_ble_eq_true rfl, by rw [hRl]; exact Nat.le_of_ble_eq_true rfl⟩) ⟨K0.blind, B.recv (hSp.1 _ (hSl)).1 c1_730 rfl, B.pre _⟩ rfl rfl hl.1 rfl (lv_room (Nat.le_of_ble_eq_true rfl)) d_Chain_lastWithLead_73 ⟨by rw [hRc]; omega, by rw [hRs]; omega⟩) (fun g73 H locs hw B => ?_)
        obtain ⟨s_73, n_73, l_73, hz_73, rfl⟩ := hw
        obtain ⟨f_73, hf_73⟩ : ∃ f_73, f_73 = mw (mw f_53 [(ch, .inr (1, [.ref tt, .ref tq, .int (iI ((n : Int))), .int (iI tu), .int (iI fi), .ref cl, .ref cr])), (tt, .inl (cs 3, 42, .inr (.inr (.inr (.inr gg))))), (tq, .inl (cs 0, 7, .inl (ai tps)))]) [(cl, .inr (0, [.int (iI s_73), .int (iI (n_73 : Int)), .ref (Qm cl)])), (Qm cl, .inl (cs 0, 48, .inl (ai l_73)))] := ⟨_, rfl⟩
        have hB_73 : BH cs f_73 S Qm (up ((up Zf cr (lead))) cl ((up Zf cr lead) cr * (up Zf cr lead) tk)) := by rw [hf_73]; exact BH.set hSp (hB_53.keep (X := [(ch, .inr (1, [.ref tt, .ref tq, .int (iI ((n : Int))), .int (iI tu), .int (iI fi), .ref cl, .ref cr])), (tt, .inl (cs 3, 42, .inr (.inr (.inr (.inr gg))))), (tq, .inl (cs 0, 7, .inl (ai tps)))]) hOk) hSl hz_73
        have hfr_73 : ∀ k, Out S Qm k → k ∉ ([ch, tt, tq] : List Nat) → f_73 k = f_53 k := fun k h1 h2 => by rw [hf_73, mw_out (h1.two hSl), mw_out (X := [(ch, .inr (1, [.ref tt, .ref tq, .int (iI ((n : Int))), .int (iI tu), .int (iI fi), .ref cl, .ref cr])), (tt, .inl (cs 3, 42, .inr (.inr (.inr (.inr gg))))), (tq, .inl (cs 0, 7, .inl (ai tps)))]) h2]
        rw [← hf_73] at B
        have B := B.focus [(ch, .inr (1, [.ref tt, .ref tq, .int (iI ((n : Int))), .int (iI tu), .int (iI fi), .ref cl, .ref cr])), (tt, .inl (cs 3, 42, .inr (.inr (.inr (.inr gg))))), (tq, .inl (cs 0, 7, .inl (ai tps)))] (by rw [hf_73]; exact foc hF.1 (fun k hk => (hOk k hk).two hSl))
        have B : Wb D vwCl (TY cs) L (mw f_73 [(ch, .inr (1, [.ref tt, .ref tq, .int (iI ((n : Int))), .int (iI tu), .int (iI fi), .ref cl, .ref cr])), (tt, .inl (cs 3, 42, .inr (.inr (.inr (.inr gg))))), (tq, .inl (cs 0, 7, .inl (ai tps)))]) (AL L s.heap.size) s H _ := B
        refine lv_aload_n hx hb d_Chain_lastWithLead_76 rfl (lv_at hl 2 rfl) ?_
        refine x_get (C := RX1) (T := TX1) (N := 7) hx hb hts inX1 hown B hF 0 rfl rfl 6 (by decide) (hts _ w_60) (fun _ h9 => h9) rfl d_Chain_lastWithLead_77 ?_
        refine lv_aload_n hx hb d_Chain_lastWithLead_80 rfl (lv_at hl 2 rfl) ?_
        refine x_get (C := RX1) (T := TX1) (N := 7) hx hb hts inX1 hown B hF 0 rfl rfl 0 (by decide) (hts _ w_52) (fun _ h9 => h9) rfl d_Chain_lastWithLead_81 ?_
        refine lv_iload hx hb d_Chain_lastWithLead_84 (lv_at hl 0 rfl) ?_
        refine lv_iload hx hb d_Chain_lastWithLead_86 (lv_at hl 1 rfl) ?_
        refine x_iadd hx hb d_Chain_lastWithLead_88 ?_
        refine x_aald hx hb B hF 1 3 rfl rfl (6 * (n - 1) + dt) (by omega) (by omega) (by decide) (hgtt) d_Chain_lastWithLead_89 ?_
        have hx_90 := hB_73.keep (X := [(ch, .inr (1, [.ref tt, .ref tq, .int (iI ((n : Int))), .int (iI tu), .int (iI fi), .ref cl, .ref cr])), (tt, .inl (cs 3, 42, .inr (.inr (.inr (.inr gg))))), (tq, .inl (cs 0, 7, .inl (ai tps)))]) hOk
        obtain ⟨sd_900, n_900, lm_900, c1_900, c2_900, c3_900⟩ := hx_90 cr hSr
        obtain ⟨sd_901, n_901, lm_901, c1_901, c2_901, c3_901⟩ := hx_90 tt2 hSt2
        refine x_callv B hA (va_runV (As := [.ref tt2]) (rest := []) ⟨hx, hb, hml, hown, hts⟩ (c_Big_copy l D cs _ _ _ cr (Qm cr) sd_900 n_900 lm_900 tt2 (Qm tt2) sd_901 n_901 lm_901 ((up ((up Zf cr (lead))) cl ((up Zf cr lead) cr * (up Zf cr lead) tk)) tt2)  (hSp.fc2 hSr hSt2 (Ne.symm htr2)) c1_900 c2_900 c1_901 c2_901 c3_901 ) (cwV 1 hts (gw_V w_302 w_303 w_304 w_3 w_305) rfl rfl rfl (by decide +kernel) ⟨by rw [hRf]; exact Nat.le_of_ble_eq_true rfl, by rw [hRl]; exact Nat.le_of_ble_eq_true rfl⟩) ⟨K0.blind, B.recv (hSp.1 _ (hSr)).1 c1_900 rfl, B.pre _⟩ rfl rfl hl.1 rfl (lv_room (Nat.le_of_ble_eq_true rfl)) d_Chain_lastWithLead_90 ⟨by rw [hRc]; omega, by rw [hRs]; omega⟩) (fun g90 H locs hw B => ?_)
        obtain ⟨s_90, n_90, l_90, hz_90, rfl⟩ := hw
        obtain ⟨f_90, hf_90⟩ : ∃ f_90, f_90 = mw (mw f_73 [(ch, .inr (1, [.ref tt, .ref tq, .int (iI ((n : Int))), .int (iI tu), .int (iI fi), .ref cl, .ref cr])), (tt, .inl (cs 3, 42, .inr (.inr (.inr (.inr gg))))), (tq, .inl (cs 0, 7, .inl (ai tps)))]) [(cr, .inr (0, [.int (iI s_90), .int (iI (n_90 : Int)), .ref (Qm cr)])), (Qm cr, .inl (cs 0, 48, .inl (ai l_90)))] := ⟨_, rfl⟩
        have hB_90 : BH cs f_90 S Qm (up ((up ((up Zf cr (lead))) cl ((up Zf cr lead) cr * (up Zf cr lead) tk))) cr ((up (up Zf cr lead) cl ((up Zf cr lead) cr * (up Zf cr lead) tk)) tt2)) := by rw [hf_90]; exact BH.set hSp (hB_73.keep (X := [(ch, .inr (1, [.ref tt, .ref tq, .int (iI ((n : Int))), .int (iI tu), .int (iI fi), .ref cl, .ref cr])), (tt, .inl (cs 3, 42, .inr (.inr (.inr (.inr gg))))), (tq, .inl (cs 0, 7, .inl (ai tps)))]) hOk) hSr hz_90
        have hfr_90 : ∀ k, Out S Qm k → k ∉ ([ch, tt, tq] : List Nat) → f_90 k = f_73 k := fun k h1 h2 => by rw [hf_90, mw_out (h1.two hSr), mw_out (X := [(ch, .inr (1, [.ref tt, .ref tq, .int (iI ((n : Int))), .int (iI tu), .int (iI fi), .ref cl, .ref cr])), (tt, .inl (cs 3, 42, .inr (.inr (.inr (.inr gg))))), (tq, .inl (cs 0, 7, .inl (ai tps)))]) h2]
        rw [← hf_90] at B
        have B := B.focus [(ch, .inr (1, [.ref tt, .ref tq, .int (iI ((n : Int))), .int (iI tu), .int (iI fi), .ref cl, .ref cr])), (tt, .inl (cs 3, 42, .inr (.inr (.inr (.inr gg))))), (tq, .inl (cs 0, 7, .inl (ai tps)))] (by rw [hf_90]; exact foc hF.1 (fun k hk => (hOk k hk).two hSr))
        have B : Wb D vwCl (TY cs) L (mw f_90 [(ch, .inr (1, [.ref tt, .ref tq, .int (iI ((n : Int))), .int (iI tu), .int (iI fi), .ref cl, .ref cr])), (tt, .inl (cs 3, 42, .inr (.inr (.inr (.inr gg))))), (tq, .inl (cs 0, 7, .inl (ai tps)))]) (AL L s.heap.size) s H _ := B
        refine lv_aload_n hx hb d_Chain_lastWithLead_93 rfl (lv_at hl 2 rfl) ?_
        refine x_get (C := RX1) (T := TX1) (N := 7) hx hb hts inX1 hown B hF 0 rfl rfl 5 (by decide) (hts _ w_59) (fun _ h9 => h9) rfl d_Chain_lastWithLead_94 ?_
        refine lv_aload_n hx hb d_Chain_lastWithLead_97 rfl (lv_at hl 2 rfl) ?_
        refine x_get (C := RX1) (T := TX1) (N := 7) hx hb hts inX1 hown B hF 0 rfl rfl 6 (by decide) (hts _ w_60) (fun _ h9 => h9) rfl d_Chain_lastWithLead_98 ?_
        have z3l : (up (up (up Zf cr lead) cl ((up Zf cr lead) cr * (up Zf cr lead) tk)) cr ((up (up Zf cr lead) cl ((up Zf cr lead) cr * (up Zf cr lead) tk)) tt2)) cl = lead * Zf tk := by rw [up_ne _ _ hlr, up_self, up_self, up_ne _ _ htr]
        have z3r : (up (up (up Zf cr lead) cl ((up Zf cr lead) cr * (up Zf cr lead) tk)) cr ((up (up Zf cr lead) cl ((up Zf cr lead) cr * (up Zf cr lead) tk)) tt2)) cr = Zf tt2 := by rw [up_self, up_ne _ _ htl2, up_ne _ _ htr2]
        have hx_101 := hB_90.keep (X := [(ch, .inr (1, [.ref tt, .ref tq, .int (iI ((n : Int))), .int (iI tu), .int (iI fi), .ref cl, .ref cr])), (tt, .inl (cs 3, 42, .inr (.inr (.inr (.inr gg))))), (tq, .inl (cs 0, 7, .inl (ai tps)))]) hOk
        obtain ⟨sd_1010, n_1010, lm_1010, c1_1010, c2_1010, c3_1010⟩ := hx_101 cl hSl
        obtain ⟨sd_1011, n_1011, lm_1011, c1_1011, c2_1011, c3_1011⟩ := hx_101 cr hSr
        refine x_calll B hA (va_runV (As := [.ref cr]) (rest := []) ⟨hx, hb, hml, hown, hts⟩ (c_Big_over l D cs _ _ _ cl (Qm cl) sd_1010 n_1010 lm_1010 ((up ((up ((up Zf cr (lead))) cl ((up Zf cr lead) cr * (up Zf cr lead) tk))) cr ((up (up Zf cr lead) cl ((up Zf cr lead) cr * (up Zf cr lead) tk)) tt2)) cl) cr (Qm cr) sd_1011 n_1011 lm_1011 ((up ((up ((up Zf cr (lead))) cl ((up Zf cr lead) cr * (up Zf cr lead) tk))) cr ((up (up Zf cr lead) cl ((up Zf cr lead) cr * (up Zf cr lead) tk)) tt2)) cr) (hSp.fc2 hSl hSr hlr) c1_1010 c2_1010 c3_1010 c1_1011 c2_1011 c3_1011 (by rw [z3r]; exact hGT) (by rw [z3l, z3r]; exact hdv)) (cwV 1 hts (gw_V w_321 w_322 w_323 w_3 w_324) rfl rfl rfl (by decide +kernel) ⟨by rw [hRf]; exact Nat.le_of_ble_eq_true rfl, by rw [hRl]; exact Nat.le_of_ble_eq_true rfl⟩) ⟨K0.blind, B.recv (hSp.1 _ (hSl)).1 c1_1010 rfl, B.pre _⟩ rfl rfl hl.1 rfl (lv_room (Nat.le_of_ble_eq_true rfl)) d_Chain_lastWithLead_101 ⟨by rw [hRc]; omega, by rw [hRs]; omega⟩) (fun r101 g101 H locs hw B => ?_)
        obtain ⟨rfl, t9_101, ⟨o9_101, ho1_101, ho2_101⟩, s1_101, n1_101, l1_101, s2_101, n2_101, l2_101, hz1_101, hz2_101, rfl⟩ := hw
        obtain ⟨f_101, hf_101⟩ : ∃ f_101, f_101 = mw (mw (mw f_90 [(ch, .inr (1, [.ref tt, .ref tq, .int (iI ((n : Int))), .int (iI tu), .int (iI fi), .ref cl, .ref cr])), (tt, .inl (cs 3, 42, .inr (.inr (.inr (.inr gg))))), (tq, .inl (cs 0, 7, .inl (ai tps)))]) [(cr, .inr (0, [.int (iI s2_101), .int (iI (n2_101 : Int)), .ref (Qm cr)])), (Qm cr, .inl (cs 0, 48, .inl (ai l2_101)))]) [(cl, .inr (0, [.int (iI s1_101), .int (iI (n1_101 : Int)), .ref (Qm cl)])), (Qm cl, .inl (cs 0, 48, .inl (ai l1_101)))] := ⟨_, rfl⟩
        have hB_101 : BH cs f_101 S Qm (up (up ((up ((up ((up Zf cr (lead))) cl ((up Zf cr lead) cr * (up Zf cr lead) tk))) cr ((up (up Zf cr lead) cl ((up Zf cr lead) cr * (up Zf cr lead) tk)) tt2))) cr (((up ((up ((up Zf cr (lead))) cl ((up Zf cr lead) cr * (up Zf cr lead) tk))) cr ((up (up Zf cr lead) cl ((up Zf cr lead) cr * (up Zf cr lead) tk)) tt2)) cr).tdiv (2 ^ t9_101))) cl (((up ((up ((up Zf cr (lead))) cl ((up Zf cr lead) cr * (up Zf cr lead) tk))) cr ((up (up Zf cr lead) cl ((up Zf cr lead) cr * (up Zf cr lead) tk)) tt2)) cl).tdiv (2 ^ t9_101))) := by rw [hf_101]; exact BH.set hSp (BH.set hSp (hB_90.keep (X := [(ch, .inr (1, [.ref tt, .ref tq, .int (iI ((n : Int))), .int (iI tu), .int (iI fi), .ref cl, .ref cr])), (tt, .inl (cs 3, 42, .inr (.inr (.inr (.inr gg))))), (tq, .inl (cs 0, 7, .inl (ai tps)))]) hOk) hSr hz2_101) hSl hz1_101
        have hfr_101 : ∀ k, Out S Qm k → k ∉ ([ch, tt, tq] : List Nat) → f_101 k = f_90 k := fun k h1 h2 => by rw [hf_101, mw_out (h1.two hSl), mw_out (h1.two hSr), mw_out (X := [(ch, .inr (1, [.ref tt, .ref tq, .int (iI ((n : Int))), .int (iI tu), .int (iI fi), .ref cl, .ref cr])), (tt, .inl (cs 3, 42, .inr (.inr (.inr (.inr gg))))), (tq, .inl (cs 0, 7, .inl (ai tps)))]) h2]
        have B := B.of_eq ((mw_app (mw f_90 [(ch, .inr (1, [.ref tt, .ref tq, .int (iI ((n : Int))), .int (iI tu), .int (iI fi), .ref cl, .ref cr])), (tt, .inl (cs 3, 42, .inr (.inr (.inr (.inr gg))))), (tq, .inl (cs 0, 7, .inl (ai tps)))]) [(cr, .inr (0, [.int (iI s2_101), .int (iI (n2_101 : Int)), .ref (Qm cr)])), (Qm cr, .inl (cs 0, 48, .inl (ai l2_101)))] [(cl, .inr (0, [.int (iI s1_101), .int (iI (n1_101 : Int)), .ref (Qm cl)])), (Qm cl, .inl (cs 0, 48, .inl (ai l1_101)))]).symm.trans hf_101.symm)
        have B := B.focus [(ch, .inr (1, [.ref tt, .ref tq, .int (iI ((n : Int))), .int (iI tu), .int (iI fi), .ref cl, .ref cr])), (tt, .inl (cs 3, 42, .inr (.inr (.inr (.inr gg))))), (tq, .inl (cs 0, 7, .inl (ai tps)))] (by rw [hf_101, mw_app]; exact foc hF.1 (fun k hk hm => by rcases List.mem_append.mp (by rw [List.map_append] at hm; exact hm) with h | h; exact (hOk k hk).two hSl h; exact (hOk k hk).two hSr h))
        have B : Wb D vwCl (TY cs) L (mw f_101 [(ch, .inr (1, [.ref tt, .ref tq, .int (iI ((n : Int))), .int (iI tu), .int (iI fi), .ref cl, .ref cr])), (tt, .inl (cs 3, 42, .inr (.inr (.inr (.inr gg))))), (tq, .inl (cs 0, 7, .inl (ai tps)))]) (AL L s.heap.size) s H _ := B
        subst hQ hav
        exact x_lret hx hb hr hlocks B d_Chain_lastWithLead_104 (⟨(up (up ((up ((up ((up Zf cr (lead))) cl ((up Zf cr lead) cr * (up Zf cr lead) tk))) cr ((up (up Zf cr lead) cl ((up Zf cr lead) cr * (up Zf cr lead) tk)) tt2))) cr (((up ((up ((up Zf cr (lead))) cl ((up Zf cr lead) cr * (up Zf cr lead) tk))) cr ((up (up Zf cr lead) cl ((up Zf cr lead) cr * (up Zf cr lead) tk)) tt2)) cr).tdiv (2 ^ t9_101))) cl (((up ((up ((up Zf cr (lead))) cl ((up Zf cr lead) cr * (up Zf cr lead) tk))) cr ((up (up Zf cr lead) cl ((up Zf cr lead) cr * (up Zf cr lead) tk)) tt2)) cl).tdiv (2 ^ t9_101))), by rw [z3l, z3r, htk, htt2], fun b h1 h2 => by rw [up_ne _ _ h1, up_ne _ _ h2, up_ne _ _ h2, up_ne _ _ h1, up_ne _ _ h2], hB_101.keep (X := [(ch, .inr (1, [.ref tt, .ref tq, .int (iI ((n : Int))), .int (iI tu), .int (iI fi), .ref cl, .ref cr])), (tt, .inl (cs 3, 42, .inr (.inr (.inr (.inr gg))))), (tq, .inl (cs 0, 7, .inl (ai tps)))]) hOk, fun k h1 h2 => by rw [mw_out (X := [(ch, .inr (1, [.ref tt, .ref tq, .int (iI ((n : Int))), .int (iI tu), .int (iI fi), .ref cl, .ref cr])), (tt, .inl (cs 3, 42, .inr (.inr (.inr (.inr gg))))), (tq, .inl (cs 0, 7, .inl (ai tps)))]) h2, hfr_101 k h1 h2, hfr_90 k h1 h2, hfr_73 k h1 h2, hfr_53 k h1 h2], mw_get (X := [(ch, .inr (1, [.ref tt, .ref tq, .int (iI ((n : Int))), .int (iI tu), .int (iI fi), .ref cl, .ref cr])), (tt, .inl (cs 3, 42, .inr (.inr (.inr (.inr gg))))), (tq, .inl (cs 0, 7, .inl (ai tps)))]) hF.1 (k := 0) rfl, mw_get (X := [(ch, .inr (1, [.ref tt, .ref tq, .int (iI ((n : Int))), .int (iI tu), .int (iI fi), .ref cl, .ref cr])), (tt, .inl (cs 3, 42, .inr (.inr (.inr (.inr gg))))), (tq, .inl (cs 0, 7, .inl (ai tps)))]) hF.1 (k := 1) rfl, mw_get (X := [(ch, .inr (1, [.ref tt, .ref tq, .int (iI ((n : Int))), .int (iI tu), .int (iI fi), .ref cl, .ref cr])), (tt, .inl (cs 3, 42, .inr (.inr (.inr (.inr gg))))), (tq, .inl (cs 0, 7, .inl (ai tps)))]) hF.1 (k := 2) rfl⟩)
      · exfalso; omega
  · exfalso; omega
