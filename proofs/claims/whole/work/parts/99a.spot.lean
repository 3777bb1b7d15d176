theorem d_Spot_load_0 : decode prog_7_method_2_code 0 = .ok (.aload_n 0, 1) := by decide +kernel
theorem d_Spot_load_1 : decode prog_7_method_2_code 1 = .ok (.aload_n 1, 1) := by decide +kernel
theorem d_Spot_load_2 : decode prog_7_method_2_code 2 = .ok (.invokestatic 41, 3) := by decide +kernel
theorem d_Spot_load_5 : decode prog_7_method_2_code 5 = .ok (.putfield 25, 3) := by decide +kernel
theorem d_Spot_load_8 : decode prog_7_method_2_code 8 = .ok (.iconst 0, 1) := by decide +kernel
theorem d_Spot_load_9 : decode prog_7_method_2_code 9 = .ok (.istore_n 2, 1) := by decide +kernel
theorem d_Spot_load_10 : decode prog_7_method_2_code 10 = .ok (.iload_n 2, 1) := by decide +kernel
theorem d_Spot_load_11 : decode prog_7_method_2_code 11 = .ok (.bipush 6, 2) := by decide +kernel
theorem d_Spot_load_13 : decode prog_7_method_2_code 13 = .ok (.if_icmp .ge 22, 3) := by decide +kernel
theorem d_Spot_load_16 : decode prog_7_method_2_code 16 = .ok (.aload_n 0, 1) := by decide +kernel
theorem d_Spot_load_17 : decode prog_7_method_2_code 17 = .ok (.getfield 21, 3) := by decide +kernel
theorem d_Spot_load_20 : decode prog_7_method_2_code 20 = .ok (.iload_n 2, 1) := by decide +kernel
theorem d_Spot_load_21 : decode prog_7_method_2_code 21 = .ok (.aaload, 1) := by decide +kernel
theorem d_Spot_load_22 : decode prog_7_method_2_code 22 = .ok (.aload_n 1, 1) := by decide +kernel
theorem d_Spot_load_23 : decode prog_7_method_2_code 23 = .ok (.iload_n 2, 1) := by decide +kernel
theorem d_Spot_load_24 : decode prog_7_method_2_code 24 = .ok (.iaload, 1) := by decide +kernel
theorem d_Spot_load_25 : decode prog_7_method_2_code 25 = .ok (.i2l, 1) := by decide +kernel
theorem d_Spot_load_26 : decode prog_7_method_2_code 26 = .ok (.invokevirtual 45, 3) := by decide +kernel
theorem d_Spot_load_29 : decode prog_7_method_2_code 29 = .ok (.iinc 2 1, 3) := by decide +kernel
theorem d_Spot_load_32 : decode prog_7_method_2_code 32 = .ok (.goto (-22), 3) := by decide +kernel
theorem d_Spot_load_35 : decode prog_7_method_2_code 35 = .ok (.return_, 1) := by decide +kernel
set_option maxHeartbeats 8000000 in
set_option maxRecDepth 100000 in
theorem c_Spot_load (l : Launch) (D : va_G) (cs : Nat → ClassId) (L : List Nat) (f : Nat → va_E) (sz : Nat) (x va gu gl gs gt gp ga gb : Nat) (tp : Int) (S : Nat → Prop) (Qm : Nat → Nat) (Zf : Nat → Int) (gg : Nat → Option Nat) (sm_ : Nat → Nat) (aw : Nat → Int) (hF : Fc L [x, gs, va]) (ha : f x = .inr (5, [.ref gu, .ref gl, .ref gs, .int (iI tp), .ref gt, .ref gp, .ref ga, .ref gb])) (hgs : f gs = .inl (cs 3, 6, .inr (.inr (.inr (.inr gg))))) (hva : f va = .inl (cs 0, 6, .inl (ai aw))) (hSp : Sp L S Qm) (hB : BH cs f S Qm Zf) (hOk : ∀ k ∈ ([x, gs, va] : List Nat), Out S Qm k) (hSm : ∀ j, j < 6 → S (sm_ j)) (hG : ∀ j, j < 6 → gg j = some (sm_ j)) (hinj : ∀ i j, i < 6 → j < 6 → sm_ i = sm_ j → i = j) (haw : ∀ j, j < 6 → -2147483647 ≤ aw j ∧ aw j ≤ 2147483647) : Met l (⟨"RealRoots$Spot", "load", "([I)V"⟩ : MethodName) (.code (⟨"RealRoots$Spot", "load", "([I)V"⟩ : MethodName) prog_7_method_2_code 3 (Option.none : Option Jvm.ClassFile.FieldType) :: gw) ({ frames := 1, cells := 0, slots := 0, locals := 60 }) (va_Pc [.ref x, .ref va] (K0 D vwCl (TY cs) L f sz)) (va_Qv (fun (g : Nat → va_E) => ∃ (kd : Nat) (Z' : Nat → Int), kd ≤ 6 ∧ (∀ j, kd ≤ j → j < 6 → aw j = 0) ∧ (0 < kd → aw (kd - 1) ≠ 0) ∧ (∀ j, j < 6 → Z' (sm_ j) = aw j) ∧ (∀ b, (∀ j, j < 6 → b ≠ sm_ j) → Z' b = Zf b) ∧ BH cs g S Qm Z' ∧ (∀ k, Out S Qm k → k ∉ ([x, gs, va] : List Nat) → g k = f k) ∧ g x = .inr (5, [.ref gu, .ref gl, .ref gs, .int (iI ((kd : Int) - 1)), .ref gt, .ref gp, .ref ga, .ref gb]) ∧ g gs = .inl (cs 3, 6, .inr (.inr (.inr (.inr gg)))) ∧ g va = .inl (cs 0, 6, .inl (ai aw))) (K1 D vwCl (TY cs) (AL L sz) L) (AL L sz)) 0 0 (AL L sz) := by
  refine Met.ofW (cc := prog_7_method_2_code) (maxL := 3) (ret := (Option.none : Option Jvm.ClassFile.FieldType)) (by decide) rfl ?_
  intro p e s m args below meth c s₁ Bd hml hv
  obtain ⟨rfl, hk0⟩ := hv
  obtain ⟨hsz, B⟩ := hk0.start
  subst hsz
  have hx := Bd.exec
  have hb := Bd.bytes
  have hr := Bd.returns
  have hlocks := Bd.notSynchronized
  have hts0 := atoms_spec Bd.pre
  have hown : s.vm.findClass RX5 = some m.cls := findClass_of_methodNamed Bd.named
  have hA : ∀ q, s.heap.size ≤ q → AL L s.heap.size q := fun _ h => Or.inr h
  have hl := lv_entry ([.ref x, .ref va]) (n := 3) (Nat.le_of_ble_eq_true rfl)
  rw [lg_entry_eq]
  generalize (lg_sl ([.ref x, .ref va]) ++ List.replicate (3 - (lg_sl ([.ref x, .ref va])).length) Slot.unset).toArray = ls at hl ⊢
  refine absQ (fun Q R av hQ hR hav => ?_)
  have hts : ∀ w ∈ gw, w.before av s = true := by rw [hav]; exact fun w h => hts0 w (List.mem_cons_of_mem _ h)
  have hRf : R.frames = 1 := by rw [hR]; rfl
  have hRl : R.locals = 60 := by rw [hR]; rfl
  have hRc : R.cells = 0 := by rw [hR]; rfl
  have hRs : R.slots = 0 := by rw [hR]; rfl
  clear hR hts0 Bd
  have hl : lv_has ls 3 [(0, .ref x), (1, .ref va)] := hl
  have hfx : ∀ q ∈ ([(x, .inr (5, [.ref gu, .ref gl, .ref gs, .int (iI tp), .ref gt, .ref gp, .ref ga, .ref gb])), (gs, .inl (cs 3, 6, .inr (.inr (.inr (.inr gg))))), (va, .inl (cs 0, 6, .inl (ai aw)))] : List (Nat × va_E)), f q.1 = q.2 := fun q hq => by
    simp only [List.mem_cons, List.not_mem_nil, or_false] at hq
    rcases hq with rfl | rfl | rfl
    · exact ha
    · exact hgs
    · exact hva
  have hmw : mw f [(x, .inr (5, [.ref gu, .ref gl, .ref gs, .int (iI tp), .ref gt, .ref gp, .ref ga, .ref gb])), (gs, .inl (cs 3, 6, .inr (.inr (.inr (.inr gg))))), (va, .inl (cs 0, 6, .inl (ai aw)))] = f := mw_self (fun k a e hk => hfx (a, e) (List.mem_of_getElem? hk))
  have B := B.focus [(x, .inr (5, [.ref gu, .ref gl, .ref gs, .int (iI tp), .ref gt, .ref gp, .ref ga, .ref gb])), (gs, .inl (cs 3, 6, .inr (.inr (.inr (.inr gg))))), (va, .inl (cs 0, 6, .inl (ai aw)))] hfx
  refine lv_aload_n hx hb d_Spot_load_0 rfl (lv_at hl 0 rfl) ?_
  refine lv_aload_n hx hb d_Spot_load_1 rfl (lv_at hl 1 rfl) ?_
  refine x_calli B hA (va_runSN (As := [.ref va]) (rest := [.ref x]) ⟨hx, hb, hml, hown, hts⟩ (c_RR_topOf l D cs _ _ _ va aw (hF.pick [2] rfl rfl) (mw_get (X := [(x, .inr (5, [.ref gu, .ref gl, .ref gs, .int (iI tp), .ref gt, .ref gp, .ref ga, .ref gb])), (gs, .inl (cs 3, 6, .inr (.inr (.inr (.inr gg))))), (va, .inl (cs 0, 6, .inl (ai aw)))]) hF.1 (k := 2) rfl) (fun j hj => by have := haw j hj; omega)) ⟨va_cnB (host := RX6) 1 hts (gw_cons w_275) rfl rfl rfl (B.2.2.2.2.2.2.2.2.2.2.1) (hts _ w_1) (by decide +kernel) ⟨by rw [hRf]; exact Nat.le_of_ble_eq_true rfl, by rw [hRl]; exact Nat.le_of_ble_eq_true rfl⟩, hts _ w_274, trivial⟩ ⟨K0.blind, B.pre _⟩ rfl rfl hl.1 rfl (lv_room (Nat.le_of_ble_eq_true rfl)) d_Spot_load_2 ⟨by rw [hRc]; omega, by rw [hRs]; omega⟩) (fun r2 g2 H locs hw B => ?_)
  obtain ⟨k0, rfl, hk06, hk0z, hk0l, rfl⟩ := hw
  have B : Wb D vwCl (TY cs) L (mw f [(x, .inr (5, [.ref gu, .ref gl, .ref gs, .int (iI tp), .ref gt, .ref gp, .ref ga, .ref gb])), (gs, .inl (cs 3, 6, .inr (.inr (.inr (.inr gg))))), (va, .inl (cs 0, 6, .inl (ai aw)))]) (AL L s.heap.size) s H _ := B
  refine x_put (C := RX5) (T := TX5) (N := 8) hx hb hts inX5 tyX5 tyX5_ok nmX5 hown B hF 0 rfl rfl 3 (by decide) (hts _ w_90) (fun _ h9 => h9) rfl (tyX5_ok 3 (by decide)) rfl rfl (Nat.le_of_ble_eq_true rfl) d_Spot_load_5 (fun H locs B => ?_)
  have B : Wb D vwCl (TY cs) L (mw f [(x, .inr (5, [.ref gu, .ref gl, .ref gs, .int (iI ((k0 : Int) - 1)), .ref gt, .ref gp, .ref ga, .ref gb])), (gs, .inl (cs 3, 6, .inr (.inr (.inr (.inr gg))))), (va, .inl (cs 0, 6, .inl (ai aw)))]) (AL L s.heap.size) s H _ := B
  refine x_iconst hx hb d_Spot_load_8 ?_
  refine lv_istore_n (lv' := [(2, .int (iI 0)), (0, .ref x), (1, .ref va)]) hx hb d_Spot_load_9 rfl hl (by decide) rfl (fun ls hl => ?_)
  have LP : ∀ (fuel : Nat) (k : Nat) (f2 : Nat → va_E) (Z2 : Nat → Int), 6 - k < fuel → (k ≤ 6) → (BH cs f2 S Qm Z2) → (∀ j, j < k → Z2 (sm_ j) = aw j) → (∀ b, (∀ j, j < 6 → b ≠ sm_ j) → Z2 b = Zf b) → (∀ k, Out S Qm k → k ∉ ([x, gs, va] : List Nat) → f2 k = f k) → ∀ (H : Heap) (locs : List Loc) (ls : Array Slot), Wb D vwCl (TY cs) L (mw f2 [(x, .inr (5, [.ref gu, .ref gl, .ref gs, .int (iI ((k0 : Int) - 1)), .ref gt, .ref gp, .ref ga, .ref gb])), (gs, .inl (cs 3, 6, .inr (.inr (.inr (.inr gg))))), (va, .inl (cs 0, 6, .inl (ai aw)))]) (AL L s.heap.size) s H locs → lv_has ls 3 [(2, .int (iI ((k : Int)))), (0, .ref x), (1, .ref va)] → W p l e R s m av below meth c H locs (0) (0) Q (F0 m 10 ls []) := by
    intro fuel
    induction fuel with
    | zero => intro k f2 Z2 hfu; exact absurd hfu (Nat.not_lt_zero _)
    | succ fuel ih_LP =>
      intro k f2 Z2 hfu_LP hk hB2 hI hZo hfr2 H locs ls B hl
      refine lv_iload_n hx hb d_Spot_load_10 rfl (lv_at hl 0 rfl) ?_
      refine x_bipush hx hb d_Spot_load_11 (by decide) ?_
      refine x_icmp_ge (tgt := 35) hx hb d_Spot_load_13 (by decide) (by omega) (by omega) (fun h13 => ?_) (fun h13 => ?_)
      · subst hQ hav
        exact x_vret hx hb hr hlocks B d_Spot_load_35 (⟨k0, Z2, hk06, hk0z, hk0l, fun j hj => hI j (by omega), hZo, hB2.keep (X := [(x, .inr (5, [.ref gu, .ref gl, .ref gs, .int (iI ((k0 : Int) - 1)), .ref gt, .ref gp, .ref ga, .ref gb])), (gs, .inl (cs 3, 6, .inr (.inr (.inr (.inr gg))))), (va, .inl (cs 0, 6, .inl (ai aw)))]) hOk, fun k h1 h2 => by rw [mw_out (X := [(x, .inr (5, [.ref gu, .ref gl, .ref gs, .int (iI ((k0 : Int) - 1)), .ref gt, .ref gp, .ref ga, .ref gb])), (gs, .inl (cs 3, 6, .inr (.inr (.inr (.inr gg))))), (va, .inl (cs 0, 6, .inl (ai aw)))]) h2]; exact hfr2 k h1 h2, mw_get (X := [(x, .inr (5, [.ref gu, .ref gl, .ref gs, .int (iI ((k0 : Int) - 1)), .ref gt, .ref gp, .ref ga, .ref gb])), (gs, .inl (cs 3, 6, .inr (.inr (.inr (.inr gg))))), (va, .inl (cs 0, 6, .inl (ai aw)))]) hF.1 (k := 0) rfl, mw_get (X := [(x, .inr (5, [.ref gu, .ref gl, .ref gs, .int (iI ((k0 : Int) - 1)), .ref gt, .ref gp, .ref ga, .ref gb])), (gs, .inl (cs 3, 6, .inr (.inr (.inr (.inr gg))))), (va, .inl (cs 0, 6, .inl (ai aw)))]) hF.1 (k := 1) rfl, mw_get (X := [(x, .inr (5, [.ref gu, .ref gl, .ref gs, .int (iI ((k0 : Int) - 1)), .ref gt, .ref gp, .ref ga, .ref gb])), (gs, .inl (cs 3, 6, .inr (.inr (.inr (.inr gg))))), (va, .inl (cs 0, 6, .inl (ai aw)))]) hF.1 (k := 2) rfl⟩)
      · have h9k := haw k (by omega)
        have hSk := hSm k (by omega)
        refine lv_aload_n hx hb d_Spot_load_16 rfl (lv_at hl 1 rfl) ?_
        refine x_get (C := RX5) (T := TX5) (N := 8) hx hb hts inX5 hown B hF 0 rfl rfl 2 (by decide) (hts _ w_88) (fun _ h9 => h9) rfl d_Spot_load_17 ?_
        refine lv_iload_n hx hb d_Spot_load_20 rfl (lv_at hl 0 rfl) ?_
        refine x_aald hx hb B hF 1 3 rfl rfl k (rfl) (by omega) (by decide) ((hG k (by omega))) d_Spot_load_21 ?_
        refine lv_aload_n hx hb d_Spot_load_22 rfl (lv_at hl 2 rfl) ?_
        refine lv_iload_n hx hb d_Spot_load_23 rfl (lv_at hl 0 rfl) ?_
        refine x_iald hx hb B hF 2 0 rfl rfl k (by omega) (by omega) (by decide) d_Spot_load_24 ?_
        refine x_i2l hx hb d_Spot_load_25 (by omega) ?_
        have hx_26 := hB2.keep (X := [(x, .inr (5, [.ref gu, .ref gl, .ref gs, .int (iI ((k0 : Int) - 1)), .ref gt, .ref gp, .ref ga, .ref gb])), (gs, .inl (cs 3, 6, .inr (.inr (.inr (.inr gg))))), (va, .inl (cs 0, 6, .inl (ai aw)))]) hOk
        obtain ⟨sd_260, n_260, lm_260, c1_260, c2_260, c3_260⟩ := hx_26 (sm_ k) hSk
        refine x_callv B hA (va_runV (As := [.long (lI (aw k))]) (rest := []) ⟨hx, hb, hml, hown, hts⟩ (c_Big_put l D cs _ _ _ (sm_ k) (Qm (sm_ k)) sd_260 n_260 lm_260 (aw k) (hSp.fc1 hSk) c1_260 c2_260 (by omega)) (cwV 1 hts (gw_V w_405 w_294 w_295 w_3 w_296) rfl rfl rfl (by decide +kernel) ⟨by rw [hRf]; exact Nat.le_of_ble_eq_true rfl, by rw [hRl]; exact Nat.le_of_ble_eq_true rfl⟩) ⟨K0.blind, B.recv (hSp.1 _ (hSk)).1 c1_260 rfl, B.pre _⟩ rfl rfl hl.1 rfl (lv_room (Nat.le_of_ble_eq_true rfl)) d_Spot_load_26 ⟨by rw [hRc]; omega, by rw [hRs]; omega⟩) (fun g26 H locs hw B => ?_)
        obtain ⟨s_26, n_26, l_26, hz_26, rfl⟩ := hw
        obtain ⟨f_26, hf_26⟩ : ∃ f_26, f_26 = mw (mw f2 [(x, .inr (5, [.ref gu, .ref gl, .ref gs, .int (iI ((k0 : Int) - 1)), .ref gt, .ref gp, .ref ga, .ref gb])), (gs, .inl (cs 3, 6, .inr (.inr (.inr (.inr gg))))), (va, .inl (cs 0, 6, .inl (ai aw)))]) [((sm_ k), .inr (0, [.int (iI s_26), .int (iI (n_26 : Int)), .ref (Qm (sm_ k))])), (Qm (sm_ k), .inl (cs 0, 48, .inl (ai l_26)))] := ⟨_, rfl⟩
        have hB_26 : BH cs f_26 S Qm (up Z2 (sm_ k) (aw k)) := by rw [hf_26]; exact BH.set hSp (hB2.keep (X := [(x, .inr (5, [.ref gu, .ref gl, .ref gs, .int (iI ((k0 : Int) - 1)), .ref gt, .ref gp, .ref ga, .ref gb])), (gs, .inl (cs 3, 6, .inr (.inr (.inr (.inr gg))))), (va, .inl (cs 0, 6, .inl (ai aw)))]) hOk) hSk hz_26
        have hfr_26 : ∀ k, Out S Qm k → k ∉ ([x, gs, va] : List Nat) → f_26 k = f2 k := fun k h1 h2 => by rw [hf_26, mw_out (h1.two hSk), mw_out (X := [(x, .inr (5, [.ref gu, .ref gl, .ref gs, .int (iI ((k0 : Int) - 1)), .ref gt, .ref gp, .ref ga, .ref gb])), (gs, .inl (cs 3, 6, .inr (.inr (.inr (.inr gg))))), (va, .inl (cs 0, 6, .inl (ai aw)))]) h2]
        rw [← hf_26] at B
        have B := B.focus [(x, .inr (5, [.ref gu, .ref gl, .ref gs, .int (iI ((k0 : Int) - 1)), .ref gt, .ref gp, .ref ga, .ref gb])), (gs, .inl (cs 3, 6, .inr (.inr (.inr (.inr gg))))), (va, .inl (cs 0, 6, .inl (ai aw)))] (by rw [hf_26]; exact foc hF.1 (fun k hk => (hOk k hk).two hSk))
        have B : Wb D vwCl (TY cs) L (mw f_26 [(x, .inr (5, [.ref gu, .ref gl, .ref gs, .int (iI ((k0 : Int) - 1)), .ref gt, .ref gp, .ref ga, .ref gb])), (gs, .inl (cs 3, 6, .inr (.inr (.inr (.inr gg))))), (va, .inl (cs 0, 6, .inl (ai aw)))]) (AL L s.heap.size) s H _ := B
        refine x_iinc (lv' := [(2, .int (iI (((k : Int)) + 1))), (0, .ref x), (1, .ref va)]) hx hb d_Spot_load_29 hl (q := 0) rfl rfl (by decide) rfl (fun ls hl => ?_)
        refine lv_goto (tgt := 10) hx hb d_Spot_load_32 (by decide) ?_
        exact ih_LP (k + 1) f_26 ((up Z2 (sm_ k) (aw k))) (by omega) (by omega) hB_26 (fun j hj => by
                    by_cases hjk : j = k
                    · rw [hjk, up_self]
                    · rw [up_ne _ _ (fun h => hjk (hinj j k (by omega) (by omega) h))]; exact hI j (by omega)) (fun b hb => by rw [up_ne _ _ (hb k (by omega))]; exact hZo b hb) (fun k h1 h2 => by rw [hfr_26 k h1 h2]; exact hfr2 k h1 h2) _ _ _ B (lv_sub hl [0, 1, 2] rfl)
  exact LP _ 0 f Zf (Nat.lt_succ_self _) (by omega) hB (fun j hj => by omega) (fun b _ => rfl) (fun k _ _ => rfl) _ _ _ B (lv_sub hl [0, 1, 2] rfl)
theorem d_Spot_start_0 : decode prog_7_method_4_code 0 = .ok (.aload_n 1, 1) := by decide +kernel
theorem d_Spot_start_1 : decode prog_7_method_4_code 1 = .ok (.getfield 49, 3) := by decide +kernel
theorem d_Spot_start_4 : decode prog_7_method_4_code 4 = .ok (.bipush 31, 2) := by decide +kernel
theorem d_Spot_start_6 : decode prog_7_method_4_code 6 = .ok (.iadd, 1) := by decide +kernel
theorem d_Spot_start_7 : decode prog_7_method_4_code 7 = .ok (.iconst 1, 1) := by decide +kernel
theorem d_Spot_start_8 : decode prog_7_method_4_code 8 = .ok (.isub, 1) := by decide +kernel
theorem d_Spot_start_9 : decode prog_7_method_4_code 9 = .ok (.bipush 31, 2) := by decide +kernel
theorem d_Spot_start_11 : decode prog_7_method_4_code 11 = .ok (.idiv, 1) := by decide +kernel
theorem d_Spot_start_12 : decode prog_7_method_4_code 12 = .ok (.istore_n 2, 1) := by decide +kernel
theorem d_Spot_start_13 : decode prog_7_method_4_code 13 = .ok (.aload_n 0, 1) := by decide +kernel
theorem d_Spot_start_14 : decode prog_7_method_4_code 14 = .ok (.getfield 18, 3) := by decide +kernel
theorem d_Spot_start_17 : decode prog_7_method_4_code 17 = .ok (.iload_n 2, 1) := by decide +kernel
theorem d_Spot_start_18 : decode prog_7_method_4_code 18 = .ok (.invokevirtual 54, 3) := by decide +kernel
theorem d_Spot_start_21 : decode prog_7_method_4_code 21 = .ok (.aload_n 0, 1) := by decide +kernel
theorem d_Spot_start_22 : decode prog_7_method_4_code 22 = .ok (.getfield 38, 3) := by decide +kernel
theorem d_Spot_start_25 : decode prog_7_method_4_code 25 = .ok (.aload_n 1, 1) := by decide +kernel
theorem d_Spot_start_26 : decode prog_7_method_4_code 26 = .ok (.getfield 58, 3) := by decide +kernel
theorem d_Spot_start_29 : decode prog_7_method_4_code 29 = .ok (.i2l, 1) := by decide +kernel
theorem d_Spot_start_30 : decode prog_7_method_4_code 30 = .ok (.invokevirtual 45, 3) := by decide +kernel
theorem d_Spot_start_33 : decode prog_7_method_4_code 33 = .ok (.aload_n 0, 1) := by decide +kernel
theorem d_Spot_start_34 : decode prog_7_method_4_code 34 = .ok (.getfield 12, 3) := by decide +kernel
theorem d_Spot_start_37 : decode prog_7_method_4_code 37 = .ok (.aload_n 0, 1) := by decide +kernel
theorem d_Spot_start_38 : decode prog_7_method_4_code 38 = .ok (.getfield 38, 3) := by decide +kernel
theorem d_Spot_start_41 : decode prog_7_method_4_code 41 = .ok (.aload_n 0, 1) := by decide +kernel
theorem d_Spot_start_42 : decode prog_7_method_4_code 42 = .ok (.getfield 18, 3) := by decide +kernel
theorem d_Spot_start_45 : decode prog_7_method_4_code 45 = .ok (.invokevirtual 61, 3) := by decide +kernel
theorem d_Spot_start_48 : decode prog_7_method_4_code 48 = .ok (.aload_n 0, 1) := by decide +kernel
theorem d_Spot_start_49 : decode prog_7_method_4_code 49 = .ok (.getfield 38, 3) := by decide +kernel
theorem d_Spot_start_52 : decode prog_7_method_4_code 52 = .ok (.aload_n 1, 1) := by decide +kernel
theorem d_Spot_start_53 : decode prog_7_method_4_code 53 = .ok (.getfield 65, 3) := by decide +kernel
theorem d_Spot_start_56 : decode prog_7_method_4_code 56 = .ok (.iload_n 2, 1) := by decide +kernel
theorem d_Spot_start_57 : decode prog_7_method_4_code 57 = .ok (.invokevirtual 69, 3) := by decide +kernel
theorem d_Spot_start_60 : decode prog_7_method_4_code 60 = .ok (.aload_n 0, 1) := by decide +kernel
theorem d_Spot_start_61 : decode prog_7_method_4_code 61 = .ok (.getfield 12, 3) := by decide +kernel
theorem d_Spot_start_64 : decode prog_7_method_4_code 64 = .ok (.aload_n 0, 1) := by decide +kernel
theorem d_Spot_start_65 : decode prog_7_method_4_code 65 = .ok (.getfield 38, 3) := by decide +kernel
theorem d_Spot_start_68 : decode prog_7_method_4_code 68 = .ok (.iconst 1, 1) := by decide +kernel
theorem d_Spot_start_69 : decode prog_7_method_4_code 69 = .ok (.invokevirtual 73, 3) := by decide +kernel
theorem d_Spot_start_72 : decode prog_7_method_4_code 72 = .ok (.return_, 1) := by decide +kernel
set_option maxHeartbeats 8000000 in
set_option maxRecDepth 100000 in
theorem c_Spot_start (l : Launch) (D : va_G) (cs : Nat → ClassId) (L : List Nat) (f : Nat → va_E) (sz : Nat) (x pl wq gu gl gs gt gp ga gb dp : Nat) (tp wh : Int) (S : Nat → Prop) (Qm : Nat → Nat) (Zf : Nat → Int) (wd : Nat → Int) (hF : Fc L [x, pl, wq]) (ha : f x = .inr (5, [.ref gu, .ref gl, .ref gs, .int (iI tp), .ref gt, .ref gp, .ref ga, .ref gb])) (hpl : f pl = .inr (3, [.int (iI wh), .int (iI ((dp : Int))), .ref wq])) (hwq : f wq = .inl (cs 0, 8, .inl (ai wd))) (hSp : Sp L S Qm) (hB : BH cs f S Qm Zf) (hOk : ∀ k ∈ ([x, pl, wq] : List Nat), Out S Qm k) (hSu : S gu) (hSl : S gl) (hSb : S gb) (e1 : gu ≠ gb) (e2 : gu ≠ gl) (e3 : gb ≠ gl) (hwh : -2147483648 ≤ wh ∧ wh < 2147483648) (hdp : dp ≤ 248) (hwl : Lb wd 8) : Met l (⟨"RealRoots$Spot", "start", "(LRealRoots$Place;)V"⟩ : MethodName) (.code (⟨"RealRoots$Spot", "start", "(LRealRoots$Place;)V"⟩ : MethodName) prog_7_method_4_code 3 (Option.none : Option Jvm.ClassFile.FieldType) :: gw) ({ frames := 1, cells := 0, slots := 0, locals := 60 }) (va_Pc [.ref x, .ref pl] (K0 D vwCl (TY cs) L f sz)) (va_Qv (fun (g : Nat → va_E) => ∃ Z' : Nat → Int, Z' gu = wh * Bp ((dp + 30) / 31) + Wv wd ((dp + 30) / 31) ∧ Z' gl = Bp ((dp + 30) / 31) ∧ (∀ b, b ≠ gu → b ≠ gl → b ≠ gb → Z' b = Zf b) ∧ BH cs g S Qm Z' ∧ (∀ k, Out S Qm k → k ∉ ([x, pl, wq] : List Nat) → g k = f k) ∧ g x = .inr (5, [.ref gu, .ref gl, .ref gs, .int (iI tp), .ref gt, .ref gp, .ref ga, .ref gb]) ∧ g pl = .inr (3, [.int (iI wh), .int (iI ((dp : Int))), .ref wq]) ∧ g wq = .inl (cs 0, 8, .inl (ai wd))) (K1 D vwCl (TY cs) (AL L sz) L) (AL L sz)) 0 0 (AL L sz) := by
  refine Met.ofW (cc := prog_7_method_4_code) (maxL := 3) (ret := (Option.none : Option Jvm.ClassFile.FieldType)) (by decide) rfl ?_
  intro p e s m args below meth c s₁ Bd hml hv
  obtain ⟨rfl, hk0⟩ := hv
  obtain ⟨hsz, B⟩ := hk0.start
  subst hsz
  have hx := Bd.exec
  have hb := Bd.bytes
  have hr := Bd.returns
  have hlocks := Bd.notSynchronized
  have hts0 := atoms_spec Bd.pre
  have hown : s.vm.findClass RX5 = some m.cls := findClass_of_methodNamed Bd.named
  have hA : ∀ q, s.heap.size ≤ q → AL L s.heap.size q := fun _ h => Or.inr h
  have hl := lv_entry ([.ref x, .ref pl]) (n := 3) (Nat.le_of_ble_eq_true rfl)
  rw [lg_entry_eq]
  generalize (lg_sl ([.ref x, .ref pl]) ++ List.replicate (3 - (lg_sl ([.ref x, .ref pl])).length) Slot.unset).toArray = ls at hl ⊢
  refine absQ (fun Q R av hQ hR hav => ?_)
  have hts : ∀ w ∈ gw, w.before av s = true := by rw [hav]; exact fun w h => hts0 w (List.mem_cons_of_mem _ h)
  have hRf : R.frames = 1 := by rw [hR]; rfl
  have hRl : R.locals = 60 := by rw [hR]; rfl
  have hRc : R.cells = 0 := by rw [hR]; rfl
  have hRs : R.slots = 0 := by rw [hR]; rfl
  clear hR hts0 Bd
  have hl : lv_has ls 3 [(0, .ref x), (1, .ref pl)] := hl
  have hfx : ∀ q ∈ ([(x, .inr (5, [.ref gu, .ref gl, .ref gs, .int (iI tp), .ref gt, .ref gp, .ref ga, .ref gb])), (pl, .inr (3, [.int (iI wh), .int (iI ((dp : Int))), .ref wq])), (wq, .inl (cs 0, 8, .inl (ai wd)))] : List (Nat × va_E)), f q.1 = q.2 := fun q hq => by
    simp only [List.mem_cons, List.not_mem_nil, or_false] at hq
    rcases hq with rfl | rfl | rfl
    · exact ha
    · exact hpl
    · exact hwq
  have hmw : mw f [(x, .inr (5, [.ref gu, .ref gl, .ref gs, .int (iI tp), .ref gt, .ref gp, .ref ga, .ref gb])), (pl, .inr (3, [.int (iI wh), .int (iI ((dp : Int))), .ref wq])), (wq, .inl (cs 0, 8, .inl (ai wd)))] = f := mw_self (fun k a e hk => hfx (a, e) (List.mem_of_getElem? hk))
  have B := B.focus [(x, .inr (5, [.ref gu, .ref gl, .ref gs, .int (iI tp), .ref gt, .ref gp, .ref ga, .ref gb])), (pl, .inr (3, [.int (iI wh), .int (iI ((dp : Int))), .ref wq])), (wq, .inl (cs 0, 8, .inl (ai wd)))] hfx
  refine lv_aload_n hx hb d_Spot_start_0 rfl (lv_at hl 1 rfl) ?_
  refine x_get (C := RX3) (T := TX3) (N := 3) hx hb hts inX3 hown B hF 1 rfl rfl 1 (by decide) (hts _ w_164) (fun _ h9 => h9) rfl d_Spot_start_1 ?_
  refine x_bipush hx hb d_Spot_start_4 (by decide) ?_
  refine x_iadd hx hb d_Spot_start_6 ?_
  refine x_iconst hx hb d_Spot_start_7 ?_
  refine x_isub hx hb d_Spot_start_8 ?_
  refine x_bipush hx hb d_Spot_start_9 (by decide) ?_
  refine x_idiv hx hb d_Spot_start_11 (by omega) (by omega) (by omega) ?_
  rw [show ((((dp : Int)) + 31) - 1).tdiv 31 = ((((dp + 30) / 31) : Nat) : Int) by rw [Int.tdiv_eq_ediv_of_nonneg (by omega)]; omega]
  obtain ⟨nw, hnw⟩ : ∃ nw, nw = ((dp + 30) / 31) := ⟨_, rfl⟩
  rw [← hnw]
  have hnw8 : nw ≤ 8 := by omega
  have hBw : 0 < Bp nw ∧ Bp nw ≤ Bp 8 := ⟨Bp_pos nw, Bp_le hnw8⟩
  refine lv_istore_n (lv' := [(2, .int (iI ((nw : Int)))), (0, .ref x), (1, .ref pl)]) hx hb d_Spot_start_12 rfl hl (by decide) rfl (fun ls hl => ?_)
  refine lv_aload_n hx hb d_Spot_start_13 rfl (lv_at hl 1 rfl) ?_
  refine x_get (C := RX5) (T := TX5) (N := 8) hx hb hts inX5 hown B hF 0 rfl rfl 1 (by decide) (hts _ w_86) (fun _ h9 => h9) rfl d_Spot_start_14 ?_
  refine lv_iload_n hx hb d_Spot_start_17 rfl (lv_at hl 0 rfl) ?_
  have hx_18 := hB.keep (X := [(x, .inr (5, [.ref gu, .ref gl, .ref gs, .int (iI tp), .ref gt, .ref gp, .ref ga, .ref gb])), (pl, .inr (3, [.int (iI wh), .int (iI ((dp : Int))), .ref wq])), (wq, .inl (cs 0, 8, .inl (ai wd)))]) hOk
  obtain ⟨sd_180, n_180, lm_180, c1_180, c2_180, c3_180⟩ := hx_18 gl hSl
  refine x_callv B hA (va_runV (As := [.int (iI ((nw : Int)))]) (rest := []) ⟨hx, hb, hml, hown, hts⟩ (c_Big_putUnit l D cs _ _ _ gl (Qm gl) sd_180 n_180 lm_180 nw (hSp.fc1 hSl) c1_180 c2_180 (by omega)) (cwV 1 hts (gw_V w_450 w_451 w_452 w_3 w_453) rfl rfl rfl (by decide +kernel) ⟨by rw [hRf]; exact Nat.le_of_ble_eq_true rfl, by rw [hRl]; exact Nat.le_of_ble_eq_true rfl⟩) ⟨K0.blind, B.recv (hSp.1 _ (hSl)).1 c1_180 rfl, B.pre _⟩ rfl rfl hl.1 rfl (lv_room (Nat.le_of_ble_eq_true rfl)) d_Spot_start_18 ⟨by rw [hRc]; omega, by rw [hRs]; omega⟩) (fun g18 H locs hw B => ?_)
  obtain ⟨s_18, n_18, l_18, hz_18, rfl⟩ := hw
  obtain ⟨f_18, hf_18⟩ : ∃ f_18, f_18 = mw (mw f [(x, .inr (5, [.ref gu, .ref gl, .ref gs, .int (iI tp), .ref gt, .ref gp, .ref ga, .ref gb])), (pl, .inr (3, [.int (iI wh), .int (iI ((dp : Int))), .ref wq])), (wq, .inl (cs 0, 8, .inl (ai wd)))]) [(gl, .inr (0, [.int (iI s_18), .int (iI (n_18 : Int)), .ref (Qm gl)])), (Qm gl, .inl (cs 0, 48, .inl (ai l_18)))] := ⟨_, rfl⟩
  have hB_18 : BH cs f_18 S Qm (up Zf gl (Bp nw)) := by rw [hf_18]; exact BH.set hSp (hB.keep (X := [(x, .inr (5, [.ref gu, .ref gl, .ref gs, .int (iI tp), .ref gt, .ref gp, .ref ga, .ref gb])), (pl, .inr (3, [.int (iI wh), .int (iI ((dp : Int))), .ref wq])), (wq, .inl (cs 0, 8, .inl (ai wd)))]) hOk) hSl hz_18
  have hfr_18 : ∀ k, Out S Qm k → k ∉ ([x, pl, wq] : List Nat) → f_18 k = f k := fun k h1 h2 => by rw [hf_18, mw_out (h1.two hSl), mw_out (X := [(x, .inr (5, [.ref gu, .ref gl, .ref gs, .int (iI tp), .ref gt, .ref gp, .ref ga, .ref gb])), (pl, .inr (3, [.int (iI wh), .int (iI ((dp : Int))), .ref wq])), (wq, .inl (cs 0, 8, .inl (ai wd)))]) h2]
  rw [← hf_18] at B
  have B := B.focus [(x, .inr (5, [.ref gu, .ref gl, .ref gs, .int (iI tp), .ref gt, .ref gp, .ref ga, .ref gb])), (pl, .inr (3, [.int (iI wh), .int (iI ((dp : Int))), .ref wq])), (wq, .inl (cs 0, 8, .inl (ai wd)))] (by rw [hf_18]; exact foc hF.1 (fun k hk => (hOk k hk).two hSl))
  have B : Wb D vwCl (TY cs) L (mw f_18 [(x, .inr (5, [.ref gu, .ref gl, .ref gs, .int (iI tp), .ref gt, .ref gp, .ref ga, .ref gb])), (pl, .inr (3, [.int (iI wh), .int (iI ((dp : Int))), .ref wq])), (wq, .inl (cs 0, 8, .inl (ai wd)))]) (AL L s.heap.size) s H _ := B
  refine lv_aload_n hx hb d_Spot_start_21 rfl (lv_at hl 1 rfl) ?_
  refine x_get (C := RX5) (T := TX5) (N := 8) hx hb hts inX5 hown B hF 0 rfl rfl 7 (by decide) (hts _ w_96) (fun _ h9 => h9) rfl d_Spot_start_22 ?_
  refine lv_aload_n hx hb d_Spot_start_25 rfl (lv_at hl 2 rfl) ?_
  refine x_get (C := RX3) (T := TX3) (N := 3) hx hb hts inX3 hown B hF 1 rfl rfl 0 (by decide) (hts _ w_161) (fun _ h9 => h9) rfl d_Spot_start_26 ?_
  refine x_i2l hx hb d_Spot_start_29 (by omega) ?_
  have hx_30 := hB_18.keep (X := [(x, .inr (5, [.ref gu, .ref gl, .ref gs, .int (iI tp), .ref gt, .ref gp, .ref ga, .ref gb])), (pl, .inr (3, [.int (iI wh), .int (iI ((dp : Int))), .ref wq])), (wq, .inl (cs 0, 8, .inl (ai wd)))]) hOk
  obtain ⟨sd_300, n_300, lm_300, c1_300, c2_300, c3_300⟩ := hx_30 gb hSb
  refine x_callv B hA (va_runV (As := [.long (lI wh)]) (rest := []) ⟨hx, hb, hml, hown, hts⟩ (c_Big_put l D cs _ _ _ gb (Qm gb) sd_300 n_300 lm_300 wh (hSp.fc1 hSb) c1_300 c2_300 (by omega)) (cwV 1 hts (gw_V w_405 w_294 w_295 w_3 w_296) rfl rfl rfl (by decide +kernel) ⟨by rw [hRf]; exact Nat.le_of_ble_eq_true rfl, by rw [hRl]; exact Nat.le_of_ble_eq_true rfl⟩) ⟨K0.blind, B.recv (hSp.1 _ (hSb)).1 c1_300 rfl, B.pre _⟩ rfl rfl hl.1 rfl (lv_room (Nat.le_of_ble_eq_true rfl)) d_Spot_start_30 ⟨by rw [hRc]; omega, by rw [hRs]; omega⟩) (fun g30 H locs hw B => ?_)
  obtain ⟨s_30, n_30, l_30, hz_30, rfl⟩ := hw
  obtain ⟨f_30, hf_30⟩ : ∃ f_30, f_30 = mw (mw f_18 [(x, .inr (5, [.ref gu, .ref gl, .ref gs, .int (iI tp), .ref gt, .ref gp, .ref ga, .ref gb])), (pl, .inr (3, [.int (iI wh), .int (iI ((dp : Int))), .ref wq])), (wq, .inl (cs 0, 8, .inl (ai wd)))]) [(gb, .inr (0, [.int (iI s_30), .int (iI (n_30 : Int)), .ref (Qm gb)])), (Qm gb, .inl (cs 0, 48, .inl (ai l_30)))] := ⟨_, rfl⟩
  have hB_30 : BH cs f_30 S Qm (up ((up Zf gl (Bp nw))) gb (wh)) := by rw [hf_30]; exact BH.set hSp (hB_18.keep (X := [(x, .inr (5, [.ref gu, .ref gl, .ref gs, .int (iI tp), .ref gt, .ref gp, .ref ga, .ref gb])), (pl, .inr (3, [.int (iI wh), .int (iI ((dp : Int))), .ref wq])), (wq, .inl (cs 0, 8, .inl (ai wd)))]) hOk) hSb hz_30
  have hfr_30 : ∀ k, Out S Qm k → k ∉ ([x, pl, wq] : List Nat) → f_30 k = f_18 k := fun k h1 h2 => by rw [hf_30, mw_out (h1.two hSb), mw_out (X := [(x, .inr (5, [.ref gu, .ref gl, .ref gs, .int (iI tp), .ref gt, .ref gp, .ref ga, .ref gb])), (pl, .inr (3, [.int (iI wh), .int (iI ((dp : Int))), .ref wq])), (wq, .inl (cs 0, 8, .inl (ai wd)))]) h2]
  rw [← hf_30] at B
  have B := B.focus [(x, .inr (5, [.ref gu, .ref gl, .ref gs, .int (iI tp), .ref gt, .ref gp, .ref ga, .ref gb])), (pl, .inr (3, [.int (iI wh), .int (iI ((dp : Int))), .ref wq])), (wq, .inl (cs 0, 8, .inl (ai wd)))] (by rw [hf_30]; exact foc hF.1 (fun k hk => (hOk k hk).two hSb))
  have B : Wb D vwCl (TY cs) L (mw f_30 [(x, .inr (5, [.ref gu, .ref gl, .ref gs, .int (iI tp), .ref gt, .ref gp, .ref ga, .ref gb])), (pl, .inr (3, [.int (iI wh), .int (iI ((dp : Int))), .ref wq])), (wq, .inl (cs 0, 8, .inl (ai wd)))]) (AL L s.heap.size) s H _ := B
  refine lv_aload_n hx hb d_Spot_start_33 rfl (lv_at hl 1 rfl) ?_
  refine x_get (C := RX5) (T := TX5) (N := 8) hx hb hts inX5 hown B hF 0 rfl rfl 0 (by decide) (hts _ w_84) (fun _ h9 => h9) rfl d_Spot_start_34 ?_
  refine lv_aload_n hx hb d_Spot_start_37 rfl (lv_at hl 1 rfl) ?_
  refine x_get (C := RX5) (T := TX5) (N := 8) hx hb hts inX5 hown B hF 0 rfl rfl 7 (by decide) (hts _ w_96) (fun _ h9 => h9) rfl d_Spot_start_38 ?_
  refine lv_aload_n hx hb d_Spot_start_41 rfl (lv_at hl 1 rfl) ?_
  refine x_get (C := RX5) (T := TX5) (N := 8) hx hb hts inX5 hown B hF 0 rfl rfl 1 (by decide) (hts _ w_86) (fun _ h9 => h9) rfl d_Spot_start_42 ?_
  have z2b : (up (up Zf gl (Bp nw)) gb wh) gb = wh := by rw [up_self]
  have z2l : (up (up Zf gl (Bp nw)) gb wh) gl = Bp nw := by rw [up_ne _ _ (Ne.symm e3), up_self]
  have room0 : ((wh * Bp nw).natAbs : Int) ≤ 2147483648 * Bp 8 := by rw [Int.natAbs_mul, Int.natCast_mul, show ((Bp nw).natAbs : Int) = Bp nw by omega]; exact Int.mul_le_mul (by omega) hBw.2 (by omega) (by omega)
  have room9 : 2147483648 * Bp 8 = Bp 9 := (Bp_succ 8).symm
  have room47 : Bp 9 < Bp 47 := by decide +kernel
  have room1 : ((wh * Bp nw).natAbs : Int) < Bp 47 := by omega
  have hx_45 := hB_30.keep (X := [(x, .inr (5, [.ref gu, .ref gl, .ref gs, .int (iI tp), .ref gt, .ref gp, .ref ga, .ref gb])), (pl, .inr (3, [.int (iI wh), .int (iI ((dp : Int))), .ref wq])), (wq, .inl (cs 0, 8, .inl (ai wd)))]) hOk
  obtain ⟨sd_450, n_450, lm_450, c1_450, c2_450, c3_450⟩ := hx_45 gu hSu
  obtain ⟨sd_451, n_451, lm_451, c1_451, c2_451, c3_451⟩ := hx_45 gb hSb
  obtain ⟨sd_452, n_452, lm_452, c1_452, c2_452, c3_452⟩ := hx_45 gl hSl
  refine x_callv B hA (va_runV (As := [.ref gb, .ref gl]) (rest := []) ⟨hx, hb, hml, hown, hts⟩ (c_Big_product l D cs _ _ _ gu (Qm gu) sd_450 n_450 lm_450 gb (Qm gb) sd_451 n_451 lm_451 ((up ((up Zf gl (Bp nw))) gb (wh)) gb) gl (Qm gl) sd_452 n_452 lm_452 ((up ((up Zf gl (Bp nw))) gb (wh)) gl)  (hSp.fc3 hSu hSb hSl e1 e2 e3) c1_450 c2_450 c1_451 c2_451 c3_451 c1_452 c2_452 c3_452 (by rw [z2b, z2l]; exact room1)) (cwV 2 hts (gw_V w_414 w_307 w_308 w_3 w_309) rfl rfl rfl (by decide +kernel) ⟨by rw [hRf]; exact Nat.le_of_ble_eq_true rfl, by rw [hRl]; exact Nat.le_of_ble_eq_true rfl⟩) ⟨K0.blind, B.recv (hSp.1 _ (hSu)).1 c1_450 rfl, B.pre _⟩ rfl rfl hl.1 rfl (lv_room (Nat.le_of_ble_eq_true rfl)) d_Spot_start_45 ⟨by rw [hRc]; omega, by rw [hRs]; omega⟩) (fun g45 H locs hw B => ?_)
  obtain ⟨s_45, n_45, l_45, hz_45, rfl⟩ := hw
  obtain ⟨f_45, hf_45⟩ : ∃ f_45, f_45 = mw (mw f_30 [(x, .inr (5, [.ref gu, .ref gl, .ref gs, .int (iI tp), .ref gt, .ref gp, .ref ga, .ref gb])), (pl, .inr (3, [.int (iI wh), .int (iI ((dp : Int))), .ref wq])), (wq, .inl (cs 0, 8, .inl (ai wd)))]) [(gu, .inr (0, [.int (iI s_45), .int (iI (n_45 : Int)), .ref (Qm gu)])), (Qm gu, .inl (cs 0, 48, .inl (ai l_45)))] := ⟨_, rfl⟩
  have hB_45 : BH cs f_45 S Qm (up ((up ((up Zf gl (Bp nw))) gb (wh))) gu ((up (up Zf gl (Bp nw)) gb wh) gb * (up (up Zf gl (Bp nw)) gb wh) gl)) := by rw [hf_45]; exact BH.set hSp (hB_30.keep (X := [(x, .inr (5, [.ref gu, .ref gl, .ref gs, .int (iI tp), .ref gt, .ref gp, .ref ga, .ref gb])), (pl, .inr (3, [.int (iI wh), .int (iI ((dp : Int))), .ref wq])), (wq, .inl (cs 0, 8, .inl (ai wd)))]) hOk) hSu hz_45
  have hfr_45 : ∀ k, Out S Qm k → k ∉ ([x, pl, wq] : List Nat) → f_45 k = f_30 k := fun k h1 h2 => by rw [hf_45, mw_out (h1.two hSu), mw_out (X := [(x, .inr (5, [.ref gu, .ref gl, .ref gs, .int (iI tp), .ref gt, .ref gp, .ref ga, .ref gb])), (pl, .inr (3, [.int (iI wh), .int (iI ((dp : Int))), .ref wq])), (wq, .inl (cs 0, 8, .inl (ai wd)))]) h2]
  rw [← hf_45] at B
  have B := B.focus [(x, .inr (5, [.ref gu, .ref gl, .ref gs, .int (iI tp), .ref gt, .ref gp, .ref ga, .ref gb])), (pl, .inr (3, [.int (iI wh), .int (iI ((dp : Int))), .ref wq])), (wq, .inl (cs 0, 8, .inl (ai wd)))] (by rw [hf_45]; exact foc hF.1 (fun k hk => (hOk k hk).two hSu))
  have B : Wb D vwCl (TY cs) L (mw f_45 [(x, .inr (5, [.ref gu, .ref gl, .ref gs, .int (iI tp), .ref gt, .ref gp, .ref ga, .ref gb])), (pl, .inr (3, [.int (iI wh), .int (iI ((dp : Int))), .ref wq])), (wq, .inl (cs 0, 8, .inl (ai wd)))]) (AL L s.heap.size) s H _ := B
  refine lv_aload_n hx hb d_Spot_start_48 rfl (lv_at hl 1 rfl) ?_
  refine x_get (C := RX5) (T := TX5) (N := 8) hx hb hts inX5 hown B hF 0 rfl rfl 7 (by decide) (hts _ w_96) (fun _ h9 => h9) rfl d_Spot_start_49 ?_
  refine lv_aload_n hx hb d_Spot_start_52 rfl (lv_at hl 2 rfl) ?_
  refine x_get (C := RX3) (T := TX3) (N := 3) hx hb hts inX3 hown B hF 1 rfl rfl 2 (by decide) (hts _ w_167) (fun _ h9 => h9) rfl d_Spot_start_53 ?_
  refine lv_iload_n hx hb d_Spot_start_56 rfl (lv_at hl 0 rfl) ?_
  have hwl9 : Lb wd nw := fun j hj => hwl j (by omega)
  have hwq9 : mw f_45 [(x, .inr (5, [.ref gu, .ref gl, .ref gs, .int (iI tp), .ref gt, .ref gp, .ref ga, .ref gb])), (pl, .inr (3, [.int (iI wh), .int (iI ((dp : Int))), .ref wq])), (wq, .inl (cs 0, 8, .inl (ai wd)))] wq = .inl (cs 0, 8, .inl (ai wd)) := mw_get (X := [(x, .inr (5, [.ref gu, .ref gl, .ref gs, .int (iI tp), .ref gt, .ref gp, .ref ga, .ref gb])), (pl, .inr (3, [.int (iI wh), .int (iI ((dp : Int))), .ref wq])), (wq, .inl (cs 0, 8, .inl (ai wd)))]) hF.1 (k := 2) rfl
  have hfc9 : Fc L [gb, Qm gb, wq] := ⟨by simp only [List.nodup_cons, List.mem_cons, List.not_mem_nil, or_false, not_or, List.nodup_nil, not_false_eq_true, and_true]; exact ⟨⟨hSp.2.1 gb gb hSb hSb, fun h => (hOk wq (by simp)).1 (h ▸ hSb)⟩, fun h => (hOk wq (by simp)).2 gb hSb h.symm⟩, fun q hq => by simp only [List.mem_cons, List.not_mem_nil, or_false] at hq; rcases hq with rfl | rfl | rfl; exact (hSp.1 _ hSb).1; exact (hSp.1 _ hSb).2; exact hF.2 _ (by simp)⟩
  have hx_57 := hB_45.keep (X := [(x, .inr (5, [.ref gu, .ref gl, .ref gs, .int (iI tp), .ref gt, .ref gp, .ref ga, .ref gb])), (pl, .inr (3, [.int (iI wh), .int (iI ((dp : Int))), .ref wq])), (wq, .inl (cs 0, 8, .inl (ai wd)))]) hOk
  obtain ⟨sd_570, n_570, lm_570, c1_570, c2_570, c3_570⟩ := hx_57 gb hSb
  refine x_callv B hA (va_runV (As := [.ref wq, .int (iI ((nw : Int)))]) (rest := []) ⟨hx, hb, hml, hown, hts⟩ (c_Big_putWords l D cs _ _ _ gb (Qm gb) sd_570 n_570 lm_570 wq nw wd hfc9 c1_570 c2_570 hwq9 (by omega) hwl9) (cwV 2 hts (gw_V w_454 w_455 w_456 w_3 w_457) rfl rfl rfl (by decide +kernel) ⟨by rw [hRf]; exact Nat.le_of_ble_eq_true rfl, by rw [hRl]; exact Nat.le_of_ble_eq_true rfl⟩) ⟨K0.blind, B.recv (hSp.1 _ (hSb)).1 c1_570 rfl, B.pre _⟩ rfl rfl hl.1 rfl (lv_room (Nat.le_of_ble_eq_true rfl)) d_Spot_start_57 ⟨by rw [hRc]; omega, by rw [hRs]; omega⟩) (fun g57 H locs hw B => ?_)
  obtain ⟨s_57, n_57, l_57, hz_57, rfl⟩ := hw
  obtain ⟨f_57, hf_57⟩ : ∃ f_57, f_57 = mw (mw f_45 [(x, .inr (5, [.ref gu, .ref gl, .ref gs, .int (iI tp), .ref gt, .ref gp, .ref ga, .ref gb])), (pl, .inr (3, [.int (iI wh), .int (iI ((dp : Int))), .ref wq])), (wq, .inl (cs 0, 8, .inl (ai wd)))]) [(gb, .inr (0, [.int (iI s_57), .int (iI (n_57 : Int)), .ref (Qm gb)])), (Qm gb, .inl (cs 0, 48, .inl (ai l_57)))] := ⟨_, rfl⟩
  have hB_57 : BH cs f_57 S Qm (up ((up ((up ((up Zf gl (Bp nw))) gb (wh))) gu ((up (up Zf gl (Bp nw)) gb wh) gb * (up (up Zf gl (Bp nw)) gb wh) gl))) gb (Wv wd nw)) := by rw [hf_57]; exact BH.set hSp (hB_45.keep (X := [(x, .inr (5, [.ref gu, .ref gl, .ref gs, .int (iI tp), .ref gt, .ref gp, .ref ga, .ref gb])), (pl, .inr (3, [.int (iI wh), .int (iI ((dp : Int))), .ref wq])), (wq, .inl (cs 0, 8, .inl (ai wd)))]) hOk) hSb hz_57
  have hfr_57 : ∀ k, Out S Qm k → k ∉ ([x, pl, wq] : List Nat) → f_57 k = f_45 k := fun k h1 h2 => by rw [hf_57, mw_out (h1.two hSb), mw_out (X := [(x, .inr (5, [.ref gu, .ref gl, .ref gs, .int (iI tp), .ref gt, .ref gp, .ref ga, .ref gb])), (pl, .inr (3, [.int (iI wh), .int (iI ((dp : Int))), .ref wq])), (wq, .inl (cs 0, 8, .inl (ai wd)))]) h2]
  rw [← hf_57] at B
  have B := B.focus [(x, .inr (5, [.ref gu, .ref gl, .ref gs, .int (iI tp), .ref gt, .ref gp, .ref ga, .ref gb])), (pl, .inr (3, [.int (iI wh), .int (iI ((dp : Int))), .ref wq])), (wq, .inl (cs 0, 8, .inl (ai wd)))] (by rw [hf_57]; exact foc hF.1 (fun k hk => (hOk k hk).two hSb))
  have B : Wb D vwCl (TY cs) L (mw f_57 [(x, .inr (5, [.ref gu, .ref gl, .ref gs, .int (iI tp), .ref gt, .ref gp, .ref ga, .ref gb])), (pl, .inr (3, [.int (iI wh), .int (iI ((dp : Int))), .ref wq])), (wq, .inl (cs 0, 8, .inl (ai wd)))]) (AL L s.heap.size) s H _ := B
  refine lv_aload_n hx hb d_Spot_start_60 rfl (lv_at hl 1 rfl) ?_
  refine x_get (C := RX5) (T := TX5) (N := 8) hx hb hts inX5 hown B hF 0 rfl rfl 0 (by decide) (hts _ w_84) (fun _ h9 => h9) rfl d_Spot_start_61 ?_
  refine lv_aload_n hx hb d_Spot_start_64 rfl (lv_at hl 1 rfl) ?_
  refine x_get (C := RX5) (T := TX5) (N := 8) hx hb hts inX5 hown B hF 0 rfl rfl 7 (by decide) (hts _ w_96) (fun _ h9 => h9) rfl d_Spot_start_65 ?_
  refine x_iconst hx hb d_Spot_start_68 ?_
  have z4u : (up (up (up (up Zf gl (Bp nw)) gb wh) gu ((up (up Zf gl (Bp nw)) gb wh) gb * (up (up Zf gl (Bp nw)) gb wh) gl)) gb (Wv wd nw)) gu = wh * Bp nw := by rw [up_ne _ _ e1, up_self, z2b, z2l]
  have z4b : (up (up (up (up Zf gl (Bp nw)) gb wh) gu ((up (up Zf gl (Bp nw)) gb wh) gb * (up (up Zf gl (Bp nw)) gb wh) gl)) gb (Wv wd nw)) gb = Wv wd nw := by rw [up_self]
  have hwv := Wv_range hwl9
  have h48 : Bp 9 + Bp 8 < Bp 48 := by decide +kernel
  have room2 : ((wh * Bp nw).natAbs : Int) + ((Wv wd nw).natAbs : Int) < Bp 48 := by omega
  have hx_69 := hB_57.keep (X := [(x, .inr (5, [.ref gu, .ref gl, .ref gs, .int (iI tp), .ref gt, .ref gp, .ref ga, .ref gb])), (pl, .inr (3, [.int (iI wh), .int (iI ((dp : Int))), .ref wq])), (wq, .inl (cs 0, 8, .inl (ai wd)))]) hOk
  obtain ⟨sd_690, n_690, lm_690, c1_690, c2_690, c3_690⟩ := hx_69 gu hSu
  obtain ⟨sd_691, n_691, lm_691, c1_691, c2_691, c3_691⟩ := hx_69 gb hSb
  refine x_callv B hA (va_runV (As := [.ref gb, .int (iI 1)]) (rest := []) ⟨hx, hb, hml, hown, hts⟩ (c_Big_add l D cs _ _ _ gu (Qm gu) sd_690 n_690 lm_690 ((up ((up ((up ((up Zf gl (Bp nw))) gb (wh))) gu ((up (up Zf gl (Bp nw)) gb wh) gb * (up (up Zf gl (Bp nw)) gb wh) gl))) gb (Wv wd nw)) gu) gb (Qm gb) sd_691 n_691 lm_691 ((up ((up ((up ((up Zf gl (Bp nw))) gb (wh))) gu ((up (up Zf gl (Bp nw)) gb wh) gb * (up (up Zf gl (Bp nw)) gb wh) gl))) gb (Wv wd nw)) gb) 1 (hSp.fc2 hSu hSb e1) c1_690 c2_690 c3_690 c1_691 c2_691 c3_691 (Or.inl rfl) (by rw [z4u, z4b]; exact room2)) (cwV 2 hts (gw_V w_415 w_311 w_312 w_3 w_313) rfl rfl rfl (by decide +kernel) ⟨by rw [hRf]; exact Nat.le_of_ble_eq_true rfl, by rw [hRl]; exact Nat.le_of_ble_eq_true rfl⟩) ⟨K0.blind, B.recv (hSp.1 _ (hSu)).1 c1_690 rfl, B.pre _⟩ rfl rfl hl.1 rfl (lv_room (Nat.le_of_ble_eq_true rfl)) d_Spot_start_69 ⟨by rw [hRc]; omega, by rw [hRs]; omega⟩) (fun g69 H locs hw B => ?_)
  obtain ⟨s_69, n_69, l_69, hz_69, rfl⟩ := hw
  obtain ⟨f_69, hf_69⟩ : ∃ f_69, f_69 = mw (mw f_57 [(x, .inr (5, [.ref gu, .ref gl, .ref gs, .int (iI tp), .ref gt, .ref gp, .ref ga, .ref gb])), (pl, .inr (3, [.int (iI wh), .int (iI ((dp : Int))), .ref wq])), (wq, .inl (cs 0, 8, .inl (ai wd)))]) [(gu, .inr (0, [.int (iI s_69), .int (iI (n_69 : Int)), .ref (Qm gu)])), (Qm gu, .inl (cs 0, 48, .inl (ai l_69)))] := ⟨_, rfl⟩
  have hB_69 : BH cs f_69 S Qm (up ((up ((up ((up ((up Zf gl (Bp nw))) gb (wh))) gu ((up (up Zf gl (Bp nw)) gb wh) gb * (up (up Zf gl (Bp nw)) gb wh) gl))) gb (Wv wd nw))) gu ((up (up (up (up Zf gl (Bp nw)) gb wh) gu ((up (up Zf gl (Bp nw)) gb wh) gb * (up (up Zf gl (Bp nw)) gb wh) gl)) gb (Wv wd nw)) gu + 1 * (up (up (up (up Zf gl (Bp nw)) gb wh) gu ((up (up Zf gl (Bp nw)) gb wh) gb * (up (up Zf gl (Bp nw)) gb wh) gl)) gb (Wv wd nw)) gb)) := by rw [hf_69]; exact BH.set hSp (hB_57.keep (X := [(x, .inr (5, [.ref gu, .ref gl, .ref gs, .int (iI tp), .ref gt, .ref gp, .ref ga, .ref gb])), (pl, .inr (3, [.int (iI wh), .int (iI ((dp : Int))), .ref wq])), (wq, .inl (cs 0, 8, .inl (ai wd)))]) hOk) hSu hz_69
  have hfr_69 : ∀ k, Out S Qm k → k ∉ ([x, pl, wq] : List Nat) → f_69 k = f_57 k := fun k h1 h2 => by rw [hf_69, mw_out (h1.two hSu), mw_out (X := [(x, .inr (5, [.ref gu, .ref gl, .ref gs, .int (iI tp), .ref gt, .ref gp, .ref ga, .ref gb])), (pl, .inr (3, [.int (iI wh), .int (iI ((dp : Int))), .ref wq])), (wq, .inl (cs 0, 8, .inl (ai wd)))]) h2]
  rw [← hf_69] at B
  have B := B.focus [(x, .inr (5, [.ref gu, .ref gl, .ref gs, .int (iI tp), .ref gt, .ref gp, .ref ga, .ref gb])), (pl, .inr (3, [.int (iI wh), .int (iI ((dp : Int))), .ref wq])), (wq, .inl (cs 0, 8, .inl (ai wd)))] (by rw [hf_69]; exact foc hF.1 (fun k hk => (hOk k hk).two hSu))
  have B : Wb D vwCl (TY cs) L (mw f_69 [(x, .inr (5, [.ref gu, .ref gl, .ref gs, .int (iI tp), .ref gt, .ref gp, .ref ga, .ref gb])), (pl, .inr (3, [.int (iI wh), .int (iI ((dp : Int))), .ref wq])), (wq, .inl (cs 0, 8, .inl (ai wd)))]) (AL L s.heap.size) s H _ := B
  subst hQ hav
  exact x_vret hx hb hr hlocks B d_Spot_start_72 (⟨(up ((up ((up ((up ((up Zf gl (Bp nw))) gb (wh))) gu ((up (up Zf gl (Bp nw)) gb wh) gb * (up (up Zf gl (Bp nw)) gb wh) gl))) gb (Wv wd nw))) gu ((up (up (up (up Zf gl (Bp nw)) gb wh) gu ((up (up Zf gl (Bp nw)) gb wh) gb * (up (up Zf gl (Bp nw)) gb wh) gl)) gb (Wv wd nw)) gu + 1 * (up (up (up (up Zf gl (Bp nw)) gb wh) gu ((up (up Zf gl (Bp nw)) gb wh) gb * (up (up Zf gl (Bp nw)) gb wh) gl)) gb (Wv wd nw)) gb)), by rw [up_self, z4u, z4b, Int.one_mul, hnw], by rw [up_ne _ _ (Ne.symm e2), up_ne _ _ (Ne.symm e3), up_ne _ _ (Ne.symm e2), z2l, hnw], fun b h1 h2 h3 => by rw [up_ne _ _ h1, up_ne _ _ h3, up_ne _ _ h1, up_ne _ _ h3, up_ne _ _ h2], hB_69.keep (X := [(x, .inr (5, [.ref gu, .ref gl, .ref gs, .int (iI tp), .ref gt, .ref gp, .ref ga, .ref gb])), (pl, .inr (3, [.int (iI wh), .int (iI ((dp : Int))), .ref wq])), (wq, .inl (cs 0, 8, .inl (ai wd)))]) hOk, fun k h1 h2 => by rw [mw_out (X := [(x, .inr (5, [.ref gu, .ref gl, .ref gs, .int (iI tp), .ref gt, .ref gp, .ref ga, .ref gb])), (pl, .inr (3, [.int (iI wh), .int (iI ((dp : Int))), .ref wq])), (wq, .inl (cs 0, 8, .inl (ai wd)))]) h2, hfr_69 k h1 h2, hfr_57 k h1 h2, hfr_45 k h1 h2, hfr_30 k h1 h2, hfr_18 k h1 h2], mw_get (X := [(x, .inr (5, [.ref gu, .ref gl, .ref gs, .int (iI tp), .ref gt, .ref gp, .ref ga, .ref gb])), (pl, .inr (3, [.int (iI wh), .int (iI ((dp : Int))), .ref wq])), (wq, .inl (cs 0, 8, .inl (ai wd)))]) hF.1 (k := 0) rfl, mw_get (X := [(x, .inr (5, [.ref gu, .ref gl, .ref gs, .int (iI tp), .ref gt, .ref gp, .ref ga, .ref gb])), (pl, .inr (3, [.int (iI wh), .int (iI ((dp : Int))), .ref wq])), (wq, .inl (cs 0, 8, .inl (ai wd)))]) hF.1 (k := 1) rfl, mw_get (X := [(x, .inr (5, [.ref gu, .ref gl, .ref gs, .int (iI tp), .ref gt, .ref gp, .ref ga, .ref gb])), (pl, .inr (3, [.int (iI wh), .int (iI ((dp : Int))), .ref wq])), (wq, .inl (cs 0, 8, .inl (ai wd)))]) hF.1 (k := 2) rfl⟩)
theorem d_Spot_goToEnd_0 : decode prog_7_method_5_code 0 = .ok (.aload_n 1, 1) := by decide +kernel
theorem d_Spot_goToEnd_1 : decode prog_7_method_5_code 1 = .ok (.getfield 49, 3) := by decide +kernel
theorem d_Spot_goToEnd_4 : decode prog_7_method_5_code 4 = .ok (.bipush 31, 2) := by decide +kernel
theorem d_Spot_goToEnd_6 : decode prog_7_method_5_code 6 = .ok (.iadd, 1) := by decide +kernel
theorem d_Spot_goToEnd_7 : decode prog_7_method_5_code 7 = .ok (.iconst 1, 1) := by decide +kernel
theorem d_Spot_goToEnd_8 : decode prog_7_method_5_code 8 = .ok (.isub, 1) := by decide +kernel
theorem d_Spot_goToEnd_9 : decode prog_7_method_5_code 9 = .ok (.bipush 31, 2) := by decide +kernel
theorem d_Spot_goToEnd_11 : decode prog_7_method_5_code 11 = .ok (.idiv, 1) := by decide +kernel
theorem d_Spot_goToEnd_12 : decode prog_7_method_5_code 12 = .ok (.istore_n 2, 1) := by decide +kernel
theorem d_Spot_goToEnd_13 : decode prog_7_method_5_code 13 = .ok (.aload_n 0, 1) := by decide +kernel
theorem d_Spot_goToEnd_14 : decode prog_7_method_5_code 14 = .ok (.getfield 38, 3) := by decide +kernel
theorem d_Spot_goToEnd_17 : decode prog_7_method_5_code 17 = .ok (.lconst 1, 1) := by decide +kernel
theorem d_Spot_goToEnd_18 : decode prog_7_method_5_code 18 = .ok (.iload_n 2, 1) := by decide +kernel
theorem d_Spot_goToEnd_19 : decode prog_7_method_5_code 19 = .ok (.bipush 31, 2) := by decide +kernel
theorem d_Spot_goToEnd_21 : decode prog_7_method_5_code 21 = .ok (.imul, 1) := by decide +kernel
theorem d_Spot_goToEnd_22 : decode prog_7_method_5_code 22 = .ok (.aload_n 1, 1) := by decide +kernel
theorem d_Spot_goToEnd_23 : decode prog_7_method_5_code 23 = .ok (.getfield 49, 3) := by decide +kernel
theorem d_Spot_goToEnd_26 : decode prog_7_method_5_code 26 = .ok (.isub, 1) := by decide +kernel
theorem d_Spot_goToEnd_27 : decode prog_7_method_5_code 27 = .ok (.lshl, 1) := by decide +kernel
theorem d_Spot_goToEnd_28 : decode prog_7_method_5_code 28 = .ok (.invokevirtual 45, 3) := by decide +kernel
theorem d_Spot_goToEnd_31 : decode prog_7_method_5_code 31 = .ok (.aload_n 0, 1) := by decide +kernel
theorem d_Spot_goToEnd_32 : decode prog_7_method_5_code 32 = .ok (.getfield 12, 3) := by decide +kernel
theorem d_Spot_goToEnd_35 : decode prog_7_method_5_code 35 = .ok (.aload_n 0, 1) := by decide +kernel
theorem d_Spot_goToEnd_36 : decode prog_7_method_5_code 36 = .ok (.getfield 38, 3) := by decide +kernel
theorem d_Spot_goToEnd_39 : decode prog_7_method_5_code 39 = .ok (.iconst 1, 1) := by decide +kernel
theorem d_Spot_goToEnd_40 : decode prog_7_method_5_code 40 = .ok (.invokevirtual 73, 3) := by decide +kernel
theorem d_Spot_goToEnd_43 : decode prog_7_method_5_code 43 = .ok (.return_, 1) := by decide +kernel
set_option maxHeartbeats 8000000 in
set_option maxRecDepth 100000 in
theorem c_Spot_goToEnd (l : Launch) (D : va_G) (cs : Nat → ClassId) (L : List Nat) (f : Nat → va_E) (sz : Nat) (x pl wq gu gl gs gt gp ga gb dp : Nat) (tp wh : Int) (S : Nat → Prop) (Qm : Nat → Nat) (Zf : Nat → Int) (hF : Fc L [x, pl]) (ha : f x = .inr (5, [.ref gu, .ref gl, .ref gs, .int (iI tp), .ref gt, .ref gp, .ref ga, .ref gb])) (hpl : f pl = .inr (3, [.int (iI wh), .int (iI ((dp : Int))), .ref wq])) (hSp : Sp L S Qm) (hB : BH cs f S Qm Zf) (hOk : ∀ k ∈ ([x, pl] : List Nat), Out S Qm k) (hSu : S gu) (hSb : S gb) (e1 : gu ≠ gb) (hdp : dp ≤ 248) (hub : ((Zf gu).natAbs : Int) ≤ Bp 10) : Met l (⟨"RealRoots$Spot", "goToEnd", "(LRealRoots$Place;)V"⟩ : MethodName) (.code (⟨"RealRoots$Spot", "goToEnd", "(LRealRoots$Place;)V"⟩ : MethodName) prog_7_method_5_code 3 (Option.none : Option Jvm.ClassFile.FieldType) :: gw) ({ frames := 1, cells := 0, slots := 0, locals := 60 }) (va_Pc [.ref x, .ref pl] (K0 D vwCl (TY cs) L f sz)) (va_Qv (fun (g : Nat → va_E) => ∃ Z' : Nat → Int, Z' gu = Zf gu + 2 ^ (31 * ((dp + 30) / 31) - dp) ∧ (∀ b, b ≠ gu → b ≠ gb → Z' b = Zf b) ∧ BH cs g S Qm Z' ∧ (∀ k, Out S Qm k → k ∉ ([x, pl] : List Nat) → g k = f k) ∧ g x = .inr (5, [.ref gu, .ref gl, .ref gs, .int (iI tp), .ref gt, .ref gp, .ref ga, .ref gb]) ∧ g pl = .inr (3, [.int (iI wh), .int (iI ((dp : Int))), .ref wq])) (K1 D vwCl (TY cs) (AL L sz) L) (AL L sz)) 0 0 (AL L sz) := by
  refine Met.ofW (cc := prog_7_method_5_code) (maxL := 3) (ret := (Option.none : Option Jvm.ClassFile.FieldType)) (by decide) rfl ?_
  intro p e s m args below meth c s₁ Bd hml hv
  obtain ⟨rfl, hk0⟩ := hv
  obtain ⟨hsz, B⟩ := hk0.start
  subst hsz
  have hx := Bd.exec
  have hb := Bd.bytes
  have hr := Bd.returns
  have hlocks := Bd.notSynchronized
  have hts0 := atoms_spec Bd.pre
  have hown : s.vm.findClass RX5 = some m.cls := findClass_of_methodNamed Bd.named
  have hA : ∀ q, s.heap.size ≤ q → AL L s.heap.size q := fun _ h => Or.inr h
  have hl := lv_entry ([.ref x, .ref pl]) (n := 3) (Nat.le_of_ble_eq_true rfl)
  rw [lg_entry_eq]
  generalize (lg_sl ([.ref x, .ref pl]) ++ List.replicate (3 - (lg_sl ([.ref x, .ref pl])).length) Slot.unset).toArray = ls at hl ⊢
  refine absQ (fun Q R av hQ hR hav => ?_)
  have hts : ∀ w ∈ gw, w.before av s = true := by rw [hav]; exact fun w h => hts0 w (List.mem_cons_of_mem _ h)
  have hRf : R.frames = 1 := by rw [hR]; rfl
  have hRl : R.locals = 60 := by rw [hR]; rfl
  have hRc : R.cells = 0 := by rw [hR]; rfl
  have hRs : R.slots = 0 := by rw [hR]; rfl
  clear hR hts0 Bd
  have hl : lv_has ls 3 [(0, .ref x), (1, .ref pl)] := hl
  have hfx : ∀ q ∈ ([(x, .inr (5, [.ref gu, .ref gl, .ref gs, .int (iI tp), .ref gt, .ref gp, .ref ga, .ref gb])), (pl, .inr (3, [.int (iI wh), .int (iI ((dp : Int))), .ref wq]))] : List (Nat × va_E)), f q.1 = q.2 := fun q hq => by
    simp only [List.mem_cons, List.not_mem_nil, or_false] at hq
    rcases hq with rfl | rfl
    · exact ha
    · exact hpl
  have hmw : mw f [(x, .inr (5, [.ref gu, .ref gl, .ref gs, .int (iI tp), .ref gt, .ref gp, .ref ga, .ref gb])), (pl, .inr (3, [.int (iI wh), .int (iI ((dp : Int))), .ref wq]))] = f := mw_self (fun k a e hk => hfx (a, e) (List.mem_of_getElem? hk))
  have B := B.focus [(x, .inr (5, [.ref gu, .ref gl, .ref gs, .int (iI tp), .ref gt, .ref gp, .ref ga, .ref gb])), (pl, .inr (3, [.int (iI wh), .int (iI ((dp : Int))), .ref wq]))] hfx
  refine lv_aload_n hx hb d_Spot_goToEnd_0 rfl (lv_at hl 1 rfl) ?_
  refine x_get (C := RX3) (T := TX3) (N := 3) hx hb hts inX3 hown B hF 1 rfl rfl 1 (by decide) (hts _ w_164) (fun _ h9 => h9) rfl d_Spot_goToEnd_1 ?_
  refine x_bipush hx hb d_Spot_goToEnd_4 (by decide) ?_
  refine x_iadd hx hb d_Spot_goToEnd_6 ?_
  refine x_iconst hx hb d_Spot_goToEnd_7 ?_
  refine x_isub hx hb d_Spot_goToEnd_8 ?_
  refine x_bipush hx hb d_Spot_goToEnd_9 (by decide) ?_
  refine x_idiv hx hb d_Spot_goToEnd_11 (by omega) (by omega) (by omega) ?_
  rw [show ((((dp : Int)) + 31) - 1).tdiv 31 = ((((dp + 30) / 31) : Nat) : Int) by rw [Int.tdiv_eq_ediv_of_nonneg (by omega)]; omega]
  obtain ⟨nw, hnw⟩ : ∃ nw, nw = ((dp + 30) / 31) := ⟨_, rfl⟩
  rw [← hnw]
  have hnw8 : nw ≤ 8 := by omega
  have hsh : 31 * nw - dp < 31 := by omega
  have hsh2 : dp ≤ 31 * nw := by omega
  have hp1 := pow_big (show 31 * nw - dp ≤ 30 by omega)
  have hp2 := pow_one_le (31 * nw - dp)
  have hp3 : (2 : Int) ^ 30 = 1073741824 := rfl
  refine lv_istore_n (lv' := [(2, .int (iI ((nw : Int)))), (0, .ref x), (1, .ref pl)]) hx hb d_Spot_goToEnd_12 rfl hl (by decide) rfl (fun ls hl => ?_)
  refine lv_aload_n hx hb d_Spot_goToEnd_13 rfl (lv_at hl 1 rfl) ?_
  refine x_get (C := RX5) (T := TX5) (N := 8) hx hb hts inX5 hown B hF 0 rfl rfl 7 (by decide) (hts _ w_96) (fun _ h9 => h9) rfl d_Spot_goToEnd_14 ?_
  refine x_lconst (z := 1) hx hb d_Spot_goToEnd_17 (by decide) ?_
  refine lv_iload_n hx hb d_Spot_goToEnd_18 rfl (lv_at hl 0 rfl) ?_
  refine x_bipush hx hb d_Spot_goToEnd_19 (by decide) ?_
  refine x_imul hx hb d_Spot_goToEnd_21 ?_
  refine lv_aload_n hx hb d_Spot_goToEnd_22 rfl (lv_at hl 2 rfl) ?_
  refine x_get (C := RX3) (T := TX3) (N := 3) hx hb hts inX3 hown B hF 1 rfl rfl 1 (by decide) (hts _ w_164) (fun _ h9 => h9) rfl d_Spot_goToEnd_23 ?_
  refine x_isub hx hb d_Spot_goToEnd_26 ?_
  refine x_lshlv hx hb (31 * nw - dp) (by omega) (by omega) d_Spot_goToEnd_27 ?_
  have hx_28 := hB.keep (X := [(x, .inr (5, [.ref gu, .ref gl, .ref gs, .int (iI tp), .ref gt, .ref gp, .ref ga, .ref gb])), (pl, .inr (3, [.int (iI wh), .int (iI ((dp : Int))), .ref wq]))]) hOk
  obtain ⟨sd_280, n_280, lm_280, c1_280, c2_280, c3_280⟩ := hx_28 gb hSb
  refine x_callv B hA (va_runV (As := [.long (lI (1 * 2 ^ (31 * nw - dp)))]) (rest := []) ⟨hx, hb, hml, hown, hts⟩ (c_Big_put l D cs _ _ _ gb (Qm gb) sd_280 n_280 lm_280 (1 * 2 ^ (31 * nw - dp)) (hSp.fc1 hSb) c1_280 c2_280 (by omega)) (cwV 1 hts (gw_V w_405 w_294 w_295 w_3 w_296) rfl rfl rfl (by decide +kernel) ⟨by rw [hRf]; exact Nat.le_of_ble_eq_true rfl, by rw [hRl]; exact Nat.le_of_ble_eq_true rfl⟩) ⟨K0.blind, B.recv (hSp.1 _ (hSb)).1 c1_280 rfl, B.pre _⟩ rfl rfl hl.1 rfl (lv_room (Nat.le_of_ble_eq_true rfl)) d_Spot_goToEnd_28 ⟨by rw [hRc]; omega, by rw [hRs]; omega⟩) (fun g28 H locs hw B => ?_)
  obtain ⟨s_28, n_28, l_28, hz_28, rfl⟩ := hw
  obtain ⟨f_28, hf_28⟩ : ∃ f_28, f_28 = mw (mw f [(x, .inr (5, [.ref gu, .ref gl, .ref gs, .int (iI tp), .ref gt, .ref gp, .ref ga, .ref gb])), (pl, .inr (3, [.int (iI wh), .int (iI ((dp : Int))), .ref wq]))]) [(gb, .inr (0, [.int (iI s_28), .int (iI (n_28 : Int)), .ref (Qm gb)])), (Qm gb, .inl (cs 0, 48, .inl (ai l_28)))] := ⟨_, rfl⟩
  have hB_28 : BH cs f_28 S Qm (up Zf gb (1 * 2 ^ (31 * nw - dp))) := by rw [hf_28]; exact BH.set hSp (hB.keep (X := [(x, .inr (5, [.ref gu, .ref gl, .ref gs, .int (iI tp), .ref gt, .ref gp, .ref ga, .ref gb])), (pl, .inr (3, [.int (iI wh), .int (iI ((dp : Int))), .ref wq]))]) hOk) hSb hz_28
  have hfr_28 : ∀ k, Out S Qm k → k ∉ ([x, pl] : List Nat) → f_28 k = f k := fun k h1 h2 => by rw [hf_28, mw_out (h1.two hSb), mw_out (X := [(x, .inr (5, [.ref gu, .ref gl, .ref gs, .int (iI tp), .ref gt, .ref gp, .ref ga, .ref gb])), (pl, .inr (3, [.int (iI wh), .int (iI ((dp : Int))), .ref wq]))]) h2]
  rw [← hf_28] at B
  have B := B.focus [(x, .inr (5, [.ref gu, .ref gl, .ref gs, .int (iI tp), .ref gt, .ref gp, .ref ga, .ref gb])), (pl, .inr (3, [.int (iI wh), .int (iI ((dp : Int))), .ref wq]))] (by rw [hf_28]; exact foc hF.1 (fun k hk => (hOk k hk).two hSb))
  have B : Wb D vwCl (TY cs) L (mw f_28 [(x, .inr (5, [.ref gu, .ref gl, .ref gs, .int (iI tp), .ref gt, .ref gp, .ref ga, .ref gb])), (pl, .inr (3, [.int (iI wh), .int (iI ((dp : Int))), .ref wq]))]) (AL L s.heap.size) s H _ := B
  refine lv_aload_n hx hb d_Spot_goToEnd_31 rfl (lv_at hl 1 rfl) ?_
  refine x_get (C := RX5) (T := TX5) (N := 8) hx hb hts inX5 hown B hF 0 rfl rfl 0 (by decide) (hts _ w_84) (fun _ h9 => h9) rfl d_Spot_goToEnd_32 ?_
  refine lv_aload_n hx hb d_Spot_goToEnd_35 rfl (lv_at hl 1 rfl) ?_
  refine x_get (C := RX5) (T := TX5) (N := 8) hx hb hts inX5 hown B hF 0 rfl rfl 7 (by decide) (hts _ w_96) (fun _ h9 => h9) rfl d_Spot_goToEnd_36 ?_
  refine x_iconst hx hb d_Spot_goToEnd_39 ?_
  have z1u : (up Zf gb (1 * 2 ^ (31 * nw - dp))) gu = Zf gu := by rw [up_ne _ _ e1]
  have z1b : (up Zf gb (1 * 2 ^ (31 * nw - dp))) gb = 1 * 2 ^ (31 * nw - dp) := by rw [up_self]
  have h48 : Bp 10 + 2147483648 < Bp 48 := by decide +kernel
  have hx_40 := hB_28.keep (X := [(x, .inr (5, [.ref gu, .ref gl, .ref gs, .int (iI tp), .ref gt, .ref gp, .ref ga, .ref gb])), (pl, .inr (3, [.int (iI wh), .int (iI ((dp : Int))), .ref wq]))]) hOk
  obtain ⟨sd_400, n_400, lm_400, c1_400, c2_400, c3_400⟩ := hx_40 gu hSu
  obtain ⟨sd_401, n_401, lm_401, c1_401, c2_401, c3_401⟩ := hx_40 gb hSb
  refine x_callv B hA (va_runV (As := [.ref gb, .int (iI 1)]) (rest := []) ⟨hx, hb, hml, hown, hts⟩ (c_Big_add l D cs _ _ _ gu (Qm gu) sd_400 n_400 lm_400 ((up Zf gb (1 * 2 ^ (31 * nw - dp))) gu) gb (Qm gb) sd_401 n_401 lm_401 ((up Zf gb (1 * 2 ^ (31 * nw - dp))) gb) 1 (hSp.fc2 hSu hSb e1) c1_400 c2_400 c3_400 c1_401 c2_401 c3_401 (Or.inl rfl) (by rw [z1u, z1b]; omega)) (cwV 2 hts (gw_V w_415 w_311 w_312 w_3 w_313) rfl rfl rfl (by decide +kernel) ⟨by rw [hRf]; exact Nat.le_of_ble_eq_true rfl, by rw [hRl]; exact Nat.le_of_ble_eq_true rfl⟩) ⟨K0.blind, B.recv (hSp.1 _ (hSu)).1 c1_400 rfl, B.pre _⟩ rfl rfl hl.1 rfl (lv_room (Nat.le_of_ble_eq_true rfl)) d_Spot_goToEnd_40 ⟨by rw [hRc]; omega, by rw [hRs]; omega⟩) (fun g40 H locs hw B => ?_)
  obtain ⟨s_40, n_40, l_40, hz_40, rfl⟩ := hw
  obtain ⟨f_40, hf_40⟩ : ∃ f_40, f_40 = mw (mw f_28 [(x, .inr (5, [.ref gu, .ref gl, .ref gs, .int (iI tp), .ref gt, .ref gp, .ref ga, .ref gb])), (pl, .inr (3, [.int (iI wh), .int (iI ((dp : Int))), .ref wq]))]) [(gu, .inr (0, [.int (iI s_40), .int (iI (n_40 : Int)), .ref (Qm gu)])), (Qm gu, .inl (cs 0, 48, .inl (ai l_40)))] := ⟨_, rfl⟩
  have hB_40 : BH cs f_40 S Qm (up ((up Zf gb (1 * 2 ^ (31 * nw - dp)))) gu ((up Zf gb (1 * 2 ^ (31 * nw - dp))) gu + 1 * (up Zf gb (1 * 2 ^ (31 * nw - dp))) gb)) := by rw [hf_40]; exact BH.set hSp (hB_28.keep (X := [(x, .inr (5, [.ref gu, .ref gl, .ref gs, .int (iI tp), .ref gt, .ref gp, .ref ga, .ref gb])), (pl, .inr (3, [.int (iI wh), .int (iI ((dp : Int))), .ref wq]))]) hOk) hSu hz_40
  have hfr_40 : ∀ k, Out S Qm k → k ∉ ([x, pl] : List Nat) → f_40 k = f_28 k := fun k h1 h2 => by rw [hf_40, mw_out (h1.two hSu), mw_out (X := [(x, .inr (5, [.ref gu, .ref gl, .ref gs, .int (iI tp), .ref gt, .ref gp, .ref ga, .ref gb])), (pl, .inr (3, [.int (iI wh), .int (iI ((dp : Int))), .ref wq]))]) h2]
  rw [← hf_40] at B
  have B := B.focus [(x, .inr (5, [.ref gu, .ref gl, .ref gs, .int (iI tp), .ref gt, .ref gp, .ref ga, .ref gb])), (pl, .inr (3, [.int (iI wh), .int (iI ((dp : Int))), .ref wq]))] (by rw [hf_40]; exact foc hF.1 (fun k hk => (hOk k hk).two hSu))
  have B : Wb D vwCl (TY cs) L (mw f_40 [(x, .inr (5, [.ref gu, .ref gl, .ref gs, .int (iI tp), .ref gt, .ref gp, .ref ga, .ref gb])), (pl, .inr (3, [.int (iI wh), .int (iI ((dp : Int))), .ref wq]))]) (AL L s.heap.size) s H _ := B
  subst hQ hav
  exact x_vret hx hb hr hlocks B d_Spot_goToEnd_43 (⟨(up ((up Zf gb (1 * 2 ^ (31 * nw - dp)))) gu ((up Zf gb (1 * 2 ^ (31 * nw - dp))) gu + 1 * (up Zf gb (1 * 2 ^ (31 * nw - dp))) gb)), by rw [up_self, z1u, z1b, Int.one_mul, Int.one_mul, hnw], fun b h1 h3 => by rw [up_ne _ _ h1, up_ne _ _ h3], hB_40.keep (X := [(x, .inr (5, [.ref gu, .ref gl, .ref gs, .int (iI tp), .ref gt, .ref gp, .ref ga, .ref gb])), (pl, .inr (3, [.int (iI wh), .int (iI ((dp : Int))), .ref wq]))]) hOk, fun k h1 h2 => by rw [mw_out (X := [(x, .inr (5, [.ref gu, .ref gl, .ref gs, .int (iI tp), .ref gt, .ref gp, .ref ga, .ref gb])), (pl, .inr (3, [.int (iI wh), .int (iI ((dp : Int))), .ref wq]))]) h2, hfr_40 k h1 h2, hfr_28 k h1 h2], mw_get (X := [(x, .inr (5, [.ref gu, .ref gl, .ref gs, .int (iI tp), .ref gt, .ref gp, .ref ga, .ref gb])), (pl, .inr (3, [.int (iI wh), .int (iI ((dp : Int))), .ref wq]))]) hF.1 (k := 0) rfl, mw_get (X := [(x, .inr (5, [.ref gu, .ref gl, .ref gs, .int (iI tp), .ref gt, .ref gp, .ref ga, .ref gb])), (pl, .inr (3, [.int (iI wh), .int (iI ((dp : Int))), .ref wq]))]) hF.1 (k := 1) rfl⟩)
