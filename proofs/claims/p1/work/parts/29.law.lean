set_option maxHeartbeats 40000000 in
set_option maxRecDepth 100000 in
theorem whole_start {p : Program} {e : Env} {s : State} {m : MethodId} {below : List Frame} {meth : Method} {c : Code} (l : Launch) {b L : Nat} {xs : Nat → Int32} (hL : L ≤ 6) (C0 : lw_At p s m meth c b L xs) : W p l e room_1 s m #[Value.ref b] below meth c s.heap [] 0 0 (lw_Z below #[Value.ref b] s) (entryFrame m ([Value.ref b] : List Value).toArray 8) := by
  obtain ⟨hx, hb, hr, hml, hown, htsl, hX0, hbl, hlocks, hgv⟩ := id C0
  have hXw : Xw s := Xw.of htsl
  have hts9 := gw_of htsl
  obtain ⟨D, cs, hK⟩ := K_start hts9 hXw
  obtain ⟨ys, hys, hyr⟩ : ∃ ys : Nat → Int, xs = ai ys ∧ ∀ j, -2147483648 ≤ ys j ∧ ys j < 2147483648 := ⟨fun j => (xs j).toInt, funext fun j => (iI_of (xs j)).symm, fun j => ⟨by have h := (xs j).le_toInt; show -2147483648 ≤ (xs j).toInt; omega, by have h := (xs j).toInt_lt; show (xs j).toInt < 2147483648; omega⟩⟩
  rw [hys] at hX0
  have hX := hX0
  have hy0 := hyr 0
  have hy1 := hyr 1
  have hy2 := hyr 2
  have hy3 := hyr 3
  have hy4 := hyr 4
  have hy5 := hyr 5
  have hl := lv_entry ([.ref b]) (n := 8) (Nat.le_of_ble_eq_true rfl)
  rw [lg_entry_eq]
  generalize (lg_sl ([.ref b]) ++ List.replicate (8 - (lg_sl ([.ref b])).length) Slot.unset).toArray = ls at hl ⊢
  have hl : lv_has ls 8 [(0, .ref b)] := hl
  refine absQ (fun Q R av hQ hR hav => ?_)
  have hts : ∀ w ∈ gw, w.before av s = true := by rw [hav]; exact hts9
  have hRf : R.frames = 14 := by rw [hR]; rfl
  have hRl : R.locals = 594 := by rw [hR]; rfl
  have hRc : R.cells = 600002 := by rw [hR]; rfl
  have hRs : R.slots = 7302231 := by rw [hR]; rfl
  obtain ⟨A, hAd⟩ : ∃ A : Nat → Prop, A = fun q => s.heap.size ≤ q := ⟨_, rfl⟩
  have hA : ∀ q, s.heap.size ≤ q → A q := by rw [hAd]; exact fun _ h => h
  have hbA : ¬ A b := by rw [hAd]; exact Nat.not_le.mpr hbl
  have B : Wb D vwCl (TY cs) [] (mw (fun _ => .inr (0, [])) []) A s s.heap [] := ⟨fun k q h => by simp [va_pl] at h, hK, ⟨fun i j p q h => by simp [va_pl] at h, fun k q h => by simp [va_pl] at h⟩, va_S.rf, hXw⟩
  have hF : Fc [] (([] : List (Nat × va_E)).map Prod.fst) := ⟨List.nodup_nil, fun x h => by cases h⟩
  refine x_new (ci := 6) (fs := [.null, .int (iI 0), .null, .null, .null, .null, .null, .null, .null, .null, .null, .null, .int (iI 0), .int (iI 0)]) (C := RX6) (T := TX6) (N := 14) hx hb hts inX6 tyX6 tyX6_ok hown (hts _ w_15) (hts _ w_16) (hts _ w_1) B hF hA rfl (fun j hj => by rcases (show j = 0 ∨ j = 1 ∨ j = 2 ∨ j = 3 ∨ j = 4 ∨ j = 5 ∨ j = 6 ∨ j = 7 ∨ j = 8 ∨ j = 9 ∨ j = 10 ∨ j = 11 ∨ j = 12 ∨ j = 13 by omega) with rfl | rfl | rfl | rfl | rfl | rfl | rfl | rfl | rfl | rfl | rfl | rfl | rfl | rfl <;> rfl) (by rw [hRc]; omega) (by rw [hRs]; omega) d_law_0 (fun x H hn_x hF B => ?_)
  have B : Wb D vwCl (TY cs) ([] ++ [x]) (mw (fun _ => .inr (0, [])) [(x, .inr (6, [.null, .int (iI 0), .null, .null, .null, .null, .null, .null, .null, .null, .null, .null, .int (iI 0), .int (iI 0)]))]) A s H _ := B
  have hF : Fc ([] ++ [x]) [x] := hF
  refine lv_dup hx hb d_law_3 rfl ?_
  refine x_callvG B hA (va_runI (As := []) (rest := [.ref x]) ⟨hx, hb, hml, hown, hts⟩ (c_RR_init l D cs _ _ H.size x 0 0 0 hF.hd (mw_get (X := [(x, .inr (6, [.null, .int (iI 0), .null, .null, .null, .null, .null, .null, .null, .null, .null, .null, .int (iI 0), .int (iI 0)]))]) hF.1 (k := 0) rfl)) (cwI 0 hts (gw_cons w_19) rfl rfl rfl (hts _ w_1) (hts _ w_17) (hts _ w_18) rfl (by decide +kernel) ⟨by rw [hRf]; exact Nat.le_of_ble_eq_true rfl, by rw [hRl]; exact Nat.le_of_ble_eq_true rfl⟩) ⟨K0.blind, B.pre _⟩ rfl rfl hl.1 rfl (lv_room (Nat.le_of_ble_eq_true rfl)) d_law_4 ⟨by rw [hRc]; omega, by rw [hRs]; omega⟩) (fun u H locs hw B => ?_)
  obtain ⟨L4, g4⟩ := u
  have hw : ∃ b, L4 = [] ++ [x] ++ b ∧ RRAt cs g4 x b ∧ ∀ r ∈ [] ++ [x], r ≠ x → g4 r = mw (fun _ => .inr (0, [])) [(x, .inr (6, [.null, .int (iI 0), .null, .null, .null, .null, .null, .null, .null, .null, .null, .null, .int (iI 0), .int (iI 0)]))] r := hw
  obtain ⟨b4, hL4, hAt4, -⟩ := hw
  obtain ⟨c0, c2, c3, c4, c5, c6, c7, c8, c9, c10, c11, b23, b34, b45, tm, bl, hb4, ex, ec0, ec5, -, -, -, -, -, -, -, -, -, hcu⟩ := hAt4
  obtain ⟨vv, fr, pa, tm2, bl2, hbl0, ecv, evv, -, -, -⟩ := hcu 0 (by omega)
  obtain ⟨cv, hcv⟩ : ∃ cv, tm 0 = cv := ⟨_, rfl⟩
  rw [hcv] at ecv
  have hgc : rfs 12 tm (0 : Int).toNat = some cv := by rw [← hcv]; rfl
  have B : Wb D vwCl (TY cs) L4 g4 A s H locs := B
  have hnd := B.nodup
  have hFM : ∃ r, (List.range 12).flatMap (fun k => tm k :: bl k) = cv :: vv :: r := ⟨_, by rw [List.range_succ_eq_map, List.flatMap_cons, hbl0, hcv]; rfl⟩
  obtain ⟨r4, hr4⟩ := hFM
  have hsub : [x, c0, c5, cv, vv].Sublist L4 := by
    rw [hL4, hb4, hr4]
    simp only [List.nil_append, List.cons_append]
    exact .cons₂ _ (.cons₂ _ (.cons _ (List.Sublist.trans (.cons _ (List.Sublist.trans (.cons _ (List.Sublist.trans (.cons₂ _ (.cons _ (.cons _ (.cons _ (.cons _ (.cons _ (.cons _ (.cons₂ _ (.cons₂ _ (List.nil_sublist _)))))))))) (List.sublist_append_right _ _))) (List.sublist_append_right _ _))) (List.sublist_append_right _ _))))
  have hF : Fc L4 [x, c0, c5, cv, vv] := ⟨List.Pairwise.sublist hsub hnd, fun z hz => hsub.subset hz⟩
  have hF : Fc L4 [c0, c5, x, cv, vv] := hF.pick [1, 2, 0, 3, 4] rfl rfl
  have B := B.focus [(c0, .inl (cs 4, 12, .inr (.inr (.inr (.inr (rfs 12 tm)))))), (c5, .inl (cs 1, 12, .inr (.inl (al (fun _ => 0))))), (x, .inr (6, [.ref c0, .int (iI 0), .ref c2, .ref c3, .ref c4, .ref c5, .ref c6, .ref c7, .ref c8, .ref c9, .ref c10, .ref c11, .int (iI 0), .int (iI 0)])), (cv, .inr (2, [.ref vv, .ref fr, .ref pa, .int (iI 0), .int (iI 0)])), (vv, .inl (cs 0, 6, .inl (ai (fun _ => 0))))] (fun q hq => by
    simp only [List.mem_cons, List.not_mem_nil, or_false] at hq
    rcases hq with rfl | rfl | rfl | rfl | rfl
    · exact ec0
    · exact ec5
    · exact ex
    · exact ecv
    · exact evv)
  refine lv_astore_n (lv' := [(1, .ref x), (0, .ref b)]) hx hb d_law_7 rfl hl (by decide) rfl (fun ls hl => ?_)
  refine x_new (ci := 7) (fs := [.int (iI 0), .null, .null, .null, .int (iI 0), .null, .null, .null, .null, .null, .null, .null, .null, .null, .int (iI 0), .null, .long (lI 0), .long (lI 0)]) (C := RX7) (T := TX7) (N := 18) hx hb hts inX7 tyX7 tyX7_ok hown (hts _ w_671) (hts _ w_672) (hts _ w_8) B hF hA rfl (fun j hj => by rcases (show j = 0 ∨ j = 1 ∨ j = 2 ∨ j = 3 ∨ j = 4 ∨ j = 5 ∨ j = 6 ∨ j = 7 ∨ j = 8 ∨ j = 9 ∨ j = 10 ∨ j = 11 ∨ j = 12 ∨ j = 13 ∨ j = 14 ∨ j = 15 ∨ j = 16 ∨ j = 17 by omega) with rfl | rfl | rfl | rfl | rfl | rfl | rfl | rfl | rfl | rfl | rfl | rfl | rfl | rfl | rfl | rfl | rfl | rfl <;> rfl) (by rw [hRc]; omega) (by rw [hRs]; omega) d_law_8 (fun y H hn_y hF B => ?_)
  have B : Wb D vwCl (TY cs) (L4 ++ [y]) (mw g4 [(y, .inr (7, [.int (iI 0), .null, .null, .null, .int (iI 0), .null, .null, .null, .null, .null, .null, .null, .null, .null, .int (iI 0), .null, .long (lI 0), .long (lI 0)])), (c0, .inl (cs 4, 12, .inr (.inr (.inr (.inr (rfs 12 tm)))))), (c5, .inl (cs 1, 12, .inr (.inl (al (fun _ => 0))))), (x, .inr (6, [.ref c0, .int (iI 0), .ref c2, .ref c3, .ref c4, .ref c5, .ref c6, .ref c7, .ref c8, .ref c9, .ref c10, .ref c11, .int (iI 0), .int (iI 0)])), (cv, .inr (2, [.ref vv, .ref fr, .ref pa, .int (iI 0), .int (iI 0)])), (vv, .inl (cs 0, 6, .inl (ai (fun _ => 0))))]) A s H _ := B
  have hF : Fc (L4 ++ [y]) [y, c0, c5, x, cv, vv] := hF
  refine lv_dup hx hb d_law_11 rfl ?_
  refine x_callvG B hA (va_runI (As := []) (rest := [.ref y]) ⟨hx, hb, hml, hown, hts⟩ (c_Mo_init l D cs _ _ H.size y 0 0 0 0 0 hF.hd (mw_get (X := [(y, .inr (7, [.int (iI 0), .null, .null, .null, .int (iI 0), .null, .null, .null, .null, .null, .null, .null, .null, .null, .int (iI 0), .null, .long (lI 0), .long (lI 0)])), (c0, .inl (cs 4, 12, .inr (.inr (.inr (.inr (rfs 12 tm)))))), (c5, .inl (cs 1, 12, .inr (.inl (al (fun _ => 0))))), (x, .inr (6, [.ref c0, .int (iI 0), .ref c2, .ref c3, .ref c4, .ref c5, .ref c6, .ref c7, .ref c8, .ref c9, .ref c10, .ref c11, .int (iI 0), .int (iI 0)])), (cv, .inr (2, [.ref vv, .ref fr, .ref pa, .int (iI 0), .int (iI 0)])), (vv, .inl (cs 0, 6, .inl (ai (fun _ => 0))))]) hF.1 (k := 0) rfl)) (cwI 0 hts (gw_cons w_675) rfl rfl rfl (hts _ w_8) (hts _ w_673) (hts _ w_674) rfl (by decide +kernel) ⟨by rw [hRf]; exact Nat.le_of_ble_eq_true rfl, by rw [hRl]; exact Nat.le_of_ble_eq_true rfl⟩) ⟨K0.blind, B.pre _⟩ rfl rfl hl.1 rfl (lv_room (Nat.le_of_ble_eq_true rfl)) d_law_12 ⟨by rw [hRc]; omega, by rw [hRs]; omega⟩) (fun u H locs hw B => ?_)
  obtain ⟨L12, g12⟩ := u
  have hw : ∃ b, L12 = L4 ++ [y] ++ b ∧ MoAt cs g12 y 0 0 0 0 0 b ∧ ∀ r ∈ L4 ++ [y], r ≠ y → g12 r = mw g4 [(y, .inr (7, [.int (iI 0), .null, .null, .null, .int (iI 0), .null, .null, .null, .null, .null, .null, .null, .null, .null, .int (iI 0), .null, .long (lI 0), .long (lI 0)])), (c0, .inl (cs 4, 12, .inr (.inr (.inr (.inr (rfs 12 tm)))))), (c5, .inl (cs 1, 12, .inr (.inl (al (fun _ => 0))))), (x, .inr (6, [.ref c0, .int (iI 0), .ref c2, .ref c3, .ref c4, .ref c5, .ref c6, .ref c7, .ref c8, .ref c9, .ref c10, .ref c11, .int (iI 0), .int (iI 0)])), (cv, .inr (2, [.ref vv, .ref fr, .ref pa, .int (iI 0), .int (iI 0)])), (vv, .inl (cs 0, 6, .inl (ai (fun _ => 0))))] r := hw
  obtain ⟨b12, hL12, hAt12, hfr12⟩ := hw
  obtain ⟨m1, m2, m3, m5, m6, m7, m8, m9, m10, m11, m12, m13, m15, hb12, ey, em1, em2, em3, em5, em6, em7, em8, em9, em10, em11, em12, em13, em15⟩ := hAt12
  have B : Wb D vwCl (TY cs) L12 g12 A s H locs := B
  have hnd := B.nodup
  rw [hL12, List.nodup_append] at hnd
  have hm5 : m5 ∉ L4 ++ [y] := fun h => hnd.2.2 m5 h m5 (by rw [hb12]; simp) rfl
  have hm6 : m6 ∉ L4 ++ [y] := fun h => hnd.2.2 m6 h m6 (by rw [hb12]; simp) rfl
  have hm56 : m5 ≠ m6 := by have h1 := hnd.2.1; rw [hb12] at h1; simp only [List.nodup_cons, List.mem_cons, not_or] at h1; exact h1.2.2.2.1.1
  have B := B.focus [(y, .inr (7, [.int (iI 0), .ref m1, .ref m2, .ref m3, .int (iI 0), .ref m5, .ref m6, .ref m7, .ref m8, .ref m9, .ref m10, .ref m11, .ref m12, .ref m13, .int (iI 0), .ref m15, .long (lI 0), .long (lI 0)])), (m5, .inl (cs 0, 72, .inl (ai (fun _ => 0)))), (m6, .inl (cs 2, 12, .inl (ai (fun _ => 0)))), (c0, .inl (cs 4, 12, .inr (.inr (.inr (.inr (rfs 12 tm)))))), (c5, .inl (cs 1, 12, .inr (.inl (al (fun _ => 0))))), (x, .inr (6, [.ref c0, .int (iI 0), .ref c2, .ref c3, .ref c4, .ref c5, .ref c6, .ref c7, .ref c8, .ref c9, .ref c10, .ref c11, .int (iI 0), .int (iI 0)])), (cv, .inr (2, [.ref vv, .ref fr, .ref pa, .int (iI 0), .int (iI 0)])), (vv, .inl (cs 0, 6, .inl (ai (fun _ => 0))))] (fun r hr => by
    simp only [List.mem_cons, List.not_mem_nil, or_false] at hr
    rcases hr with rfl | rfl | rfl | rfl | rfl | rfl | rfl | rfl
    · exact ey
    · exact em5
    · exact em6
    · exact (hfr12 _ (hF.2 _ (by simp)) (fun hh => (List.nodup_cons.mp hF.1).1 (by rw [← hh]; simp))).trans (mw_get (X := [(y, .inr (7, [.int (iI 0), .null, .null, .null, .int (iI 0), .null, .null, .null, .null, .null, .null, .null, .null, .null, .int (iI 0), .null, .long (lI 0), .long (lI 0)])), (c0, .inl (cs 4, 12, .inr (.inr (.inr (.inr (rfs 12 tm)))))), (c5, .inl (cs 1, 12, .inr (.inl (al (fun _ => 0))))), (x, .inr (6, [.ref c0, .int (iI 0), .ref c2, .ref c3, .ref c4, .ref c5, .ref c6, .ref c7, .ref c8, .ref c9, .ref c10, .ref c11, .int (iI 0), .int (iI 0)])), (cv, .inr (2, [.ref vv, .ref fr, .ref pa, .int (iI 0), .int (iI 0)])), (vv, .inl (cs 0, 6, .inl (ai (fun _ => 0))))]) hF.1 (k := 1) rfl)
    · exact (hfr12 _ (hF.2 _ (by simp)) (fun hh => (List.nodup_cons.mp hF.1).1 (by rw [← hh]; simp))).trans (mw_get (X := [(y, .inr (7, [.int (iI 0), .null, .null, .null, .int (iI 0), .null, .null, .null, .null, .null, .null, .null, .null, .null, .int (iI 0), .null, .long (lI 0), .long (lI 0)])), (c0, .inl (cs 4, 12, .inr (.inr (.inr (.inr (rfs 12 tm)))))), (c5, .inl (cs 1, 12, .inr (.inl (al (fun _ => 0))))), (x, .inr (6, [.ref c0, .int (iI 0), .ref c2, .ref c3, .ref c4, .ref c5, .ref c6, .ref c7, .ref c8, .ref c9, .ref c10, .ref c11, .int (iI 0), .int (iI 0)])), (cv, .inr (2, [.ref vv, .ref fr, .ref pa, .int (iI 0), .int (iI 0)])), (vv, .inl (cs 0, 6, .inl (ai (fun _ => 0))))]) hF.1 (k := 2) rfl)
    · exact (hfr12 _ (hF.2 _ (by simp)) (fun hh => (List.nodup_cons.mp hF.1).1 (by rw [← hh]; simp))).trans (mw_get (X := [(y, .inr (7, [.int (iI 0), .null, .null, .null, .int (iI 0), .null, .null, .null, .null, .null, .null, .null, .null, .null, .int (iI 0), .null, .long (lI 0), .long (lI 0)])), (c0, .inl (cs 4, 12, .inr (.inr (.inr (.inr (rfs 12 tm)))))), (c5, .inl (cs 1, 12, .inr (.inl (al (fun _ => 0))))), (x, .inr (6, [.ref c0, .int (iI 0), .ref c2, .ref c3, .ref c4, .ref c5, .ref c6, .ref c7, .ref c8, .ref c9, .ref c10, .ref c11, .int (iI 0), .int (iI 0)])), (cv, .inr (2, [.ref vv, .ref fr, .ref pa, .int (iI 0), .int (iI 0)])), (vv, .inl (cs 0, 6, .inl (ai (fun _ => 0))))]) hF.1 (k := 3) rfl)
    · exact (hfr12 _ (hF.2 _ (by simp)) (fun hh => (List.nodup_cons.mp hF.1).1 (by rw [← hh]; simp))).trans (mw_get (X := [(y, .inr (7, [.int (iI 0), .null, .null, .null, .int (iI 0), .null, .null, .null, .null, .null, .null, .null, .null, .null, .int (iI 0), .null, .long (lI 0), .long (lI 0)])), (c0, .inl (cs 4, 12, .inr (.inr (.inr (.inr (rfs 12 tm)))))), (c5, .inl (cs 1, 12, .inr (.inl (al (fun _ => 0))))), (x, .inr (6, [.ref c0, .int (iI 0), .ref c2, .ref c3, .ref c4, .ref c5, .ref c6, .ref c7, .ref c8, .ref c9, .ref c10, .ref c11, .int (iI 0), .int (iI 0)])), (cv, .inr (2, [.ref vv, .ref fr, .ref pa, .int (iI 0), .int (iI 0)])), (vv, .inl (cs 0, 6, .inl (ai (fun _ => 0))))]) hF.1 (k := 4) rfl)
    · exact (hfr12 _ (hF.2 _ (by simp)) (fun hh => (List.nodup_cons.mp hF.1).1 (by rw [← hh]; simp))).trans (mw_get (X := [(y, .inr (7, [.int (iI 0), .null, .null, .null, .int (iI 0), .null, .null, .null, .null, .null, .null, .null, .null, .null, .int (iI 0), .null, .long (lI 0), .long (lI 0)])), (c0, .inl (cs 4, 12, .inr (.inr (.inr (.inr (rfs 12 tm)))))), (c5, .inl (cs 1, 12, .inr (.inl (al (fun _ => 0))))), (x, .inr (6, [.ref c0, .int (iI 0), .ref c2, .ref c3, .ref c4, .ref c5, .ref c6, .ref c7, .ref c8, .ref c9, .ref c10, .ref c11, .int (iI 0), .int (iI 0)])), (cv, .inr (2, [.ref vv, .ref fr, .ref pa, .int (iI 0), .int (iI 0)])), (vv, .inl (cs 0, 6, .inl (ai (fun _ => 0))))]) hF.1 (k := 5) rfl))
  have hF : Fc L12 [y, m5, m6, c0, c5, x, cv, vv] := by
    have hr0 := List.nodup_cons.mp hF.1
    refine ⟨List.nodup_cons.mpr ⟨fun h => ?_, List.nodup_cons.mpr ⟨fun h => ?_, List.nodup_cons.mpr ⟨fun h => ?_, hr0.2⟩⟩⟩, fun q hq => ?_⟩
    · rcases List.mem_cons.mp h with h | h
      · exact hm5 (by rw [← h]; simp)
      · rcases List.mem_cons.mp h with h | h
        · exact hm6 (by rw [← h]; simp)
        · exact hr0.1 h
    · rcases List.mem_cons.mp h with h | h
      · exact hm56 h
      · exact hm5 (hF.2 m5 (List.mem_cons_of_mem _ h))
    · exact hm6 (hF.2 m6 (List.mem_cons_of_mem _ h))
    · rw [hL12]
      rcases List.mem_cons.mp hq with h | h
      · exact List.mem_append_left _ (by rw [h]; simp)
      · rcases List.mem_cons.mp h with h | h
        · exact List.mem_append_right _ (by rw [h, hb12]; simp)
        · rcases List.mem_cons.mp h with h | h
          · exact List.mem_append_right _ (by rw [h, hb12]; simp)
          · exact List.mem_append_left _ (hF.2 q (List.mem_cons_of_mem _ h))
  refine lv_astore_n (lv' := [(2, .ref y), (1, .ref x), (0, .ref b)]) hx hb d_law_15 rfl hl (by decide) rfl (fun ls hl => ?_)
  refine x_iconst hx hb d_law_16 ?_
  refine x_newal hx hb (hts _ w_175) B hF hA 1 rfl 1 rfl (by decide) (by rw [hRc]; omega) (by rw [hRs]; omega) d_law_17 (fun o H ho hF B => ?_)
  have B : Wb D vwCl (TY cs) (L12 ++ [o]) (mw g12 [(o, .inl (cs 1, 1, .inr (.inl (al (fun _ => 0))))), (y, .inr (7, [.int (iI 0), .ref m1, .ref m2, .ref m3, .int (iI 0), .ref m5, .ref m6, .ref m7, .ref m8, .ref m9, .ref m10, .ref m11, .ref m12, .ref m13, .int (iI 0), .ref m15, .long (lI 0), .long (lI 0)])), (m5, .inl (cs 0, 72, .inl (ai (fun _ => 0)))), (m6, .inl (cs 2, 12, .inl (ai (fun _ => 0)))), (c0, .inl (cs 4, 12, .inr (.inr (.inr (.inr (rfs 12 tm)))))), (c5, .inl (cs 1, 12, .inr (.inl (al (fun _ => 0))))), (x, .inr (6, [.ref c0, .int (iI 0), .ref c2, .ref c3, .ref c4, .ref c5, .ref c6, .ref c7, .ref c8, .ref c9, .ref c10, .ref c11, .int (iI 0), .int (iI 0)])), (cv, .inr (2, [.ref vv, .ref fr, .ref pa, .int (iI 0), .int (iI 0)])), (vv, .inl (cs 0, 6, .inl (ai (fun _ => 0))))]) A s H _ := B
  have hF : Fc (L12 ++ [o]) [o, y, m5, m6, c0, c5, x, cv, vv] := hF
  refine lv_astore_n (lv' := [(3, .ref o), (2, .ref y), (1, .ref x), (0, .ref b)]) hx hb d_law_19 rfl hl (by decide) rfl (fun ls hl => ?_)
  refine W.widen (k := 600002) (n := 7302231) (by omega) (by omega) ?_
  refine x_iconst hx hb d_law_20 ?_
  refine lv_istore (lv' := [(4, .int (iI 0)), (3, .ref o), (2, .ref y), (1, .ref x), (0, .ref b)]) hx hb d_law_21 hl (by decide) rfl (fun ls hl => ?_)
  refine lv_iload hx hb d_law_23 (lv_at hl 0 rfl) ?_
  refine lv_aload_n hx hb d_law_25 rfl (lv_at hl 4 rfl) ?_
  refine x_slen hx hb hX hbl hbA B.2.2.2.1 d_law_26 ?_
  refine x_bipush hx hb d_law_27 (by decide) ?_
  refine x_isub hx hb d_law_29 ?_
  refine x_icmp_gt (tgt := 962) hx hb d_law_30 (by decide) (by omega) (by omega) (fun h30 => ?_) (fun h30 => ?_)
  · refine x_iconst hx hb d_law_962 ?_
    subst hQ hR hav
    rw [show iI 1 = (1 : Int32) by decide]
    refine va_forget (fun q hq => by have h := B.2.2.2.1.2.2 q hq; rw [hAd] at h; exact h) ?_
    refine W.widen (k := 600002) (n := 7302231) (by omega) (by omega) ?_
    exact lw_ret hx hb hr hlocks d_law_963
  · refine lv_aload_n hx hb d_law_33 rfl (lv_at hl 4 rfl) ?_
    refine lv_iload hx hb d_law_34 (lv_at hl 0 rfl) ?_
    refine x_sld hx hb hX hbl hbA B.2.2.2.1 0 (by omega) (by omega) (by omega) d_law_36 ?_
    refine x_bipush hx hb d_law_37 (by decide) ?_
    refine x_and31 hx hb d_law_39 ?_
    obtain ⟨z, hz⟩ : ∃ z, z = (ys 0) % 32 := ⟨_, rfl⟩
    rw [← hz]
    have TAIL := fun H locs ls hS hl => law_tail (p := p) (l := l) (e := e) (s := s) (m := m) (below := below) (meth := meth) (c := c) (R := R) (av := av) (Q := Q) (b := b) (n := L) (ys := ys) (A := A) hx hb hr hlocks hQ hR hav hAd hX hbl hbA (by omega) H locs ls hS hl
    rcases (show z = 0 ∨ z = 1 ∨ z = 2 ∨ z = 3 ∨ z = 4 ∨ z = 5 ∨ z = 6 ∨ z = 7 ∨ z = 8 ∨ z = 9 ∨ z = 10 ∨ z = 11 ∨ z = 12 ∨ z = 13 ∨ z = 14 ∨ z = 15 ∨ z = 16 ∨ z = 17 ∨ z = 18 ∨ z = 19 ∨ 20 ≤ z by omega) with hk | hk | hk | hk | hk | hk | hk | hk | hk | hk | hk | hk | hk | hk | hk | hk | hk | hk | hk | hk | hk
    · rw [hk]
      refine lv_tableIn (tgt := 136) hx hb d_law_40 (by decide +kernel) (by decide +kernel) (off := 96) (by decide +kernel) (by decide) ?_
      exact law_case_0 hx hb hml hown hts hRf hRl hRc hRs hA hX hbl hbA hyr (by omega) hgc hF TAIL B (lv_sub hl [0, 1, 2, 3, 4] rfl)
    · rw [hk]
      refine lv_tableIn (tgt := 149) hx hb d_law_40 (by decide +kernel) (by decide +kernel) (off := 109) (by decide +kernel) (by decide) ?_
      exact law_case_1 hx hb hml hown hts hRf hRl hRc hRs hA hX hbl hbA hyr (by omega) hgc hF TAIL B (lv_sub hl [0, 1, 2, 3, 4] rfl)
    · rw [hk]
      refine lv_tableIn (tgt := 198) hx hb d_law_40 (by decide +kernel) (by decide +kernel) (off := 158) (by decide +kernel) (by decide) ?_
      exact law_case_2 hx hb hml hown hts hRf hRl hRc hRs hA hX hbl hbA hyr (by omega) hgc hF TAIL B (lv_sub hl [0, 1, 2, 3, 4] rfl)
    · rw [hk]
      refine lv_tableIn (tgt := 235) hx hb d_law_40 (by decide +kernel) (by decide +kernel) (off := 195) (by decide +kernel) (by decide) ?_
      exact law_case_3 hx hb hml hown hts hRf hRl hRc hRs hA hX hbl hbA hyr (by omega) hgc hF TAIL B (lv_sub hl [0, 1, 2, 3, 4] rfl)
    · rw [hk]
      refine lv_tableIn (tgt := 284) hx hb d_law_40 (by decide +kernel) (by decide +kernel) (off := 244) (by decide +kernel) (by decide) ?_
      exact law_case_4 hx hb hml hown hts hRf hRl hRc hRs hA hX hbl hbA hyr (by omega) hgc hF TAIL B (lv_sub hl [0, 1, 2, 3, 4] rfl)
    · rw [hk]
      refine lv_tableIn (tgt := 309) hx hb d_law_40 (by decide +kernel) (by decide +kernel) (off := 269) (by decide +kernel) (by decide) ?_
      exact law_case_5 hx hb hml hown hts hRf hRl hRc hRs hA hX hbl hbA hyr (by omega) hgc hF TAIL B (lv_sub hl [0, 1, 2, 3, 4] rfl)
    · rw [hk]
      refine lv_tableIn (tgt := 334) hx hb d_law_40 (by decide +kernel) (by decide +kernel) (off := 294) (by decide +kernel) (by decide) ?_
      exact law_case_6 hx hb hml hown hts hRf hRl hRc hRs hA hX hbl hbA hyr (by omega) hgc hF TAIL B (lv_sub hl [0, 1, 2, 3, 4] rfl)
    · rw [hk]
      refine lv_tableIn (tgt := 371) hx hb d_law_40 (by decide +kernel) (by decide +kernel) (off := 331) (by decide +kernel) (by decide) ?_
      exact law_case_7 hx hb hml hown hts hRf hRl hRc hRs hA hX hbl hbA hyr (by omega) hgc hF TAIL B (lv_sub hl [0, 1, 2, 3, 4] rfl)
    · rw [hk]
      refine lv_tableIn (tgt := 421) hx hb d_law_40 (by decide +kernel) (by decide +kernel) (off := 381) (by decide +kernel) (by decide) ?_
      exact law_case_8 hx hb hml hown hts hRf hRl hRc hRs hA hX hbl hbA hyr (by omega) hgc hF TAIL B (lv_sub hl [0, 1, 2, 3, 4] rfl)
    · rw [hk]
      refine lv_tableIn (tgt := 471) hx hb d_law_40 (by decide +kernel) (by decide +kernel) (off := 431) (by decide +kernel) (by decide) ?_
      exact law_case_9 hx hb hml hown hts hRf hRl hRc hRs hA hX hbl hbA hyr (by omega) hgc hF TAIL B (lv_sub hl [0, 1, 2, 3, 4] rfl)
    · rw [hk]
      refine lv_tableIn (tgt := 520) hx hb d_law_40 (by decide +kernel) (by decide +kernel) (off := 480) (by decide +kernel) (by decide) ?_
      exact law_case_10 hx hb hml hown hts hRf hRl hRc hRs hA hX hbl hbA hyr (by omega) hgc hF TAIL B (lv_sub hl [0, 1, 2, 3, 4] rfl)
    · rw [hk]
      refine lv_tableIn (tgt := 581) hx hb d_law_40 (by decide +kernel) (by decide +kernel) (off := 541) (by decide +kernel) (by decide) ?_
      exact law_case_11 hx hb hml hown hts hRf hRl hRc hRs hA hX hbl hbA hyr (by omega) hgc hF TAIL B (lv_sub hl [0, 1, 2, 3, 4] rfl)
    · rw [hk]
      refine lv_tableIn (tgt := 618) hx hb d_law_40 (by decide +kernel) (by decide +kernel) (off := 578) (by decide +kernel) (by decide) ?_
      exact law_case_12 hx hb hml hown hts hRf hRl hRc hRs hA hX hbl hbA hyr (by omega) hgc hF TAIL B (lv_sub hl [0, 1, 2, 3, 4] rfl)
    · rw [hk]
      refine lv_tableIn (tgt := 691) hx hb d_law_40 (by decide +kernel) (by decide +kernel) (off := 651) (by decide +kernel) (by decide) ?_
      exact law_case_13 hx hb hml hown hts hRf hRl hRc hRs hA hX hbl hbA hyr (by omega) hgc hF TAIL B (lv_sub hl [0, 1, 2, 3, 4] rfl)
    · rw [hk]
      refine lv_tableIn (tgt := 740) hx hb d_law_40 (by decide +kernel) (by decide +kernel) (off := 700) (by decide +kernel) (by decide) ?_
      exact law_case_14 hx hb hml hown hts hRf hRl hRc hRs hA hX hbl hbA hyr (by omega) hgc hF TAIL B (lv_sub hl [0, 1, 2, 3, 4] rfl)
    · rw [hk]
      refine lv_tableIn (tgt := 765) hx hb d_law_40 (by decide +kernel) (by decide +kernel) (off := 725) (by decide +kernel) (by decide) ?_
      exact law_case_15 hx hb hml hown hts hRf hRl hRc hRs hA hX hbl hbA hyr (by omega) hgc hF TAIL B (lv_sub hl [0, 1, 2, 3, 4] rfl)
    · rw [hk]
      refine lv_tableIn (tgt := 814) hx hb d_law_40 (by decide +kernel) (by decide +kernel) (off := 774) (by decide +kernel) (by decide) ?_
      exact law_case_16 hx hb hml hown hts hRf hRl hRc hRs hA hX hbl hbA hyr (by omega) hgc hF TAIL B (lv_sub hl [0, 1, 2, 3, 4] rfl)
    · rw [hk]
      refine lv_tableIn (tgt := 905) hx hb d_law_40 (by decide +kernel) (by decide +kernel) (off := 865) (by decide +kernel) (by decide) ?_
      exact law_case_17 hx hb hml hown hts hRf hRl hRc hRs hA hX hbl hbA hyr (by omega) hgc hF TAIL B (lv_sub hl [0, 1, 2, 3, 4] rfl)
    · rw [hk]
      refine lv_tableIn (tgt := 930) hx hb d_law_40 (by decide +kernel) (by decide +kernel) (off := 890) (by decide +kernel) (by decide) ?_
      exact law_case_18 hx hb hml hown hts hRf hRl hRc hRs hA hX hbl hbA hyr (by omega) hgc hF TAIL B (lv_sub hl [0, 1, 2, 3, 4] rfl)
    · rw [hk]
      refine lv_tableIn (tgt := 943) hx hb d_law_40 (by decide +kernel) (by decide +kernel) (off := 903) (by decide +kernel) (by decide) ?_
      exact law_case_19 hx hb hml hown hts hRf hRl hRc hRs hA hX hbl hbA hyr (by omega) hgc hF TAIL B (lv_sub hl [0, 1, 2, 3, 4] rfl)
    · refine lv_tableOut (tgt := 956) hx hb d_law_40 (Or.inr (by rw [iI_toInt (by omega)]; omega)) (by decide) ?_
      exact TAIL _ _ _ B.2.2.2.1 (lv_sub hl [0, 4] rfl)
set_option maxHeartbeats 4000000 in
theorem lw_walk (l : Launch) (b : Addr) (xs : List Int32) : MetFree l x (headSpec (Jvm.Cond.code x code maxLocals ret :: tables_1) room_1) (lw_P b xs) (fun _ _ _ _ _ => True) lw_Q := by
  refine MetFree.of_bodyS (code := code) (maxLocals := maxLocals) (ret := ret) (by decide) ?_ ?_
  · intro args s m h hn
    obtain ⟨meth, c, h1, h2, h3, h4, h5, h6, -, -⟩ := Cond.code_spec hn (atoms_spec (ws := Jvm.Cond.code x code maxLocals ret :: tables_1) h _ List.mem_cons_self)
    exact ⟨meth, c, h1, h2, h3, h4, h5, h6⟩
  · intro p e s m args below meth c s₁ B hml0 hP _
    obtain ⟨rfl, hx, hbd, hgv⟩ := hP
    obtain ⟨scr, harrAt, hlist, hof, hsmall⟩ := hx
    obtain ⟨hcb, hkn, -, -⟩ := State.arrayAt?_spec harrAt
    have hown : s.vm.findClass R_law = some m.cls := findClass_of_methodNamed B.named
    have hts0 : ∀ c ∈ (Jvm.Cond.code x code maxLocals ret :: tables_1), c.before #[Value.ref b] s = true := atoms_spec (ws := Jvm.Cond.code x code maxLocals ret :: tables_1) B.pre
    have hts : ∀ w ∈ lw_tbl, w.before #[Value.ref b] s = true := k2_hts_sels lw_privs (fun w hw => hts0 w (List.mem_cons_of_mem _ hw)) lw_privs_ok
    have hml : c.maxLocals = 8 := B.maxLocals_eq (hts0 _ List.mem_cons_self)
    have X₀ : Stand p l e room_1 s m #[Value.ref b] below meth c s₁ [] 0 0 := Stand.of_body B
    have hh0 : s₁.heap = s.heap := by rw [B.state]; rfl
    have hsz : scr.slots.size = xs.length := by rw [← Array.length_toList, hlist, List.length_map]
    have hval : ∀ j : Nat, j < xs.length → scr.slots[j]? = some (.int (xs.getD j 0)) := fun j hj => by
      rw [← Array.getElem?_toList, hlist]
      simp [hj]
    have hbl : b < s.heap.size := (Array.getElem?_eq_some_iff.mp hcb).1
    have hX : va_X b xs.length (fun j => xs.getD j 0) s s.heap := ⟨scr, hcb, hof, hkn, hsz, hval⟩
    have K : W p l e room_1 s m #[Value.ref b] below meth c s₁.heap [] 0 0 (lw_Z below #[Value.ref b] s) (entryFrame m ([Value.ref b] : List Value).toArray 8) := by
      rw [hh0]
      exact whole_start l hbd ⟨B.exec, B.bytes, B.returns, hml, hown, hts, hX, hbl, B.notSynchronized, hgv⟩
    obtain ⟨t, a1, o, b1, b2, b3⟩ := K s₁ rfl X₀
    exact ⟨t, o, a1, b1, b2, b3⟩
theorem lw_pre_spec {args : Array Value} {s : State} (h : (Jvm.Cond.and given_1 narrow_1).before args s = true) (hr : rest_1_c.before args s = true) : ∃ (b : Addr) (xs : List Int32), lw_P b xs args s := by
  have hs := flat_of_before _ h
  have hq := flat_of_before _ hr
  have hc : (Cond.count 1).before args s = true := hs _ (by decide +kernel)
  have harr : (Cond.arrayOf (.arg 0) .int).before args s = true := hs _ (by decide +kernel)
  have hle : (Cond.le (.length (.arg 0)) (.int 6)).before args s = true := hs _ (by decide +kernel)
  have hlen : (Cond.isInt (.length (.arg 0))).before args s = true := hq _ (by decide +kernel)
  have hall : (Cond.all (.arg 0) (.isInt (.elem (.arg 0) (.index 0)))).before args s = true := hq _ (by decide +kernel)
  obtain ⟨b, xs, hb, hx⟩ := State.ints_of_pre rfl harr hlen hall
  have hsm : xs.length < 2 ^ 31 := hx.choose_spec.2.2.2
  have hev : (Term.length (.arg 0)).eval args s none [] s = some (.int xs.length.toInt32) := hx.length_eval hb
  have hv := Cond.le_ints hev (show (Term.int 6).eval args s none [] s = some (.int 6) from rfl)
  have hd : xs.length.toInt32 ≤ 6 := by
    simpa [Cond.before, Cond.holds, hv] using hle
  have hN : xs.length ≤ 6 := (Int32.ofNat_le_ofNat hsm (by decide)).mp (show Int32.ofNat xs.length ≤ Int32.ofNat 6 from hd)
  exact ⟨b, xs, Cond.one_arg hc (show args[0]? = some (.ref b) from hb), hx, hN, h⟩
theorem lw_comes (l : Launch) : Comes l x (Jvm.Cond.code x code maxLocals ret :: tables_1) room_1 (fun tb e args s => Calls_1 tb e args s ∧ rest_1 tb e args s ∧ Pre_1 tb e args s)
    (fun _ _ args s o t => lw_Q args s o t) := by
  intro p e ha hc hk s m args below hf hfit hheap happ hpre
  obtain ⟨b, xs, hP⟩ := lw_pre_spec hpre.2.2 hpre.2.1
  obtain ⟨k, o, h1, h2, h3, hQ⟩ := lw_walk l b xs p e ha hc hk s m args below hf ((Spec.applies_iff_loose hf).mp happ).1 hP trivial
  exact ⟨k, o, h1, h2, h3, hQ⟩
theorem lw_frame {s t : State} {o : Outcome} {args : Array Value} (h : Framed s o t [] 600002 7302231) :
    Framed s o t (fieldLocs frame_1_writes args s ++ arrayLocs frame_1_arrays args s ++ staticLocs frame_1_statics s) 600002 7302231 := h
theorem lw_limb (L : Cond) (hL : ∀ (args : Array Value) (s t : State), L.after args s (.returned (some (.int 1))) t = true) :
    ArmFor flags0 classFile x code maxLocals ret World_1 tables_1 room_1 Calls_1 rest_1 Pre_1
      (fun tb e a s o t => postC L tb e a s o t ∧ Framed s o t (fieldLocs frame_1_writes a s ++ arrayLocs frame_1_arrays a s ++ staticLocs frame_1_statics s) 600002 7302231) := by
  intro l _ _ _ p e ha hc hk s m args below hf hfit hheap happ hpre
  obtain ⟨k, o, h1, h2, h3, rfl, hF⟩ := lw_comes l p e ha hc hk s m args below hf hfit hheap happ hpre
  exact ⟨k, _, h1, h2, h3, hL args s _, lw_frame hF⟩
theorem i_vc : Claimed_1_1 ∧ Claimed_1_2 := ⟨lw_limb limb_1_1 (fun args s t => by simp [limb_1_1, Cond.after, Cond.holds, Cond.value]), lw_limb limb_1_2 (fun args s t => Cond.after_iff.mpr (by
  first | (rw [show limb_1_2 = Cond.eq .result (.int 1) from rfl, Cond.eq_ints (x := 1) (y := 1) rfl rfl]; simp; done) | (simp [limb_1_2, Cond.value, Term.eval]; done)))⟩
