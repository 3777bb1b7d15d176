set_option maxHeartbeats 40000000 in
set_option maxRecDepth 100000 in
theorem law_enter {p : Program} {e : Env} {s : State} {m : MethodId} {below : List Frame} {meth : Method} {c : Code} (l : Launch) {b L : Nat} {xs : Nat → Int32} (hL : L ≤ 3072) (C0 : lw_At p s m meth c b L xs) (K23 : ∀ (D : va_G) (cs : Nat → ClassId) (ys : Nat → Int) (Q : State → Prop) (R : Room) (av : Array Value) (A0 : Nat → Prop) (ad Qm M : Nat → Nat) (LL : List Nat) (f : Nat → va_E) (H : Heap) (locs : List Loc) (ls : Array Slot), Q = lw_Z below #[Value.ref b] s → R = room_1 → av = #[Value.ref b] → (∀ w ∈ gw, w.before av s = true) → (A0 = fun q => s.heap.size ≤ q) → va_X b L (ai ys) s s.heap → (∀ j, -2147483648 ≤ ys j ∧ ys j < 2147483648) → AdOk LL ad Qm → MdOk LL ad M → LI cs ad Qm M f → Wb D vwCl (TY cs) LL f A0 s H locs → lv_has ls 8 [(4, .int (iI ((0 : Nat) : Int))), (3, .ref (M 4)), (2, .ref (M 0)), (1, .ref (ad 0)), (0, .ref b)] → W p l e R s m av below meth c H locs 400 17000 Q (F0 m 23 ls [])) : W p l e room_1 s m #[Value.ref b] below meth c s.heap [] 0 0 (lw_Z below #[Value.ref b] s) (entryFrame m ([Value.ref b] : List Value).toArray 8) := by
  obtain ⟨hx, hb, hr, hml, hown, htsl, hX0, hbl, hlocks, hgv⟩ := id C0
  have hXw : Xw s := Xw.of htsl
  have hts9 := gw_of htsl
  obtain ⟨D, cs, hK⟩ := K_start hts9 hXw
  obtain ⟨ys, hys, hyr⟩ : ∃ ys : Nat → Int, xs = ai ys ∧ ∀ j, -2147483648 ≤ ys j ∧ ys j < 2147483648 := ⟨fun j => (xs j).toInt, funext fun j => (iI_of (xs j)).symm, fun j => ⟨by have h := (xs j).le_toInt; show -2147483648 ≤ (xs j).toInt; omega, by have h := (xs j).toInt_lt; show (xs j).toInt < 2147483648; omega⟩⟩
  rw [hys] at hX0
  have hX := hX0
  have hl := lv_entry ([.ref b]) (n := 8) (Nat.le_of_ble_eq_true rfl)
  rw [lg_entry_eq]
  generalize (lg_sl ([.ref b]) ++ List.replicate (8 - (lg_sl ([.ref b])).length) Slot.unset).toArray = ls at hl ⊢
  have hl : lv_has ls 8 [(0, .ref b)] := hl
  refine absQ (fun Q R av hQ hR hav => ?_)
  have hts : ∀ w ∈ gw, w.before av s = true := by rw [hav]; exact hts9
  have hRf : R.frames = 14 := by rw [hR]; rfl
  have hRl : R.locals = 594 := by rw [hR]; rfl
  have hRc : R.cells = 601024 := by rw [hR]; rfl
  have hRs : R.slots = 7293034 := by rw [hR]; rfl
  obtain ⟨A, hAd⟩ : ∃ A : Nat → Prop, A = fun q => s.heap.size ≤ q := ⟨_, rfl⟩
  have hA : ∀ q, s.heap.size ≤ q → A q := by rw [hAd]; exact fun _ h => h
  have B : Wb D vwCl (TY cs) [] (mw (fun _ => .inr (0, [])) []) A s s.heap [] := ⟨fun k q h => by simp [va_pl] at h, hK, ⟨fun i j p q h => by simp [va_pl] at h, fun k q h => by simp [va_pl] at h⟩, va_S.rf, hXw⟩
  have hF : Fc [] (([] : List (Nat × va_E)).map Prod.fst) := ⟨List.nodup_nil, fun x h => by cases h⟩
  refine x_new (ci := 6) (fs := [.null, .int (iI 0), .null, .null, .null, .null, .null, .null, .null, .null, .null, .null, .int (iI 0), .int (iI 0)]) (C := RX6) (T := TX6) (N := 14) hx hb hts inX6 tyX6 tyX6_ok hown (hts _ w_15) (hts _ w_16) (hts _ w_1) B hF hA rfl (fun j hj => by rcases (show j = 0 ∨ j = 1 ∨ j = 2 ∨ j = 3 ∨ j = 4 ∨ j = 5 ∨ j = 6 ∨ j = 7 ∨ j = 8 ∨ j = 9 ∨ j = 10 ∨ j = 11 ∨ j = 12 ∨ j = 13 by omega) with rfl | rfl | rfl | rfl | rfl | rfl | rfl | rfl | rfl | rfl | rfl | rfl | rfl | rfl <;> rfl) (by rw [hRc]; omega) (by rw [hRs]; omega) d_law_0 (fun x H hn_x hF B => ?_)
  have B : Wb D vwCl (TY cs) ([] ++ [x]) (mw (fun _ => .inr (0, [])) [(x, .inr (6, [.null, .int (iI 0), .null, .null, .null, .null, .null, .null, .null, .null, .null, .null, .int (iI 0), .int (iI 0)]))]) A s H _ := B
  have hF : Fc ([] ++ [x]) [x] := hF
  refine lv_dup hx hb d_law_3 rfl ?_
  refine x_callvG B hA (va_runI (As := []) (rest := [.ref x]) ⟨hx, hb, hml, hown, hts⟩ (c_RR_init l D cs _ _ H.size x 0 0 0 hF.hd (mw_get (X := [(x, .inr (6, [.null, .int (iI 0), .null, .null, .null, .null, .null, .null, .null, .null, .null, .null, .int (iI 0), .int (iI 0)]))]) hF.1 (k := 0) rfl)) (cwI 0 hts (gw_cons w_19) rfl rfl rfl (hts _ w_1) (hts _ w_17) (hts _ w_18) rfl (by decide +kernel) ⟨by rw [hRf]; exact Nat.le_of_ble_eq_true rfl, by rw [hRl]; exact Nat.le_of_ble_eq_true rfl⟩) ⟨K0.blind, B.pre _⟩ rfl rfl hl.1 rfl (lv_room (Nat.le_of_ble_eq_true rfl)) d_law_4 ⟨by rw [hRc]; omega, by rw [hRs]; omega⟩) (fun u H locs hw B => ?_)
  obtain ⟨L4, g4⟩ := u
  have hw : ∃ b, L4 = [] ++ [x] ++ b ∧ RRAt cs g4 x b ∧ ∀ r ∈ [] ++ [x], r ≠ x → g4 r = mw (fun _ => .inr (0, [])) [(x, .inr (6, [.null, .int (iI 0), .null, .null, .null, .null, .null, .null, .null, .null, .null, .null, .int (iI 0), .int (iI 0)]))] r := hw
  obtain ⟨b4, hL4, hAt4, -⟩ := hw
  have hL4 : L4 = x :: b4 := hL4
  have B : Wb D vwCl (TY cs) L4 (mw g4 []) A s H locs := B
  have hF : Fc L4 (([] : List (Nat × va_E)).map Prod.fst) := ⟨List.nodup_nil, fun x h => by cases h⟩
  refine lv_astore_n (lv' := [(1, .ref x), (0, .ref b)]) hx hb d_law_7 rfl hl (by decide) rfl (fun ls hl => ?_)
  refine x_new (ci := 7) (fs := [.int (iI 0), .null, .null, .null, .int (iI 0), .null, .null, .null, .null, .null, .null, .null, .null, .null, .int (iI 0), .null, .long (lI 0), .long (lI 0)]) (C := RX7) (T := TX7) (N := 18) hx hb hts inX7 tyX7 tyX7_ok hown (hts _ w_671) (hts _ w_672) (hts _ w_8) B hF hA rfl (fun j hj => by rcases (show j = 0 ∨ j = 1 ∨ j = 2 ∨ j = 3 ∨ j = 4 ∨ j = 5 ∨ j = 6 ∨ j = 7 ∨ j = 8 ∨ j = 9 ∨ j = 10 ∨ j = 11 ∨ j = 12 ∨ j = 13 ∨ j = 14 ∨ j = 15 ∨ j = 16 ∨ j = 17 by omega) with rfl | rfl | rfl | rfl | rfl | rfl | rfl | rfl | rfl | rfl | rfl | rfl | rfl | rfl | rfl | rfl | rfl | rfl <;> rfl) (by rw [hRc]; omega) (by rw [hRs]; omega) d_law_8 (fun y H hn_y hF B => ?_)
  have B : Wb D vwCl (TY cs) (L4 ++ [y]) (mw g4 [(y, .inr (7, [.int (iI 0), .null, .null, .null, .int (iI 0), .null, .null, .null, .null, .null, .null, .null, .null, .null, .int (iI 0), .null, .long (lI 0), .long (lI 0)]))]) A s H _ := B
  have hF : Fc (L4 ++ [y]) [y] := hF
  refine lv_dup hx hb d_law_11 rfl ?_
  refine x_callvG B hA (va_runI (As := []) (rest := [.ref y]) ⟨hx, hb, hml, hown, hts⟩ (c_Mo_init l D cs _ _ H.size y 0 0 0 0 0 hF.hd (mw_get (X := [(y, .inr (7, [.int (iI 0), .null, .null, .null, .int (iI 0), .null, .null, .null, .null, .null, .null, .null, .null, .null, .int (iI 0), .null, .long (lI 0), .long (lI 0)]))]) hF.1 (k := 0) rfl)) (cwI 0 hts (gw_cons w_675) rfl rfl rfl (hts _ w_8) (hts _ w_673) (hts _ w_674) rfl (by decide +kernel) ⟨by rw [hRf]; exact Nat.le_of_ble_eq_true rfl, by rw [hRl]; exact Nat.le_of_ble_eq_true rfl⟩) ⟨K0.blind, B.pre _⟩ rfl rfl hl.1 rfl (lv_room (Nat.le_of_ble_eq_true rfl)) d_law_12 ⟨by rw [hRc]; omega, by rw [hRs]; omega⟩) (fun u H locs hw B => ?_)
  obtain ⟨L12, g12⟩ := u
  have hw : ∃ b, L12 = L4 ++ [y] ++ b ∧ MoAt cs g12 y 0 0 0 0 0 b ∧ ∀ r ∈ L4 ++ [y], r ≠ y → g12 r = mw g4 [(y, .inr (7, [.int (iI 0), .null, .null, .null, .int (iI 0), .null, .null, .null, .null, .null, .null, .null, .null, .null, .int (iI 0), .null, .long (lI 0), .long (lI 0)]))] r := hw
  obtain ⟨b12, hL12, hAt12, hfr12⟩ := hw
  have B : Wb D vwCl (TY cs) L12 (mw g12 []) A s H locs := B
  have hnd12 := B.nodup
  have hfr4 : ∀ r ∈ x :: b4, g12 r = g4 r := fun r hr => by
    have hr4 : r ∈ L4 := by rw [hL4]; exact hr
    have hne : r ≠ y := fun e => by rw [hL12, List.nodup_append, List.nodup_append] at hnd12; exact hnd12.1.2.2 r hr4 y (by simp) e
    exact (hfr12 r (List.mem_append_left _ hr4) hne).trans (mw_out (by simp only [List.map_cons, List.map_nil, List.mem_cons, List.not_mem_nil, or_false]; exact hne))
  have hF : Fc L12 (([] : List (Nat × va_E)).map Prod.fst) := ⟨List.nodup_nil, fun x h => by cases h⟩
  refine lv_astore_n (lv' := [(2, .ref y), (1, .ref x), (0, .ref b)]) hx hb d_law_15 rfl hl (by decide) rfl (fun ls hl => ?_)
  refine x_iconst hx hb d_law_16 ?_
  refine x_newal hx hb (hts _ w_175) B hF hA 1 rfl 1 rfl (by decide) (by rw [hRc]; omega) (by rw [hRs]; omega) d_law_17 (fun o H ho hF B => ?_)
  have B : Wb D vwCl (TY cs) (L12 ++ [o]) (mw g12 [(o, .inl (cs 1, 1, .inr (.inl (al (fun _ => 0)))))]) A s H _ := B
  have hF : Fc (L12 ++ [o]) [o] := hF
  refine lv_astore_n (lv' := [(3, .ref o), (2, .ref y), (1, .ref x), (0, .ref b)]) hx hb d_law_19 rfl hl (by decide) rfl (fun ls hl => ?_)
  refine x_iconst hx hb d_law_20 ?_
  refine lv_istore (lv' := [(4, .int (iI 0)), (3, .ref o), (2, .ref y), (1, .ref x), (0, .ref b)]) hx hb d_law_21 hl (by decide) rfl (fun ls hl => ?_)
  have hnd9 := B.nodup
  obtain ⟨f9, hf9⟩ : ∃ f9, f9 = mw g12 [(o, .inl (cs 1, 1, .inr (.inl (al (fun _ => 0)))))] := ⟨_, rfl⟩
  rw [← hf9] at B
  have hL9 : L12 ++ [o] = (x :: b4) ++ (y :: b12 ++ [o]) := by rw [hL12, hL4]; simp
  obtain ⟨ad, Qm, M, hAdo, hMdo, q0, q1, q2, hLI⟩ := law_first hAt4 hAt12 hL9 hnd9 hfr4 hf9
  refine W.widen (k := 400) (n := 17000) (by decide) (by decide) ?_
  exact K23 D cs ys Q R av A ad Qm M (L12 ++ [o]) f9 _ _ _ hQ hR hav hts hAd hX hyr hAdo hMdo hLI B (by rw [q0, q1, q2]; exact lv_sub hl [0, 1, 2, 3, 4] rfl)
