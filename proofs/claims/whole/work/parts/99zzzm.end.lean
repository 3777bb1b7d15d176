set_option maxHeartbeats 8000000 in
set_option maxRecDepth 100000 in
theorem law_thr {p : Program} {l : Launch} {e : Env} {s : State} {m : MethodId} {below : List Frame} {meth : Method} {c : Code} {R : Room} {av : Array Value} {Q : State → Prop} {ad Qm M : Nat → Nat} {b : Nat} {A0 : Nat → Prop} {D : va_G} {cs : Nat → ClassId} {LL : List Nat} (htr : l.stackTraces = false) (hTh : ThS s) (hx : p.tables.exec = Jvm.exec) (hb : c.code = code) (hml : c.maxLocals = 8) (hown : s.vm.findClass R_law = some m.cls) (hts : ∀ w ∈ gw, w.before av s = true) (hR : R = room_1) (hAz : A0 = fun q => s.heap.size ≤ q) (hAd : AdOk LL ad Qm) : ∀ (ii CC SS : Nat), CC ≤ 600000 → SS ≤ 7000000 → ∀ (f : Nat → va_E) (H : Heap) (locs : List Loc) (ls : Array Slot) (I : Nat → Int) (A : Nat → Nat → Int) (Rf : Nat → Nat) (Zf : Nat → Int) (p0 : Nat) (a2 a3 a4 : Int) (ov : Nat → Int), CSt cs ad Qm f I A Rf Zf → Inv I A → (p0 : Int) < I 0 → (-2147483648 ≤ a2 ∧ a2 < 2147483648) → (-2147483648 ≤ a3 ∧ a3 < 2147483648) → (-2147483648 ≤ a4 ∧ a4 < 2147483648) → (((-1000000 ≤ a2 ∧ a2 ≤ 1000000) ∧ 1 ≤ a3 ∧ a3 ≤ 1000000) ∧ 0 ≤ a4 ∧ a4 ≤ 1) → sg (es (dva (A (20 + p0))) 6 ((a2 : Rat) / (a3 : Rat))) = 0 → f (M 4) = .inl (cs 1, 1, .inr (.inl (al ov))) → Wb D vwCl (TY cs) LL f A0 s H locs → lv_has ls 8 [(4, .int (iI (ii : Int))), (3, .ref (M 4)), (2, .ref (M 0)), (1, .ref (ad 0)), (0, .ref b)] → (∀ (g : Nat → va_E) (H : Heap) (locs : List Loc) (I' : Nat → Int) (A' : Nat → Nat → Int) (R' : Nat → Nat) (Z' : Nat → Int), CSt cs ad Qm g I' A' R' Z' → (∀ k, Awy ad k → g k = f k) → Inv I' A' → SameV I A I' A' → Wb D vwCl (TY cs) LL g A0 s H locs → W p l e R s m av below meth c H locs (CC + 1) (SS + 6) Q (F0 m 843 ls [.int (iI 1)])) → W p l e R s m av below meth c H locs CC SS Q (F0 m 840 ls [.ref (M 4), .int (iI a4), .int (iI a3), .int (iI a2), .int (iI (p0 : Int)), .ref (ad 0)]) := by
  have hRf : R.frames = 14 := by rw [hR]; rfl
  have hRl : R.locals = 594 := by rw [hR]; rfl
  have hRc : R.cells = 601024 := by rw [hR]; rfl
  have hRs : R.slots = 7293034 := by rw [hR]; rfl
  have hA : ∀ q, s.heap.size ≤ q → A0 q := by rw [hAz]; exact fun _ h => h
  have hSt : ∀ (a : Nat) (c : Jvm.Cell), s.heap[a]? = some c → c.vm.isStatics = true → ¬ A0 a := by
    intro a c h1 _ h2
    rw [hAz] at h2
    have h3 := (Array.getElem?_eq_some_iff.mp h1).1
    have h2 : s.heap.size ≤ a := h2
    omega
  intro ii CC SS hCC hSS f H locs ls I A Rf Zf p0 a2 a3 a4 ov hC hInv hp0 h2 h3 h4 hin hS0 hov B hl kk
  refine x_calli B hA (x_runSW (n := 6) (As := [.ref (ad 0), .int (iI (p0 : Int)), .int (iI a2), .int (iI a3), .int (iI a4), .ref (M 4)]) (rest := []) ⟨hx, hb, hml, hown, hts⟩ (c_law_newton_x l D cs _ _ _ ad Qm I A Rf Zf p0 (M 4) a2 a3 a4 hAd hC htr hInv hp0 h2 h3 h4 hin hS0) (gw_cons w_575) List.mem_cons_self rfl rfl ⟨by rw [hRf]; exact Nat.le_of_ble_eq_true rfl, by rw [hRl]; exact Nat.le_of_ble_eq_true rfl⟩ (hts _ w_573) (hts _ w_574) (hts _ w_0) (by decide +kernel) ⟨fun a U g mk h => ⟨K0.blind a U g mk h.1, h.2.calling g mk a⟩, fun U hU hW => ⟨B.pre _ U hU hW, hTh.wb hSt B.2.2.2.1 hU hW⟩⟩ rfl rfl hl.1 rfl (lv_room (Nat.le_of_ble_eq_true rfl)) d_law_840 ⟨by rw [hRc]; omega, by rw [hRs]; omega⟩) (fun r840 g840 H locs hw B => ?_)
  obtain ⟨rfl, I1, A1, R1, Z1, hC1, hq, hInv1, hsv⟩ := hw
  exact kk g840 H locs I1 A1 R1 Z1 hC1 hq hInv1 hsv B
theorem ThS.start {p : Program} {s : State} {m : MethodId} {meth : Method} {c : Code} {b L : Nat} {xs : Nat → Int32} (C0 : lw_At p s m meth c b L xs) : ThS s := by
  obtain ⟨-, -, -, -, -, htsl, -, -, -, hgv⟩ := C0
  have hs := flat_of_before _ hgv
  refine ⟨ThS1.of (args := #[Value.ref b]) (hs _ (by decide +kernel)) (htsl _ (by decide +kernel)), ThS1.of (args := #[Value.ref b]) (hs _ (by decide +kernel)) (htsl _ (by decide +kernel)), fun w hw => ?_, htsl ThR (by decide +kernel)⟩
  have h1 : w.onTables = true ∧ w.keepsFace = true ∧ w ∈ lw_tbl := by
    simp only [ThW, List.mem_cons, List.not_mem_nil, or_false] at hw
    rcases hw with rfl | rfl | rfl | rfl <;> exact ⟨rfl, rfl, by decide +kernel⟩
  exact face_at (State.WarmedH.refl s) h1.1 h1.2.1 (htsl _ h1.2.2)
theorem fl_off {l : Launch} (h : l.flags = flags0) : l.stackTraces = false := by
  unfold Launch.stackTraces
  rw [h]
  decide +kernel
set_option maxHeartbeats 4000000 in
theorem whole_start {p : Program} {e : Env} {s : State} {m : MethodId} {below : List Frame} {meth : Method} {c : Code} (l : Launch) (hfl : l.flags = flags0) {b L : Nat} {xs : Nat → Int32} (hL : L ≤ 3072) (C0 : lw_At p s m meth c b L xs) : W p l e room_1 s m #[Value.ref b] below meth c s.heap [] 0 0 (lw_Z below #[Value.ref b] s) (entryFrame m ([Value.ref b] : List Value).toArray 8) := by
  have hTh := ThS.start C0
  obtain ⟨hx, hb, hr, hml, hown, htsl, hX0, hbl, hlocks, hgv⟩ := id C0
  refine law_enter l hL C0 (fun D cs ys Q R av A0 ad Qm M LL f H locs ls hQ hR hav hts hAz hX hyr hAd hMd hLI B hl => ?_)
  have hA : ∀ q, s.heap.size ≤ q → A0 q := by rw [hAz]; exact fun _ h => h
  have hbA : ¬ A0 b := by
    rw [hAz]
    intro h
    have h : s.heap.size ≤ b := h
    omega
  exact law_loop hx hb hr hlocks hml hown hts hQ hR hav hAz hA hX hbl hbA hyr hL hAd hMd (law_thr (fl_off hfl) hTh hx hb hml hown hts hR hAz hAd) (L + 1) 0 400 17000 f H locs ls (by omega) (by omega) (by omega) (by omega) hLI B hl
set_option maxHeartbeats 4000000 in
theorem lw_walk (l : Launch) (hfl : l.flags = flags0) (b : Addr) (xs : List Int32) : MetFree l x (headSpec (Jvm.Cond.code x code maxLocals ret :: tables_1) room_1) (lw_P b xs) (fun _ _ _ _ _ => True) lw_Q := by
  refine MetFree.of_bodyS (code := code) (maxLocals := maxLocals) (ret := ret) (by decide) ?_ ?_
  · intro args s m h hn
    obtain ⟨meth, c, h1, h2, h3, h4, h5, h6, -, -⟩ := Cond.code_spec hn (atoms_spec (ws := Jvm.Cond.code x code maxLocals ret :: tables_1) h _ List.mem_cons_self)
    exact ⟨meth, c, h1, h2, h3, h4, h5, h6⟩
  · intro p e s m args below meth c s₁ B hml0 hP _
    obtain ⟨rfl, hx, hbd, hgv⟩ := hP
    obtain ⟨scr, harrAt, hlist, hof, hsmall⟩ := hx
    obtain ⟨hcb, hkn, -, -⟩ := State.arrayAt?_spec harrAt
    have hown : s.vm.findClass R_law = some m.cls := findClass_of_methodNamed B.named
    have hts0 : ∀ c ∈ (Jvm.Cond.code x code maxLocals ret :: tables_1), c.before #[Value.ref b] s = true := atoms_spec (ws := Jvm.Cond.code x code maxLocals ret :: tables_1) B.pre
    have hts : ∀ w ∈ lw_tbl, w.before #[Value.ref b] s = true := k2_hts_sels lw_privs (fun w hw => hts0 w (List.mem_cons_of_mem _ hw)) lw_privs_ok
    have hml : c.maxLocals = 8 := B.maxLocals_eq (hts0 _ List.mem_cons_self)
    have X₀ : Stand p l e room_1 s m #[Value.ref b] below meth c s₁ [] 0 0 := Stand.of_body B
    have hh0 : s₁.heap = s.heap := by rw [B.state]; rfl
    have hsz : scr.slots.size = xs.length := by rw [← Array.length_toList, hlist, List.length_map]
    have hval : ∀ j : Nat, j < xs.length → scr.slots[j]? = some (.int (xs.getD j 0)) := fun j hj => by
      rw [← Array.getElem?_toList, hlist]
      simp [hj]
    have hbl : b < s.heap.size := (Array.getElem?_eq_some_iff.mp hcb).1
    have hX : va_X b xs.length (fun j => xs.getD j 0) s s.heap := ⟨scr, hcb, hof, hkn, hsz, hval⟩
    have K : W p l e room_1 s m #[Value.ref b] below meth c s₁.heap [] 0 0 (lw_Z below #[Value.ref b] s) (entryFrame m ([Value.ref b] : List Value).toArray 8) := by
      rw [hh0]
      exact whole_start l hfl hbd ⟨B.exec, B.bytes, B.returns, hml, hown, hts, hX, hbl, B.notSynchronized, hgv⟩
    obtain ⟨t, a1, o, b1, b2, b3⟩ := K s₁ rfl X₀
    exact ⟨t, o, a1, b1, b2, b3⟩
theorem lw_pre_spec {args : Array Value} {s : State} (h : (Jvm.Cond.and given_1 narrow_1).before args s = true) (hr : rest_1_c.before args s = true) : ∃ (b : Addr) (xs : List Int32), lw_P b xs args s := by
  have hs := flat_of_before _ h
  have hq := flat_of_before _ hr
  have hc : (Cond.count 1).before args s = true := hs _ (by decide +kernel)
  have harr : (Cond.arrayOf (.arg 0) .int).before args s = true := hs _ (by decide +kernel)
  have hle : (Cond.le (.length (.arg 0)) (.int 3072)).before args s = true := hs _ (by decide +kernel)
  have hlen : (Cond.isInt (.length (.arg 0))).before args s = true := hq _ (by decide +kernel)
  have hall : (Cond.all (.arg 0) (.isInt (.elem (.arg 0) (.index 0)))).before args s = true := hq _ (by decide +kernel)
  obtain ⟨b, xs, hb, hx⟩ := State.ints_of_pre rfl harr hlen hall
  have hsm : xs.length < 2 ^ 31 := hx.choose_spec.2.2.2
  have hev : (Term.length (.arg 0)).eval args s none [] s = some (.int xs.length.toInt32) := hx.length_eval hb
  have hv := Cond.le_ints hev (show (Term.int 3072).eval args s none [] s = some (.int 3072) from rfl)
  have hd : xs.length.toInt32 ≤ 3072 := by
    simpa [Cond.before, Cond.holds, hv] using hle
  have hN : xs.length ≤ 3072 := (Int32.ofNat_le_ofNat hsm (by decide)).mp (show Int32.ofNat xs.length ≤ Int32.ofNat 3072 from hd)
  exact ⟨b, xs, Cond.one_arg hc (show args[0]? = some (.ref b) from hb), hx, hN, h⟩
theorem lw_comes (l : Launch) (hfl : l.flags = flags0) : Comes l x (Jvm.Cond.code x code maxLocals ret :: tables_1) room_1 (fun tb e args s => Calls_1 tb e args s ∧ rest_1 tb e args s ∧ Pre_1 tb e args s)
    (fun _ _ args s o t => lw_Q args s o t) := by
  intro p e ha hc hk s m args below hf hfit hheap happ hpre
  obtain ⟨b, xs, hP⟩ := lw_pre_spec hpre.2.2 hpre.2.1
  obtain ⟨k, o, h1, h2, h3, hQ⟩ := lw_walk l hfl b xs p e ha hc hk s m args below hf ((Spec.applies_iff_loose hf).mp happ).1 hP trivial
  exact ⟨k, o, h1, h2, h3, hQ⟩
theorem lw_frame {s t : State} {o : Outcome} {args : Array Value} (h : Framed s o t [] 601024 7293034) :
    Framed s o t (fieldLocs frame_1_writes args s ++ arrayLocs frame_1_arrays args s ++ staticLocs frame_1_statics s) 601024 7293034 := h
theorem lw_limb (L : Cond) (hL : ∀ (args : Array Value) (s t : State), L.after args s (.returned (some (.int 1))) t = true) :
    ArmFor flags0 classFile x code maxLocals ret World_1 tables_1 room_1 Calls_1 rest_1 Pre_1
      (fun tb e a s o t => postC L tb e a s o t ∧ Framed s o t (fieldLocs frame_1_writes a s ++ arrayLocs frame_1_arrays a s ++ staticLocs frame_1_statics s) 601024 7293034) := by
  intro l hfl _ _ p e ha hc hk s m args below hf hfit hheap happ hpre
  obtain ⟨k, o, h1, h2, h3, rfl, hF⟩ := lw_comes l hfl p e ha hc hk s m args below hf hfit hheap happ hpre
  exact ⟨k, _, h1, h2, h3, hL args s _, lw_frame hF⟩
theorem i_vc : Claimed_1_1 ∧ Claimed_1_2 := ⟨lw_limb limb_1_1 (fun args s t => by simp [limb_1_1, Cond.after, Cond.holds, Cond.value]), lw_limb limb_1_2 (fun args s t => Cond.after_iff.mpr (by
  first | (rw [show limb_1_2 = Cond.eq .result (.int 1) from rfl, Cond.eq_ints (x := 1) (y := 1) rfl rfl]; simp; done) | (simp [limb_1_2, Cond.value, Term.eval]; done)))⟩
