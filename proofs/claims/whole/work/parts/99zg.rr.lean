theorem dl_neg (a b : Rat) {k : Rat} (hk : k ≠ 0) : dl (sg (k * a)) (sg (k * b)) = dl (sg a) (sg b) := by
  rw [sg_mul, sg_mul]
  have hs : sg k = 1 ∨ sg k = -1 := by
    rcases sg_mem k with h | h | h
    · exact Or.inl h
    · exact absurd (sg_eq0 h) hk
    · exact Or.inr h
  rcases hs with h | h <;> rw [h] <;> rcases sg_mem a with h1 | h1 | h1 <;> rcases sg_mem b with h2 | h2 | h2 <;> rw [h1, h2] <;> decide
theorem Sqf.scl {F : Nat → Int} {k : Int} (hk : k ≠ 0) (h : Sqf F) : Sqf (fun j => k * F j) := by
  obtain ⟨⟨j, hj, hn⟩, u, w, e⟩ := h
  have hk' : (k : Rat) ≠ 0 := fun h0 => hk (by exact_mod_cast h0)
  have hkk : (k : Rat)⁻¹ * (k : Rat) = 1 := Rat.inv_mul_cancel _ hk'
  refine ⟨⟨j, hj, Int.mul_ne_zero hk hn⟩, psc (k : Rat)⁻¹ u, psc (k : Rat)⁻¹ w, fun x => ?_⟩
  have e1 := e x
  have e2 : es (dva (fun j => k * F j)) 6 x = (k : Rat) * es (dva F) 6 x := by
    rw [← es_sc]
    exact es_congr (fun j hj => by unfold dva; split; grind; simp) x
  rw [ev_sc, ev_sc, ← es_ev, ← es_ev, es_sc, e2]
  rw [← es_ev, ← es_ev] at e1
  grind
theorem NB.scl {F : Nat → Int} {k : Int} {N N' : Rat → Int} (hk : k ≠ 0) (hF : Sqf F) (hN : NB F N) (hN' : NB (fun j => k * F j) N') {x y : Rat} (hxy : x ≤ y) : N' y - N' x = N y - N x := by
  rcases Rat.le_iff_lt_or_eq.mp hxy with hlt | rfl
  · have hk' : (k : Rat) ≠ 0 := fun h0 => hk (by exact_mod_cast h0)
    obtain ⟨R, hR, hx, hy⟩ := rng_max x y
    have c1 := hN'.cnt (hF.scl hk) hR
    have c2 : Cnt R (es (fun j => k * F j) 6) (fun x => -N x) := by
      obtain ⟨d, hd, h⟩ := hN.cnt hF hR
      refine ⟨d, hd, fun a b ha hb h1 h2 => ?_⟩
      have h3 : -N a = -N b + dl (sg (es F 6 a)) (sg (es F 6 b)) := h a b ha hb h1 h2
      show -N a = -N b + dl (sg (es (fun j => k * F j) 6 a)) (sg (es (fun j => k * F j) 6 b))
      rw [es_sc, es_sc, dl_neg _ _ hk']
      exact h3
    have h4 : (-N' x) - (-N' y) = -N x - -N y := Cnt.uniq c1 c2 x y hx hy hlt
    omega
  · omega
/-- jumps of a part, up to a whole number -/
theorem jump_k {F g h : Nat → Int} {k : Int} {N M : Rat → Int} (hF : Sqf F) (hk : k ≠ 0) (e : ∀ x, (k : Rat) * es F 6 x = es h 6 x * es g 6 x) (hN : NB F N) (hM : NB g M) : Sqf g ∧ ∀ x a b y, x ≤ a → a ≤ b → b ≤ y → N y - N x = 1 → N b - N a = 1 → M y - M x = M b - M a ∧ 0 ≤ M b - M a ∧ M b - M a ≤ 1 := by
  have hF' := hF.scl hk
  have e' : ∀ x, es (fun j => k * F j) 6 x = es h 6 x * es g 6 x := fun x => by rw [es_sc]; exact e x
  obtain ⟨q1, q2, _⟩ := hF'.parts e'
  obtain ⟨N', hN'⟩ := NB.ex hF'.1
  obtain ⟨K, hK⟩ := NB.ex q2.1
  refine ⟨q1, fun x a b y h1 h2 h3 hj hk2 => ?_⟩
  have s1 := NB.scl hk hF hN hN' (Rat.le_trans h1 (Rat.le_trans h2 h3))
  have s2 := NB.scl hk hF hN hN' h2
  exact jump_sub hF' e' hN' hM hK h1 h2 h3 (by omega) (by omega)
/-- the signs at both ends of a cell with one root tell whether it is the part's -/
theorem van_from {g : Nat → Int} {M : Rat → Int} (hg : Sqf g) (hM : NB g M) {x y : Rat} (hxy : x < y) (h : 0 ≤ M y - M x ∧ M y - M x ≤ 1) (h0 : sg (es g 6 x) = 0) : M y - M x = 1 := by
  have := hM.zero hg hxy (sg_eq0 h0)
  omega
theorem van_to {g : Nat → Int} {M : Rat → Int} (hg : Sqf g) (hM : NB g M) {x y : Rat} (hxy : x < y) (h : 0 ≤ M y - M x ∧ M y - M x ≤ 1) (h0 : sg (es g 6 x) ≠ 0) (h1 : sg (es g 6 y) ≠ 0) : (sg (es g 6 x) ≠ sg (es g 6 y) → M y - M x = 1) ∧ (sg (es g 6 x) = sg (es g 6 y) → M y - M x = 0) := by
  have hp := hM.par hg hxy h0 h1
  refine ⟨fun hn => ?_, fun he => ?_⟩
  · refine Classical.byContradiction (fun h2 => hn (hp.mpr ?_))
    omega
  · have := hp.mp he
    omega
theorem van_end {p1 F g h : Nat → Int} {k : Int} {N : Rat → Int} {i v : Int} {b : Nat} (hP : Part p1 F) (hk : k ≠ 0) (e : ∀ x, (k : Rat) * es F 6 x = es h 6 x * es g 6 x) (hN : NB F N) (hi : Iso N i v b) (hb : 248 ≤ b) : sg (es g 6 (Pt (v + 1) b)) ≠ 0 := fun h0 => by
  have h1 := (cell_one hP hN hb (v := v) (by have e1 := hi.2.1; have e2 := hi.2.2; omega)).2
  have h2 := e (Pt (v + 1) b)
  rw [sg_eq0 h0] at h2
  have hk' : (k : Rat) ≠ 0 := fun h0 => hk (by exact_mod_cast h0)
  have hkk : (k : Rat)⁻¹ * (k : Rat) = 1 := Rat.inv_mul_cancel _ hk'
  refine h1 ?_
  have : es F 6 (Pt (v + 1) b) = (k : Rat)⁻¹ * ((k : Rat) * es F 6 (Pt (v + 1) b)) := by grind
  rw [this, h2]; grind
theorem rg_le {v T : Int} (h : -T ≤ v ∧ v < T) : (-T ≤ v ∧ v ≤ T) ∧ -T ≤ v + 1 ∧ v + 1 ≤ T := by omega
theorem Crv.scr {I I' : Nat → Int} {A A' : Nat → Nat → Int} {p nm : Nat} {N : Rat → Int} {dp : Nat → Nat} {v : Nat → Int} (h : Crv I A p nm N dp v) (hp : p < 12) (hI : ∀ i, i ≠ 6 → I' i = I i) (hA : ∀ q, A' q = A q) : Crv I' A' p nm N dp v := by
  obtain ⟨g1, g2, g3, g4, g5, g6, g7, g8⟩ := h
  exact ⟨by rw [hA]; exact g1, by rw [hA, hA]; exact g2, by rw [hI _ (by omega)]; exact g3, g4, by rw [hA]; exact g5, g6, g7.congr (fun i hi => ⟨hI _ (by omega), hI _ (by omega)⟩) (fun i hi => hA _), g8⟩
theorem d_RR_vanishes_0 : decode prog_1_method_48_code 0 = .ok (.aload_n 1, 1) := by decide +kernel
theorem d_RR_vanishes_1 : decode prog_1_method_48_code 1 = .ok (.getfield 129, 3) := by decide +kernel
theorem d_RR_vanishes_4 : decode prog_1_method_48_code 4 = .ok (.iload_n 2, 1) := by decide +kernel
theorem d_RR_vanishes_5 : decode prog_1_method_48_code 5 = .ok (.aaload, 1) := by decide +kernel
theorem d_RR_vanishes_6 : decode prog_1_method_48_code 6 = .ok (.astore 4, 2) := by decide +kernel
theorem d_RR_vanishes_8 : decode prog_1_method_48_code 8 = .ok (.iconst 0, 1) := by decide +kernel
theorem d_RR_vanishes_9 : decode prog_1_method_48_code 9 = .ok (.istore 5, 2) := by decide +kernel
theorem d_RR_vanishes_11 : decode prog_1_method_48_code 11 = .ok (.iload 5, 2) := by decide +kernel
theorem d_RR_vanishes_13 : decode prog_1_method_48_code 13 = .ok (.sipush 248, 3) := by decide +kernel
theorem d_RR_vanishes_16 : decode prog_1_method_48_code 16 = .ok (.if_icmp .gt 114, 3) := by decide +kernel
theorem d_RR_vanishes_19 : decode prog_1_method_48_code 19 = .ok (.aload_n 0, 1) := by decide +kernel
theorem d_RR_vanishes_20 : decode prog_1_method_48_code 20 = .ok (.getfield 29, 3) := by decide +kernel
theorem d_RR_vanishes_23 : decode prog_1_method_48_code 23 = .ok (.aload_n 3, 1) := by decide +kernel
theorem d_RR_vanishes_24 : decode prog_1_method_48_code 24 = .ok (.invokevirtual 154, 3) := by decide +kernel
theorem d_RR_vanishes_27 : decode prog_1_method_48_code 27 = .ok (.aload_n 0, 1) := by decide +kernel
theorem d_RR_vanishes_28 : decode prog_1_method_48_code 28 = .ok (.getfield 29, 3) := by decide +kernel
theorem d_RR_vanishes_31 : decode prog_1_method_48_code 31 = .ok (.aload 4, 2) := by decide +kernel
theorem d_RR_vanishes_33 : decode prog_1_method_48_code 33 = .ok (.invokevirtual 158, 3) := by decide +kernel
theorem d_RR_vanishes_36 : decode prog_1_method_48_code 36 = .ok (.aload_n 0, 1) := by decide +kernel
theorem d_RR_vanishes_37 : decode prog_1_method_48_code 37 = .ok (.getfield 29, 3) := by decide +kernel
theorem d_RR_vanishes_40 : decode prog_1_method_48_code 40 = .ok (.aload_n 0, 1) := by decide +kernel
theorem d_RR_vanishes_41 : decode prog_1_method_48_code 41 = .ok (.getfield 29, 3) := by decide +kernel
theorem d_RR_vanishes_44 : decode prog_1_method_48_code 44 = .ok (.getfield 162, 3) := by decide +kernel
theorem d_RR_vanishes_47 : decode prog_1_method_48_code 47 = .ok (.iconst 0, 1) := by decide +kernel
theorem d_RR_vanishes_48 : decode prog_1_method_48_code 48 = .ok (.aload_n 0, 1) := by decide +kernel
theorem d_RR_vanishes_49 : decode prog_1_method_48_code 49 = .ok (.getfield 29, 3) := by decide +kernel
theorem d_RR_vanishes_52 : decode prog_1_method_48_code 52 = .ok (.getfield 166, 3) := by decide +kernel
theorem d_RR_vanishes_55 : decode prog_1_method_48_code 55 = .ok (.invokevirtual 169, 3) := by decide +kernel
theorem d_RR_vanishes_58 : decode prog_1_method_48_code 58 = .ok (.istore 6, 2) := by decide +kernel
theorem d_RR_vanishes_60 : decode prog_1_method_48_code 60 = .ok (.iload 6, 2) := by decide +kernel
theorem d_RR_vanishes_62 : decode prog_1_method_48_code 62 = .ok (.ifCond .ne 5, 3) := by decide +kernel
theorem d_RR_vanishes_65 : decode prog_1_method_48_code 65 = .ok (.iconst 1, 1) := by decide +kernel
theorem d_RR_vanishes_66 : decode prog_1_method_48_code 66 = .ok (.ireturn, 1) := by decide +kernel
theorem d_RR_vanishes_67 : decode prog_1_method_48_code 67 = .ok (.aload_n 0, 1) := by decide +kernel
theorem d_RR_vanishes_68 : decode prog_1_method_48_code 68 = .ok (.getfield 29, 3) := by decide +kernel
theorem d_RR_vanishes_71 : decode prog_1_method_48_code 71 = .ok (.aload 4, 2) := by decide +kernel
theorem d_RR_vanishes_73 : decode prog_1_method_48_code 73 = .ok (.invokevirtual 331, 3) := by decide +kernel
theorem d_RR_vanishes_76 : decode prog_1_method_48_code 76 = .ok (.aload_n 0, 1) := by decide +kernel
theorem d_RR_vanishes_77 : decode prog_1_method_48_code 77 = .ok (.getfield 29, 3) := by decide +kernel
theorem d_RR_vanishes_80 : decode prog_1_method_48_code 80 = .ok (.aload_n 0, 1) := by decide +kernel
theorem d_RR_vanishes_81 : decode prog_1_method_48_code 81 = .ok (.getfield 29, 3) := by decide +kernel
theorem d_RR_vanishes_84 : decode prog_1_method_48_code 84 = .ok (.getfield 162, 3) := by decide +kernel
theorem d_RR_vanishes_87 : decode prog_1_method_48_code 87 = .ok (.iconst 0, 1) := by decide +kernel
theorem d_RR_vanishes_88 : decode prog_1_method_48_code 88 = .ok (.aload_n 0, 1) := by decide +kernel
theorem d_RR_vanishes_89 : decode prog_1_method_48_code 89 = .ok (.getfield 29, 3) := by decide +kernel
theorem d_RR_vanishes_92 : decode prog_1_method_48_code 92 = .ok (.getfield 166, 3) := by decide +kernel
theorem d_RR_vanishes_95 : decode prog_1_method_48_code 95 = .ok (.invokevirtual 169, 3) := by decide +kernel
theorem d_RR_vanishes_98 : decode prog_1_method_48_code 98 = .ok (.istore 7, 2) := by decide +kernel
theorem d_RR_vanishes_100 : decode prog_1_method_48_code 100 = .ok (.iload 7, 2) := by decide +kernel
theorem d_RR_vanishes_102 : decode prog_1_method_48_code 102 = .ok (.ifCond .eq 16, 3) := by decide +kernel
theorem d_RR_vanishes_105 : decode prog_1_method_48_code 105 = .ok (.iload 6, 2) := by decide +kernel
theorem d_RR_vanishes_107 : decode prog_1_method_48_code 107 = .ok (.iload 7, 2) := by decide +kernel
theorem d_RR_vanishes_109 : decode prog_1_method_48_code 109 = .ok (.if_icmp .eq 7, 3) := by decide +kernel
theorem d_RR_vanishes_112 : decode prog_1_method_48_code 112 = .ok (.iconst 1, 1) := by decide +kernel
theorem d_RR_vanishes_113 : decode prog_1_method_48_code 113 = .ok (.goto 4, 3) := by decide +kernel
theorem d_RR_vanishes_116 : decode prog_1_method_48_code 116 = .ok (.iconst 0, 1) := by decide +kernel
theorem d_RR_vanishes_117 : decode prog_1_method_48_code 117 = .ok (.ireturn, 1) := by decide +kernel
theorem d_RR_vanishes_118 : decode prog_1_method_48_code 118 = .ok (.aload_n 0, 1) := by decide +kernel
theorem d_RR_vanishes_119 : decode prog_1_method_48_code 119 = .ok (.aload_n 1, 1) := by decide +kernel
theorem d_RR_vanishes_120 : decode prog_1_method_48_code 120 = .ok (.iload_n 2, 1) := by decide +kernel
theorem d_RR_vanishes_121 : decode prog_1_method_48_code 121 = .ok (.invokevirtual 328, 3) := by decide +kernel
theorem d_RR_vanishes_124 : decode prog_1_method_48_code 124 = .ok (.iinc 5 1, 3) := by decide +kernel
theorem d_RR_vanishes_127 : decode prog_1_method_48_code 127 = .ok (.goto (-116), 3) := by decide +kernel
theorem d_RR_vanishes_130 : decode prog_1_method_48_code 130 = .ok (.iconst 0, 1) := by decide +kernel
theorem d_RR_vanishes_131 : decode prog_1_method_48_code 131 = .ok (.ireturn, 1) := by decide +kernel
set_option maxHeartbeats 8000000 in
set_option maxRecDepth 100000 in
theorem c_RR_vanishes (l : Launch) (D : va_G) (cs : Nat → ClassId) (L : List Nat) (f : Nat → va_E) (sz : Nat) (ad Qm : Nat → Nat) (If : Nat → Int) (Af : Nat → Nat → Int) (Rf : Nat → Nat) (Zf : Nat → Int) (p0 nm i0 : Nat) (N : Rat → Int) (dp : Nat → Nat) (v : Nat → Int) (kg qg : Nat) (kk : Int) (h0 : Nat → Int) (M : Rat → Int) (hAd : AdOk L ad Qm) (hC : CSt cs ad Qm f If Af Rf Zf) (hp0 : p0 < 12) (hi0 : i0 < nm) (hVM : ∀ j, j < 6 → -1000 ≤ Af (20 + p0) j ∧ Af (20 + p0) j ≤ 1000) (hcr : Crv If Af p0 nm N dp v) (hkg : Ar kg qg) (hGb : ∀ j, j < 6 → -1073741824 < Af qg j ∧ Af qg j < 1073741824) (hkk : kk ≠ 0) (hGF : ∀ x, (kk : Rat) * es (Af (40 + p0)) 6 x = es h0 6 x * es (Af qg) 6 x) (hMB : NB (Af qg) M) : Met l (⟨"RealRoots", "vanishes", "(LRealRoots$Curve;I[I)Z"⟩ : MethodName) (.code (⟨"RealRoots", "vanishes", "(LRealRoots$Curve;I[I)Z"⟩ : MethodName) prog_1_method_48_code 8 (Option.some Jvm.ClassFile.FieldType.boolean) :: gw) ({ frames := 5, cells := 0, slots := 0, locals := 240 }) (va_Pc [.ref ((ad 0)), .ref ((ad (15 + p0))), .int (iI ((i0 : Int))), .ref ((ad kg))] (K0 D vwCl (TY cs) L f sz)) (va_Qi (fun (r : Int32) (g : Nat → va_E) => ∃ (I' : Nat → Int) (A' : Nat → Nat → Int) (R' : Nat → Nat) (Z' : Nat → Int), CSt cs ad Qm g I' A' R' Z' ∧ (∀ k, Awy ad k → g k = f k) ∧ (∃ rr : Int, r = iI rr ∧ ((rr = 1 ∧ M (Pt (v i0 + 1) (dp i0)) - M (Pt (v i0) (dp i0)) = 1) ∨ (rr = 0 ∧ M (Pt (v i0 + 1) (dp i0)) - M (Pt (v i0) (dp i0)) = 0))) ∧ (∃ (d' : Nat) (v' : Int), Crv I' A' p0 nm N (va_up dp i0 d') (up v i0 v') ∧ dp i0 ≤ d' ∧ v' / 2 ^ (d' - dp i0) = v i0) ∧ (∀ i, i ≠ 6 → i ≠ 200 + (5 * p0 + i0) → I' i = If i) ∧ ∀ q, q ≠ 100 + (5 * p0 + i0) → A' q = Af q) (K1 D vwCl (TY cs) (AL L sz) L) (AL L sz)) 0 0 (AL L sz) := by
  refine Met.ofW (cc := prog_1_method_48_code) (maxL := 8) (ret := (Option.some Jvm.ClassFile.FieldType.boolean)) (by decide) rfl ?_
  intro p e s m args below meth c s₁ Bd hml hv
  obtain ⟨rfl, hk0⟩ := hv
  obtain ⟨hsz, B⟩ := hk0.start
  subst hsz
  have hx := Bd.exec
  have hb := Bd.bytes
  have hr := Bd.returns
  have hlocks := Bd.notSynchronized
  have hts0 := atoms_spec Bd.pre
  have hown : s.vm.findClass RX6 = some m.cls := findClass_of_methodNamed Bd.named
  have hA : ∀ q, s.heap.size ≤ q → AL L s.heap.size q := fun _ h => Or.inr h
  have hl := lv_entry ([.ref ((ad 0)), .ref ((ad (15 + p0))), .int (iI ((i0 : Int))), .ref ((ad kg))]) (n := 8) (Nat.le_of_ble_eq_true rfl)
  rw [lg_entry_eq]
  generalize (lg_sl ([.ref ((ad 0)), .ref ((ad (15 + p0))), .int (iI ((i0 : Int))), .ref ((ad kg))]) ++ List.replicate (8 - (lg_sl ([.ref ((ad 0)), .ref ((ad (15 + p0))), .int (iI ((i0 : Int))), .ref ((ad kg))])).length) Slot.unset).toArray = ls at hl ⊢
  refine absQ (fun Q R av hQ hR hav => ?_)
  have hts : ∀ w ∈ gw, w.before av s = true := by rw [hav]; exact fun w h => hts0 w (List.mem_cons_of_mem _ h)
  have hRf : R.frames = 5 := by rw [hR]; rfl
  have hRl : R.locals = 240 := by rw [hR]; rfl
  have hRc : R.cells = 0 := by rw [hR]; rfl
  have hRs : R.slots = 0 := by rw [hR]; rfl
  clear hR hts0 Bd
  have hl : lv_has ls 8 [(0, .ref ((ad 0))), (1, .ref ((ad (15 + p0)))), (2, .int (iI ((i0 : Int)))), (3, .ref ((ad kg)))] := hl
  have hfr : ∀ k, Awy ad k → f k = f k := fun _ _ => rfl
  obtain ⟨⟨p1, hPart⟩, hcgF, hFP, hFb⟩ := hcr.part hVM
  have hSq := hPart.2.2.1
  have hnm5 := hcr.2.2.2.1
  have hNB := hcr.2.2.2.2.1
  obtain ⟨hSqG, hjmp⟩ := jump_k hSq hkk hGF hNB hMB
  have hiso0 := hcr.iso hSq hi0
  refine lv_aload_n hx hb d_RR_vanishes_0 rfl (lv_at hl 1 rfl) ?_
  refine x_get (C := RX2) (T := TX2) (N := 5) hx hb hts inX2 hown (B.foc1 (hC.cu (p := p0) (by omega))) (hAd.f1 (by omega)) 0 rfl rfl 2 (by decide) (hts _ w_181) (fun _ h9 => h9) rfl d_RR_vanishes_1 ?_
  refine lv_iload_n hx hb d_RR_vanishes_4 rfl (lv_at hl 2 rfl) ?_
  refine x_aald hx hb (B.foc1 (hC.pa (p := p0) (by omega))) (hAd.f1 (by omega)) 0 5 rfl rfl i0 (by omega) (by omega) (by decide) (rfs_at (by omega)) d_RR_vanishes_5 ?_
  refine lv_astore (lv' := [(4, .ref ((ad (63 + (5 * p0 + i0))))), (0, .ref ((ad 0))), (1, .ref ((ad (15 + p0)))), (2, .int (iI ((i0 : Int)))), (3, .ref ((ad kg)))]) hx hb d_RR_vanishes_6 hl (by decide) rfl (fun ls hl => ?_)
  refine x_iconst hx hb d_RR_vanishes_8 ?_
  refine lv_istore (lv' := [(5, .int (iI 0)), (4, .ref ((ad (63 + (5 * p0 + i0))))), (0, .ref ((ad 0))), (1, .ref ((ad (15 + p0)))), (2, .int (iI ((i0 : Int)))), (3, .ref ((ad kg)))]) hx hb d_RR_vanishes_9 hl (by decide) rfl (fun ls hl => ?_)
  have LA : ∀ (fuel : Nat) (fw : Nat → va_E) (Iw : Nat → Int) (Aw : Nat → Nat → Int) (Rw : Nat → Nat) (Zw : Nat → Int) (ss : Nat) (dk : Nat) (vk : Int), 249 - ss < fuel → (CSt cs ad Qm fw Iw Aw Rw Zw) → (∀ k, Awy ad k → fw k = f k) → (∀ i, i ≠ 6 → i ≠ 200 + (5 * p0 + i0) → Iw i = If i) → (∀ q, q ≠ 100 + (5 * p0 + i0) → Aw q = Af q) → (Crv Iw Aw p0 nm N (va_up dp i0 dk) (up v i0 vk)) → (dp i0 ≤ dk ∧ vk / 2 ^ (dk - dp i0) = v i0) → (ss ≤ dk) → ∀ (H : Heap) (locs : List Loc) (ls : Array Slot), Wb D vwCl (TY cs) L fw (AL L s.heap.size) s H locs → lv_has ls 8 [(5, .int (iI ((ss : Int)))), (4, .ref ((ad (63 + (5 * p0 + i0))))), (0, .ref ((ad 0))), (1, .ref ((ad (15 + p0)))), (2, .int (iI ((i0 : Int)))), (3, .ref ((ad kg)))] → W p l e R s m av below meth c H locs (0) (0) Q (F0 m 11 ls []) := by
    intro fuel
    induction fuel with
    | zero => intro fw Iw Aw Rw Zw ss dk vk hfu; exact absurd hfu (Nat.not_lt_zero _)
    | succ fuel ih_LA =>
      intro fw Iw Aw Rw Zw ss dk vk hfu_LA hCw hfrw hIw hAw hcw hdk hst H locs ls B hl
      have hAFw : Aw (40 + p0) = Af (40 + p0) := hAw _ (by omega)
      have hAGw : Aw qg = Af qg := hAw _ (by unfold Ar at hkg; omega)
      have hplw := hcw.2.2.2.2.2.2.1 i0 hi0
      rw [va_up_self, up_self] at hplw
      obtain ⟨hdw, hpw, hcellw⟩ := hplw
      have hdk8 := hpw.1
      have hisow := (hiso0.in hNB hSq (w := vk) (k := dk - dp i0) (by rw [show dp i0 + (dk - dp i0) = dk by omega]; exact hcellw) hdk.2)
      rw [show dp i0 + (dk - dp i0) = dk by omega] at hisow
      obtain ⟨hisok, hle1, hle2⟩ := hisow
      have hltk : Pt vk dk < Pt (vk + 1) dk := Pt_lt (by omega)
      have hjk := hjmp (Pt (v i0) (dp i0)) (Pt vk dk) (Pt (vk + 1) dk) (Pt (v i0 + 1) (dp i0)) hle1 (Rat.le_of_lt hltk) hle2 (by rw [hiso0.2.1, hiso0.2.2]; omega) (by rw [hisok.2.1, hisok.2.2]; omega)
      refine lv_iload hx hb d_RR_vanishes_11 (lv_at hl 0 rfl) ?_
      refine x_sipush hx hb d_RR_vanishes_13 (by decide) ?_
      refine x_icmp_gt (tgt := 130) hx hb d_RR_vanishes_16 (by decide) (by omega) (by omega) (fun h16 => ?_) (fun h16 => ?_)
      · exfalso; omega
      · refine lv_aload_n hx hb d_RR_vanishes_19 rfl (lv_at hl 2 rfl) ?_
        refine x_get (C := RX6) (T := TX6) (N := 14) hx hb hts inX6 hown (B.foc1 (hCw.x)) (hAd.f1 (by omega)) 0 rfl rfl 3 (by decide) (hts _ w_200) (fun _ h9 => h9) rfl d_RR_vanishes_20 ?_
        refine lv_aload_n hx hb d_RR_vanishes_23 rfl (lv_at hl 5 rfl) ?_
        refine x_callv B hA (va_runV (As := [.ref ((ad kg))]) (rest := []) ⟨hx, hb, hml, hown, hts⟩ (c_Spot_load l D cs _ _ _ (ad 5) (ad kg) (ad 227) (ad 228) (ad 6) (Rw 52) (Rw 53) (Rw 54) (Rw 55) (Iw 6) (Bg ad) Qm Zw (rfs 6 (fun j => ad (229 + j))) (fun j => ad (229 + j)) (Aw qg) (hAd.fc [5, 6, kg] (by have := (hkg).lt; simp only [List.nodup_cons, List.mem_cons, List.not_mem_nil, or_false, not_or, List.nodup_nil, and_true, not_false_eq_true]; omega) (by have := (hkg).lt; intro q hq; simp only [List.mem_cons, List.not_mem_nil, or_false] at hq; omega)) hCw.sp hCw.gs (hCw.ar hkg) hAd.sp hCw.2.2.1 (hAd.outs [5, 6, kg] (by have := (hkg).lt; intro q hq; simp only [List.mem_cons, List.not_mem_nil, or_false] at hq; omega)) (fun j hj => Bg.pl (by omega)) (fun j hj => rfs_at hj) (fun i j hi hj h => by have := hAd.2.1 _ _ (by omega) (by omega) h; omega) (fun j hj => by rw [hAGw]; have := hGb j hj; omega)) (cwV 1 hts (gw_V w_473 w_474 w_475 w_4 w_476) rfl rfl rfl (by decide +kernel) ⟨by rw [hRf]; exact Nat.le_of_ble_eq_true rfl, by rw [hRl]; exact Nat.le_of_ble_eq_true rfl⟩) ⟨K0.blind, B.recv (hAd.1 _ (by omega)) (hCw.sp) rfl, B.pre _⟩ rfl rfl hl.1 rfl (lv_room (Nat.le_of_ble_eq_true rfl)) d_RR_vanishes_24 ⟨by rw [hRc]; omega, by rw [hRs]; omega⟩) (fun g24 H locs hw B => ?_)
        obtain ⟨kd, Z_24, hkd6, hkdz, hkdl, hZs_24, hZo_24, hBB_24, hq_24, hc1_24, hc2_24, hc3_24⟩ := hw
        obtain ⟨I_24, hI_24⟩ : ∃ I_24, I_24 = up Iw 6 ((kd : Int) - 1) := ⟨_, rfl⟩
        have hC_24 : CSt cs ad Qm g24 I_24 Aw Rw Z_24 := by
          have h9 := CSt.spot hAd hCw [6, kg] hCw.2.2.2.2.1 hCw.2.2.2.2.2 hBB_24 hq_24 (fun k hk => by
            simp only [List.mem_cons, List.not_mem_nil, or_false] at hk
            rcases hk with h | h <;> rw [h]
            · exact ⟨by omega, hc2_24.trans hCw.gs.symm⟩
            · exact ⟨by have := (hkg).lt; omega, hc3_24.trans (hCw.ar hkg).symm⟩) hc1_24
          rw [upW_same, ← hI_24] at h9
          exact h9
        have hfr_24 : ∀ k, Awy ad k → g24 k = f k := fun k hk => (hq_24 k (hk.out hAd) (hk.nin [5, 6, kg] (by have := (hkg).lt; intro q hq; simp only [List.mem_cons, List.not_mem_nil, or_false] at hq; omega))).trans (hfrw k hk)
        have hIo_24 : ∀ i, i ≠ 6 → I_24 i = Iw i := fun i hi => by rw [hI_24, up_ne _ _ hi]
        have hI6_24 : I_24 6 = (kd : Int) - 1 := by rw [hI_24, up_self]
        have B : Wb D vwCl (TY cs) L g24 (AL L s.heap.size) s H _ := B
        rw [hAGw] at hkdz hkdl
        have hkd0 : 0 < kd := by rcases Nat.eq_zero_or_pos kd with h | h; obtain ⟨j, hj, hn⟩ := hSqG.1; exact absurd (hkdz j (by omega) hj) hn; exact h
        obtain ⟨nn, hnn⟩ : ∃ nn, kd = nn + 1 := ⟨kd - 1, by omega⟩
        have hI6n : I_24 6 = (nn : Int) := by rw [hI6_24]; omega
        have hdw2 : I_24 (200 + (5 * p0 + i0)) = (dk : Int) := by rw [hIo_24 _ (by omega)]; exact hdw
        have hpw2 : Pl (I_24 (100 + (5 * p0 + i0))) dk (Aw (100 + (5 * p0 + i0))) vk := by rw [hIo_24 _ (by omega)]; exact hpw
        have hwh2 := hpw2.whr hcellw.1
        have hRB30 : ∀ j, j < 6 → ((Aw qg j).natAbs : Int) < 2 ^ 30 := fun j hj => by rw [hAGw]; have := hGb j hj; rw [show (2 : Int) ^ 30 = 1073741824 from rfl]; omega
        refine lv_aload_n hx hb d_RR_vanishes_27 rfl (lv_at hl 2 rfl) ?_
        refine x_get (C := RX6) (T := TX6) (N := 14) hx hb hts inX6 hown (B.foc1 (hC_24.x)) (hAd.f1 (by omega)) 0 rfl rfl 3 (by decide) (hts _ w_200) (fun _ h9 => h9) rfl d_RR_vanishes_28 ?_
        refine lv_aload hx hb d_RR_vanishes_31 (lv_at hl 1 rfl) ?_
        refine x_callv B hA (va_runV (As := [.ref ((ad (63 + (5 * p0 + i0))))]) (rest := []) ⟨hx, hb, hml, hown, hts⟩ (c_Spot_start l D cs _ _ _ (ad 5) (ad (63 + (5 * p0 + i0))) (ad (123 + (5 * p0 + i0))) (ad 227) (ad 228) (ad 6) (Rw 52) (Rw 53) (Rw 54) (Rw 55) dk (I_24 6) (I_24 (100 + (5 * p0 + i0))) (Bg ad) Qm Z_24 (Aw (100 + (5 * p0 + i0))) (hAd.fc [5, 63 + (5 * p0 + i0), 123 + (5 * p0 + i0)] (by simp only [List.nodup_cons, List.mem_cons, List.not_mem_nil, or_false, not_or, List.nodup_nil, and_true, not_false_eq_true]; omega) (by intro q hq; simp only [List.mem_cons, List.not_mem_nil, or_false] at hq; omega)) hC_24.sp (by rw [← hdw2]; exact hC_24.pl (m := (5 * p0 + i0)) (by omega)) (hC_24.wq (m := (5 * p0 + i0)) (by omega)) hAd.sp hC_24.2.2.1 (hAd.outs [5, 63 + (5 * p0 + i0), 123 + (5 * p0 + i0)] (by intro q hq; simp only [List.mem_cons, List.not_mem_nil, or_false] at hq; omega)) (Bg.pl (by decide)) (Bg.pl (by decide)) hC_24.2.2.2.2.1.2.2.2.bg (Ne.symm (Wkk.na hAd hC_24.2.2.2.2.1.2.2.2 (by decide) (by decide))) (hAd.ne (by decide) (by decide) (by decide)) (Wkk.na hAd hC_24.2.2.2.2.1.2.2.2 (by decide) (by decide)) (by omega) hpw2.1 hpw2.2.1) (cwV 1 hts (gw_V w_446 w_447 w_448 w_4 w_449) rfl rfl rfl (by decide +kernel) ⟨by rw [hRf]; exact Nat.le_of_ble_eq_true rfl, by rw [hRl]; exact Nat.le_of_ble_eq_true rfl⟩) ⟨K0.blind, B.recv (hAd.1 _ (by omega)) (hC_24.sp) rfl, B.pre _⟩ rfl rfl hl.1 rfl (lv_room (Nat.le_of_ble_eq_true rfl)) d_RR_vanishes_33 ⟨by rw [hRc]; omega, by rw [hRs]; omega⟩) (fun g33 H locs hw B => ?_)
        obtain ⟨Z_33, hZu_33, hZl_33, hZo_33, hBB_33, hq_33, hc1_33, hc2_33, hc3_33⟩ := hw
        have hC_33 : CSt cs ad Qm g33 I_24 Aw Rw Z_33 := CSt.bigsL hAd hC_24 [5, 63 + (5 * p0 + i0), 123 + (5 * p0 + i0)] hBB_33 hq_33 (fun k hk => by
            simp only [List.mem_cons, List.not_mem_nil, or_false] at hk
            rcases hk with h | h | h <;> rw [h]
            · exact ⟨by omega, hc1_33.trans hC_24.sp.symm⟩
            · exact ⟨by omega, hc2_33.trans (Eq.symm (by rw [← hdw2]; exact hC_24.pl (m := (5 * p0 + i0)) (by omega)))⟩
            · exact ⟨by omega, hc3_33.trans (hC_24.wq (m := (5 * p0 + i0)) (by omega)).symm⟩)
        have hfr_33 : ∀ k, Awy ad k → g33 k = f k := fun k hk => (hq_33 k (hk.out hAd) (hk.nin [5, 63 + (5 * p0 + i0), 123 + (5 * p0 + i0)] (by intro q hq; simp only [List.mem_cons, List.not_mem_nil, or_false] at hq; omega))).trans (hfr_24 k hk)
        have B : Wb D vwCl (TY cs) L g33 (AL L s.heap.size) s H _ := B
        rw [(hpw2).up.1] at hZu_33
        rw [(hpw2).up.2] at hZl_33
        have hZs_33 : ∀ j, j < 6 → Z_33 (ad (229 + j)) = (Aw qg) j := fun j hj => (hZo_33 (ad (229 + j)) (hAd.ne (by omega) (by omega) (by omega)) (hAd.ne (by omega) (by omega) (by omega)) (Ne.symm (Wkk.na hAd hC_24.2.2.2.2.1.2.2.2 (by omega) (by omega)))).trans (hZs_24 j hj)
        refine lv_aload_n hx hb d_RR_vanishes_36 rfl (lv_at hl 2 rfl) ?_
        refine x_get (C := RX6) (T := TX6) (N := 14) hx hb hts inX6 hown (B.foc1 (hC_33.x)) (hAd.f1 (by omega)) 0 rfl rfl 3 (by decide) (hts _ w_200) (fun _ h9 => h9) rfl d_RR_vanishes_37 ?_
        refine lv_aload_n hx hb d_RR_vanishes_40 rfl (lv_at hl 2 rfl) ?_
        refine x_get (C := RX6) (T := TX6) (N := 14) hx hb hts inX6 hown (B.foc1 (hC_33.x)) (hAd.f1 (by omega)) 0 rfl rfl 3 (by decide) (hts _ w_200) (fun _ h9 => h9) rfl d_RR_vanishes_41 ?_
        refine x_get (C := RX5) (T := TX5) (N := 8) hx hb hts inX5 hown (B.foc1 (hC_33.sp)) (hAd.f1 (by omega)) 0 rfl rfl 2 (by decide) (hts _ w_89) (fun _ h9 => h9) rfl d_RR_vanishes_44 ?_
        refine x_iconst hx hb d_RR_vanishes_47 ?_
        refine lv_aload_n hx hb d_RR_vanishes_48 rfl (lv_at hl 2 rfl) ?_
        refine x_get (C := RX6) (T := TX6) (N := 14) hx hb hts inX6 hown (B.foc1 (hC_33.x)) (hAd.f1 (by omega)) 0 rfl rfl 3 (by decide) (hts _ w_200) (fun _ h9 => h9) rfl d_RR_vanishes_49 ?_
        refine x_get (C := RX5) (T := TX5) (N := 8) hx hb hts inX5 hown (B.foc1 (hC_33.sp)) (hAd.f1 (by omega)) 0 rfl rfl 3 (by decide) (hts _ w_91) (fun _ h9 => h9) rfl d_RR_vanishes_52 ?_
        rw [hI6n]
        have hxa : ((Z_33 (ad 227) : Rat) / (Z_33 (ad 228) : Rat)) = Pt vk dk := Pt_of hZu_33 hZl_33
        refine x_calli B hA (va_runV (As := [.ref ((ad 6)), .int (iI 0), .int (iI ((nn : Int)))]) (rest := []) ⟨hx, hb, hml, hown, hts⟩ (c_Spot_signOf_s l D cs _ _ _ (ad 5) (ad 6) (ad 227) (ad 228) (ad 6) (Rw 52) (Rw 53) (Rw 54) (Rw 55) 0 nn (I_24 6) (Bg ad) (Wkk ad) Qm Z_33 (rfs 6 (fun j => ad (229 + j))) (fun j => ad (229 + j)) (hAd.fc [5, 6] (by simp only [List.nodup_cons, List.mem_cons, List.not_mem_nil, or_false, not_or, List.nodup_nil, and_true, not_false_eq_true]; omega) (by intro q hq; simp only [List.mem_cons, List.not_mem_nil, or_false] at hq; omega)) hC_33.sp hC_33.gs hAd.sp hC_33.2.2.1 (hAd.outs [5, 6] (by intro q hq; simp only [List.mem_cons, List.not_mem_nil, or_false] at hq; omega)) (fun b hb => Wkk.bg hb) hC_33.2.2.2.2.1 hC_33.2.2.2.2.2 (Bg.pl (by decide)) (Bg.pl (by decide)) (Wkk.not hAd (by decide) (by decide)) (Wkk.not hAd (by decide) (by decide)) (by omega) (by omega) (fun j hj => by rw [Nat.zero_add]; exact rfs_at (by omega)) (fun j hj => ⟨Bg.pl (by omega), Wkk.not hAd (by omega) (by omega)⟩) (sp_room (c := (fun j => Z_33 ((fun j => ad (229 + j)) (0 + j)))) (a := 30) (fun j hj => by show ((Z_33 (ad (229 + (0 + j)))).natAbs : Int) < _; rw [Nat.zero_add, hZs_33 j hj]; exact hRB30 j hj) (by omega) (by omega) (by rw [hZu_33]; exact (pl_small hdk8 (rg_le hcellw.1).1).1) (by rw [hZl_33]; exact (pl_small hdk8 (rg_le hcellw.1).1).2.1))) (cwV 3 hts (gw_V w_478 w_411 w_412 w_4 w_413) rfl rfl rfl (by decide +kernel) ⟨by rw [hRf]; exact Nat.le_of_ble_eq_true rfl, by rw [hRl]; exact Nat.le_of_ble_eq_true rfl⟩) ⟨K0.blind, B.recv (hAd.1 _ (by omega)) (hC_33.sp) rfl, B.pre _⟩ rfl rfl hl.1 rfl (lv_room (Nat.le_of_ble_eq_true rfl)) d_RR_vanishes_55 ⟨by rw [hRc]; omega, by rw [hRs]; omega⟩) (fun r55 g55 H locs hw B => ?_)
        obtain ⟨gt_55, gp_55, ga_55, gb_55, Z_55, rfl, hZt_55, hWd_55, hNe_55, hZo_55, hBB_55, hq_55, hc1_55, hc2_55⟩ := hw
        obtain ⟨R_55, hR_55⟩ : ∃ R_55, R_55 = upW Rw gt_55 gp_55 ga_55 gb_55 := ⟨_, rfl⟩
        have hC_55 : CSt cs ad Qm g55 I_24 Aw R_55 Z_55 := by
          have h9 := CSt.spot hAd hC_33 [6] hWd_55 hNe_55 hBB_55 hq_55 (fun k hk => by rw [List.mem_singleton.mp hk]; exact ⟨by decide, hc2_55.trans hC_33.gs.symm⟩) hc1_55
          rw [up_same, ← hR_55] at h9
          exact h9
        have hfr_55 : ∀ k, Awy ad k → g55 k = f k := fun k hk => (hq_55 k (hk.out hAd) (hk.nin [5, 6] (by intro q hq; simp only [List.mem_cons, List.not_mem_nil, or_false] at hq; omega))).trans (hfr_33 k hk)
        obtain ⟨sa, hsa⟩ : ∃ sa : Int, sa = (hsum (fun j => Z_33 ((fun j => ad (229 + j)) (0 + j))) nn (Z_33 (ad 227)) (Z_33 (ad 228)) nn).sign := ⟨_, rfl⟩
        rw [← hsa]
        have hsaS : sa = sg (es (Af qg) 6 (Pt vk dk)) := by rw [hsa, ← hxa]; exact sgn_row (by rw [hZl_33]; exact (pl_small hdk8 (rg_le hcellw.1).1).2.2) (by omega) (fun j hj => by show Z_33 (ad (229 + (0 + j))) = _; rw [Nat.zero_add]; exact (hZs_33 j hj).trans (by rw [hAGw])) (fun j h1 h2 => hkdz j (by omega) h2)
        have hsar : -1 ≤ sa ∧ sa ≤ 1 := by rw [hsaS]; exact sg_rng _
        have B : Wb D vwCl (TY cs) L g55 (AL L s.heap.size) s H _ := B
        have hrw_55 : ∀ t, t < 42 → Z_55 (R_55 t) = Z_33 (Rw t) := fun t ht => by rw [hR_55, upW_lt ht]; exact hZo_55 _ (Ckk.wk hAd (hC_33.rck ht))
        have hZu_55 := (hZo_55 (ad 227) (Wkk.not hAd (by decide) (by decide))).trans hZu_33
        have hZl_55 := (hZo_55 (ad 228) (Wkk.not hAd (by decide) (by decide))).trans hZl_33
        have hZs_55 : ∀ j, j < 6 → Z_55 (ad (229 + j)) = (Aw qg) j := fun j hj => (hZo_55 (ad (229 + j)) (Wkk.not hAd (by omega) (by omega))).trans (hZs_33 j hj)
        refine lv_istore (lv' := [(6, .int (iI sa)), (5, .int (iI ((ss : Int)))), (4, .ref ((ad (63 + (5 * p0 + i0))))), (0, .ref ((ad 0))), (1, .ref ((ad (15 + p0)))), (2, .int (iI ((i0 : Int)))), (3, .ref ((ad kg)))]) hx hb d_RR_vanishes_58 hl (by decide) rfl (fun ls hl => ?_)
        refine lv_iload hx hb d_RR_vanishes_60 (lv_at hl 0 rfl) ?_
        refine x_if_ne (tgt := 67) hx hb d_RR_vanishes_62 (by decide) (by omega) (fun h62 => ?_) (fun h62 => ?_)
        · refine lv_aload_n hx hb d_RR_vanishes_67 rfl (lv_at hl 3 rfl) ?_
          refine x_get (C := RX6) (T := TX6) (N := 14) hx hb hts inX6 hown (B.foc1 (hC_55.x)) (hAd.f1 (by omega)) 0 rfl rfl 3 (by decide) (hts _ w_200) (fun _ h9 => h9) rfl d_RR_vanishes_68 ?_
          refine lv_aload hx hb d_RR_vanishes_71 (lv_at hl 2 rfl) ?_
          refine x_callv B hA (va_runV (As := [.ref ((ad (63 + (5 * p0 + i0))))]) (rest := []) ⟨hx, hb, hml, hown, hts⟩ (c_Spot_goToEnd l D cs _ _ _ (ad 5) (ad (63 + (5 * p0 + i0))) (ad (123 + (5 * p0 + i0))) (ad 227) (ad 228) (ad 6) (R_55 52) (R_55 53) (R_55 54) (R_55 55) dk (I_24 6) (I_24 (100 + (5 * p0 + i0))) (Bg ad) Qm Z_55 (hAd.fc [5, 63 + (5 * p0 + i0)] (by simp only [List.nodup_cons, List.mem_cons, List.not_mem_nil, or_false, not_or, List.nodup_nil, and_true, not_false_eq_true]; omega) (by intro q hq; simp only [List.mem_cons, List.not_mem_nil, or_false] at hq; omega)) hC_55.sp (by rw [← hdw2]; exact hC_55.pl (m := (5 * p0 + i0)) (by omega)) hAd.sp hC_55.2.2.1 (hAd.outs [5, 63 + (5 * p0 + i0)] (by intro q hq; simp only [List.mem_cons, List.not_mem_nil, or_false] at hq; omega)) (Bg.pl (by decide)) hC_55.2.2.2.2.1.2.2.2.bg (Ne.symm (Wkk.na hAd hC_55.2.2.2.2.1.2.2.2 (by decide) (by decide))) hpw2.1 (by rw [hZu_55]; exact Int.le_of_lt (Int.lt_trans (pl_small hdk8 (rg_le hcellw.1).1).1 (by decide +kernel)))) (cwV 1 hts (gw_V w_479 w_480 w_481 w_4 w_482) rfl rfl rfl (by decide +kernel) ⟨by rw [hRf]; exact Nat.le_of_ble_eq_true rfl, by rw [hRl]; exact Nat.le_of_ble_eq_true rfl⟩) ⟨K0.blind, B.recv (hAd.1 _ (by omega)) (hC_55.sp) rfl, B.pre _⟩ rfl rfl hl.1 rfl (lv_room (Nat.le_of_ble_eq_true rfl)) d_RR_vanishes_73 ⟨by rw [hRc]; omega, by rw [hRs]; omega⟩) (fun g73 H locs hw B => ?_)
          obtain ⟨Z_73, hZu_73, hZo_73, hBB_73, hq_73, hc1_73, hc2_73⟩ := hw
          have hC_73 : CSt cs ad Qm g73 I_24 Aw R_55 Z_73 := CSt.bigsL hAd hC_55 [5, 63 + (5 * p0 + i0)] hBB_73 hq_73 (fun k hk => by
              simp only [List.mem_cons, List.not_mem_nil, or_false] at hk
              rcases hk with h | h <;> rw [h]
              · exact ⟨by omega, hc1_73.trans hC_55.sp.symm⟩
              · exact ⟨by omega, hc2_73.trans (Eq.symm (by rw [← hdw2]; exact hC_55.pl (m := (5 * p0 + i0)) (by omega)))⟩)
          have hfr_73 : ∀ k, Awy ad k → g73 k = f k := fun k hk => (hq_73 k (hk.out hAd) (hk.nin [5, 63 + (5 * p0 + i0)] (by intro q hq; simp only [List.mem_cons, List.not_mem_nil, or_false] at hq; omega))).trans (hfr_55 k hk)
          have B : Wb D vwCl (TY cs) L g73 (AL L s.heap.size) s H _ := B
          rw [hZu_55] at hZu_73
          have hZu_73 : Z_73 (ad 227) = (vk + 1) * 2 ^ (31 * ((dk + 30) / 31) - dk) := by rw [hZu_73, Int.add_mul, Int.one_mul]
          have hZl_73 := (hZo_73 (ad 228) (hAd.ne (by decide) (by decide) (by decide)) (Ne.symm (Wkk.na hAd hC_55.2.2.2.2.1.2.2.2 (by decide) (by decide)))).trans hZl_55
          have hZs_73 : ∀ j, j < 6 → Z_73 (ad (229 + j)) = (Aw qg) j := fun j hj => (hZo_73 (ad (229 + j)) (hAd.ne (by omega) (by omega) (by omega)) (Ne.symm (Wkk.na hAd hC_55.2.2.2.2.1.2.2.2 (by omega) (by omega)))).trans (hZs_55 j hj)
          refine lv_aload_n hx hb d_RR_vanishes_76 rfl (lv_at hl 3 rfl) ?_
          refine x_get (C := RX6) (T := TX6) (N := 14) hx hb hts inX6 hown (B.foc1 (hC_73.x)) (hAd.f1 (by omega)) 0 rfl rfl 3 (by decide) (hts _ w_200) (fun _ h9 => h9) rfl d_RR_vanishes_77 ?_
          refine lv_aload_n hx hb d_RR_vanishes_80 rfl (lv_at hl 3 rfl) ?_
          refine x_get (C := RX6) (T := TX6) (N := 14) hx hb hts inX6 hown (B.foc1 (hC_73.x)) (hAd.f1 (by omega)) 0 rfl rfl 3 (by decide) (hts _ w_200) (fun _ h9 => h9) rfl d_RR_vanishes_81 ?_
          refine x_get (C := RX5) (T := TX5) (N := 8) hx hb hts inX5 hown (B.foc1 (hC_73.sp)) (hAd.f1 (by omega)) 0 rfl rfl 2 (by decide) (hts _ w_89) (fun _ h9 => h9) rfl d_RR_vanishes_84 ?_
          refine x_iconst hx hb d_RR_vanishes_87 ?_
          refine lv_aload_n hx hb d_RR_vanishes_88 rfl (lv_at hl 3 rfl) ?_
          refine x_get (C := RX6) (T := TX6) (N := 14) hx hb hts inX6 hown (B.foc1 (hC_73.x)) (hAd.f1 (by omega)) 0 rfl rfl 3 (by decide) (hts _ w_200) (fun _ h9 => h9) rfl d_RR_vanishes_89 ?_
          refine x_get (C := RX5) (T := TX5) (N := 8) hx hb hts inX5 hown (B.foc1 (hC_73.sp)) (hAd.f1 (by omega)) 0 rfl rfl 3 (by decide) (hts _ w_91) (fun _ h9 => h9) rfl d_RR_vanishes_92 ?_
          rw [hI6n]
          have hxb : ((Z_73 (ad 227) : Rat) / (Z_73 (ad 228) : Rat)) = Pt (vk + 1) dk := Pt_of hZu_73 hZl_73
          refine x_calli B hA (va_runV (As := [.ref ((ad 6)), .int (iI 0), .int (iI ((nn : Int)))]) (rest := []) ⟨hx, hb, hml, hown, hts⟩ (c_Spot_signOf_s l D cs _ _ _ (ad 5) (ad 6) (ad 227) (ad 228) (ad 6) (R_55 52) (R_55 53) (R_55 54) (R_55 55) 0 nn (I_24 6) (Bg ad) (Wkk ad) Qm Z_73 (rfs 6 (fun j => ad (229 + j))) (fun j => ad (229 + j)) (hAd.fc [5, 6] (by simp only [List.nodup_cons, List.mem_cons, List.not_mem_nil, or_false, not_or, List.nodup_nil, and_true, not_false_eq_true]; omega) (by intro q hq; simp only [List.mem_cons, List.not_mem_nil, or_false] at hq; omega)) hC_73.sp hC_73.gs hAd.sp hC_73.2.2.1 (hAd.outs [5, 6] (by intro q hq; simp only [List.mem_cons, List.not_mem_nil, or_false] at hq; omega)) (fun b hb => Wkk.bg hb) hC_73.2.2.2.2.1 hC_73.2.2.2.2.2 (Bg.pl (by decide)) (Bg.pl (by decide)) (Wkk.not hAd (by decide) (by decide)) (Wkk.not hAd (by decide) (by decide)) (by omega) (by omega) (fun j hj => by rw [Nat.zero_add]; exact rfs_at (by omega)) (fun j hj => ⟨Bg.pl (by omega), Wkk.not hAd (by omega) (by omega)⟩) (sp_room (c := (fun j => Z_73 ((fun j => ad (229 + j)) (0 + j)))) (a := 30) (fun j hj => by show ((Z_73 (ad (229 + (0 + j)))).natAbs : Int) < _; rw [Nat.zero_add, hZs_73 j hj]; exact hRB30 j hj) (by omega) (by omega) (by rw [hZu_73]; exact (pl_small hdk8 (rg_le hcellw.1).2).1) (by rw [hZl_73]; exact (pl_small hdk8 (rg_le hcellw.1).2).2.1))) (cwV 3 hts (gw_V w_478 w_411 w_412 w_4 w_413) rfl rfl rfl (by decide +kernel) ⟨by rw [hRf]; exact Nat.le_of_ble_eq_true rfl, by rw [hRl]; exact Nat.le_of_ble_eq_true rfl⟩) ⟨K0.blind, B.recv (hAd.1 _ (by omega)) (hC_73.sp) rfl, B.pre _⟩ rfl rfl hl.1 rfl (lv_room (Nat.le_of_ble_eq_true rfl)) d_RR_vanishes_95 ⟨by rw [hRc]; omega, by rw [hRs]; omega⟩) (fun r95 g95 H locs hw B => ?_)
          obtain ⟨gt_95, gp_95, ga_95, gb_95, Z_95, rfl, hZt_95, hWd_95, hNe_95, hZo_95, hBB_95, hq_95, hc1_95, hc2_95⟩ := hw
          obtain ⟨R_95, hR_95⟩ : ∃ R_95, R_95 = upW R_55 gt_95 gp_95 ga_95 gb_95 := ⟨_, rfl⟩
          have hC_95 : CSt cs ad Qm g95 I_24 Aw R_95 Z_95 := by
            have h9 := CSt.spot hAd hC_73 [6] hWd_95 hNe_95 hBB_95 hq_95 (fun k hk => by rw [List.mem_singleton.mp hk]; exact ⟨by decide, hc2_95.trans hC_73.gs.symm⟩) hc1_95
            rw [up_same, ← hR_95] at h9
            exact h9
          have hfr_95 : ∀ k, Awy ad k → g95 k = f k := fun k hk => (hq_95 k (hk.out hAd) (hk.nin [5, 6] (by intro q hq; simp only [List.mem_cons, List.not_mem_nil, or_false] at hq; omega))).trans (hfr_73 k hk)
          obtain ⟨sb, hsb⟩ : ∃ sb : Int, sb = (hsum (fun j => Z_73 ((fun j => ad (229 + j)) (0 + j))) nn (Z_73 (ad 227)) (Z_73 (ad 228)) nn).sign := ⟨_, rfl⟩
          rw [← hsb]
          have hsbS : sb = sg (es (Af qg) 6 (Pt (vk + 1) dk)) := by rw [hsb, ← hxb]; exact sgn_row (by rw [hZl_73]; exact (pl_small hdk8 (rg_le hcellw.1).2).2.2) (by omega) (fun j hj => by show Z_73 (ad (229 + (0 + j))) = _; rw [Nat.zero_add]; exact (hZs_73 j hj).trans (by rw [hAGw])) (fun j h1 h2 => hkdz j (by omega) h2)
          have hsbr : -1 ≤ sb ∧ sb ≤ 1 := by rw [hsbS]; exact sg_rng _
          have B : Wb D vwCl (TY cs) L g95 (AL L s.heap.size) s H _ := B
          have hrw_95 : ∀ t, t < 42 → Z_95 (R_95 t) = Z_73 (R_55 t) := fun t ht => by rw [hR_95, upW_lt ht]; exact hZo_95 _ (Ckk.wk hAd (hC_73.rck ht))
          have hZu_95 := (hZo_95 (ad 227) (Wkk.not hAd (by decide) (by decide))).trans hZu_73
          have hZl_95 := (hZo_95 (ad 228) (Wkk.not hAd (by decide) (by decide))).trans hZl_73
          have hZs_95 : ∀ j, j < 6 → Z_95 (ad (229 + j)) = (Aw qg) j := fun j hj => (hZo_95 (ad (229 + j)) (Wkk.not hAd (by omega) (by omega))).trans (hZs_73 j hj)
          refine lv_istore (lv' := [(7, .int (iI sb)), (6, .int (iI sa)), (5, .int (iI ((ss : Int)))), (4, .ref ((ad (63 + (5 * p0 + i0))))), (0, .ref ((ad 0))), (1, .ref ((ad (15 + p0)))), (2, .int (iI ((i0 : Int)))), (3, .ref ((ad kg)))]) hx hb d_RR_vanishes_98 hl (by decide) rfl (fun ls hl => ?_)
          refine lv_iload hx hb d_RR_vanishes_100 (lv_at hl 0 rfl) ?_
          refine x_if_eq (tgt := 118) hx hb d_RR_vanishes_102 (by decide) (by omega) (fun h102 => ?_) (fun h102 => ?_)
          · have hlt8 : dk < 248 := by rcases Nat.lt_or_ge dk 248 with h | h; exact h; exact absurd (show sg (es (Af qg) 6 (Pt (vk + 1) dk)) = 0 by rw [← hsbS]; omega) (van_end hPart hkk hGF hNB hisok h)
            have hcw9 : Crv I_24 Aw p0 nm N (va_up dp i0 dk) (up v i0 vk) := hcw.scr hp0 (fun i h1 => hIo_24 i h1) (fun q => rfl)
            refine lv_aload_n hx hb d_RR_vanishes_118 rfl (lv_at hl 4 rfl) ?_
            refine lv_aload_n hx hb d_RR_vanishes_119 rfl (lv_at hl 5 rfl) ?_
            refine lv_iload_n hx hb d_RR_vanishes_120 rfl (lv_at hl 6 rfl) ?_
            refine x_callv B hA (va_runV (As := [.ref ((ad (15 + p0))), .int (iI ((i0 : Int)))]) (rest := []) ⟨hx, hb, hml, hown, hts⟩ (c_RR_deepen l D cs _ _ _ ad Qm I_24 Aw R_95 Z_95 p0 i0 ((va_up dp i0 dk) i0) ((up v i0 vk) i0) N hAd hC_95 hp0 (by omega) hcw9.2.2.2.2.1 (hcw9.2.2.2.2.2.2.1 _ (by omega)).1 (hcw9.2.2.2.2.2.2.1 _ (by omega)).2.1 (hcw9.iso (by rw [hAFw]; exact hSq) (by omega)) nm hcw9.2.2.1 ⟨by omega, hcw9.2.2.2.1⟩ (by rw [hAFw]; exact hSq) (by rw [hAFw]; exact hFb) (by rw [hAFw]; exact hFP) hcw9.2.2.2.2.2.1) (cwV 2 hts (gw_V w_483 w_485 s_20 w_1 w_486) rfl rfl rfl (by decide +kernel) ⟨by rw [hRf]; exact Nat.le_of_ble_eq_true rfl, by rw [hRl]; exact Nat.le_of_ble_eq_true rfl⟩) ⟨K0.blind, B.recv (hAd.1 _ (by omega)) (hC_95.x) rfl, B.pre _⟩ rfl rfl hl.1 rfl (lv_room (Nat.le_of_ble_eq_true rfl)) d_RR_vanishes_121 ⟨by rw [hRc]; omega, by rw [hRs]; omega⟩) (fun g121 H locs hw B => ?_)
            obtain ⟨Iq, Aq, Rq, Zq, hCq, hqq, ⟨dnq, vnq, hd1q, hd2q, hd3q, hd4q⟩, hI6q, hApq⟩ := hw
            have hfrq : ∀ k, Awy ad k → g121 k = f k := fun k hk => (hqq k hk).trans (hfr_95 k hk)
            have B : Wb D vwCl (TY cs) L g121 (AL L s.heap.size) s H _ := B
            have hcrq := hcw9.deep hp0 (i0 := i0) (by omega) hI6q hApq hd1q hd2q hd3q hd4q
            rw [va_up_self, up_self] at hd4q
            refine x_iinc (lv' := [(5, .int (iI (((ss : Int)) + 1))), (7, .int (iI sb)), (6, .int (iI sa)), (4, .ref ((ad (63 + (5 * p0 + i0))))), (0, .ref ((ad 0))), (1, .ref ((ad (15 + p0)))), (2, .int (iI ((i0 : Int)))), (3, .ref ((ad kg)))]) hx hb d_RR_vanishes_124 hl (q := 2) rfl rfl (by decide) rfl (fun ls hl => ?_)
            refine lv_goto (tgt := 11) hx hb d_RR_vanishes_127 (by decide) ?_
            exact ih_LA g121 Iq Aq Rq Zq (ss + 1) dnq vnq (by omega) hCq hfrq (fun i h1 h2 => by rw [hI6q i h1 h2, hIo_24 i h1]; exact hIw i h1 h2) (fun q hq => by rw [hApq q hq]; exact hAw q hq) (by rw [va_twice, up_twice] at hcrq; exact hcrq) (deep_chain hdk hd4q) (by rcases hd4q with ⟨q1, q2, _⟩ | ⟨q1, q2, _⟩ <;> omega) _ _ _ B (lv_sub hl [0, 3, 4, 5, 6, 7] rfl)
          · refine lv_iload hx hb d_RR_vanishes_105 (lv_at hl 1 rfl) ?_
            refine lv_iload hx hb d_RR_vanishes_107 (lv_at hl 0 rfl) ?_
            refine x_icmp_eq (tgt := 116) hx hb d_RR_vanishes_109 (by decide) (by omega) (by omega) (fun h109 => ?_) (fun h109 => ?_)
            · refine x_iconst hx hb d_RR_vanishes_116 ?_
              subst hQ hav
              exact x_zret hx hb hr (by decide) hlocks B d_RR_vanishes_117 (⟨I_24, Aw, R_95, Z_95, hC_95, hfr_95, ⟨0, rfl, Or.inr ⟨rfl, by rw [hjk.1]; exact (van_to hSqG hMB hltk hjk.2 (by rw [← hsaS]; omega) (by rw [← hsbS]; omega)).2 (by rw [← hsaS, ← hsbS]; omega)⟩⟩, ⟨dk, vk, hcw.scr hp0 (fun i h1 => hIo_24 i h1) (fun q => rfl), hdk.1, hdk.2⟩, fun i h1 h2 => by rw [hIo_24 i h1]; exact hIw i h1 h2, hAw⟩)
            · refine x_iconst hx hb d_RR_vanishes_112 ?_
              refine lv_goto (tgt := 117) hx hb d_RR_vanishes_113 (by decide) ?_
              subst hQ hav
              exact x_zret hx hb hr (by decide) hlocks B d_RR_vanishes_117 (⟨I_24, Aw, R_95, Z_95, hC_95, hfr_95, ⟨1, rfl, Or.inl ⟨rfl, by rw [hjk.1]; exact (van_to hSqG hMB hltk hjk.2 (by rw [← hsaS]; omega) (by rw [← hsbS]; omega)).1 (by rw [← hsaS, ← hsbS]; omega)⟩⟩, ⟨dk, vk, hcw.scr hp0 (fun i h1 => hIo_24 i h1) (fun q => rfl), hdk.1, hdk.2⟩, fun i h1 h2 => by rw [hIo_24 i h1]; exact hIw i h1 h2, hAw⟩)
        · refine x_iconst hx hb d_RR_vanishes_65 ?_
          subst hQ hav
          exact x_zret hx hb hr (by decide) hlocks B d_RR_vanishes_66 (⟨I_24, Aw, R_55, Z_55, hC_55, hfr_55, ⟨1, rfl, Or.inl ⟨rfl, by rw [hjk.1]; exact van_from hSqG hMB hltk hjk.2 (by rw [← hsaS]; omega)⟩⟩, ⟨dk, vk, hcw.scr hp0 (fun i h1 => hIo_24 i h1) (fun q => rfl), hdk.1, hdk.2⟩, fun i h1 h2 => by rw [hIo_24 i h1]; exact hIw i h1 h2, hAw⟩)
  exact LA _ f If Af Rf Zf 0 (dp i0) (v i0) (Nat.lt_succ_self _) hC hfr (fun i _ _ => rfl) (fun q _ => rfl) (by rw [va_same, up_same]; exact hcr) (⟨Nat.le_refl _, by rw [Nat.sub_self, Int.pow_zero, Int.ediv_one]⟩) (Nat.zero_le _) _ _ _ B (lv_sub hl [0, 1, 2, 3, 4, 5] rfl)
