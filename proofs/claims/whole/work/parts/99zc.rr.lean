/-- two places are the same as far as both are known -/
def Mt (v : Nat → Int) (dp : Nat → Nat) (a b : Nat) : Prop := v a / 2 ^ (dp a - min (dp a) (dp b)) = v b / 2 ^ (dp b - min (dp a) (dp b))
def Meets (v : Nat → Int) (dp : Nat → Nat) (nm i : Nat) : Prop := (0 < i ∧ Mt v dp (i - 1) i) ∨ (i + 1 < nm ∧ Mt v dp i (i + 1))
theorem cmq_iff0 {x y : Int} : cmq x y = 0 ↔ x = y := by unfold cmq; split; omega; split <;> omega
theorem cmq_rng (x y : Int) : -1 ≤ cmq x y ∧ cmq x y ≤ 1 := by unfold cmq; split; omega; split <;> omega
/-- the places of curve p -/
def Pls (I : Nat → Int) (A : Nat → Nat → Int) (p nm : Nat) (N : Rat → Int) (dp : Nat → Nat) (v : Nat → Int) : Prop := ∀ i, i < nm → I (200 + (5 * p + i)) = (dp i : Int) ∧ Pl (I (100 + (5 * p + i))) (dp i) (A (100 + (5 * p + i))) (v i) ∧ Cell N (i : Int) (v i) (dp i)
theorem Pls.set {I I' : Nat → Int} {A A' : Nat → Nat → Int} {p nm : Nat} {N : Rat → Int} {dp : Nat → Nat} {v : Nat → Int} (h : Pls I A p nm N dp v) {i0 d' : Nat} {v' : Int} (hI : ∀ i, 6 ≤ i → i ≠ 200 + (5 * p + i0) → I' i = I i) (hA : ∀ q, q ≠ 100 + (5 * p + i0) → A' q = A q) (h1 : I' (200 + (5 * p + i0)) = (d' : Int)) (h2 : Pl (I' (100 + (5 * p + i0))) d' (A' (100 + (5 * p + i0))) v') (h3 : Cell N (i0 : Int) v' d') (hi5 : i0 < 5) (hn5 : nm ≤ 5) : Pls I' A' p nm N (va_up dp i0 d') (up v i0 v') := fun i hi => by
  by_cases c : i = i0
  · rw [c, va_up_self, up_self]; exact ⟨h1, h2, h3⟩
  · obtain ⟨g1, g2, g3⟩ := h i hi
    rw [va_up_ne _ _ c, up_ne _ _ c]
    exact ⟨by rw [hI _ (by omega) (by omega)]; exact g1, by rw [hI _ (by omega) (by omega), hA _ (by omega)]; exact g2, g3⟩
theorem Pls.congr {I I' : Nat → Int} {A A' : Nat → Nat → Int} {p nm : Nat} {N : Rat → Int} {dp : Nat → Nat} {v : Nat → Int} (h : Pls I A p nm N dp v) (hI : ∀ i, i < nm → I' (200 + (5 * p + i)) = I (200 + (5 * p + i)) ∧ I' (100 + (5 * p + i)) = I (100 + (5 * p + i))) (hA : ∀ i, i < nm → A' (100 + (5 * p + i)) = A (100 + (5 * p + i))) : Pls I' A' p nm N dp v := fun i hi => by
  obtain ⟨g1, g2, g3⟩ := h i hi
  exact ⟨by rw [(hI i hi).1]; exact g1, by rw [(hI i hi).2, hA i hi]; exact g2, g3⟩
theorem div_pow_add (v : Int) (a b : Nat) : v / 2 ^ (a + b) = v / 2 ^ a / 2 ^ b := by rw [Int.ediv_ediv_of_nonneg (Int.le_of_lt (pw2 a)), ← pw2_add]
/-- what meets behind one bit more met before -/
theorem Mt.back {v : Nat → Int} {dp : Nat → Nat} {i0 d' a b : Nat} {v' : Int} (hab : a ≠ b) (hd : (d' = dp i0 ∧ v' = v i0) ∨ (d' = dp i0 + 1 ∧ v' / 2 = v i0)) (h : Mt (up v i0 v') (va_up dp i0 d') a b) : Mt v dp a b := by
  rcases hd with ⟨e1, e2⟩ | ⟨e1, e2⟩
  · have f1 : va_up dp i0 d' = dp := funext (fun j => by by_cases c : j = i0; rw [c, va_up_self, e1]; rw [va_up_ne _ _ c])
    have f2 : up v i0 v' = v := by rw [e2]; exact up_same i0
    rw [f1, f2] at h; exact h
  · unfold Mt at h ⊢
    by_cases ca : a = i0
    · subst ca
      rw [va_up_self, up_self, va_up_ne _ _ (fun h => hab h.symm), up_ne _ _ (fun h => hab h.symm), e1] at h
      by_cases c : dp a + 1 ≤ dp b
      · rw [show min (dp a + 1) (dp b) = dp a + 1 by omega, Nat.sub_self, Int.pow_zero, Int.ediv_one] at h
        rw [show min (dp a) (dp b) = dp a by omega, Nat.sub_self, Int.pow_zero, Int.ediv_one, ← e2, h, show dp b - dp a = dp b - (dp a + 1) + 1 by omega, div_pow_add]
        rfl
      · rw [show min (dp a + 1) (dp b) = dp b by omega, Nat.sub_self, Int.pow_zero, Int.ediv_one, show dp a + 1 - dp b = 1 + (dp a - dp b) by omega, div_pow_add, show v' / 2 ^ 1 = v a from e2] at h
        rw [show min (dp a) (dp b) = dp b by omega, Nat.sub_self, Int.pow_zero, Int.ediv_one]
        exact h
    · rw [va_up_ne _ _ ca, up_ne _ _ ca] at h
      by_cases cb : b = i0
      · subst cb
        rw [va_up_self, up_self, e1] at h
        by_cases c : dp b + 1 ≤ dp a
        · rw [show min (dp a) (dp b + 1) = dp b + 1 by omega, Nat.sub_self, Int.pow_zero, Int.ediv_one] at h
          rw [show min (dp a) (dp b) = dp b by omega, Nat.sub_self, Int.pow_zero, Int.ediv_one, ← e2, ← h, show dp a - dp b = dp a - (dp b + 1) + 1 by omega, div_pow_add]
          rfl
        · rw [show min (dp a) (dp b + 1) = dp a by omega, Nat.sub_self, Int.pow_zero, Int.ediv_one, show dp b + 1 - dp a = 1 + (dp b - dp a) by omega, div_pow_add, show v' / 2 ^ 1 = v b from e2] at h
          rw [show min (dp a) (dp b) = dp a by omega, Nat.sub_self, Int.pow_zero, Int.ediv_one]
          exact h
      · rw [va_up_ne _ _ cb, up_ne _ _ cb] at h
        exact h
/-- neighbours that meet are known to s bits, those that the pass is behind to one more -/
def TaI (v : Nat → Int) (dp : Nat → Nat) (nm s i : Nat) : Prop := ∀ a, a + 1 < nm → Mt v dp a (a + 1) → (s ≤ dp a ∧ (a < i → s + 1 ≤ dp a)) ∧ s ≤ dp (a + 1) ∧ (a + 1 < i → s + 1 ≤ dp (a + 1))
theorem TaI.skip {v : Nat → Int} {dp : Nat → Nat} {nm s i : Nat} (h : TaI v dp nm s i) (hm : ¬ Meets v dp nm i) : TaI v dp nm s (i + 1) := fun a ha hM => by
  obtain ⟨⟨h1, h2⟩, h3, h4⟩ := h a ha hM
  have n1 : a ≠ i := fun e => hm (Or.inr ⟨by omega, by rw [← e]; exact hM⟩)
  have n2 : a + 1 ≠ i := fun e => hm (Or.inl ⟨by omega, by rw [← e, Nat.add_sub_cancel]; exact hM⟩)
  exact ⟨⟨h1, fun _ => h2 (by omega)⟩, h3, fun _ => h4 (by omega)⟩
theorem TaI.step {v : Nat → Int} {dp : Nat → Nat} {nm s i d' : Nat} {v' : Int} (h : TaI v dp nm s i) (hs : s < 248) (hd : (dp i = 248 ∧ d' = dp i ∧ v' = v i) ∨ (dp i < 248 ∧ d' = dp i + 1 ∧ v' / 2 = v i)) : TaI (up v i v') (va_up dp i d') nm s (i + 1) := fun a ha hM => by
  have hM0 := hM.back (by omega) (by rcases hd with ⟨_, q1, q2⟩ | ⟨_, q1, q2⟩; exact Or.inl ⟨q1, q2⟩; exact Or.inr ⟨q1, q2⟩)
  obtain ⟨⟨h1, h2⟩, h3, h4⟩ := h a ha hM0
  have key : ∀ j, s ≤ dp j → (j < i → s + 1 ≤ dp j) → s ≤ va_up dp i d' j ∧ (j < i + 1 → s + 1 ≤ va_up dp i d' j) := fun j k1 k2 => by
    by_cases c : j = i
    · rw [c, va_up_self]; rw [c] at k1; omega
    · rw [va_up_ne _ _ c]; exact ⟨k1, fun _ => k2 (by omega)⟩
  exact ⟨key a h1 h2, key (a + 1) h3 h4⟩
theorem TaI.next {v : Nat → Int} {dp : Nat → Nat} {nm s : Nat} (h : TaI v dp nm s nm) : TaI v dp nm (s + 1) 0 := fun a ha hM => by
  obtain ⟨⟨h1, h2⟩, h3, h4⟩ := h a ha hM
  exact ⟨⟨h2 (by omega), fun h => by omega⟩, h4 (by omega), fun h => by omega⟩
theorem TaI.done {p1 F : Nat → Int} {N : Rat → Int} {I : Nat → Int} {A : Nat → Nat → Int} {p nm s : Nat} {dp : Nat → Nat} {v : Nat → Int} (hP : Part p1 F) (hN : NB F N) (hp : Pls I A p nm N dp v) (h : TaI v dp nm s 0) (hs : 248 ≤ s) : ∀ a, a + 1 < nm → ¬ Mt v dp a (a + 1) := fun a ha hM => by
  obtain ⟨⟨h1, _⟩, h3, _⟩ := h a ha hM
  obtain ⟨_, g1, g2⟩ := hp a (by omega)
  obtain ⟨_, k1, k2⟩ := hp (a + 1) ha
  have d1 : dp a = 248 := by have := g1.1; omega
  have d2 : dp (a + 1) = 248 := by have := k1.1; omega
  unfold Mt at hM
  rw [d1, d2, Nat.min_self, Nat.sub_self, Int.pow_zero, Int.ediv_one, Int.ediv_one] at hM
  rw [d1] at g2
  rw [d2, ← hM] at k2
  exact two_far hP hN (Nat.le_refl _) g2 k2
theorem d_RR_meetsNeighbour_0 : decode prog_1_method_44_code 0 = .ok (.iload_n 1, 1) := by decide +kernel
theorem d_RR_meetsNeighbour_1 : decode prog_1_method_44_code 1 = .ok (.ifCond .le 23, 3) := by decide +kernel
theorem d_RR_meetsNeighbour_4 : decode prog_1_method_44_code 4 = .ok (.aload_n 0, 1) := by decide +kernel
theorem d_RR_meetsNeighbour_5 : decode prog_1_method_44_code 5 = .ok (.getfield 129, 3) := by decide +kernel
theorem d_RR_meetsNeighbour_8 : decode prog_1_method_44_code 8 = .ok (.iload_n 1, 1) := by decide +kernel
theorem d_RR_meetsNeighbour_9 : decode prog_1_method_44_code 9 = .ok (.iconst 1, 1) := by decide +kernel
theorem d_RR_meetsNeighbour_10 : decode prog_1_method_44_code 10 = .ok (.isub, 1) := by decide +kernel
theorem d_RR_meetsNeighbour_11 : decode prog_1_method_44_code 11 = .ok (.aaload, 1) := by decide +kernel
theorem d_RR_meetsNeighbour_12 : decode prog_1_method_44_code 12 = .ok (.aload_n 0, 1) := by decide +kernel
theorem d_RR_meetsNeighbour_13 : decode prog_1_method_44_code 13 = .ok (.getfield 129, 3) := by decide +kernel
theorem d_RR_meetsNeighbour_16 : decode prog_1_method_44_code 16 = .ok (.iload_n 1, 1) := by decide +kernel
theorem d_RR_meetsNeighbour_17 : decode prog_1_method_44_code 17 = .ok (.aaload, 1) := by decide +kernel
theorem d_RR_meetsNeighbour_18 : decode prog_1_method_44_code 18 = .ok (.invokevirtual 314, 3) := by decide +kernel
theorem d_RR_meetsNeighbour_21 : decode prog_1_method_44_code 21 = .ok (.ifCond .eq 33, 3) := by decide +kernel
theorem d_RR_meetsNeighbour_24 : decode prog_1_method_44_code 24 = .ok (.iload_n 1, 1) := by decide +kernel
theorem d_RR_meetsNeighbour_25 : decode prog_1_method_44_code 25 = .ok (.iconst 1, 1) := by decide +kernel
theorem d_RR_meetsNeighbour_26 : decode prog_1_method_44_code 26 = .ok (.iadd, 1) := by decide +kernel
theorem d_RR_meetsNeighbour_27 : decode prog_1_method_44_code 27 = .ok (.aload_n 0, 1) := by decide +kernel
theorem d_RR_meetsNeighbour_28 : decode prog_1_method_44_code 28 = .ok (.getfield 282, 3) := by decide +kernel
theorem d_RR_meetsNeighbour_31 : decode prog_1_method_44_code 31 = .ok (.if_icmp .ge 27, 3) := by decide +kernel
theorem d_RR_meetsNeighbour_34 : decode prog_1_method_44_code 34 = .ok (.aload_n 0, 1) := by decide +kernel
theorem d_RR_meetsNeighbour_35 : decode prog_1_method_44_code 35 = .ok (.getfield 129, 3) := by decide +kernel
theorem d_RR_meetsNeighbour_38 : decode prog_1_method_44_code 38 = .ok (.iload_n 1, 1) := by decide +kernel
theorem d_RR_meetsNeighbour_39 : decode prog_1_method_44_code 39 = .ok (.aaload, 1) := by decide +kernel
theorem d_RR_meetsNeighbour_40 : decode prog_1_method_44_code 40 = .ok (.aload_n 0, 1) := by decide +kernel
theorem d_RR_meetsNeighbour_41 : decode prog_1_method_44_code 41 = .ok (.getfield 129, 3) := by decide +kernel
theorem d_RR_meetsNeighbour_44 : decode prog_1_method_44_code 44 = .ok (.iload_n 1, 1) := by decide +kernel
theorem d_RR_meetsNeighbour_45 : decode prog_1_method_44_code 45 = .ok (.iconst 1, 1) := by decide +kernel
theorem d_RR_meetsNeighbour_46 : decode prog_1_method_44_code 46 = .ok (.iadd, 1) := by decide +kernel
theorem d_RR_meetsNeighbour_47 : decode prog_1_method_44_code 47 = .ok (.aaload, 1) := by decide +kernel
theorem d_RR_meetsNeighbour_48 : decode prog_1_method_44_code 48 = .ok (.invokevirtual 314, 3) := by decide +kernel
theorem d_RR_meetsNeighbour_51 : decode prog_1_method_44_code 51 = .ok (.ifCond .ne 7, 3) := by decide +kernel
theorem d_RR_meetsNeighbour_54 : decode prog_1_method_44_code 54 = .ok (.iconst 1, 1) := by decide +kernel
theorem d_RR_meetsNeighbour_55 : decode prog_1_method_44_code 55 = .ok (.goto 4, 3) := by decide +kernel
theorem d_RR_meetsNeighbour_58 : decode prog_1_method_44_code 58 = .ok (.iconst 0, 1) := by decide +kernel
theorem d_RR_meetsNeighbour_59 : decode prog_1_method_44_code 59 = .ok (.ireturn, 1) := by decide +kernel
set_option maxHeartbeats 8000000 in
set_option maxRecDepth 100000 in
theorem c_RR_meetsNeighbour (l : Launch) (D : va_G) (cs : Nat → ClassId) (L : List Nat) (f : Nat → va_E) (sz : Nat) (ad Qm : Nat → Nat) (If : Nat → Int) (Af : Nat → Nat → Int) (Rf : Nat → Nat) (Zf : Nat → Int) (p0 nm : Nat) (N : Rat → Int) (dp : Nat → Nat) (v : Nat → Int) (i0 : Nat) (hAd : AdOk L ad Qm) (hC : CSt cs ad Qm f If Af Rf Zf) (hp0 : p0 < 12) (hnm : If (40 + p0) = (nm : Int)) (hnm5 : nm ≤ 5) (hPls : Pls If Af p0 nm N dp v) (hi0 : i0 < nm) : Met l (⟨"RealRoots", "meetsNeighbour", "(LRealRoots$Curve;I)Z"⟩ : MethodName) (.code (⟨"RealRoots", "meetsNeighbour", "(LRealRoots$Curve;I)Z"⟩ : MethodName) prog_1_method_44_code 2 (Option.some Jvm.ClassFile.FieldType.boolean) :: gw) ({ frames := 2, cells := 0, slots := 0, locals := 90 }) (va_Pc [.ref ((ad (15 + p0))), .int (iI ((i0 : Int)))] (K0 D vwCl (TY cs) L f sz)) (va_Qi (fun (r : Int32) (g : Nat → va_E) => ∃ rr : Int, r = iI rr ∧ ((rr = 1 ∧ Meets v dp nm i0) ∨ (rr = 0 ∧ ¬ Meets v dp nm i0)) ∧ g = f) (K1 D vwCl (TY cs) (AL L sz) L) (AL L sz)) 0 0 (AL L sz) := by
  refine Met.ofW (cc := prog_1_method_44_code) (maxL := 2) (ret := (Option.some Jvm.ClassFile.FieldType.boolean)) (by decide) rfl ?_
  intro p e s m args below meth c s₁ Bd hml hv
  obtain ⟨rfl, hk0⟩ := hv
  obtain ⟨hsz, B⟩ := hk0.start
  subst hsz
  have hx := Bd.exec
  have hb := Bd.bytes
  have hr := Bd.returns
  have hlocks := Bd.notSynchronized
  have hts0 := atoms_spec Bd.pre
  have hown : s.vm.findClass RX6 = some m.cls := findClass_of_methodNamed Bd.named
  have hA : ∀ q, s.heap.size ≤ q → AL L s.heap.size q := fun _ h => Or.inr h
  have hl := lv_entry ([.ref ((ad (15 + p0))), .int (iI ((i0 : Int)))]) (n := 2) (Nat.le_of_ble_eq_true rfl)
  rw [lg_entry_eq]
  generalize (lg_sl ([.ref ((ad (15 + p0))), .int (iI ((i0 : Int)))]) ++ List.replicate (2 - (lg_sl ([.ref ((ad (15 + p0))), .int (iI ((i0 : Int)))])).length) Slot.unset).toArray = ls at hl ⊢
  refine absQ (fun Q R av hQ hR hav => ?_)
  have hts : ∀ w ∈ gw, w.before av s = true := by rw [hav]; exact fun w h => hts0 w (List.mem_cons_of_mem _ h)
  have hRf : R.frames = 2 := by rw [hR]; rfl
  have hRl : R.locals = 90 := by rw [hR]; rfl
  have hRc : R.cells = 0 := by rw [hR]; rfl
  have hRs : R.slots = 0 := by rw [hR]; rfl
  clear hR hts0 Bd
  have hl : lv_has ls 2 [(0, .ref ((ad (15 + p0)))), (1, .int (iI ((i0 : Int))))] := hl
  have hfr : ∀ k, Awy ad k → f k = f k := fun _ _ => rfl
  refine lv_iload_n hx hb d_RR_meetsNeighbour_0 rfl (lv_at hl 1 rfl) ?_
  refine x_if_le (tgt := 24) hx hb d_RR_meetsNeighbour_1 (by decide) (by omega) (fun h1 => ?_) (fun h1 => ?_)
  · refine lv_iload_n hx hb d_RR_meetsNeighbour_24 rfl (lv_at hl 1 rfl) ?_
    refine x_iconst hx hb d_RR_meetsNeighbour_25 ?_
    refine x_iadd hx hb d_RR_meetsNeighbour_26 ?_
    refine lv_aload_n hx hb d_RR_meetsNeighbour_27 rfl (lv_at hl 0 rfl) ?_
    refine x_get (C := RX2) (T := TX2) (N := 5) hx hb hts inX2 hown (B.foc1 (hC.cu (p := p0) (by omega))) (hAd.f1 (by omega)) 0 rfl rfl 4 (by decide) (hts _ w_185) (fun _ h9 => h9) rfl d_RR_meetsNeighbour_28 ?_
    rw [hnm]
    refine x_icmp_ge (tgt := 58) hx hb d_RR_meetsNeighbour_31 (by decide) (by omega) (by omega) (fun h31 => ?_) (fun h31 => ?_)
    · refine x_iconst hx hb d_RR_meetsNeighbour_58 ?_
      subst hQ hav
      exact x_zret hx hb hr (by decide) hlocks B d_RR_meetsNeighbour_59 (⟨0, rfl, Or.inr ⟨rfl, fun hm => by rcases hm with ⟨q1, q2⟩ | ⟨q1, q2⟩; (first | omega | (have := hca0.mpr q2; omega)); (first | omega | (have := hcb0.mpr q2; omega))⟩, rfl⟩)
    · refine lv_aload_n hx hb d_RR_meetsNeighbour_34 rfl (lv_at hl 0 rfl) ?_
      refine x_get (C := RX2) (T := TX2) (N := 5) hx hb hts inX2 hown (B.foc1 (hC.cu (p := p0) (by omega))) (hAd.f1 (by omega)) 0 rfl rfl 2 (by decide) (hts _ w_181) (fun _ h9 => h9) rfl d_RR_meetsNeighbour_35 ?_
      refine lv_iload_n hx hb d_RR_meetsNeighbour_38 rfl (lv_at hl 1 rfl) ?_
      refine x_aald hx hb (B.foc1 (hC.pa (p := p0) (by omega))) (hAd.f1 (by omega)) 0 5 rfl rfl i0 (by omega) (by omega) (by decide) (rfs_at (by omega)) d_RR_meetsNeighbour_39 ?_
      refine lv_aload_n hx hb d_RR_meetsNeighbour_40 rfl (lv_at hl 0 rfl) ?_
      refine x_get (C := RX2) (T := TX2) (N := 5) hx hb hts inX2 hown (B.foc1 (hC.cu (p := p0) (by omega))) (hAd.f1 (by omega)) 0 rfl rfl 2 (by decide) (hts _ w_181) (fun _ h9 => h9) rfl d_RR_meetsNeighbour_41 ?_
      refine lv_iload_n hx hb d_RR_meetsNeighbour_44 rfl (lv_at hl 1 rfl) ?_
      refine x_iconst hx hb d_RR_meetsNeighbour_45 ?_
      refine x_iadd hx hb d_RR_meetsNeighbour_46 ?_
      refine x_aald hx hb (B.foc1 (hC.pa (p := p0) (by omega))) (hAd.f1 (by omega)) 0 5 rfl rfl (i0 + 1) (by omega) (by omega) (by decide) (rfs_at (by omega)) d_RR_meetsNeighbour_47 ?_
      have hp1a48 := hPls i0 (by omega)
      have hp2a48 := hPls (i0 + 1) (by omega)
      have hw1a48 := hp1a48.2.1.whr hp1a48.2.2.1
      have hw2a48 := hp2a48.2.1.whr hp2a48.2.2.1
      refine x_calli B hA (va_runV (As := [.ref ((ad (63 + (5 * p0 + (i0 + 1)))))]) (rest := []) ⟨hx, hb, hml, hown, hts⟩ (c_Place_against l D cs _ _ _ (ad (63 + (5 * p0 + i0))) (ad (123 + (5 * p0 + i0))) (ad (63 + (5 * p0 + (i0 + 1)))) (ad (123 + (5 * p0 + (i0 + 1)))) (dp i0) (dp (i0 + 1)) (If (100 + (5 * p0 + i0))) (If (100 + (5 * p0 + (i0 + 1)))) (Af (100 + (5 * p0 + i0))) (Af (100 + (5 * p0 + (i0 + 1)))) (hAd.fc [63 + (5 * p0 + i0), 123 + (5 * p0 + i0), 63 + (5 * p0 + (i0 + 1)), 123 + (5 * p0 + (i0 + 1))] (by simp only [List.nodup_cons, List.mem_cons, List.not_mem_nil, or_false, not_or, List.nodup_nil, and_true, not_false_eq_true]; omega) (by intro q hq; simp only [List.mem_cons, List.not_mem_nil, or_false] at hq; omega)) (by rw [← hp1a48.1]; exact hC.pl (m := (5 * p0 + i0)) (by omega)) (hC.wq (m := (5 * p0 + i0)) (by omega)) (by rw [← hp2a48.1]; exact hC.pl (m := (5 * p0 + (i0 + 1))) (by omega)) (hC.wq (m := (5 * p0 + (i0 + 1))) (by omega)) (by omega) (by omega) hp1a48.2.1.1 hp2a48.2.1.1 (fun j hj => ⟨hp1a48.2.1.2.1 j hj, hp2a48.2.1.2.1 j hj⟩)) (cwV 1 hts (gw_V w_432 w_433 w_434 w_7 w_435) rfl rfl rfl (by decide +kernel) ⟨by rw [hRf]; exact Nat.le_of_ble_eq_true rfl, by rw [hRl]; exact Nat.le_of_ble_eq_true rfl⟩) ⟨K0.blind, B.recv (hAd.1 _ (by omega)) (hC.pl (m := (5 * p0 + i0)) (by omega)) rfl, B.pre _⟩ rfl rfl hl.1 rfl (lv_room (Nat.le_of_ble_eq_true rfl)) d_RR_meetsNeighbour_48 ⟨by rw [hRc]; omega, by rw [hRs]; omega⟩) (fun r48 g48 H locs hw B => ?_)
      obtain ⟨rfl, hgf⟩ := hw
      rw [hgf] at B
      rw [hp1a48.2.1.cmp hp2a48.2.1]
      obtain ⟨cb, hcb⟩ : ∃ cb : Int, cb = cmq ((v i0) / 2 ^ ((dp i0) - min (dp i0) (dp (i0 + 1)))) ((v (i0 + 1)) / 2 ^ ((dp (i0 + 1)) - min (dp i0) (dp (i0 + 1)))) := ⟨_, rfl⟩
      rw [← hcb]
      have hcbr : -1 ≤ cb ∧ cb ≤ 1 := by rw [hcb]; exact cmq_rng _ _
      have hcb0 : cb = 0 ↔ (v i0) / 2 ^ ((dp i0) - min (dp i0) (dp (i0 + 1))) = (v (i0 + 1)) / 2 ^ ((dp (i0 + 1)) - min (dp i0) (dp (i0 + 1))) := by rw [hcb]; exact cmq_iff0
      refine x_if_ne (tgt := 58) hx hb d_RR_meetsNeighbour_51 (by decide) (by omega) (fun h51 => ?_) (fun h51 => ?_)
      · refine x_iconst hx hb d_RR_meetsNeighbour_58 ?_
        subst hQ hav
        exact x_zret hx hb hr (by decide) hlocks B d_RR_meetsNeighbour_59 (⟨0, rfl, Or.inr ⟨rfl, fun hm => by rcases hm with ⟨q1, q2⟩ | ⟨q1, q2⟩; (first | omega | (have := hca0.mpr q2; omega)); (first | omega | (have := hcb0.mpr q2; omega))⟩, rfl⟩)
      · refine x_iconst hx hb d_RR_meetsNeighbour_54 ?_
        refine lv_goto (tgt := 59) hx hb d_RR_meetsNeighbour_55 (by decide) ?_
        subst hQ hav
        exact x_zret hx hb hr (by decide) hlocks B d_RR_meetsNeighbour_59 (⟨1, rfl, Or.inl ⟨rfl, by first | exact Or.inl ⟨by omega, by have h9 := hca0.mp (by omega); rw [show i0 - 1 + 1 = i0 by omega] at h9; exact h9⟩ | exact Or.inl ⟨by omega, hca0.mp (by omega)⟩ | exact Or.inr ⟨by omega, hcb0.mp (by omega)⟩⟩, rfl⟩)
  · refine lv_aload_n hx hb d_RR_meetsNeighbour_4 rfl (lv_at hl 0 rfl) ?_
    refine x_get (C := RX2) (T := TX2) (N := 5) hx hb hts inX2 hown (B.foc1 (hC.cu (p := p0) (by omega))) (hAd.f1 (by omega)) 0 rfl rfl 2 (by decide) (hts _ w_181) (fun _ h9 => h9) rfl d_RR_meetsNeighbour_5 ?_
    refine lv_iload_n hx hb d_RR_meetsNeighbour_8 rfl (lv_at hl 1 rfl) ?_
    refine x_iconst hx hb d_RR_meetsNeighbour_9 ?_
    refine x_isub hx hb d_RR_meetsNeighbour_10 ?_
    refine x_aald hx hb (B.foc1 (hC.pa (p := p0) (by omega))) (hAd.f1 (by omega)) 0 5 rfl rfl (i0 - 1) (by omega) (by omega) (by decide) (rfs_at (by omega)) d_RR_meetsNeighbour_11 ?_
    refine lv_aload_n hx hb d_RR_meetsNeighbour_12 rfl (lv_at hl 0 rfl) ?_
    refine x_get (C := RX2) (T := TX2) (N := 5) hx hb hts inX2 hown (B.foc1 (hC.cu (p := p0) (by omega))) (hAd.f1 (by omega)) 0 rfl rfl 2 (by decide) (hts _ w_181) (fun _ h9 => h9) rfl d_RR_meetsNeighbour_13 ?_
    refine lv_iload_n hx hb d_RR_meetsNeighbour_16 rfl (lv_at hl 1 rfl) ?_
    refine x_aald hx hb (B.foc1 (hC.pa (p := p0) (by omega))) (hAd.f1 (by omega)) 0 5 rfl rfl i0 (by omega) (by omega) (by decide) (rfs_at (by omega)) d_RR_meetsNeighbour_17 ?_
    have hp1a18 := hPls (i0 - 1) (by omega)
    have hp2a18 := hPls i0 (by omega)
    have hw1a18 := hp1a18.2.1.whr hp1a18.2.2.1
    have hw2a18 := hp2a18.2.1.whr hp2a18.2.2.1
    refine x_calli B hA (va_runV (As := [.ref ((ad (63 + (5 * p0 + i0))))]) (rest := []) ⟨hx, hb, hml, hown, hts⟩ (c_Place_against l D cs _ _ _ (ad (63 + (5 * p0 + (i0 - 1)))) (ad (123 + (5 * p0 + (i0 - 1)))) (ad (63 + (5 * p0 + i0))) (ad (123 + (5 * p0 + i0))) (dp (i0 - 1)) (dp i0) (If (100 + (5 * p0 + (i0 - 1)))) (If (100 + (5 * p0 + i0))) (Af (100 + (5 * p0 + (i0 - 1)))) (Af (100 + (5 * p0 + i0))) (hAd.fc [63 + (5 * p0 + (i0 - 1)), 123 + (5 * p0 + (i0 - 1)), 63 + (5 * p0 + i0), 123 + (5 * p0 + i0)] (by simp only [List.nodup_cons, List.mem_cons, List.not_mem_nil, or_false, not_or, List.nodup_nil, and_true, not_false_eq_true]; omega) (by intro q hq; simp only [List.mem_cons, List.not_mem_nil, or_false] at hq; omega)) (by rw [← hp1a18.1]; exact hC.pl (m := (5 * p0 + (i0 - 1))) (by omega)) (hC.wq (m := (5 * p0 + (i0 - 1))) (by omega)) (by rw [← hp2a18.1]; exact hC.pl (m := (5 * p0 + i0)) (by omega)) (hC.wq (m := (5 * p0 + i0)) (by omega)) (by omega) (by omega) hp1a18.2.1.1 hp2a18.2.1.1 (fun j hj => ⟨hp1a18.2.1.2.1 j hj, hp2a18.2.1.2.1 j hj⟩)) (cwV 1 hts (gw_V w_432 w_433 w_434 w_7 w_435) rfl rfl rfl (by decide +kernel) ⟨by rw [hRf]; exact Nat.le_of_ble_eq_true rfl, by rw [hRl]; exact Nat.le_of_ble_eq_true rfl⟩) ⟨K0.blind, B.recv (hAd.1 _ (by omega)) (hC.pl (m := (5 * p0 + (i0 - 1))) (by omega)) rfl, B.pre _⟩ rfl rfl hl.1 rfl (lv_room (Nat.le_of_ble_eq_true rfl)) d_RR_meetsNeighbour_18 ⟨by rw [hRc]; omega, by rw [hRs]; omega⟩) (fun r18 g18 H locs hw B => ?_)
    obtain ⟨rfl, hgf⟩ := hw
    rw [hgf] at B
    rw [hp1a18.2.1.cmp hp2a18.2.1]
    obtain ⟨ca, hca⟩ : ∃ ca : Int, ca = cmq ((v (i0 - 1)) / 2 ^ ((dp (i0 - 1)) - min (dp (i0 - 1)) (dp i0))) ((v i0) / 2 ^ ((dp i0) - min (dp (i0 - 1)) (dp i0))) := ⟨_, rfl⟩
    rw [← hca]
    have hcar : -1 ≤ ca ∧ ca ≤ 1 := by rw [hca]; exact cmq_rng _ _
    have hca0 : ca = 0 ↔ (v (i0 - 1)) / 2 ^ ((dp (i0 - 1)) - min (dp (i0 - 1)) (dp i0)) = (v i0) / 2 ^ ((dp i0) - min (dp (i0 - 1)) (dp i0)) := by rw [hca]; exact cmq_iff0
    refine x_if_eq (tgt := 54) hx hb d_RR_meetsNeighbour_21 (by decide) (by omega) (fun h21 => ?_) (fun h21 => ?_)
    · refine x_iconst hx hb d_RR_meetsNeighbour_54 ?_
      refine lv_goto (tgt := 59) hx hb d_RR_meetsNeighbour_55 (by decide) ?_
      subst hQ hav
      exact x_zret hx hb hr (by decide) hlocks B d_RR_meetsNeighbour_59 (⟨1, rfl, Or.inl ⟨rfl, by first | exact Or.inl ⟨by omega, by have h9 := hca0.mp (by omega); rw [show i0 - 1 + 1 = i0 by omega] at h9; exact h9⟩ | exact Or.inl ⟨by omega, hca0.mp (by omega)⟩ | exact Or.inr ⟨by omega, hcb0.mp (by omega)⟩⟩, rfl⟩)
    · refine lv_iload_n hx hb d_RR_meetsNeighbour_24 rfl (lv_at hl 1 rfl) ?_
      refine x_iconst hx hb d_RR_meetsNeighbour_25 ?_
      refine x_iadd hx hb d_RR_meetsNeighbour_26 ?_
      refine lv_aload_n hx hb d_RR_meetsNeighbour_27 rfl (lv_at hl 0 rfl) ?_
      refine x_get (C := RX2) (T := TX2) (N := 5) hx hb hts inX2 hown (B.foc1 (hC.cu (p := p0) (by omega))) (hAd.f1 (by omega)) 0 rfl rfl 4 (by decide) (hts _ w_185) (fun _ h9 => h9) rfl d_RR_meetsNeighbour_28 ?_
      rw [hnm]
      refine x_icmp_ge (tgt := 58) hx hb d_RR_meetsNeighbour_31 (by decide) (by omega) (by omega) (fun h31 => ?_) (fun h31 => ?_)
      · refine x_iconst hx hb d_RR_meetsNeighbour_58 ?_
        subst hQ hav
        exact x_zret hx hb hr (by decide) hlocks B d_RR_meetsNeighbour_59 (⟨0, rfl, Or.inr ⟨rfl, fun hm => by rcases hm with ⟨q1, q2⟩ | ⟨q1, q2⟩; (first | omega | (have := hca0.mpr q2; omega)); (first | omega | (have := hcb0.mpr q2; omega))⟩, rfl⟩)
      · refine lv_aload_n hx hb d_RR_meetsNeighbour_34 rfl (lv_at hl 0 rfl) ?_
        refine x_get (C := RX2) (T := TX2) (N := 5) hx hb hts inX2 hown (B.foc1 (hC.cu (p := p0) (by omega))) (hAd.f1 (by omega)) 0 rfl rfl 2 (by decide) (hts _ w_181) (fun _ h9 => h9) rfl d_RR_meetsNeighbour_35 ?_
        refine lv_iload_n hx hb d_RR_meetsNeighbour_38 rfl (lv_at hl 1 rfl) ?_
        refine x_aald hx hb (B.foc1 (hC.pa (p := p0) (by omega))) (hAd.f1 (by omega)) 0 5 rfl rfl i0 (by omega) (by omega) (by decide) (rfs_at (by omega)) d_RR_meetsNeighbour_39 ?_
        refine lv_aload_n hx hb d_RR_meetsNeighbour_40 rfl (lv_at hl 0 rfl) ?_
        refine x_get (C := RX2) (T := TX2) (N := 5) hx hb hts inX2 hown (B.foc1 (hC.cu (p := p0) (by omega))) (hAd.f1 (by omega)) 0 rfl rfl 2 (by decide) (hts _ w_181) (fun _ h9 => h9) rfl d_RR_meetsNeighbour_41 ?_
        refine lv_iload_n hx hb d_RR_meetsNeighbour_44 rfl (lv_at hl 1 rfl) ?_
        refine x_iconst hx hb d_RR_meetsNeighbour_45 ?_
        refine x_iadd hx hb d_RR_meetsNeighbour_46 ?_
        refine x_aald hx hb (B.foc1 (hC.pa (p := p0) (by omega))) (hAd.f1 (by omega)) 0 5 rfl rfl (i0 + 1) (by omega) (by omega) (by decide) (rfs_at (by omega)) d_RR_meetsNeighbour_47 ?_
        have hp1a48 := hPls i0 (by omega)
        have hp2a48 := hPls (i0 + 1) (by omega)
        have hw1a48 := hp1a48.2.1.whr hp1a48.2.2.1
        have hw2a48 := hp2a48.2.1.whr hp2a48.2.2.1
        refine x_calli B hA (va_runV (As := [.ref ((ad (63 + (5 * p0 + (i0 + 1)))))]) (rest := []) ⟨hx, hb, hml, hown, hts⟩ (c_Place_against l D cs _ _ _ (ad (63 + (5 * p0 + i0))) (ad (123 + (5 * p0 + i0))) (ad (63 + (5 * p0 + (i0 + 1)))) (ad (123 + (5 * p0 + (i0 + 1)))) (dp i0) (dp (i0 + 1)) (If (100 + (5 * p0 + i0))) (If (100 + (5 * p0 + (i0 + 1)))) (Af (100 + (5 * p0 + i0))) (Af (100 + (5 * p0 + (i0 + 1)))) (hAd.fc [63 + (5 * p0 + i0), 123 + (5 * p0 + i0), 63 + (5 * p0 + (i0 + 1)), 123 + (5 * p0 + (i0 + 1))] (by simp only [List.nodup_cons, List.mem_cons, List.not_mem_nil, or_false, not_or, List.nodup_nil, and_true, not_false_eq_true]; omega) (by intro q hq; simp only [List.mem_cons, List.not_mem_nil, or_false] at hq; omega)) (by rw [← hp1a48.1]; exact hC.pl (m := (5 * p0 + i0)) (by omega)) (hC.wq (m := (5 * p0 + i0)) (by omega)) (by rw [← hp2a48.1]; exact hC.pl (m := (5 * p0 + (i0 + 1))) (by omega)) (hC.wq (m := (5 * p0 + (i0 + 1))) (by omega)) (by omega) (by omega) hp1a48.2.1.1 hp2a48.2.1.1 (fun j hj => ⟨hp1a48.2.1.2.1 j hj, hp2a48.2.1.2.1 j hj⟩)) (cwV 1 hts (gw_V w_432 w_433 w_434 w_7 w_435) rfl rfl rfl (by decide +kernel) ⟨by rw [hRf]; exact Nat.le_of_ble_eq_true rfl, by rw [hRl]; exact Nat.le_of_ble_eq_true rfl⟩) ⟨K0.blind, B.recv (hAd.1 _ (by omega)) (hC.pl (m := (5 * p0 + i0)) (by omega)) rfl, B.pre _⟩ rfl rfl hl.1 rfl (lv_room (Nat.le_of_ble_eq_true rfl)) d_RR_meetsNeighbour_48 ⟨by rw [hRc]; omega, by rw [hRs]; omega⟩) (fun r48 g48 H locs hw B => ?_)
        obtain ⟨rfl, hgf⟩ := hw
        rw [hgf] at B
        rw [hp1a48.2.1.cmp hp2a48.2.1]
        obtain ⟨cb, hcb⟩ : ∃ cb : Int, cb = cmq ((v i0) / 2 ^ ((dp i0) - min (dp i0) (dp (i0 + 1)))) ((v (i0 + 1)) / 2 ^ ((dp (i0 + 1)) - min (dp i0) (dp (i0 + 1)))) := ⟨_, rfl⟩
        rw [← hcb]
        have hcbr : -1 ≤ cb ∧ cb ≤ 1 := by rw [hcb]; exact cmq_rng _ _
        have hcb0 : cb = 0 ↔ (v i0) / 2 ^ ((dp i0) - min (dp i0) (dp (i0 + 1))) = (v (i0 + 1)) / 2 ^ ((dp (i0 + 1)) - min (dp i0) (dp (i0 + 1))) := by rw [hcb]; exact cmq_iff0
        refine x_if_ne (tgt := 58) hx hb d_RR_meetsNeighbour_51 (by decide) (by omega) (fun h51 => ?_) (fun h51 => ?_)
        · refine x_iconst hx hb d_RR_meetsNeighbour_58 ?_
          subst hQ hav
          exact x_zret hx hb hr (by decide) hlocks B d_RR_meetsNeighbour_59 (⟨0, rfl, Or.inr ⟨rfl, fun hm => by rcases hm with ⟨q1, q2⟩ | ⟨q1, q2⟩; (first | omega | (have := hca0.mpr q2; omega)); (first | omega | (have := hcb0.mpr q2; omega))⟩, rfl⟩)
        · refine x_iconst hx hb d_RR_meetsNeighbour_54 ?_
          refine lv_goto (tgt := 59) hx hb d_RR_meetsNeighbour_55 (by decide) ?_
          subst hQ hav
          exact x_zret hx hb hr (by decide) hlocks B d_RR_meetsNeighbour_59 (⟨1, rfl, Or.inl ⟨rfl, by first | exact Or.inl ⟨by omega, by have h9 := hca0.mp (by omega); rw [show i0 - 1 + 1 = i0 by omega] at h9; exact h9⟩ | exact Or.inl ⟨by omega, hca0.mp (by omega)⟩ | exact Or.inr ⟨by omega, hcb0.mp (by omega)⟩⟩, rfl⟩)
theorem d_RR_tellApart_0 : decode prog_1_method_43_code 0 = .ok (.aload_n 1, 1) := by decide +kernel
theorem d_RR_tellApart_1 : decode prog_1_method_43_code 1 = .ok (.getfield 282, 3) := by decide +kernel
theorem d_RR_tellApart_4 : decode prog_1_method_43_code 4 = .ok (.iconst 1, 1) := by decide +kernel
theorem d_RR_tellApart_5 : decode prog_1_method_43_code 5 = .ok (.if_icmp .le 7, 3) := by decide +kernel
theorem d_RR_tellApart_8 : decode prog_1_method_43_code 8 = .ok (.iconst 1, 1) := by decide +kernel
theorem d_RR_tellApart_9 : decode prog_1_method_43_code 9 = .ok (.goto 4, 3) := by decide +kernel
theorem d_RR_tellApart_12 : decode prog_1_method_43_code 12 = .ok (.iconst 0, 1) := by decide +kernel
theorem d_RR_tellApart_13 : decode prog_1_method_43_code 13 = .ok (.istore_n 2, 1) := by decide +kernel
theorem d_RR_tellApart_14 : decode prog_1_method_43_code 14 = .ok (.iconst 0, 1) := by decide +kernel
theorem d_RR_tellApart_15 : decode prog_1_method_43_code 15 = .ok (.istore_n 3, 1) := by decide +kernel
theorem d_RR_tellApart_16 : decode prog_1_method_43_code 16 = .ok (.iload_n 3, 1) := by decide +kernel
theorem d_RR_tellApart_17 : decode prog_1_method_43_code 17 = .ok (.sipush 248, 3) := by decide +kernel
theorem d_RR_tellApart_20 : decode prog_1_method_43_code 20 = .ok (.if_icmp .ge 51, 3) := by decide +kernel
theorem d_RR_tellApart_23 : decode prog_1_method_43_code 23 = .ok (.iload_n 2, 1) := by decide +kernel
theorem d_RR_tellApart_24 : decode prog_1_method_43_code 24 = .ok (.ifCond .eq 47, 3) := by decide +kernel
theorem d_RR_tellApart_27 : decode prog_1_method_43_code 27 = .ok (.iconst 0, 1) := by decide +kernel
theorem d_RR_tellApart_28 : decode prog_1_method_43_code 28 = .ok (.istore_n 2, 1) := by decide +kernel
theorem d_RR_tellApart_29 : decode prog_1_method_43_code 29 = .ok (.iconst 0, 1) := by decide +kernel
theorem d_RR_tellApart_30 : decode prog_1_method_43_code 30 = .ok (.istore 4, 2) := by decide +kernel
theorem d_RR_tellApart_32 : decode prog_1_method_43_code 32 = .ok (.iload 4, 2) := by decide +kernel
theorem d_RR_tellApart_34 : decode prog_1_method_43_code 34 = .ok (.aload_n 1, 1) := by decide +kernel
theorem d_RR_tellApart_35 : decode prog_1_method_43_code 35 = .ok (.getfield 282, 3) := by decide +kernel
theorem d_RR_tellApart_38 : decode prog_1_method_43_code 38 = .ok (.if_icmp .ge 27, 3) := by decide +kernel
theorem d_RR_tellApart_41 : decode prog_1_method_43_code 41 = .ok (.aload_n 1, 1) := by decide +kernel
theorem d_RR_tellApart_42 : decode prog_1_method_43_code 42 = .ok (.iload 4, 2) := by decide +kernel
theorem d_RR_tellApart_44 : decode prog_1_method_43_code 44 = .ok (.invokestatic 307, 3) := by decide +kernel
theorem d_RR_tellApart_47 : decode prog_1_method_43_code 47 = .ok (.ifCond .eq 12, 3) := by decide +kernel
theorem d_RR_tellApart_50 : decode prog_1_method_43_code 50 = .ok (.iconst 1, 1) := by decide +kernel
theorem d_RR_tellApart_51 : decode prog_1_method_43_code 51 = .ok (.istore_n 2, 1) := by decide +kernel
theorem d_RR_tellApart_52 : decode prog_1_method_43_code 52 = .ok (.aload_n 0, 1) := by decide +kernel
theorem d_RR_tellApart_53 : decode prog_1_method_43_code 53 = .ok (.aload_n 1, 1) := by decide +kernel
theorem d_RR_tellApart_54 : decode prog_1_method_43_code 54 = .ok (.iload 4, 2) := by decide +kernel
theorem d_RR_tellApart_56 : decode prog_1_method_43_code 56 = .ok (.invokevirtual 311, 3) := by decide +kernel
theorem d_RR_tellApart_59 : decode prog_1_method_43_code 59 = .ok (.iinc 4 1, 3) := by decide +kernel
theorem d_RR_tellApart_62 : decode prog_1_method_43_code 62 = .ok (.goto (-30), 3) := by decide +kernel
theorem d_RR_tellApart_65 : decode prog_1_method_43_code 65 = .ok (.iinc 3 1, 3) := by decide +kernel
theorem d_RR_tellApart_68 : decode prog_1_method_43_code 68 = .ok (.goto (-52), 3) := by decide +kernel
theorem d_RR_tellApart_71 : decode prog_1_method_43_code 71 = .ok (.return_, 1) := by decide +kernel
set_option maxHeartbeats 8000000 in
set_option maxRecDepth 100000 in
theorem c_RR_tellApart (l : Launch) (D : va_G) (cs : Nat → ClassId) (L : List Nat) (f : Nat → va_E) (sz : Nat) (ad Qm : Nat → Nat) (If : Nat → Int) (Af : Nat → Nat → Int) (Rf : Nat → Nat) (Zf : Nat → Int) (p0 nm : Nat) (N : Rat → Int) (dp : Nat → Nat) (v : Nat → Int) (p1 : Nat → Int) (hAd : AdOk L ad Qm) (hC : CSt cs ad Qm f If Af Rf Zf) (hp0 : p0 < 12) (hnm : If (40 + p0) = (nm : Int)) (hnm5 : nm ≤ 5) (hPls : Pls If Af p0 nm N dp v) (hNB : NB (Af (40 + p0)) N) (hPart : Part p1 (Af (40 + p0))) (hch : ChF (Af (40 + p0)) If Af Rf Zf) : Met l (⟨"RealRoots", "tellApart", "(LRealRoots$Curve;)V"⟩ : MethodName) (.code (⟨"RealRoots", "tellApart", "(LRealRoots$Curve;)V"⟩ : MethodName) prog_1_method_43_code 5 (Option.none : Option Jvm.ClassFile.FieldType) :: gw) ({ frames := 5, cells := 0, slots := 0, locals := 240 }) (va_Pc [.ref ((ad 0)), .ref ((ad (15 + p0)))] (K0 D vwCl (TY cs) L f sz)) (va_Qv (fun (g : Nat → va_E) => ∃ (I' : Nat → Int) (A' : Nat → Nat → Int) (R' : Nat → Nat) (Z' : Nat → Int), CSt cs ad Qm g I' A' R' Z' ∧ (∀ k, Awy ad k → g k = f k) ∧ (∃ (dp' : Nat → Nat) (v' : Nat → Int), Pls I' A' p0 nm N dp' v' ∧ ∀ a, a + 1 < nm → ¬ Mt v' dp' a (a + 1)) ∧ ChF (Af (40 + p0)) I' A' R' Z' ∧ (∀ i, i ≠ 4 → i ≠ 5 → (∀ j, j < 5 → i ≠ 200 + (5 * p0 + j)) → I' i = If i) ∧ ∀ q, (∀ j, j < 5 → q ≠ 100 + (5 * p0 + j)) → A' q = Af q) (K1 D vwCl (TY cs) (AL L sz) L) (AL L sz)) 0 0 (AL L sz) := by
  refine Met.ofW (cc := prog_1_method_43_code) (maxL := 5) (ret := (Option.none : Option Jvm.ClassFile.FieldType)) (by decide) rfl ?_
  intro p e s m args below meth c s₁ Bd hml hv
  obtain ⟨rfl, hk0⟩ := hv
  obtain ⟨hsz, B⟩ := hk0.start
  subst hsz
  have hx := Bd.exec
  have hb := Bd.bytes
  have hr := Bd.returns
  have hlocks := Bd.notSynchronized
  have hts0 := atoms_spec Bd.pre
  have hown : s.vm.findClass RX6 = some m.cls := findClass_of_methodNamed Bd.named
  have hA : ∀ q, s.heap.size ≤ q → AL L s.heap.size q := fun _ h => Or.inr h
  have hl := lv_entry ([.ref ((ad 0)), .ref ((ad (15 + p0)))]) (n := 5) (Nat.le_of_ble_eq_true rfl)
  rw [lg_entry_eq]
  generalize (lg_sl ([.ref ((ad 0)), .ref ((ad (15 + p0)))]) ++ List.replicate (5 - (lg_sl ([.ref ((ad 0)), .ref ((ad (15 + p0)))])).length) Slot.unset).toArray = ls at hl ⊢
  refine absQ (fun Q R av hQ hR hav => ?_)
  have hts : ∀ w ∈ gw, w.before av s = true := by rw [hav]; exact fun w h => hts0 w (List.mem_cons_of_mem _ h)
  have hRf : R.frames = 5 := by rw [hR]; rfl
  have hRl : R.locals = 240 := by rw [hR]; rfl
  have hRc : R.cells = 0 := by rw [hR]; rfl
  have hRs : R.slots = 0 := by rw [hR]; rfl
  clear hR hts0 Bd
  have hl : lv_has ls 5 [(0, .ref ((ad 0))), (1, .ref ((ad (15 + p0))))] := hl
  have hfr : ∀ k, Awy ad k → f k = f k := fun _ _ => rfl
  have LA : ∀ (fuel : Nat) (fw : Nat → va_E) (Iw : Nat → Int) (Aw : Nat → Nat → Int) (Rw : Nat → Nat) (Zw : Nat → Int) (ss : Nat) (cl : Int) (dw : Nat → Nat) (vw : Nat → Int), 248 - ss < fuel → (CSt cs ad Qm fw Iw Aw Rw Zw) → (∀ k, Awy ad k → fw k = f k) → (ss ≤ 248) → (cl = 0 ∨ cl = 1) → (∀ i, i ≠ 4 → i ≠ 5 → (∀ j, j < 5 → i ≠ 200 + (5 * p0 + j)) → Iw i = If i) → (∀ q, (∀ j, j < 5 → q ≠ 100 + (5 * p0 + j)) → Aw q = Af q) → (ChF (Af (40 + p0)) Iw Aw Rw Zw) → (Pls Iw Aw p0 nm N dw vw) → (TaI vw dw nm ss 0) → (cl = 0 → ∀ a, a + 1 < nm → ¬ Mt vw dw a (a + 1)) → ∀ (H : Heap) (locs : List Loc) (ls : Array Slot), Wb D vwCl (TY cs) L fw (AL L s.heap.size) s H locs → lv_has ls 5 [(3, .int (iI ((ss : Int)))), (2, .int (iI cl)), (0, .ref ((ad 0))), (1, .ref ((ad (15 + p0))))] → W p l e R s m av below meth c H locs (0) (0) Q (F0 m 16 ls []) := by
    intro fuel
    induction fuel with
    | zero => intro fw Iw Aw Rw Zw ss cl dw vw hfu; exact absurd hfu (Nat.not_lt_zero _)
    | succ fuel ih_LA =>
      intro fw Iw Aw Rw Zw ss cl dw vw hfu_LA hCw hfrw hss hcl hIw hAw hchw hPw hTw hnw H locs ls B hl
      have hnmw : Iw (40 + p0) = (nm : Int) := by rw [hIw _ (by omega) (by omega) (fun j hj => by omega)]; exact hnm
      have hAFw : Aw (40 + p0) = Af (40 + p0) := hAw _ (fun j hj => by omega)
      refine lv_iload_n hx hb d_RR_tellApart_16 rfl (lv_at hl 0 rfl) ?_
      refine x_sipush hx hb d_RR_tellApart_17 (by decide) ?_
      refine x_icmp_ge (tgt := 71) hx hb d_RR_tellApart_20 (by decide) (by omega) (by omega) (fun h20 => ?_) (fun h20 => ?_)
      · subst hQ hav
        exact x_vret hx hb hr hlocks B d_RR_tellApart_71 (⟨Iw, Aw, Rw, Zw, hCw, hfrw, ⟨dw, vw, hPw, by first | exact hnw (by omega) | exact hTw.done hPart hNB hPw (by omega)⟩, hchw, hIw, hAw⟩)
      · refine lv_iload_n hx hb d_RR_tellApart_23 rfl (lv_at hl 1 rfl) ?_
        refine x_if_eq (tgt := 71) hx hb d_RR_tellApart_24 (by decide) (by omega) (fun h24 => ?_) (fun h24 => ?_)
        · subst hQ hav
          exact x_vret hx hb hr hlocks B d_RR_tellApart_71 (⟨Iw, Aw, Rw, Zw, hCw, hfrw, ⟨dw, vw, hPw, by first | exact hnw (by omega) | exact hTw.done hPart hNB hPw (by omega)⟩, hchw, hIw, hAw⟩)
        · refine x_iconst hx hb d_RR_tellApart_27 ?_
          refine lv_istore_n (lv' := [(2, .int (iI 0)), (3, .int (iI ((ss : Int)))), (0, .ref ((ad 0))), (1, .ref ((ad (15 + p0))))]) hx hb d_RR_tellApart_28 rfl hl (by decide) rfl (fun ls hl => ?_)
          refine x_iconst hx hb d_RR_tellApart_29 ?_
          refine lv_istore (lv' := [(4, .int (iI 0)), (2, .int (iI 0)), (3, .int (iI ((ss : Int)))), (0, .ref ((ad 0))), (1, .ref ((ad (15 + p0))))]) hx hb d_RR_tellApart_30 hl (by decide) rfl (fun ls hl => ?_)
          have LB : ∀ (fuel : Nat) (fv : Nat → va_E) (Iv : Nat → Int) (Av : Nat → Nat → Int) (Rv : Nat → Nat) (Zv : Nat → Int) (ii : Nat) (c2 : Int) (dv : Nat → Nat) (vv : Nat → Int), nm - ii < fuel → (CSt cs ad Qm fv Iv Av Rv Zv) → (∀ k, Awy ad k → fv k = f k) → (ii ≤ nm) → (c2 = 0 ∨ c2 = 1) → (∀ i, i ≠ 4 → i ≠ 5 → (∀ j, j < 5 → i ≠ 200 + (5 * p0 + j)) → Iv i = If i) → (∀ q, (∀ j, j < 5 → q ≠ 100 + (5 * p0 + j)) → Av q = Af q) → (ChF (Af (40 + p0)) Iv Av Rv Zv) → (Pls Iv Av p0 nm N dv vv) → (TaI vv dv nm ss ii) → (c2 = 0 → ∀ a, a < ii → ¬ Meets vv dv nm a) → ∀ (H : Heap) (locs : List Loc) (ls : Array Slot), Wb D vwCl (TY cs) L fv (AL L s.heap.size) s H locs → lv_has ls 5 [(4, .int (iI ((ii : Int)))), (2, .int (iI c2)), (3, .int (iI ((ss : Int)))), (0, .ref ((ad 0))), (1, .ref ((ad (15 + p0))))] → W p l e R s m av below meth c H locs (0) (0) Q (F0 m 32 ls []) := by
            intro fuel
            induction fuel with
            | zero => intro fv Iv Av Rv Zv ii c2 dv vv hfu; exact absurd hfu (Nat.not_lt_zero _)
            | succ fuel ih_LB =>
              intro fv Iv Av Rv Zv ii c2 dv vv hfu_LB hCv hfrv hi hc2 hIv hAv hchv hPv hTv hnv H locs ls B hl
              have hnmv : Iv (40 + p0) = (nm : Int) := by rw [hIv _ (by omega) (by omega) (fun j hj => by omega)]; exact hnm
              have hAFv : Av (40 + p0) = Af (40 + p0) := hAv _ (fun j hj => by omega)
              refine lv_iload hx hb d_RR_tellApart_32 (lv_at hl 0 rfl) ?_
              refine lv_aload_n hx hb d_RR_tellApart_34 rfl (lv_at hl 4 rfl) ?_
              refine x_get (C := RX2) (T := TX2) (N := 5) hx hb hts inX2 hown (B.foc1 (hCv.cu (p := p0) (by omega))) (hAd.f1 (by omega)) 0 rfl rfl 4 (by decide) (hts _ w_185) (fun _ h9 => h9) rfl d_RR_tellApart_35 ?_
              rw [hnmv]
              refine x_icmp_ge (tgt := 65) hx hb d_RR_tellApart_38 (by decide) (by omega) (by omega) (fun h38 => ?_) (fun h38 => ?_)
              · refine x_iinc (lv' := [(3, .int (iI (((ss : Int)) + 1))), (4, .int (iI ((ii : Int)))), (2, .int (iI c2)), (0, .ref ((ad 0))), (1, .ref ((ad (15 + p0))))]) hx hb d_RR_tellApart_65 hl (q := 2) rfl rfl (by decide) rfl (fun ls hl => ?_)
                refine lv_goto (tgt := 16) hx hb d_RR_tellApart_68 (by decide) ?_
                exact ih_LA fv Iv Av Rv Zv (ss + 1) c2 dv vv (by omega) hCv hfrv (by omega) hc2 hIv hAv hchv hPv (TaI.next (by rw [show ii = nm by omega] at hTv; exact hTv)) (fun h a ha hM => hnv h a (by omega) (Or.inr ⟨ha, hM⟩)) _ _ _ B (lv_sub hl [0, 2, 3, 4] rfl)
              · refine lv_aload_n hx hb d_RR_tellApart_41 rfl (lv_at hl 4 rfl) ?_
                refine lv_iload hx hb d_RR_tellApart_42 (lv_at hl 0 rfl) ?_
                refine x_calli B hA (va_runS (As := [.ref ((ad (15 + p0))), .int (iI ((ii : Int)))]) (rest := []) ⟨hx, hb, hml, hown, hts⟩ (c_RR_meetsNeighbour l D cs _ _ _ ad Qm Iv Av Rv Zv p0 nm N dv vv ii hAd hCv hp0 hnmv hnm5 hPv (by omega)) (va_cwS 2 hts (gw_S w_429 w_430 w_1 w_431) rfl rfl rfl (by decide +kernel) ⟨by rw [hRf]; exact Nat.le_of_ble_eq_true rfl, by rw [hRl]; exact Nat.le_of_ble_eq_true rfl⟩) ⟨K0.blind, B.pre _⟩ rfl rfl hl.1 rfl (lv_room (Nat.le_of_ble_eq_true rfl)) d_RR_tellApart_44 ⟨by rw [hRc]; omega, by rw [hRs]; omega⟩) (fun r44 g44 H locs hw B => ?_)
                obtain ⟨mr, rfl, hmr, hgf⟩ := hw
                rw [hgf] at B
                have hmr01 : mr = 0 ∨ mr = 1 := by rcases hmr with ⟨h, _⟩ | ⟨h, _⟩; exact Or.inr h; exact Or.inl h
                refine x_if_eq (tgt := 59) hx hb d_RR_tellApart_47 (by decide) (by omega) (fun h47 => ?_) (fun h47 => ?_)
                · have hnm1 : ¬ Meets vv dv nm ii := by rcases hmr with ⟨h, _⟩ | ⟨_, h⟩; omega; exact h
                  refine x_iinc (lv' := [(4, .int (iI (((ii : Int)) + 1))), (2, .int (iI c2)), (3, .int (iI ((ss : Int)))), (0, .ref ((ad 0))), (1, .ref ((ad (15 + p0))))]) hx hb d_RR_tellApart_59 hl (q := 0) rfl rfl (by decide) rfl (fun ls hl => ?_)
                  refine lv_goto (tgt := 32) hx hb d_RR_tellApart_62 (by decide) ?_
                  exact ih_LB fv Iv Av Rv Zv (ii + 1) c2 dv vv (by omega) hCv hfrv (by omega) hc2 hIv hAv hchv hPv (hTv.skip hnm1) (fun h a ha => by
          by_cases c : a = ii
          · rw [c]; exact hnm1
          · exact hnv h a (by omega)) _ _ _ B (lv_sub hl [0, 1, 2, 3, 4] rfl)
                · refine x_iconst hx hb d_RR_tellApart_50 ?_
                  refine lv_istore_n (lv' := [(2, .int (iI 1)), (4, .int (iI ((ii : Int)))), (3, .int (iI ((ss : Int)))), (0, .ref ((ad 0))), (1, .ref ((ad (15 + p0))))]) hx hb d_RR_tellApart_51 rfl hl (by decide) rfl (fun ls hl => ?_)
                  refine lv_aload_n hx hb d_RR_tellApart_52 rfl (lv_at hl 3 rfl) ?_
                  refine lv_aload_n hx hb d_RR_tellApart_53 rfl (lv_at hl 4 rfl) ?_
                  refine lv_iload hx hb d_RR_tellApart_54 (lv_at hl 1 rfl) ?_
                  refine x_callv B hA (va_runV (As := [.ref ((ad (15 + p0))), .int (iI ((ii : Int)))]) (rest := []) ⟨hx, hb, hml, hown, hts⟩ (c_RR_deepenByCount l D cs _ _ _ ad Qm Iv Av Rv Zv p0 ii (dv ii) (vv ii) N hAd hCv hp0 (by omega) (by rw [hAFv]; exact hNB) (hPv ii (by omega)).1 (hPv ii (by omega)).2.1 (hPv ii (by omega)).2.2 (by rw [hAFv]; exact hchv)) (cwV 2 hts (gw_V w_438 w_440 s_18 w_1 w_441) rfl rfl rfl (by decide +kernel) ⟨by rw [hRf]; exact Nat.le_of_ble_eq_true rfl, by rw [hRl]; exact Nat.le_of_ble_eq_true rfl⟩) ⟨K0.blind, B.recv (hAd.1 _ (by omega)) (hCv.x) rfl, B.pre _⟩ rfl rfl hl.1 rfl (lv_room (Nat.le_of_ble_eq_true rfl)) d_RR_tellApart_56 ⟨by rw [hRc]; omega, by rw [hRs]; omega⟩) (fun g56 H locs hw B => ?_)
                  obtain ⟨I_56, A_56, R_56, Z_56, hC_56, hq_56, ⟨dn, vn, hdn1, hdn2, hdn3, hdn4⟩, hchq, hIq, hAq⟩ := hw
                  have hfr_56 : ∀ k, Awy ad k → g56 k = f k := fun k hk => (hq_56 k hk).trans (hfrv k hk)
                  have B : Wb D vwCl (TY cs) L g56 (AL L s.heap.size) s H _ := B
                  refine x_iinc (lv' := [(4, .int (iI (((ii : Int)) + 1))), (2, .int (iI 1)), (3, .int (iI ((ss : Int)))), (0, .ref ((ad 0))), (1, .ref ((ad (15 + p0))))]) hx hb d_RR_tellApart_59 hl (q := 1) rfl rfl (by decide) rfl (fun ls hl => ?_)
                  refine lv_goto (tgt := 32) hx hb d_RR_tellApart_62 (by decide) ?_
                  exact ih_LB g56 I_56 A_56 R_56 Z_56 (ii + 1) 1 (va_up dv ii dn) (up vv ii vn) (by omega) hC_56 hfr_56 (by omega) (by omega) (fun i h1 h2 h3 => by rw [hIq i h1 h2 (h3 ii (by omega))]; exact hIv i h1 h2 h3) (fun q hq => by rw [hAq q (hq ii (by omega))]; exact hAv q hq) (by rw [← hAFv]; exact hchq) (hPv.set (fun i h1 h2 => hIq i (by omega) (by omega) h2) hAq hdn1 hdn2 hdn3 (by omega) hnm5) (hTv.step (by omega) hdn4) (fun h => by omega) _ _ _ B (lv_sub hl [0, 1, 2, 3, 4] rfl)
          exact LB _ fw Iw Aw Rw Zw 0 0 dw vw (Nat.lt_succ_self _) hCw hfrw (by omega) (by omega) hIw hAw hchw hPw hTw (fun _ a ha => by omega) _ _ _ B (lv_sub hl [0, 1, 2, 3, 4] rfl)
  refine lv_aload_n hx hb d_RR_tellApart_0 rfl (lv_at hl 1 rfl) ?_
  refine x_get (C := RX2) (T := TX2) (N := 5) hx hb hts inX2 hown (B.foc1 (hC.cu (p := p0) (by omega))) (hAd.f1 (by omega)) 0 rfl rfl 4 (by decide) (hts _ w_185) (fun _ h9 => h9) rfl d_RR_tellApart_1 ?_
  rw [hnm]
  refine x_iconst hx hb d_RR_tellApart_4 ?_
  refine x_icmp_le (tgt := 12) hx hb d_RR_tellApart_5 (by decide) (by omega) (by omega) (fun h5 => ?_) (fun h5 => ?_)
  · refine x_iconst hx hb d_RR_tellApart_12 ?_
    refine lv_istore_n (lv' := [(2, .int (iI 0)), (0, .ref ((ad 0))), (1, .ref ((ad (15 + p0))))]) hx hb d_RR_tellApart_13 rfl hl (by decide) rfl (fun ls hl => ?_)
    refine x_iconst hx hb d_RR_tellApart_14 ?_
    refine lv_istore_n (lv' := [(3, .int (iI 0)), (2, .int (iI 0)), (0, .ref ((ad 0))), (1, .ref ((ad (15 + p0))))]) hx hb d_RR_tellApart_15 rfl hl (by decide) rfl (fun ls hl => ?_)
    exact LA _ f If Af Rf Zf 0 0 dp v (Nat.lt_succ_self _) hC hfr (by omega) (by omega) (fun i _ _ _ => rfl) (fun q _ => rfl) hch hPls (fun a ha hM => ⟨⟨Nat.zero_le _, fun h => by omega⟩, Nat.zero_le _, fun h => by omega⟩) (fun h a ha => by omega) _ _ _ B (lv_sub hl [0, 1, 2, 3] rfl)
  · refine x_iconst hx hb d_RR_tellApart_8 ?_
    refine lv_goto (tgt := 13) hx hb d_RR_tellApart_9 (by decide) ?_
    refine lv_istore_n (lv' := [(2, .int (iI 1)), (0, .ref ((ad 0))), (1, .ref ((ad (15 + p0))))]) hx hb d_RR_tellApart_13 rfl hl (by decide) rfl (fun ls hl => ?_)
    refine x_iconst hx hb d_RR_tellApart_14 ?_
    refine lv_istore_n (lv' := [(3, .int (iI 0)), (2, .int (iI 1)), (0, .ref ((ad 0))), (1, .ref ((ad (15 + p0))))]) hx hb d_RR_tellApart_15 rfl hl (by decide) rfl (fun ls hl => ?_)
    exact LA _ f If Af Rf Zf 0 1 dp v (Nat.lt_succ_self _) hC hfr (by omega) (by omega) (fun i _ _ _ => rfl) (fun q _ => rfl) hch hPls (fun a ha hM => ⟨⟨Nat.zero_le _, fun h => by omega⟩, Nat.zero_le _, fun h => by omega⟩) (fun h a ha => by omega) _ _ _ B (lv_sub hl [0, 1, 2, 3] rfl)
