/-- bits of the remainders that can still come: e, al bits by d, be bits -/
def wOk : Nat → Nat → Nat → Nat → Nat → Bool
  | 0, _, _, _, _ => false
  | n + 1, e, d, al, be => decide (rE al be e d ≤ 1950) && (List.range d).all (fun d2 => wOk n d d2 be (rE al be e d))
theorem wOk.use {n e d al be : Nat} (h : wOk n e d al be = true) : ∃ m, n = m + 1 ∧ rE al be e d ≤ 1950 ∧ ∀ d2, d2 < d → wOk m d d2 be (rE al be e d) = true := by
  cases n with
  | zero => simp [wOk] at h
  | succ m =>
    simp only [wOk, Bool.and_eq_true, decide_eq_true_eq, List.all_eq_true, List.mem_range] at h
    exact ⟨m, rfl, h.1, h.2⟩
theorem GI.congr {A B P Q P' Q' : Nat → Int} (h : GI A B P Q) (hP : ∀ j, j < 6 → P' j = P j) (hQ : ∀ j, j < 6 → Q' j = Q j) : GI A B P' Q' := by
  obtain ⟨⟨u, w, h1⟩, ⟨u2, w2, h2⟩, h3⟩ := h
  have eP : ∀ x, es P' 6 x = es P 6 x := fun x => es_congr hP x
  have eQ : ∀ x, es Q' 6 x = es Q 6 x := fun x => es_congr hQ x
  refine ⟨⟨u, w, fun x => by rw [eP x]; exact h1 x⟩, ⟨u2, w2, fun x => by rw [eQ x]; exact h2 x⟩, fun D hD1 hD2 => h3 D ?_ ?_⟩
  · obtain ⟨q, hq⟩ := hD1
    exact ⟨q, fun x => by rw [← es_ev, ← eP x, es_ev]; exact hq x⟩
  · obtain ⟨q, hq⟩ := hD2
    exact ⟨q, fun x => by rw [← es_ev, ← eQ x, es_ev]; exact hq x⟩
theorem Rem.congr {P Q R P' Q' : Nat → Int} (h : Rem P Q R) (hP : ∀ j, j < 6 → P' j = P j) (hQ : ∀ j, j < 6 → Q' j = Q j) : Rem P' Q' R := by
  obtain ⟨la, S, hla, hr⟩ := h
  exact ⟨la, S, hla, fun x => by rw [es_congr hP x, es_congr hQ x]; exact hr x⟩
/-- C is the greatest common divisor of A and B, primitive, its lead positive; 0 for two that are 0 -/
def Gcd (A B C : Nat → Int) : Prop := ((∀ j, j < 6 → A j = 0) ∧ (∀ j, j < 6 → B j = 0) ∧ ∀ j, j < 6 → C j = 0) ∨ (cg C 0 6 = 1 ∧ (∃ k, k < 6 ∧ 0 < C k ∧ ∀ j, k < j → j < 6 → C j = 0) ∧ Cmb A B C ∧ Dv (il C 6) (il A 6) ∧ Dv (il C 6) (il B 6))
theorem dv_scale {P C A : Nat → Int} {c : Int} (hc : c ≠ 0) (h : ∀ j, j < 6 → P j = c * C j) (hd : Dv (il P 6) (il A 6)) : Dv (il C 6) (il A 6) := by
  obtain ⟨q, hq⟩ := hd
  refine ⟨psc (c : Rat) q, fun x => ?_⟩
  rw [hq x, ev_sc, ← es_ev, ← es_ev, es_congr h x, es_sc]
  grind
theorem cmb_scale {A B P C : Nat → Int} {c : Int} (hc : c ≠ 0) (h : ∀ j, j < 6 → P j = c * C j) (hd : Cmb A B P) : Cmb A B C := by
  obtain ⟨u, w, h1⟩ := hd
  have hc' : (c : Rat) ≠ 0 := fun h0 => hc (by exact_mod_cast h0)
  have hcc : (c : Rat)⁻¹ * (c : Rat) = 1 := Rat.inv_mul_cancel _ hc'
  refine ⟨psc (c : Rat)⁻¹ u, psc (c : Rat)⁻¹ w, fun x => ?_⟩
  have h2 := h1 x
  rw [es_congr h x, es_sc] at h2
  have h3 : es C 6 x = (c : Rat)⁻¹ * ((c : Rat) * es C 6 x) := by grind
  rw [h3, h2, ev_sc, ev_sc]
  grind
/-- behind lessen: the divisor, its content taken out -/
theorem gcd_lessen {A B P C : Nat → Int} {c : Nat} (h : Cmb A B P ∧ Dv (il P 6) (il A 6) ∧ Dv (il P 6) (il B 6)) (hc : c = cg P 0 6) (h1 : ∀ j, j < 6 → P j = (c : Int) * C j) (h0 : c = 0 → ∀ j, j < 6 → C j = 0) : ((∀ j, j < 6 → A j = 0) ∧ (∀ j, j < 6 → B j = 0) ∧ ∀ j, j < 6 → C j = 0) ∨ (cg C 0 6 = 1 ∧ Cmb A B C ∧ Dv (il C 6) (il A 6) ∧ Dv (il C 6) (il B 6)) := by
  obtain ⟨g1, g2, g3⟩ := h
  rcases Nat.eq_zero_or_pos c with hz | hz
  · left
    have hP : ∀ j, j < 6 → P j = 0 := fun j hj => by rw [h1 j hj, h0 hz j hj]; simp
    have zero : ∀ D : Nat → Int, Dv (il P 6) (il D 6) → ∀ j, j < 6 → D j = 0 := fun D hD => by
      obtain ⟨q, hq⟩ := hD
      exact es_row (fun x => by rw [es_ev, hq x, ← es_ev, es_zero hP]; grind)
    exact ⟨zero A g2, zero B g3, h0 hz⟩
  · right
    refine ⟨?_, cmb_scale (by omega) h1 g1, dv_scale (by omega) h1 g2, dv_scale (by omega) h1 g3⟩
    have h2 := cg_mul h1 6 (Nat.le_refl _)
    rw [Int.natAbs_natCast, ← hc] at h2
    exact Nat.eq_of_mul_eq_mul_left hz (by rw [← h2, Nat.mul_one])
theorem gcd_prim {A B C D : Nat → Int} (h : ((∀ j, j < 6 → A j = 0) ∧ (∀ j, j < 6 → B j = 0) ∧ ∀ j, j < 6 → C j = 0) ∨ (cg C 0 6 = 1 ∧ Cmb A B C ∧ Dv (il C 6) (il A 6) ∧ Dv (il C 6) (il B 6))) (hp : PrimOf C D) : Gcd A B D := by
  rcases h with ⟨h1, h2, h3⟩ | ⟨h1, h2, h3, h4⟩
  · left
    rcases hp with ⟨_, g2⟩ | ⟨c, hc, g1, g2, k, hk, g3, g4⟩
    · exact ⟨h1, h2, g2⟩
    · exfalso
      have := g1 k hk
      rw [h3 k hk] at this
      rcases Int.mul_eq_zero.mp this.symm with h | h <;> omega
  · right
    rcases hp with ⟨g1, _⟩ | ⟨c, hc, g1, g2, g3⟩
    · exfalso
      have : cg C 0 6 = 0 := by
        have : ∀ k, k ≤ 6 → cg C 0 k = 0 := by
          intro k
          induction k with
          | zero => intro _; rfl
          | succ k ih => intro hk; rw [cg, ih (by omega), Nat.zero_add, g1 k (by omega)]; rfl
        exact this 6 (Nat.le_refl _)
      omega
    · exact ⟨g2, g3, cmb_scale hc g1 h2, dv_scale hc g1 h3, dv_scale hc g1 h4⟩
theorem cg_shift (Z : Nat → Int) (p k : Nat) : cg Z p k = cg (fun j => Z (p + j)) 0 k := by
  induction k with
  | zero => rfl
  | succ k ih => rw [cg, cg, ih, Nat.zero_add]
/-- all that comes out of the divisor is small -/
theorem gcd_small {A B C : Nat → Int} {M : Int} (hM : 0 ≤ M) (hA : ∀ j, j < 6 → -M ≤ A j ∧ A j ≤ M) (hB : ∀ j, j < 6 → -M ≤ B j ∧ B j ≤ M) (h : ((∀ j, j < 6 → A j = 0) ∧ (∀ j, j < 6 → B j = 0) ∧ ∀ j, j < 6 → C j = 0) ∨ (cg C 0 6 = 1 ∧ Cmb A B C ∧ Dv (il C 6) (il A 6) ∧ Dv (il C 6) (il B 6))) : ∀ j, j < 6 → -(49 * M) ≤ C j ∧ C j ≤ 49 * M := by
  rcases h with ⟨_, _, h3⟩ | ⟨h1, ⟨u, w, h2⟩, h3, h4⟩
  · intro j hj; rw [h3 j hj]; omega
  · by_cases ha : ∃ t, t < 6 ∧ A t ≠ 0
    · exact (prim_small hM ha hA h1 h3).2
    · by_cases hb : ∃ t, t < 6 ∧ B t ≠ 0
      · exact (prim_small hM hb hB h1 h4).2
      · have zA : ∀ j, j < 6 → A j = 0 := fun j hj => Classical.byContradiction (fun h => ha ⟨j, hj, h⟩)
        have zB : ∀ j, j < 6 → B j = 0 := fun j hj => Classical.byContradiction (fun h => hb ⟨j, hj, h⟩)
        have zC : ∀ j, j < 6 → C j = 0 := es_row (fun x => by rw [h2 x, es_zero zA, es_zero zB]; grind)
        intro j hj
        rw [zC j hj]; omega
theorem d_Mo_common_0 : decode prog_9_method_33_code 0 = .ok (.aload_n 0, 1) := by decide +kernel
theorem d_Mo_common_1 : decode prog_9_method_33_code 1 = .ok (.bipush 96, 2) := by decide +kernel
theorem d_Mo_common_3 : decode prog_9_method_33_code 3 = .ok (.aload_n 1, 1) := by decide +kernel
theorem d_Mo_common_4 : decode prog_9_method_33_code 4 = .ok (.invokevirtual 132, 3) := by decide +kernel
theorem d_Mo_common_7 : decode prog_9_method_33_code 7 = .ok (.aload_n 0, 1) := by decide +kernel
theorem d_Mo_common_8 : decode prog_9_method_33_code 8 = .ok (.bipush 102, 2) := by decide +kernel
theorem d_Mo_common_10 : decode prog_9_method_33_code 10 = .ok (.aload_n 2, 1) := by decide +kernel
theorem d_Mo_common_11 : decode prog_9_method_33_code 11 = .ok (.invokevirtual 132, 3) := by decide +kernel
theorem d_Mo_common_14 : decode prog_9_method_33_code 14 = .ok (.bipush 96, 2) := by decide +kernel
theorem d_Mo_common_16 : decode prog_9_method_33_code 16 = .ok (.istore_n 3, 1) := by decide +kernel
theorem d_Mo_common_17 : decode prog_9_method_33_code 17 = .ok (.bipush 102, 2) := by decide +kernel
theorem d_Mo_common_19 : decode prog_9_method_33_code 19 = .ok (.istore 4, 2) := by decide +kernel
theorem d_Mo_common_21 : decode prog_9_method_33_code 21 = .ok (.aload_n 0, 1) := by decide +kernel
theorem d_Mo_common_22 : decode prog_9_method_33_code 22 = .ok (.iload 4, 2) := by decide +kernel
theorem d_Mo_common_24 : decode prog_9_method_33_code 24 = .ok (.invokevirtual 99, 3) := by decide +kernel
theorem d_Mo_common_27 : decode prog_9_method_33_code 27 = .ok (.ifCond .lt 29, 3) := by decide +kernel
theorem d_Mo_common_30 : decode prog_9_method_33_code 30 = .ok (.aload_n 0, 1) := by decide +kernel
theorem d_Mo_common_31 : decode prog_9_method_33_code 31 = .ok (.iload_n 3, 1) := by decide +kernel
theorem d_Mo_common_32 : decode prog_9_method_33_code 32 = .ok (.iload 4, 2) := by decide +kernel
theorem d_Mo_common_34 : decode prog_9_method_33_code 34 = .ok (.aload_n 0, 1) := by decide +kernel
theorem d_Mo_common_35 : decode prog_9_method_33_code 35 = .ok (.iload 4, 2) := by decide +kernel
theorem d_Mo_common_37 : decode prog_9_method_33_code 37 = .ok (.invokevirtual 99, 3) := by decide +kernel
theorem d_Mo_common_40 : decode prog_9_method_33_code 40 = .ok (.invokevirtual 136, 3) := by decide +kernel
theorem d_Mo_common_43 : decode prog_9_method_33_code 43 = .ok (.iload_n 3, 1) := by decide +kernel
theorem d_Mo_common_44 : decode prog_9_method_33_code 44 = .ok (.istore 5, 2) := by decide +kernel
theorem d_Mo_common_46 : decode prog_9_method_33_code 46 = .ok (.iload 4, 2) := by decide +kernel
theorem d_Mo_common_48 : decode prog_9_method_33_code 48 = .ok (.istore_n 3, 1) := by decide +kernel
theorem d_Mo_common_49 : decode prog_9_method_33_code 49 = .ok (.iload 5, 2) := by decide +kernel
theorem d_Mo_common_51 : decode prog_9_method_33_code 51 = .ok (.istore 4, 2) := by decide +kernel
theorem d_Mo_common_53 : decode prog_9_method_33_code 53 = .ok (.goto (-32), 3) := by decide +kernel
theorem d_Mo_common_56 : decode prog_9_method_33_code 56 = .ok (.aload_n 0, 1) := by decide +kernel
theorem d_Mo_common_57 : decode prog_9_method_33_code 57 = .ok (.iload_n 3, 1) := by decide +kernel
theorem d_Mo_common_58 : decode prog_9_method_33_code 58 = .ok (.invokevirtual 105, 3) := by decide +kernel
theorem d_Mo_common_61 : decode prog_9_method_33_code 61 = .ok (.iconst 0, 1) := by decide +kernel
theorem d_Mo_common_62 : decode prog_9_method_33_code 62 = .ok (.istore 5, 2) := by decide +kernel
theorem d_Mo_common_64 : decode prog_9_method_33_code 64 = .ok (.iload 5, 2) := by decide +kernel
theorem d_Mo_common_66 : decode prog_9_method_33_code 66 = .ok (.bipush 6, 2) := by decide +kernel
theorem d_Mo_common_68 : decode prog_9_method_33_code 68 = .ok (.if_icmp .ge 21, 3) := by decide +kernel
theorem d_Mo_common_71 : decode prog_9_method_33_code 71 = .ok (.aload_n 1, 1) := by decide +kernel
theorem d_Mo_common_72 : decode prog_9_method_33_code 72 = .ok (.iload 5, 2) := by decide +kernel
theorem d_Mo_common_74 : decode prog_9_method_33_code 74 = .ok (.aload_n 0, 1) := by decide +kernel
theorem d_Mo_common_75 : decode prog_9_method_33_code 75 = .ok (.iload_n 3, 1) := by decide +kernel
theorem d_Mo_common_76 : decode prog_9_method_33_code 76 = .ok (.iload 5, 2) := by decide +kernel
theorem d_Mo_common_78 : decode prog_9_method_33_code 78 = .ok (.iadd, 1) := by decide +kernel
theorem d_Mo_common_79 : decode prog_9_method_33_code 79 = .ok (.invokevirtual 139, 3) := by decide +kernel
theorem d_Mo_common_82 : decode prog_9_method_33_code 82 = .ok (.lastore, 1) := by decide +kernel
theorem d_Mo_common_83 : decode prog_9_method_33_code 83 = .ok (.iinc 5 1, 3) := by decide +kernel
theorem d_Mo_common_86 : decode prog_9_method_33_code 86 = .ok (.goto (-22), 3) := by decide +kernel
theorem d_Mo_common_89 : decode prog_9_method_33_code 89 = .ok (.aload_n 1, 1) := by decide +kernel
theorem d_Mo_common_90 : decode prog_9_method_33_code 90 = .ok (.invokestatic 142, 3) := by decide +kernel
theorem d_Mo_common_93 : decode prog_9_method_33_code 93 = .ok (.return_, 1) := by decide +kernel
set_option maxHeartbeats 8000000 in
set_option maxRecDepth 100000 in
theorem c_Mo_common (l : Launch) (D : va_G) (cs : Nat → ClassId) (L : List Nat) (f : Nat → va_E) (sz : Nat) (y m1 m2 m3 m5 m6 m7 m8 m9 m10 m11 m12 m13 m15 : Nat) (th pn rw_ fu fb : Int) (lm mn sn Z : Nat → Int) (ta tb : Nat) (aw bw : Nat → Int) (M1 : Int) (nal nbe dm0 : Nat) (hF : Fc L [y, m1, m2, m3, ta, tb]) (ha : f y = .inr (7, [.int (iI th), .ref m1, .ref m2, .ref m3, .int (iI pn), .ref m5, .ref m6, .ref m7, .ref m8, .ref m9, .ref m10, .ref m11, .ref m12, .ref m13, .int (iI rw_), .ref m15, .long (lI fu), .long (lI fb)])) (hm1 : f m1 = .inl (cs 0, 11520, .inl (ai lm))) (hm2 : f m2 = .inl (cs 0, 180, .inl (ai mn))) (hm3 : f m3 = .inl (cs 0, 180, .inl (ai sn))) (hRS : RS lm mn sn Z) (hta : f ta = .inl (cs 1, 6, .inr (.inl (al aw)))) (htb : f tb = .inl (cs 1, 6, .inr (.inl (al bw)))) (hM0 : 0 ≤ M1) (hM1 : M1 ≤ 1000000000000) (hAM2 : ∀ j, j < 6 → -M1 ≤ aw j ∧ aw j ≤ M1) (hBM2 : ∀ j, j < 6 → -M1 ≤ bw j ∧ bw j ≤ M1) (hAb : ∀ j, j < 6 → ((aw j).natAbs : Int) < 2 ^ nal) (hBb : ∀ j, j < 6 → ((bw j).natAbs : Int) < 2 ^ nbe) (hdm0 : dm0 ≤ 6) (hBz : ∀ j, dm0 ≤ j → j < 6 → bw j = 0) (hwk0 : ∀ d, d < dm0 → wOk 7 5 d nal nbe = true) (hal : nal ≤ 1950) (hbe : nbe ≤ 1950) : Met l (⟨"RealRootsModel", "common", "([J[J)V"⟩ : MethodName) (.code (⟨"RealRootsModel", "common", "([J[J)V"⟩ : MethodName) prog_9_method_33_code 6 (Option.none : Option Jvm.ClassFile.FieldType) :: gw) ({ frames := 7, cells := 0, slots := 0, locals := 230 }) (va_Pc [.ref y, .ref ta, .ref tb] (K0 D vwCl (TY cs) L f sz)) (va_Qv (fun (g : Nat → va_E) => ∃ lm' mn' sn' Z' c' : Nat → Int, RS lm' mn' sn' Z' ∧ Gcd aw bw c' ∧ (∀ v, (v < 96 ∨ 107 < v) → v < 169 → Z' v = Z v) ∧ g = mw f [(m1, .inl (cs 0, 11520, .inl (ai (lm')))), (m2, .inl (cs 0, 180, .inl (ai (mn')))), (m3, .inl (cs 0, 180, .inl (ai (sn')))), (ta, .inl (cs 1, 6, .inr (.inl (al (c')))))]) (K1 D vwCl (TY cs) (AL L sz) L) (AL L sz)) 0 0 (AL L sz) := by
  refine Met.ofW (cc := prog_9_method_33_code) (maxL := 6) (ret := (Option.none : Option Jvm.ClassFile.FieldType)) (by decide) rfl ?_
  intro p e s m args below meth c s₁ Bd hml hv
  obtain ⟨rfl, hk0⟩ := hv
  obtain ⟨hsz, B⟩ := hk0.start
  subst hsz
  have hx := Bd.exec
  have hb := Bd.bytes
  have hr := Bd.returns
  have hlocks := Bd.notSynchronized
  have hts0 := atoms_spec Bd.pre
  have hown : s.vm.findClass RX7 = some m.cls := findClass_of_methodNamed Bd.named
  have hA : ∀ q, s.heap.size ≤ q → AL L s.heap.size q := fun _ h => Or.inr h
  have hl := lv_entry ([.ref y, .ref ta, .ref tb]) (n := 6) (Nat.le_of_ble_eq_true rfl)
  rw [lg_entry_eq]
  generalize (lg_sl ([.ref y, .ref ta, .ref tb]) ++ List.replicate (6 - (lg_sl ([.ref y, .ref ta, .ref tb])).length) Slot.unset).toArray = ls at hl ⊢
  refine absQ (fun Q R av hQ hR hav => ?_)
  have hts : ∀ w ∈ gw, w.before av s = true := by rw [hav]; exact fun w h => hts0 w (List.mem_cons_of_mem _ h)
  have hRf : R.frames = 7 := by rw [hR]; rfl
  have hRl : R.locals = 230 := by rw [hR]; rfl
  have hRc : R.cells = 0 := by rw [hR]; rfl
  have hRs : R.slots = 0 := by rw [hR]; rfl
  clear hR hts0 Bd
  have hl : lv_has ls 6 [(0, .ref y), (1, .ref ta), (2, .ref tb)] := hl
  have hAM := fun (j : Nat) (hj : j < 6) => hAM2 j hj
  have hBM := fun (j : Nat) (hj : j < 6) => hBM2 j hj
  have hfx : ∀ q ∈ ([(y, .inr (7, [.int (iI th), .ref m1, .ref m2, .ref m3, .int (iI pn), .ref m5, .ref m6, .ref m7, .ref m8, .ref m9, .ref m10, .ref m11, .ref m12, .ref m13, .int (iI rw_), .ref m15, .long (lI fu), .long (lI fb)])), (m1, .inl (cs 0, 11520, .inl (ai lm))), (m2, .inl (cs 0, 180, .inl (ai mn))), (m3, .inl (cs 0, 180, .inl (ai sn))), (ta, .inl (cs 1, 6, .inr (.inl (al aw)))), (tb, .inl (cs 1, 6, .inr (.inl (al bw))))] : List (Nat × va_E)), f q.1 = q.2 := fun q hq => by
    simp only [List.mem_cons, List.not_mem_nil, or_false] at hq
    rcases hq with rfl | rfl | rfl | rfl | rfl | rfl
    · exact ha
    · exact hm1
    · exact hm2
    · exact hm3
    · exact hta
    · exact htb
  have hmw : mw f [(y, .inr (7, [.int (iI th), .ref m1, .ref m2, .ref m3, .int (iI pn), .ref m5, .ref m6, .ref m7, .ref m8, .ref m9, .ref m10, .ref m11, .ref m12, .ref m13, .int (iI rw_), .ref m15, .long (lI fu), .long (lI fb)])), (m1, .inl (cs 0, 11520, .inl (ai lm))), (m2, .inl (cs 0, 180, .inl (ai mn))), (m3, .inl (cs 0, 180, .inl (ai sn))), (ta, .inl (cs 1, 6, .inr (.inl (al aw)))), (tb, .inl (cs 1, 6, .inr (.inl (al bw))))] = f := mw_self (fun k a e hk => hfx (a, e) (List.mem_of_getElem? hk))
  have B := B.focus [(y, .inr (7, [.int (iI th), .ref m1, .ref m2, .ref m3, .int (iI pn), .ref m5, .ref m6, .ref m7, .ref m8, .ref m9, .ref m10, .ref m11, .ref m12, .ref m13, .int (iI rw_), .ref m15, .long (lI fu), .long (lI fb)])), (m1, .inl (cs 0, 11520, .inl (ai lm))), (m2, .inl (cs 0, 180, .inl (ai mn))), (m3, .inl (cs 0, 180, .inl (ai sn))), (ta, .inl (cs 1, 6, .inr (.inl (al aw)))), (tb, .inl (cs 1, 6, .inr (.inl (al bw))))] hfx
  refine lv_aload_n hx hb d_Mo_common_0 rfl (lv_at hl 0 rfl) ?_
  refine x_bipush hx hb d_Mo_common_1 (by decide) ?_
  refine lv_aload_n hx hb d_Mo_common_3 rfl (lv_at hl 1 rfl) ?_
  refine x_callv B hA (va_runV (As := [.int (iI 96), .ref ta]) (rest := []) ⟨hx, hb, hml, hown, hts⟩ (c_Mo_put l D cs _ _ _ y m1 m2 m3 m5 m6 m7 m8 m9 m10 m11 m12 m13 m15 th pn rw_ fu fb lm mn sn Z 96 ta aw (hF.pick [0, 1, 2, 3, 4] rfl rfl) (mw_get (X := [(y, .inr (7, [.int (iI th), .ref m1, .ref m2, .ref m3, .int (iI pn), .ref m5, .ref m6, .ref m7, .ref m8, .ref m9, .ref m10, .ref m11, .ref m12, .ref m13, .int (iI rw_), .ref m15, .long (lI fu), .long (lI fb)])), (m1, .inl (cs 0, 11520, .inl (ai lm))), (m2, .inl (cs 0, 180, .inl (ai mn))), (m3, .inl (cs 0, 180, .inl (ai sn))), (ta, .inl (cs 1, 6, .inr (.inl (al aw)))), (tb, .inl (cs 1, 6, .inr (.inl (al bw))))]) hF.1 (k := 0) rfl) (mw_get (X := [(y, .inr (7, [.int (iI th), .ref m1, .ref m2, .ref m3, .int (iI pn), .ref m5, .ref m6, .ref m7, .ref m8, .ref m9, .ref m10, .ref m11, .ref m12, .ref m13, .int (iI rw_), .ref m15, .long (lI fu), .long (lI fb)])), (m1, .inl (cs 0, 11520, .inl (ai lm))), (m2, .inl (cs 0, 180, .inl (ai mn))), (m3, .inl (cs 0, 180, .inl (ai sn))), (ta, .inl (cs 1, 6, .inr (.inl (al aw)))), (tb, .inl (cs 1, 6, .inr (.inl (al bw))))]) hF.1 (k := 1) rfl) (mw_get (X := [(y, .inr (7, [.int (iI th), .ref m1, .ref m2, .ref m3, .int (iI pn), .ref m5, .ref m6, .ref m7, .ref m8, .ref m9, .ref m10, .ref m11, .ref m12, .ref m13, .int (iI rw_), .ref m15, .long (lI fu), .long (lI fb)])), (m1, .inl (cs 0, 11520, .inl (ai lm))), (m2, .inl (cs 0, 180, .inl (ai mn))), (m3, .inl (cs 0, 180, .inl (ai sn))), (ta, .inl (cs 1, 6, .inr (.inl (al aw)))), (tb, .inl (cs 1, 6, .inr (.inl (al bw))))]) hF.1 (k := 2) rfl) (mw_get (X := [(y, .inr (7, [.int (iI th), .ref m1, .ref m2, .ref m3, .int (iI pn), .ref m5, .ref m6, .ref m7, .ref m8, .ref m9, .ref m10, .ref m11, .ref m12, .ref m13, .int (iI rw_), .ref m15, .long (lI fu), .long (lI fb)])), (m1, .inl (cs 0, 11520, .inl (ai lm))), (m2, .inl (cs 0, 180, .inl (ai mn))), (m3, .inl (cs 0, 180, .inl (ai sn))), (ta, .inl (cs 1, 6, .inr (.inl (al aw)))), (tb, .inl (cs 1, 6, .inr (.inl (al bw))))]) hF.1 (k := 3) rfl) hRS (by decide) (mw_get (X := [(y, .inr (7, [.int (iI th), .ref m1, .ref m2, .ref m3, .int (iI pn), .ref m5, .ref m6, .ref m7, .ref m8, .ref m9, .ref m10, .ref m11, .ref m12, .ref m13, .int (iI rw_), .ref m15, .long (lI fu), .long (lI fb)])), (m1, .inl (cs 0, 11520, .inl (ai lm))), (m2, .inl (cs 0, 180, .inl (ai mn))), (m3, .inl (cs 0, 180, .inl (ai sn))), (ta, .inl (cs 1, 6, .inr (.inl (al aw)))), (tb, .inl (cs 1, 6, .inr (.inl (al bw))))]) hF.1 (k := 4) rfl) (fun j hj => by have h9 := hAM j hj; omega)) (cwV 2 hts (gw_V w_788 w_790 s_34 w_8 w_791) rfl rfl rfl (by decide +kernel) ⟨by rw [hRf]; exact Nat.le_of_ble_eq_true rfl, by rw [hRl]; exact Nat.le_of_ble_eq_true rfl⟩) ⟨K0.blind, B.recv (hF.2 _ (mw_key (k := 0) (X := [(y, .inr (7, [.int (iI th), .ref m1, .ref m2, .ref m3, .int (iI pn), .ref m5, .ref m6, .ref m7, .ref m8, .ref m9, .ref m10, .ref m11, .ref m12, .ref m13, .int (iI rw_), .ref m15, .long (lI fu), .long (lI fb)])), (m1, .inl (cs 0, 11520, .inl (ai lm))), (m2, .inl (cs 0, 180, .inl (ai mn))), (m3, .inl (cs 0, 180, .inl (ai sn))), (ta, .inl (cs 1, 6, .inr (.inl (al aw)))), (tb, .inl (cs 1, 6, .inr (.inl (al bw))))]) rfl)) (mw_get (X := [(y, .inr (7, [.int (iI th), .ref m1, .ref m2, .ref m3, .int (iI pn), .ref m5, .ref m6, .ref m7, .ref m8, .ref m9, .ref m10, .ref m11, .ref m12, .ref m13, .int (iI rw_), .ref m15, .long (lI fu), .long (lI fb)])), (m1, .inl (cs 0, 11520, .inl (ai lm))), (m2, .inl (cs 0, 180, .inl (ai mn))), (m3, .inl (cs 0, 180, .inl (ai sn))), (ta, .inl (cs 1, 6, .inr (.inl (al aw)))), (tb, .inl (cs 1, 6, .inr (.inl (al bw))))]) hF.1 (k := 0) rfl) rfl, B.pre _⟩ rfl rfl hl.1 rfl (lv_room (Nat.le_of_ble_eq_true rfl)) d_Mo_common_4 ⟨by rw [hRc]; omega, by rw [hRs]; omega⟩) (fun g4 H locs hw B => ?_)
  obtain ⟨lm4, mn4, sn4, Z1, hR1, h1a, h1o, rfl⟩ := hw
  have B := B.of_eq (mw_put3 (X := [(y, .inr (7, [.int (iI th), .ref m1, .ref m2, .ref m3, .int (iI pn), .ref m5, .ref m6, .ref m7, .ref m8, .ref m9, .ref m10, .ref m11, .ref m12, .ref m13, .int (iI rw_), .ref m15, .long (lI fu), .long (lI fb)])), (m1, .inl (cs 0, 11520, .inl (ai lm))), (m2, .inl (cs 0, 180, .inl (ai mn))), (m3, .inl (cs 0, 180, .inl (ai sn))), (ta, .inl (cs 1, 6, .inr (.inl (al aw)))), (tb, .inl (cs 1, 6, .inr (.inl (al bw))))]) hF.1 (k1 := 1) (k2 := 2) (k3 := 3) rfl rfl rfl)
  have B : Wb D vwCl (TY cs) L (mw f [(y, .inr (7, [.int (iI th), .ref m1, .ref m2, .ref m3, .int (iI pn), .ref m5, .ref m6, .ref m7, .ref m8, .ref m9, .ref m10, .ref m11, .ref m12, .ref m13, .int (iI rw_), .ref m15, .long (lI fu), .long (lI fb)])), (m1, .inl (cs 0, 11520, .inl (ai lm4))), (m2, .inl (cs 0, 180, .inl (ai mn4))), (m3, .inl (cs 0, 180, .inl (ai sn4))), (ta, .inl (cs 1, 6, .inr (.inl (al aw)))), (tb, .inl (cs 1, 6, .inr (.inl (al bw))))]) (AL L s.heap.size) s H _ := B
  refine lv_aload_n hx hb d_Mo_common_7 rfl (lv_at hl 0 rfl) ?_
  refine x_bipush hx hb d_Mo_common_8 (by decide) ?_
  refine lv_aload_n hx hb d_Mo_common_10 rfl (lv_at hl 2 rfl) ?_
  refine x_callv B hA (va_runV (As := [.int (iI 102), .ref tb]) (rest := []) ⟨hx, hb, hml, hown, hts⟩ (c_Mo_put l D cs _ _ _ y m1 m2 m3 m5 m6 m7 m8 m9 m10 m11 m12 m13 m15 th pn rw_ fu fb lm4 mn4 sn4 Z1 102 tb bw (hF.pick [0, 1, 2, 3, 5] rfl rfl) (mw_get (X := [(y, .inr (7, [.int (iI th), .ref m1, .ref m2, .ref m3, .int (iI pn), .ref m5, .ref m6, .ref m7, .ref m8, .ref m9, .ref m10, .ref m11, .ref m12, .ref m13, .int (iI rw_), .ref m15, .long (lI fu), .long (lI fb)])), (m1, .inl (cs 0, 11520, .inl (ai lm4))), (m2, .inl (cs 0, 180, .inl (ai mn4))), (m3, .inl (cs 0, 180, .inl (ai sn4))), (ta, .inl (cs 1, 6, .inr (.inl (al aw)))), (tb, .inl (cs 1, 6, .inr (.inl (al bw))))]) hF.1 (k := 0) rfl) (mw_get (X := [(y, .inr (7, [.int (iI th), .ref m1, .ref m2, .ref m3, .int (iI pn), .ref m5, .ref m6, .ref m7, .ref m8, .ref m9, .ref m10, .ref m11, .ref m12, .ref m13, .int (iI rw_), .ref m15, .long (lI fu), .long (lI fb)])), (m1, .inl (cs 0, 11520, .inl (ai lm4))), (m2, .inl (cs 0, 180, .inl (ai mn4))), (m3, .inl (cs 0, 180, .inl (ai sn4))), (ta, .inl (cs 1, 6, .inr (.inl (al aw)))), (tb, .inl (cs 1, 6, .inr (.inl (al bw))))]) hF.1 (k := 1) rfl) (mw_get (X := [(y, .inr (7, [.int (iI th), .ref m1, .ref m2, .ref m3, .int (iI pn), .ref m5, .ref m6, .ref m7, .ref m8, .ref m9, .ref m10, .ref m11, .ref m12, .ref m13, .int (iI rw_), .ref m15, .long (lI fu), .long (lI fb)])), (m1, .inl (cs 0, 11520, .inl (ai lm4))), (m2, .inl (cs 0, 180, .inl (ai mn4))), (m3, .inl (cs 0, 180, .inl (ai sn4))), (ta, .inl (cs 1, 6, .inr (.inl (al aw)))), (tb, .inl (cs 1, 6, .inr (.inl (al bw))))]) hF.1 (k := 2) rfl) (mw_get (X := [(y, .inr (7, [.int (iI th), .ref m1, .ref m2, .ref m3, .int (iI pn), .ref m5, .ref m6, .ref m7, .ref m8, .ref m9, .ref m10, .ref m11, .ref m12, .ref m13, .int (iI rw_), .ref m15, .long (lI fu), .long (lI fb)])), (m1, .inl (cs 0, 11520, .inl (ai lm4))), (m2, .inl (cs 0, 180, .inl (ai mn4))), (m3, .inl (cs 0, 180, .inl (ai sn4))), (ta, .inl (cs 1, 6, .inr (.inl (al aw)))), (tb, .inl (cs 1, 6, .inr (.inl (al bw))))]) hF.1 (k := 3) rfl) hR1 (by decide) (mw_get (X := [(y, .inr (7, [.int (iI th), .ref m1, .ref m2, .ref m3, .int (iI pn), .ref m5, .ref m6, .ref m7, .ref m8, .ref m9, .ref m10, .ref m11, .ref m12, .ref m13, .int (iI rw_), .ref m15, .long (lI fu), .long (lI fb)])), (m1, .inl (cs 0, 11520, .inl (ai lm4))), (m2, .inl (cs 0, 180, .inl (ai mn4))), (m3, .inl (cs 0, 180, .inl (ai sn4))), (ta, .inl (cs 1, 6, .inr (.inl (al aw)))), (tb, .inl (cs 1, 6, .inr (.inl (al bw))))]) hF.1 (k := 5) rfl) (fun j hj => by have h9 := hBM j hj; omega)) (cwV 2 hts (gw_V w_788 w_790 s_34 w_8 w_791) rfl rfl rfl (by decide +kernel) ⟨by rw [hRf]; exact Nat.le_of_ble_eq_true rfl, by rw [hRl]; exact Nat.le_of_ble_eq_true rfl⟩) ⟨K0.blind, B.recv (hF.2 _ (mw_key (k := 0) (X := [(y, .inr (7, [.int (iI th), .ref m1, .ref m2, .ref m3, .int (iI pn), .ref m5, .ref m6, .ref m7, .ref m8, .ref m9, .ref m10, .ref m11, .ref m12, .ref m13, .int (iI rw_), .ref m15, .long (lI fu), .long (lI fb)])), (m1, .inl (cs 0, 11520, .inl (ai lm4))), (m2, .inl (cs 0, 180, .inl (ai mn4))), (m3, .inl (cs 0, 180, .inl (ai sn4))), (ta, .inl (cs 1, 6, .inr (.inl (al aw)))), (tb, .inl (cs 1, 6, .inr (.inl (al bw))))]) rfl)) (mw_get (X := [(y, .inr (7, [.int (iI th), .ref m1, .ref m2, .ref m3, .int (iI pn), .ref m5, .ref m6, .ref m7, .ref m8, .ref m9, .ref m10, .ref m11, .ref m12, .ref m13, .int (iI rw_), .ref m15, .long (lI fu), .long (lI fb)])), (m1, .inl (cs 0, 11520, .inl (ai lm4))), (m2, .inl (cs 0, 180, .inl (ai mn4))), (m3, .inl (cs 0, 180, .inl (ai sn4))), (ta, .inl (cs 1, 6, .inr (.inl (al aw)))), (tb, .inl (cs 1, 6, .inr (.inl (al bw))))]) hF.1 (k := 0) rfl) rfl, B.pre _⟩ rfl rfl hl.1 rfl (lv_room (Nat.le_of_ble_eq_true rfl)) d_Mo_common_11 ⟨by rw [hRc]; omega, by rw [hRs]; omega⟩) (fun g11 H locs hw B => ?_)
  obtain ⟨lm11, mn11, sn11, Z2, hR2, h2a, h2o, rfl⟩ := hw
  have B := B.of_eq (mw_put3 (X := [(y, .inr (7, [.int (iI th), .ref m1, .ref m2, .ref m3, .int (iI pn), .ref m5, .ref m6, .ref m7, .ref m8, .ref m9, .ref m10, .ref m11, .ref m12, .ref m13, .int (iI rw_), .ref m15, .long (lI fu), .long (lI fb)])), (m1, .inl (cs 0, 11520, .inl (ai lm4))), (m2, .inl (cs 0, 180, .inl (ai mn4))), (m3, .inl (cs 0, 180, .inl (ai sn4))), (ta, .inl (cs 1, 6, .inr (.inl (al aw)))), (tb, .inl (cs 1, 6, .inr (.inl (al bw))))]) hF.1 (k1 := 1) (k2 := 2) (k3 := 3) rfl rfl rfl)
  have B : Wb D vwCl (TY cs) L (mw f [(y, .inr (7, [.int (iI th), .ref m1, .ref m2, .ref m3, .int (iI pn), .ref m5, .ref m6, .ref m7, .ref m8, .ref m9, .ref m10, .ref m11, .ref m12, .ref m13, .int (iI rw_), .ref m15, .long (lI fu), .long (lI fb)])), (m1, .inl (cs 0, 11520, .inl (ai lm11))), (m2, .inl (cs 0, 180, .inl (ai mn11))), (m3, .inl (cs 0, 180, .inl (ai sn11))), (ta, .inl (cs 1, 6, .inr (.inl (al aw)))), (tb, .inl (cs 1, 6, .inr (.inl (al bw))))]) (AL L s.heap.size) s H _ := B
  refine x_bipush hx hb d_Mo_common_14 (by decide) ?_
  refine lv_istore_n (lv' := [(3, .int (iI 96)), (0, .ref y), (1, .ref ta), (2, .ref tb)]) hx hb d_Mo_common_16 rfl hl (by decide) rfl (fun ls hl => ?_)
  refine x_bipush hx hb d_Mo_common_17 (by decide) ?_
  refine lv_istore (lv' := [(4, .int (iI 102)), (3, .int (iI 96)), (0, .ref y), (1, .ref ta), (2, .ref tb)]) hx hb d_Mo_common_19 hl (by decide) rfl (fun ls hl => ?_)
  have LP : ∀ (fuel : Nat) (pp : Nat) (qq : Nat) (e0 : Nat) (dm : Nat) (a1 : Nat) (b1 : Nat) (n1 : Nat) (lm3 : Nat → Int) (mn3 : Nat → Int) (sn3 : Nat → Int) (Z3 : Nat → Int), dm < fuel → ((pp = 96 ∧ qq = 102) ∨ (pp = 102 ∧ qq = 96)) → (RS lm3 mn3 sn3 Z3) → (a1 ≤ 1950) → (b1 ≤ 1950) → (e0 ≤ 5) → (dm ≤ 6) → (∀ j, e0 < j → j < 6 → Z3 (pp + j) = 0) → (∀ j, dm ≤ j → j < 6 → Z3 (qq + j) = 0) → (∀ j, j < 6 → ((Z3 (pp + j)).natAbs : Int) < 2 ^ a1) → (∀ j, j < 6 → ((Z3 (qq + j)).natAbs : Int) < 2 ^ b1) → (∀ d, d < dm → wOk n1 e0 d a1 b1 = true) → (GI aw bw (fun j => Z3 (pp + j)) (fun j => Z3 (qq + j))) → (∀ v, (v < 96 ∨ 107 < v) → v < 169 → Z3 v = Z v) → ∀ (H : Heap) (locs : List Loc) (ls : Array Slot), Wb D vwCl (TY cs) L (mw f [(y, .inr (7, [.int (iI th), .ref m1, .ref m2, .ref m3, .int (iI pn), .ref m5, .ref m6, .ref m7, .ref m8, .ref m9, .ref m10, .ref m11, .ref m12, .ref m13, .int (iI rw_), .ref m15, .long (lI fu), .long (lI fb)])), (m1, .inl (cs 0, 11520, .inl (ai lm3))), (m2, .inl (cs 0, 180, .inl (ai mn3))), (m3, .inl (cs 0, 180, .inl (ai sn3))), (ta, .inl (cs 1, 6, .inr (.inl (al aw)))), (tb, .inl (cs 1, 6, .inr (.inl (al bw))))]) (AL L s.heap.size) s H locs → lv_has ls 6 [(4, .int (iI ((qq : Int)))), (3, .int (iI ((pp : Int)))), (0, .ref y), (1, .ref ta), (2, .ref tb)] → W p l e R s m av below meth c H locs (0) (0) Q (F0 m 21 ls []) := by
    intro fuel
    induction fuel with
    | zero => intro pp qq e0 dm a1 b1 n1 lm3 mn3 sn3 Z3 hfu; exact absurd hfu (Nat.not_lt_zero _)
    | succ fuel ih_LP =>
      intro pp qq e0 dm a1 b1 n1 lm3 mn3 sn3 Z3 hfu_LP hpq hR ha1 hb1 he hdm hpe hqd hpa hqb hwk hG ho H locs ls B hl
      refine lv_aload_n hx hb d_Mo_common_21 rfl (lv_at hl 2 rfl) ?_
      refine lv_iload hx hb d_Mo_common_22 (lv_at hl 0 rfl) ?_
      refine x_calli B hA (va_runV (As := [.int (iI ((qq : Int)))]) (rest := []) ⟨hx, hb, hml, hown, hts⟩ (c_Mo_degreeAt l D cs _ _ _ y m1 m2 m3 m5 m6 m7 m8 m9 m10 m11 m12 m13 m15 th pn rw_ fu fb lm3 mn3 sn3 Z3 qq (hF.pick [0, 1, 2, 3] rfl rfl) (mw_get (X := [(y, .inr (7, [.int (iI th), .ref m1, .ref m2, .ref m3, .int (iI pn), .ref m5, .ref m6, .ref m7, .ref m8, .ref m9, .ref m10, .ref m11, .ref m12, .ref m13, .int (iI rw_), .ref m15, .long (lI fu), .long (lI fb)])), (m1, .inl (cs 0, 11520, .inl (ai lm3))), (m2, .inl (cs 0, 180, .inl (ai mn3))), (m3, .inl (cs 0, 180, .inl (ai sn3))), (ta, .inl (cs 1, 6, .inr (.inl (al aw)))), (tb, .inl (cs 1, 6, .inr (.inl (al bw))))]) hF.1 (k := 0) rfl) (mw_get (X := [(y, .inr (7, [.int (iI th), .ref m1, .ref m2, .ref m3, .int (iI pn), .ref m5, .ref m6, .ref m7, .ref m8, .ref m9, .ref m10, .ref m11, .ref m12, .ref m13, .int (iI rw_), .ref m15, .long (lI fu), .long (lI fb)])), (m1, .inl (cs 0, 11520, .inl (ai lm3))), (m2, .inl (cs 0, 180, .inl (ai mn3))), (m3, .inl (cs 0, 180, .inl (ai sn3))), (ta, .inl (cs 1, 6, .inr (.inl (al aw)))), (tb, .inl (cs 1, 6, .inr (.inl (al bw))))]) hF.1 (k := 1) rfl) (mw_get (X := [(y, .inr (7, [.int (iI th), .ref m1, .ref m2, .ref m3, .int (iI pn), .ref m5, .ref m6, .ref m7, .ref m8, .ref m9, .ref m10, .ref m11, .ref m12, .ref m13, .int (iI rw_), .ref m15, .long (lI fu), .long (lI fb)])), (m1, .inl (cs 0, 11520, .inl (ai lm3))), (m2, .inl (cs 0, 180, .inl (ai mn3))), (m3, .inl (cs 0, 180, .inl (ai sn3))), (ta, .inl (cs 1, 6, .inr (.inl (al aw)))), (tb, .inl (cs 1, 6, .inr (.inl (al bw))))]) hF.1 (k := 2) rfl) (mw_get (X := [(y, .inr (7, [.int (iI th), .ref m1, .ref m2, .ref m3, .int (iI pn), .ref m5, .ref m6, .ref m7, .ref m8, .ref m9, .ref m10, .ref m11, .ref m12, .ref m13, .int (iI rw_), .ref m15, .long (lI fu), .long (lI fb)])), (m1, .inl (cs 0, 11520, .inl (ai lm3))), (m2, .inl (cs 0, 180, .inl (ai mn3))), (m3, .inl (cs 0, 180, .inl (ai sn3))), (ta, .inl (cs 1, 6, .inr (.inl (al aw)))), (tb, .inl (cs 1, 6, .inr (.inl (al bw))))]) hF.1 (k := 3) rfl) hR (by omega)) (cwV 1 hts (gw_V w_796 w_798 s_36 w_8 w_799) rfl rfl rfl (by decide +kernel) ⟨by rw [hRf]; exact Nat.le_of_ble_eq_true rfl, by rw [hRl]; exact Nat.le_of_ble_eq_true rfl⟩) ⟨K0.blind, B.recv (hF.2 _ (mw_key (k := 0) (X := [(y, .inr (7, [.int (iI th), .ref m1, .ref m2, .ref m3, .int (iI pn), .ref m5, .ref m6, .ref m7, .ref m8, .ref m9, .ref m10, .ref m11, .ref m12, .ref m13, .int (iI rw_), .ref m15, .long (lI fu), .long (lI fb)])), (m1, .inl (cs 0, 11520, .inl (ai lm3))), (m2, .inl (cs 0, 180, .inl (ai mn3))), (m3, .inl (cs 0, 180, .inl (ai sn3))), (ta, .inl (cs 1, 6, .inr (.inl (al aw)))), (tb, .inl (cs 1, 6, .inr (.inl (al bw))))]) rfl)) (mw_get (X := [(y, .inr (7, [.int (iI th), .ref m1, .ref m2, .ref m3, .int (iI pn), .ref m5, .ref m6, .ref m7, .ref m8, .ref m9, .ref m10, .ref m11, .ref m12, .ref m13, .int (iI rw_), .ref m15, .long (lI fu), .long (lI fb)])), (m1, .inl (cs 0, 11520, .inl (ai lm3))), (m2, .inl (cs 0, 180, .inl (ai mn3))), (m3, .inl (cs 0, 180, .inl (ai sn3))), (ta, .inl (cs 1, 6, .inr (.inl (al aw)))), (tb, .inl (cs 1, 6, .inr (.inl (al bw))))]) hF.1 (k := 0) rfl) rfl, B.pre _⟩ rfl rfl hl.1 rfl (lv_room (Nat.le_of_ble_eq_true rfl)) d_Mo_common_24 ⟨by rw [hRc]; omega, by rw [hRs]; omega⟩) (fun r24 g24 H locs hw B => ?_)
      obtain ⟨kq, rfl, hk6, hkz, hkl, rfl⟩ := hw
      have B : Wb D vwCl (TY cs) L (mw f [(y, .inr (7, [.int (iI th), .ref m1, .ref m2, .ref m3, .int (iI pn), .ref m5, .ref m6, .ref m7, .ref m8, .ref m9, .ref m10, .ref m11, .ref m12, .ref m13, .int (iI rw_), .ref m15, .long (lI fu), .long (lI fb)])), (m1, .inl (cs 0, 11520, .inl (ai lm3))), (m2, .inl (cs 0, 180, .inl (ai mn3))), (m3, .inl (cs 0, 180, .inl (ai sn3))), (ta, .inl (cs 1, 6, .inr (.inl (al aw)))), (tb, .inl (cs 1, 6, .inr (.inl (al bw))))]) (AL L s.heap.size) s H _ := B
      refine x_if_lt (tgt := 56) hx hb d_Mo_common_27 (by decide) (by omega) (fun h27 => ?_) (fun h27 => ?_)
      · refine lv_aload_n hx hb d_Mo_common_56 rfl (lv_at hl 2 rfl) ?_
        refine lv_iload_n hx hb d_Mo_common_57 rfl (lv_at hl 1 rfl) ?_
        refine x_callv B hA (va_runV (As := [.int (iI ((pp : Int)))]) (rest := []) ⟨hx, hb, hml, hown, hts⟩ (c_Mo_lessen l D cs _ _ _ y m1 m2 m3 m5 m6 m7 m8 m9 m10 m11 m12 m13 m15 th pn rw_ fu fb lm3 mn3 sn3 Z3 pp (hF.pick [0, 1, 2, 3] rfl rfl) (mw_get (X := [(y, .inr (7, [.int (iI th), .ref m1, .ref m2, .ref m3, .int (iI pn), .ref m5, .ref m6, .ref m7, .ref m8, .ref m9, .ref m10, .ref m11, .ref m12, .ref m13, .int (iI rw_), .ref m15, .long (lI fu), .long (lI fb)])), (m1, .inl (cs 0, 11520, .inl (ai lm3))), (m2, .inl (cs 0, 180, .inl (ai mn3))), (m3, .inl (cs 0, 180, .inl (ai sn3))), (ta, .inl (cs 1, 6, .inr (.inl (al aw)))), (tb, .inl (cs 1, 6, .inr (.inl (al bw))))]) hF.1 (k := 0) rfl) (mw_get (X := [(y, .inr (7, [.int (iI th), .ref m1, .ref m2, .ref m3, .int (iI pn), .ref m5, .ref m6, .ref m7, .ref m8, .ref m9, .ref m10, .ref m11, .ref m12, .ref m13, .int (iI rw_), .ref m15, .long (lI fu), .long (lI fb)])), (m1, .inl (cs 0, 11520, .inl (ai lm3))), (m2, .inl (cs 0, 180, .inl (ai mn3))), (m3, .inl (cs 0, 180, .inl (ai sn3))), (ta, .inl (cs 1, 6, .inr (.inl (al aw)))), (tb, .inl (cs 1, 6, .inr (.inl (al bw))))]) hF.1 (k := 1) rfl) (mw_get (X := [(y, .inr (7, [.int (iI th), .ref m1, .ref m2, .ref m3, .int (iI pn), .ref m5, .ref m6, .ref m7, .ref m8, .ref m9, .ref m10, .ref m11, .ref m12, .ref m13, .int (iI rw_), .ref m15, .long (lI fu), .long (lI fb)])), (m1, .inl (cs 0, 11520, .inl (ai lm3))), (m2, .inl (cs 0, 180, .inl (ai mn3))), (m3, .inl (cs 0, 180, .inl (ai sn3))), (ta, .inl (cs 1, 6, .inr (.inl (al aw)))), (tb, .inl (cs 1, 6, .inr (.inl (al bw))))]) hF.1 (k := 2) rfl) (mw_get (X := [(y, .inr (7, [.int (iI th), .ref m1, .ref m2, .ref m3, .int (iI pn), .ref m5, .ref m6, .ref m7, .ref m8, .ref m9, .ref m10, .ref m11, .ref m12, .ref m13, .int (iI rw_), .ref m15, .long (lI fu), .long (lI fb)])), (m1, .inl (cs 0, 11520, .inl (ai lm3))), (m2, .inl (cs 0, 180, .inl (ai mn3))), (m3, .inl (cs 0, 180, .inl (ai sn3))), (ta, .inl (cs 1, 6, .inr (.inl (al aw)))), (tb, .inl (cs 1, 6, .inr (.inl (al bw))))]) hF.1 (k := 3) rfl) hR (by omega) (fun j hj => Int.lt_of_lt_of_le (hpa j hj) (pow_Mp (by omega)))) (cwV 1 hts (gw_V w_832 w_834 s_44 w_8 w_835) rfl rfl rfl (by decide +kernel) ⟨by rw [hRf]; exact Nat.le_of_ble_eq_true rfl, by rw [hRl]; exact Nat.le_of_ble_eq_true rfl⟩) ⟨K0.blind, B.recv (hF.2 _ (mw_key (k := 0) (X := [(y, .inr (7, [.int (iI th), .ref m1, .ref m2, .ref m3, .int (iI pn), .ref m5, .ref m6, .ref m7, .ref m8, .ref m9, .ref m10, .ref m11, .ref m12, .ref m13, .int (iI rw_), .ref m15, .long (lI fu), .long (lI fb)])), (m1, .inl (cs 0, 11520, .inl (ai lm3))), (m2, .inl (cs 0, 180, .inl (ai mn3))), (m3, .inl (cs 0, 180, .inl (ai sn3))), (ta, .inl (cs 1, 6, .inr (.inl (al aw)))), (tb, .inl (cs 1, 6, .inr (.inl (al bw))))]) rfl)) (mw_get (X := [(y, .inr (7, [.int (iI th), .ref m1, .ref m2, .ref m3, .int (iI pn), .ref m5, .ref m6, .ref m7, .ref m8, .ref m9, .ref m10, .ref m11, .ref m12, .ref m13, .int (iI rw_), .ref m15, .long (lI fu), .long (lI fb)])), (m1, .inl (cs 0, 11520, .inl (ai lm3))), (m2, .inl (cs 0, 180, .inl (ai mn3))), (m3, .inl (cs 0, 180, .inl (ai sn3))), (ta, .inl (cs 1, 6, .inr (.inl (al aw)))), (tb, .inl (cs 1, 6, .inr (.inl (al bw))))]) hF.1 (k := 0) rfl) rfl, B.pre _⟩ rfl rfl hl.1 rfl (lv_room (Nat.le_of_ble_eq_true rfl)) d_Mo_common_58 ⟨by rw [hRc]; omega, by rw [hRs]; omega⟩) (fun g58 H locs hw B => ?_)
        obtain ⟨lm58, mn58, sn58, Z5, hR5, h5m, h5z, h5o, rfl⟩ := hw
        have B := B.of_eq (mw_put3 (X := [(y, .inr (7, [.int (iI th), .ref m1, .ref m2, .ref m3, .int (iI pn), .ref m5, .ref m6, .ref m7, .ref m8, .ref m9, .ref m10, .ref m11, .ref m12, .ref m13, .int (iI rw_), .ref m15, .long (lI fu), .long (lI fb)])), (m1, .inl (cs 0, 11520, .inl (ai lm3))), (m2, .inl (cs 0, 180, .inl (ai mn3))), (m3, .inl (cs 0, 180, .inl (ai sn3))), (ta, .inl (cs 1, 6, .inr (.inl (al aw)))), (tb, .inl (cs 1, 6, .inr (.inl (al bw))))]) hF.1 (k1 := 1) (k2 := 2) (k3 := 3) rfl rfl rfl)
        have B : Wb D vwCl (TY cs) L (mw f [(y, .inr (7, [.int (iI th), .ref m1, .ref m2, .ref m3, .int (iI pn), .ref m5, .ref m6, .ref m7, .ref m8, .ref m9, .ref m10, .ref m11, .ref m12, .ref m13, .int (iI rw_), .ref m15, .long (lI fu), .long (lI fb)])), (m1, .inl (cs 0, 11520, .inl (ai lm58))), (m2, .inl (cs 0, 180, .inl (ai mn58))), (m3, .inl (cs 0, 180, .inl (ai sn58))), (ta, .inl (cs 1, 6, .inr (.inl (al aw)))), (tb, .inl (cs 1, 6, .inr (.inl (al bw))))]) (AL L s.heap.size) s H _ := B
        have hgl := gcd_lessen (C := (fun j => Z5 (pp + j))) (hG.last (fun j hj => hkz j (by omega) hj)) (cg_shift Z3 pp 6) h5m h5z
        have hgs : ∀ j, j < 6 → -(49 * M1) ≤ Z5 (pp + j) ∧ Z5 (pp + j) ≤ 49 * M1 := gcd_small hM0 hAM2 hBM2 hgl
        refine x_iconst hx hb d_Mo_common_61 ?_
        refine lv_istore (lv' := [(5, .int (iI 0)), (4, .int (iI ((qq : Int)))), (3, .int (iI ((pp : Int)))), (0, .ref y), (1, .ref ta), (2, .ref tb)]) hx hb d_Mo_common_62 hl (by decide) rfl (fun ls hl => ?_)
        have L2 : ∀ (fuel : Nat) (k : Nat) (z : Nat → Int), 6 - k < fuel → (k ≤ 6) → (∀ j, j < k → z j = Z5 (pp + j)) → ∀ (H : Heap) (locs : List Loc) (ls : Array Slot), Wb D vwCl (TY cs) L (mw f [(y, .inr (7, [.int (iI th), .ref m1, .ref m2, .ref m3, .int (iI pn), .ref m5, .ref m6, .ref m7, .ref m8, .ref m9, .ref m10, .ref m11, .ref m12, .ref m13, .int (iI rw_), .ref m15, .long (lI fu), .long (lI fb)])), (m1, .inl (cs 0, 11520, .inl (ai lm58))), (m2, .inl (cs 0, 180, .inl (ai mn58))), (m3, .inl (cs 0, 180, .inl (ai sn58))), (ta, .inl (cs 1, 6, .inr (.inl (al z)))), (tb, .inl (cs 1, 6, .inr (.inl (al bw))))]) (AL L s.heap.size) s H locs → lv_has ls 6 [(5, .int (iI ((k : Int)))), (3, .int (iI ((pp : Int)))), (0, .ref y), (1, .ref ta), (2, .ref tb)] → W p l e R s m av below meth c H locs (0) (0) Q (F0 m 64 ls []) := by
          intro fuel
          induction fuel with
          | zero => intro k z hfu; exact absurd hfu (Nat.not_lt_zero _)
          | succ fuel ih_L2 =>
            intro k z hfu_L2 hk hI H locs ls B hl
            refine lv_iload hx hb d_Mo_common_64 (lv_at hl 0 rfl) ?_
            refine x_bipush hx hb d_Mo_common_66 (by decide) ?_
            refine x_icmp_ge (tgt := 89) hx hb d_Mo_common_68 (by decide) (by omega) (by omega) (fun h68 => ?_) (fun h68 => ?_)
            · refine lv_aload_n hx hb d_Mo_common_89 rfl (lv_at hl 3 rfl) ?_
              refine x_callv B hA (va_runS (As := [.ref ta]) (rest := []) ⟨hx, hb, hml, hown, hts⟩ (c_Mo_primitive l D cs _ _ _ ta z (hF.pick [4] rfl rfl) (mw_get (X := [(y, .inr (7, [.int (iI th), .ref m1, .ref m2, .ref m3, .int (iI pn), .ref m5, .ref m6, .ref m7, .ref m8, .ref m9, .ref m10, .ref m11, .ref m12, .ref m13, .int (iI rw_), .ref m15, .long (lI fu), .long (lI fb)])), (m1, .inl (cs 0, 11520, .inl (ai lm58))), (m2, .inl (cs 0, 180, .inl (ai mn58))), (m3, .inl (cs 0, 180, .inl (ai sn58))), (ta, .inl (cs 1, 6, .inr (.inl (al z)))), (tb, .inl (cs 1, 6, .inr (.inl (al bw))))]) hF.1 (k := 4) rfl) (fun j hj => by rw [hI j (by omega)]; have h9 := hgs j hj; omega)) (va_cwS 1 hts (gw_S w_856 w_857 w_8 w_858) rfl rfl rfl (by decide +kernel) ⟨by rw [hRf]; exact Nat.le_of_ble_eq_true rfl, by rw [hRl]; exact Nat.le_of_ble_eq_true rfl⟩) ⟨K0.blind, B.pre _⟩ rfl rfl hl.1 rfl (lv_room (Nat.le_of_ble_eq_true rfl)) d_Mo_common_90 ⟨by rw [hRc]; omega, by rw [hRs]; omega⟩) (fun g90 H locs hw B => ?_)
              obtain ⟨c9, hp9, rfl⟩ := hw
              have B := B.of_eq (mw_put (X := [(y, .inr (7, [.int (iI th), .ref m1, .ref m2, .ref m3, .int (iI pn), .ref m5, .ref m6, .ref m7, .ref m8, .ref m9, .ref m10, .ref m11, .ref m12, .ref m13, .int (iI rw_), .ref m15, .long (lI fu), .long (lI fb)])), (m1, .inl (cs 0, 11520, .inl (ai lm58))), (m2, .inl (cs 0, 180, .inl (ai mn58))), (m3, .inl (cs 0, 180, .inl (ai sn58))), (ta, .inl (cs 1, 6, .inr (.inl (al z)))), (tb, .inl (cs 1, 6, .inr (.inl (al bw))))]) hF.1 (k := 4) rfl)
              have B : Wb D vwCl (TY cs) L (mw f [(y, .inr (7, [.int (iI th), .ref m1, .ref m2, .ref m3, .int (iI pn), .ref m5, .ref m6, .ref m7, .ref m8, .ref m9, .ref m10, .ref m11, .ref m12, .ref m13, .int (iI rw_), .ref m15, .long (lI fu), .long (lI fb)])), (m1, .inl (cs 0, 11520, .inl (ai lm58))), (m2, .inl (cs 0, 180, .inl (ai mn58))), (m3, .inl (cs 0, 180, .inl (ai sn58))), (ta, .inl (cs 1, 6, .inr (.inl (al c9)))), (tb, .inl (cs 1, 6, .inr (.inl (al bw))))]) (AL L s.heap.size) s H _ := B
              subst hQ hav
              exact x_vret hx hb hr hlocks B d_Mo_common_93 (by
      have hk6 : k = 6 := by omega
      have hp8 : PrimOf (fun j => Z5 (pp + j)) c9 := by
        rcases hp9 with ⟨g1, g2⟩ | ⟨c, hc, g1, g2⟩
        · exact Or.inl ⟨fun j hj => (hI j (by omega)).symm.trans (g1 j hj), g2⟩
        · exact Or.inr ⟨c, hc, fun j hj => (hI j (by omega)).symm.trans (g1 j hj), g2⟩
      exact ⟨_, _, _, Z5, c9, hR5, gcd_prim hgl hp8, fun v h1 h2 => by rw [h5o v (by omega) (by omega) (by omega) (by omega) (by omega) (by omega) (by omega)]; exact ho v h1 h2, Eq.trans (mw_drop (f := f) (X := [(m1, .inl (cs 0, 11520, .inl (ai lm58))), (m2, .inl (cs 0, 180, .inl (ai mn58))), (m3, .inl (cs 0, 180, .inl (ai sn58))), (ta, .inl (cs 1, 6, .inr (.inl (al c9)))), (tb, .inl (cs 1, 6, .inr (.inl (al bw))))]) ha (List.nodup_cons.mp hF.1).1) (mw_tail (X := [(m1, .inl (cs 0, 11520, .inl (ai lm58))), (m2, .inl (cs 0, 180, .inl (ai mn58))), (m3, .inl (cs 0, 180, .inl (ai sn58))), (ta, .inl (cs 1, 6, .inr (.inl (al c9))))]) (Y := [(tb, .inl (cs 1, 6, .inr (.inl (al bw))))]) (fun p hp => hfx p (List.mem_cons_of_mem _ (List.mem_cons_of_mem _ (List.mem_cons_of_mem _ (List.mem_cons_of_mem _ (List.mem_cons_of_mem _ (hp))))))))⟩)
            · refine lv_aload_n hx hb d_Mo_common_71 rfl (lv_at hl 3 rfl) ?_
              refine lv_iload hx hb d_Mo_common_72 (lv_at hl 0 rfl) ?_
              refine lv_aload_n hx hb d_Mo_common_74 rfl (lv_at hl 2 rfl) ?_
              refine lv_iload_n hx hb d_Mo_common_75 rfl (lv_at hl 1 rfl) ?_
              refine lv_iload hx hb d_Mo_common_76 (lv_at hl 0 rfl) ?_
              refine x_iadd hx hb d_Mo_common_78 ?_
              refine x_calll B hA (va_runV (As := [.int (iI (((pp : Int)) + ((k : Int))))]) (rest := [.int (iI ((k : Int))), .ref ta]) ⟨hx, hb, hml, hown, hts⟩ (c_Mo_valueOf l D cs _ _ _ y m1 m2 m3 m5 m6 m7 m8 m9 m10 m11 m12 m13 m15 th pn rw_ fu fb lm58 mn58 sn58 Z5 (pp + k) (hF.pick [0, 1, 2, 3] rfl rfl) (mw_get (X := [(y, .inr (7, [.int (iI th), .ref m1, .ref m2, .ref m3, .int (iI pn), .ref m5, .ref m6, .ref m7, .ref m8, .ref m9, .ref m10, .ref m11, .ref m12, .ref m13, .int (iI rw_), .ref m15, .long (lI fu), .long (lI fb)])), (m1, .inl (cs 0, 11520, .inl (ai lm58))), (m2, .inl (cs 0, 180, .inl (ai mn58))), (m3, .inl (cs 0, 180, .inl (ai sn58))), (ta, .inl (cs 1, 6, .inr (.inl (al z)))), (tb, .inl (cs 1, 6, .inr (.inl (al bw))))]) hF.1 (k := 0) rfl) (mw_get (X := [(y, .inr (7, [.int (iI th), .ref m1, .ref m2, .ref m3, .int (iI pn), .ref m5, .ref m6, .ref m7, .ref m8, .ref m9, .ref m10, .ref m11, .ref m12, .ref m13, .int (iI rw_), .ref m15, .long (lI fu), .long (lI fb)])), (m1, .inl (cs 0, 11520, .inl (ai lm58))), (m2, .inl (cs 0, 180, .inl (ai mn58))), (m3, .inl (cs 0, 180, .inl (ai sn58))), (ta, .inl (cs 1, 6, .inr (.inl (al z)))), (tb, .inl (cs 1, 6, .inr (.inl (al bw))))]) hF.1 (k := 1) rfl) (mw_get (X := [(y, .inr (7, [.int (iI th), .ref m1, .ref m2, .ref m3, .int (iI pn), .ref m5, .ref m6, .ref m7, .ref m8, .ref m9, .ref m10, .ref m11, .ref m12, .ref m13, .int (iI rw_), .ref m15, .long (lI fu), .long (lI fb)])), (m1, .inl (cs 0, 11520, .inl (ai lm58))), (m2, .inl (cs 0, 180, .inl (ai mn58))), (m3, .inl (cs 0, 180, .inl (ai sn58))), (ta, .inl (cs 1, 6, .inr (.inl (al z)))), (tb, .inl (cs 1, 6, .inr (.inl (al bw))))]) hF.1 (k := 2) rfl) (mw_get (X := [(y, .inr (7, [.int (iI th), .ref m1, .ref m2, .ref m3, .int (iI pn), .ref m5, .ref m6, .ref m7, .ref m8, .ref m9, .ref m10, .ref m11, .ref m12, .ref m13, .int (iI rw_), .ref m15, .long (lI fu), .long (lI fb)])), (m1, .inl (cs 0, 11520, .inl (ai lm58))), (m2, .inl (cs 0, 180, .inl (ai mn58))), (m3, .inl (cs 0, 180, .inl (ai sn58))), (ta, .inl (cs 1, 6, .inr (.inl (al z)))), (tb, .inl (cs 1, 6, .inr (.inl (al bw))))]) hF.1 (k := 3) rfl) hR5 (by omega) (by have h9 := hgs k (by omega); omega)) (cwV 1 hts (gw_V w_852 w_854 s_49 w_8 w_855) rfl rfl rfl (by decide +kernel) ⟨by rw [hRf]; exact Nat.le_of_ble_eq_true rfl, by rw [hRl]; exact Nat.le_of_ble_eq_true rfl⟩) ⟨K0.blind, B.recv (hF.2 _ (mw_key (k := 0) (X := [(y, .inr (7, [.int (iI th), .ref m1, .ref m2, .ref m3, .int (iI pn), .ref m5, .ref m6, .ref m7, .ref m8, .ref m9, .ref m10, .ref m11, .ref m12, .ref m13, .int (iI rw_), .ref m15, .long (lI fu), .long (lI fb)])), (m1, .inl (cs 0, 11520, .inl (ai lm58))), (m2, .inl (cs 0, 180, .inl (ai mn58))), (m3, .inl (cs 0, 180, .inl (ai sn58))), (ta, .inl (cs 1, 6, .inr (.inl (al z)))), (tb, .inl (cs 1, 6, .inr (.inl (al bw))))]) rfl)) (mw_get (X := [(y, .inr (7, [.int (iI th), .ref m1, .ref m2, .ref m3, .int (iI pn), .ref m5, .ref m6, .ref m7, .ref m8, .ref m9, .ref m10, .ref m11, .ref m12, .ref m13, .int (iI rw_), .ref m15, .long (lI fu), .long (lI fb)])), (m1, .inl (cs 0, 11520, .inl (ai lm58))), (m2, .inl (cs 0, 180, .inl (ai mn58))), (m3, .inl (cs 0, 180, .inl (ai sn58))), (ta, .inl (cs 1, 6, .inr (.inl (al z)))), (tb, .inl (cs 1, 6, .inr (.inl (al bw))))]) hF.1 (k := 0) rfl) rfl, B.pre _⟩ rfl rfl hl.1 rfl (lv_room (Nat.le_of_ble_eq_true rfl)) d_Mo_common_79 ⟨by rw [hRc]; omega, by rw [hRs]; omega⟩) (fun r79 g79 H locs hw B => ?_)
              obtain ⟨rfl, rfl⟩ := hw
              have B : Wb D vwCl (TY cs) L (mw f [(y, .inr (7, [.int (iI th), .ref m1, .ref m2, .ref m3, .int (iI pn), .ref m5, .ref m6, .ref m7, .ref m8, .ref m9, .ref m10, .ref m11, .ref m12, .ref m13, .int (iI rw_), .ref m15, .long (lI fu), .long (lI fb)])), (m1, .inl (cs 0, 11520, .inl (ai lm58))), (m2, .inl (cs 0, 180, .inl (ai mn58))), (m3, .inl (cs 0, 180, .inl (ai sn58))), (ta, .inl (cs 1, 6, .inr (.inl (al z)))), (tb, .inl (cs 1, 6, .inr (.inl (al bw))))]) (AL L s.heap.size) s H _ := B
              refine x_last hx hb B hF 4 1 rfl rfl k (by omega) (by omega) (by decide) d_Mo_common_82 (fun H locs B => ?_)
              have B : Wb D vwCl (TY cs) L (mw f [(y, .inr (7, [.int (iI th), .ref m1, .ref m2, .ref m3, .int (iI pn), .ref m5, .ref m6, .ref m7, .ref m8, .ref m9, .ref m10, .ref m11, .ref m12, .ref m13, .int (iI rw_), .ref m15, .long (lI fu), .long (lI fb)])), (m1, .inl (cs 0, 11520, .inl (ai lm58))), (m2, .inl (cs 0, 180, .inl (ai mn58))), (m3, .inl (cs 0, 180, .inl (ai sn58))), (ta, .inl (cs 1, 6, .inr (.inl (al (up z k (Z5 (pp + k))))))), (tb, .inl (cs 1, 6, .inr (.inl (al bw))))]) (AL L s.heap.size) s H _ := B
              refine x_iinc (lv' := [(5, .int (iI (((k : Int)) + 1))), (3, .int (iI ((pp : Int)))), (0, .ref y), (1, .ref ta), (2, .ref tb)]) hx hb d_Mo_common_83 hl (q := 0) rfl rfl (by decide) rfl (fun ls hl => ?_)
              refine lv_goto (tgt := 64) hx hb d_Mo_common_86 (by decide) ?_
              exact ih_L2 (k + 1) (up z k (Z5 (pp + k))) (by omega) (by omega) (fun j hj => by
          by_cases hjk : j = k
          · rw [hjk, up_self]
          · rw [up_ne _ _ hjk]; exact hI j (by omega)) _ _ _ B (lv_sub hl [0, 1, 2, 3, 4] rfl)
        exact L2 _ 0 aw (Nat.lt_succ_self _) (by omega) (fun j hj => by omega) _ _ _ B (lv_sub hl [0, 2, 3, 4, 5] rfl)
      · refine lv_aload_n hx hb d_Mo_common_30 rfl (lv_at hl 2 rfl) ?_
        refine lv_iload_n hx hb d_Mo_common_31 rfl (lv_at hl 1 rfl) ?_
        refine lv_iload hx hb d_Mo_common_32 (lv_at hl 0 rfl) ?_
        refine lv_aload_n hx hb d_Mo_common_34 rfl (lv_at hl 2 rfl) ?_
        refine lv_iload hx hb d_Mo_common_35 (lv_at hl 0 rfl) ?_
        refine x_calli B hA (va_runV (As := [.int (iI ((qq : Int)))]) (rest := [.int (iI ((qq : Int))), .int (iI ((pp : Int))), .ref y]) ⟨hx, hb, hml, hown, hts⟩ (c_Mo_degreeAt l D cs _ _ _ y m1 m2 m3 m5 m6 m7 m8 m9 m10 m11 m12 m13 m15 th pn rw_ fu fb lm3 mn3 sn3 Z3 qq (hF.pick [0, 1, 2, 3] rfl rfl) (mw_get (X := [(y, .inr (7, [.int (iI th), .ref m1, .ref m2, .ref m3, .int (iI pn), .ref m5, .ref m6, .ref m7, .ref m8, .ref m9, .ref m10, .ref m11, .ref m12, .ref m13, .int (iI rw_), .ref m15, .long (lI fu), .long (lI fb)])), (m1, .inl (cs 0, 11520, .inl (ai lm3))), (m2, .inl (cs 0, 180, .inl (ai mn3))), (m3, .inl (cs 0, 180, .inl (ai sn3))), (ta, .inl (cs 1, 6, .inr (.inl (al aw)))), (tb, .inl (cs 1, 6, .inr (.inl (al bw))))]) hF.1 (k := 0) rfl) (mw_get (X := [(y, .inr (7, [.int (iI th), .ref m1, .ref m2, .ref m3, .int (iI pn), .ref m5, .ref m6, .ref m7, .ref m8, .ref m9, .ref m10, .ref m11, .ref m12, .ref m13, .int (iI rw_), .ref m15, .long (lI fu), .long (lI fb)])), (m1, .inl (cs 0, 11520, .inl (ai lm3))), (m2, .inl (cs 0, 180, .inl (ai mn3))), (m3, .inl (cs 0, 180, .inl (ai sn3))), (ta, .inl (cs 1, 6, .inr (.inl (al aw)))), (tb, .inl (cs 1, 6, .inr (.inl (al bw))))]) hF.1 (k := 1) rfl) (mw_get (X := [(y, .inr (7, [.int (iI th), .ref m1, .ref m2, .ref m3, .int (iI pn), .ref m5, .ref m6, .ref m7, .ref m8, .ref m9, .ref m10, .ref m11, .ref m12, .ref m13, .int (iI rw_), .ref m15, .long (lI fu), .long (lI fb)])), (m1, .inl (cs 0, 11520, .inl (ai lm3))), (m2, .inl (cs 0, 180, .inl (ai mn3))), (m3, .inl (cs 0, 180, .inl (ai sn3))), (ta, .inl (cs 1, 6, .inr (.inl (al aw)))), (tb, .inl (cs 1, 6, .inr (.inl (al bw))))]) hF.1 (k := 2) rfl) (mw_get (X := [(y, .inr (7, [.int (iI th), .ref m1, .ref m2, .ref m3, .int (iI pn), .ref m5, .ref m6, .ref m7, .ref m8, .ref m9, .ref m10, .ref m11, .ref m12, .ref m13, .int (iI rw_), .ref m15, .long (lI fu), .long (lI fb)])), (m1, .inl (cs 0, 11520, .inl (ai lm3))), (m2, .inl (cs 0, 180, .inl (ai mn3))), (m3, .inl (cs 0, 180, .inl (ai sn3))), (ta, .inl (cs 1, 6, .inr (.inl (al aw)))), (tb, .inl (cs 1, 6, .inr (.inl (al bw))))]) hF.1 (k := 3) rfl) hR (by omega)) (cwV 1 hts (gw_V w_796 w_798 s_36 w_8 w_799) rfl rfl rfl (by decide +kernel) ⟨by rw [hRf]; exact Nat.le_of_ble_eq_true rfl, by rw [hRl]; exact Nat.le_of_ble_eq_true rfl⟩) ⟨K0.blind, B.recv (hF.2 _ (mw_key (k := 0) (X := [(y, .inr (7, [.int (iI th), .ref m1, .ref m2, .ref m3, .int (iI pn), .ref m5, .ref m6, .ref m7, .ref m8, .ref m9, .ref m10, .ref m11, .ref m12, .ref m13, .int (iI rw_), .ref m15, .long (lI fu), .long (lI fb)])), (m1, .inl (cs 0, 11520, .inl (ai lm3))), (m2, .inl (cs 0, 180, .inl (ai mn3))), (m3, .inl (cs 0, 180, .inl (ai sn3))), (ta, .inl (cs 1, 6, .inr (.inl (al aw)))), (tb, .inl (cs 1, 6, .inr (.inl (al bw))))]) rfl)) (mw_get (X := [(y, .inr (7, [.int (iI th), .ref m1, .ref m2, .ref m3, .int (iI pn), .ref m5, .ref m6, .ref m7, .ref m8, .ref m9, .ref m10, .ref m11, .ref m12, .ref m13, .int (iI rw_), .ref m15, .long (lI fu), .long (lI fb)])), (m1, .inl (cs 0, 11520, .inl (ai lm3))), (m2, .inl (cs 0, 180, .inl (ai mn3))), (m3, .inl (cs 0, 180, .inl (ai sn3))), (ta, .inl (cs 1, 6, .inr (.inl (al aw)))), (tb, .inl (cs 1, 6, .inr (.inl (al bw))))]) hF.1 (k := 0) rfl) rfl, B.pre _⟩ rfl rfl hl.1 rfl (lv_room (Nat.le_of_ble_eq_true rfl)) d_Mo_common_37 ⟨by rw [hRc]; omega, by rw [hRs]; omega⟩) (fun r37 g37 H locs hw B => ?_)
        obtain ⟨kr, rfl, hr6, hrz, hrl, rfl⟩ := hw
        have B : Wb D vwCl (TY cs) L (mw f [(y, .inr (7, [.int (iI th), .ref m1, .ref m2, .ref m3, .int (iI pn), .ref m5, .ref m6, .ref m7, .ref m8, .ref m9, .ref m10, .ref m11, .ref m12, .ref m13, .int (iI rw_), .ref m15, .long (lI fu), .long (lI fb)])), (m1, .inl (cs 0, 11520, .inl (ai lm3))), (m2, .inl (cs 0, 180, .inl (ai mn3))), (m3, .inl (cs 0, 180, .inl (ai sn3))), (ta, .inl (cs 1, 6, .inr (.inl (al aw)))), (tb, .inl (cs 1, 6, .inr (.inl (al bw))))]) (AL L s.heap.size) s H _ := B
        have hkr : kr = kq := by
          rcases Nat.lt_trichotomy kr kq with h | h | h
          · exact absurd (hrz (kq - 1) (by omega) (by omega)) (hkl (by omega))
          · exact h
          · exact absurd (hkz (kr - 1) (by omega) (by omega)) (hrl (by omega))
        obtain ⟨nq, hnq⟩ : ∃ nq, kq = nq + 1 := ⟨kq - 1, by omega⟩
        have hql := hkl (by omega)
        rw [show kq - 1 = nq by omega] at hql
        have hnd : nq < dm := by rcases Nat.lt_or_ge nq dm with h | h; exact h; exact absurd (hqd nq h (by omega)) hql
        obtain ⟨n2, hn2, hwr, hwu⟩ := wOk.use (hwk nq hnd)
        have hwu := And.intro hwr hwu
        rw [show (kr : Int) - 1 = (nq : Int) by omega]
        refine x_callv B hA (va_runV (As := [.int (iI ((pp : Int))), .int (iI ((qq : Int))), .int (iI ((nq : Int)))]) (rest := []) ⟨hx, hb, hml, hown, hts⟩ (c_Mo_remainder l D cs _ _ _ y m1 m2 m3 m5 m6 m7 m8 m9 m10 m11 m12 m13 m15 th pn rw_ fu fb lm3 mn3 sn3 Z3 pp qq nq e0 a1 b1 (hF.pick [0, 1, 2, 3] rfl rfl) (mw_get (X := [(y, .inr (7, [.int (iI th), .ref m1, .ref m2, .ref m3, .int (iI pn), .ref m5, .ref m6, .ref m7, .ref m8, .ref m9, .ref m10, .ref m11, .ref m12, .ref m13, .int (iI rw_), .ref m15, .long (lI fu), .long (lI fb)])), (m1, .inl (cs 0, 11520, .inl (ai lm3))), (m2, .inl (cs 0, 180, .inl (ai mn3))), (m3, .inl (cs 0, 180, .inl (ai sn3))), (ta, .inl (cs 1, 6, .inr (.inl (al aw)))), (tb, .inl (cs 1, 6, .inr (.inl (al bw))))]) hF.1 (k := 0) rfl) (mw_get (X := [(y, .inr (7, [.int (iI th), .ref m1, .ref m2, .ref m3, .int (iI pn), .ref m5, .ref m6, .ref m7, .ref m8, .ref m9, .ref m10, .ref m11, .ref m12, .ref m13, .int (iI rw_), .ref m15, .long (lI fu), .long (lI fb)])), (m1, .inl (cs 0, 11520, .inl (ai lm3))), (m2, .inl (cs 0, 180, .inl (ai mn3))), (m3, .inl (cs 0, 180, .inl (ai sn3))), (ta, .inl (cs 1, 6, .inr (.inl (al aw)))), (tb, .inl (cs 1, 6, .inr (.inl (al bw))))]) hF.1 (k := 1) rfl) (mw_get (X := [(y, .inr (7, [.int (iI th), .ref m1, .ref m2, .ref m3, .int (iI pn), .ref m5, .ref m6, .ref m7, .ref m8, .ref m9, .ref m10, .ref m11, .ref m12, .ref m13, .int (iI rw_), .ref m15, .long (lI fu), .long (lI fb)])), (m1, .inl (cs 0, 11520, .inl (ai lm3))), (m2, .inl (cs 0, 180, .inl (ai mn3))), (m3, .inl (cs 0, 180, .inl (ai sn3))), (ta, .inl (cs 1, 6, .inr (.inl (al aw)))), (tb, .inl (cs 1, 6, .inr (.inl (al bw))))]) hF.1 (k := 2) rfl) (mw_get (X := [(y, .inr (7, [.int (iI th), .ref m1, .ref m2, .ref m3, .int (iI pn), .ref m5, .ref m6, .ref m7, .ref m8, .ref m9, .ref m10, .ref m11, .ref m12, .ref m13, .int (iI rw_), .ref m15, .long (lI fu), .long (lI fb)])), (m1, .inl (cs 0, 11520, .inl (ai lm3))), (m2, .inl (cs 0, 180, .inl (ai mn3))), (m3, .inl (cs 0, 180, .inl (ai sn3))), (ta, .inl (cs 1, 6, .inr (.inl (al aw)))), (tb, .inl (cs 1, 6, .inr (.inl (al bw))))]) hF.1 (k := 3) rfl) hR (by omega) (by omega) (by omega) (by omega) he hpe (fun j h1 h2 => hkz j (by omega) h2) hql hpa hqb hwr) (cwV 3 hts (gw_V w_800 w_802 s_37 w_8 w_803) rfl rfl rfl (by decide +kernel) ⟨by rw [hRf]; exact Nat.le_of_ble_eq_true rfl, by rw [hRl]; exact Nat.le_of_ble_eq_true rfl⟩) ⟨K0.blind, B.recv (hF.2 _ (mw_key (k := 0) (X := [(y, .inr (7, [.int (iI th), .ref m1, .ref m2, .ref m3, .int (iI pn), .ref m5, .ref m6, .ref m7, .ref m8, .ref m9, .ref m10, .ref m11, .ref m12, .ref m13, .int (iI rw_), .ref m15, .long (lI fu), .long (lI fb)])), (m1, .inl (cs 0, 11520, .inl (ai lm3))), (m2, .inl (cs 0, 180, .inl (ai mn3))), (m3, .inl (cs 0, 180, .inl (ai sn3))), (ta, .inl (cs 1, 6, .inr (.inl (al aw)))), (tb, .inl (cs 1, 6, .inr (.inl (al bw))))]) rfl)) (mw_get (X := [(y, .inr (7, [.int (iI th), .ref m1, .ref m2, .ref m3, .int (iI pn), .ref m5, .ref m6, .ref m7, .ref m8, .ref m9, .ref m10, .ref m11, .ref m12, .ref m13, .int (iI rw_), .ref m15, .long (lI fu), .long (lI fb)])), (m1, .inl (cs 0, 11520, .inl (ai lm3))), (m2, .inl (cs 0, 180, .inl (ai mn3))), (m3, .inl (cs 0, 180, .inl (ai sn3))), (ta, .inl (cs 1, 6, .inr (.inl (al aw)))), (tb, .inl (cs 1, 6, .inr (.inl (al bw))))]) hF.1 (k := 0) rfl) rfl, B.pre _⟩ rfl rfl hl.1 rfl (lv_room (Nat.le_of_ble_eq_true rfl)) d_Mo_common_40 ⟨by rw [hRc]; omega, by rw [hRs]; omega⟩) (fun g40 H locs hw B => ?_)
        obtain ⟨lm40, mn40, sn40, Z4, hR4, h4r, h4z, h4b, h4o, rfl⟩ := hw
        have B := B.of_eq (mw_put3 (X := [(y, .inr (7, [.int (iI th), .ref m1, .ref m2, .ref m3, .int (iI pn), .ref m5, .ref m6, .ref m7, .ref m8, .ref m9, .ref m10, .ref m11, .ref m12, .ref m13, .int (iI rw_), .ref m15, .long (lI fu), .long (lI fb)])), (m1, .inl (cs 0, 11520, .inl (ai lm3))), (m2, .inl (cs 0, 180, .inl (ai mn3))), (m3, .inl (cs 0, 180, .inl (ai sn3))), (ta, .inl (cs 1, 6, .inr (.inl (al aw)))), (tb, .inl (cs 1, 6, .inr (.inl (al bw))))]) hF.1 (k1 := 1) (k2 := 2) (k3 := 3) rfl rfl rfl)
        have B : Wb D vwCl (TY cs) L (mw f [(y, .inr (7, [.int (iI th), .ref m1, .ref m2, .ref m3, .int (iI pn), .ref m5, .ref m6, .ref m7, .ref m8, .ref m9, .ref m10, .ref m11, .ref m12, .ref m13, .int (iI rw_), .ref m15, .long (lI fu), .long (lI fb)])), (m1, .inl (cs 0, 11520, .inl (ai lm40))), (m2, .inl (cs 0, 180, .inl (ai mn40))), (m3, .inl (cs 0, 180, .inl (ai sn40))), (ta, .inl (cs 1, 6, .inr (.inl (al aw)))), (tb, .inl (cs 1, 6, .inr (.inl (al bw))))]) (AL L s.heap.size) s H _ := B
        have h4q : ∀ j, j < 6 → Z4 (qq + j) = Z3 (qq + j) := fun j hj => h4o _ (by omega) (by omega)
        refine lv_iload_n hx hb d_Mo_common_43 rfl (lv_at hl 1 rfl) ?_
        refine lv_istore (lv' := [(5, .int (iI ((pp : Int)))), (4, .int (iI ((qq : Int)))), (3, .int (iI ((pp : Int)))), (0, .ref y), (1, .ref ta), (2, .ref tb)]) hx hb d_Mo_common_44 hl (by decide) rfl (fun ls hl => ?_)
        refine lv_iload hx hb d_Mo_common_46 (lv_at hl 1 rfl) ?_
        refine lv_istore_n (lv' := [(3, .int (iI ((qq : Int)))), (5, .int (iI ((pp : Int)))), (4, .int (iI ((qq : Int)))), (0, .ref y), (1, .ref ta), (2, .ref tb)]) hx hb d_Mo_common_48 rfl hl (by decide) rfl (fun ls hl => ?_)
        refine lv_iload hx hb d_Mo_common_49 (lv_at hl 1 rfl) ?_
        refine lv_istore (lv' := [(4, .int (iI ((pp : Int)))), (3, .int (iI ((qq : Int)))), (5, .int (iI ((pp : Int)))), (0, .ref y), (1, .ref ta), (2, .ref tb)]) hx hb d_Mo_common_51 hl (by decide) rfl (fun ls hl => ?_)
        refine lv_goto (tgt := 21) hx hb d_Mo_common_53 (by decide) ?_
        exact ih_LP qq pp nq nq b1 (rE a1 b1 e0 nq) n2 lm40 mn40 sn40 Z4 (by omega) (by omega) hR4 hb1 hwr (by omega) (by omega) (fun j h1 h2 => by rw [h4q j h2]; exact hkz j (by omega) h2) h4z (fun j hj => by rw [h4q j hj]; exact hqb j hj) h4b hwu.2 ((hG.step h4r).congr (fun j hj => h4q j hj) (fun j hj => rfl)) (fun v h1 h2 => by rw [h4o v (by omega) h2]; exact ho v h1 h2) _ _ _ B (lv_sub hl [0, 1, 3, 4, 5] rfl)
  exact LP _ 96 102 5 dm0 nal nbe 7 lm11 mn11 sn11 Z2 (Nat.lt_succ_self _) (Or.inl ⟨rfl, rfl⟩) hR2 hal hbe (by omega) hdm0 (fun j h1 h2 => by omega) (fun j h1 h2 => by rw [h2a j h2]; exact hBz j h1 h2) (fun j hj => by rw [h2o _ (by omega), h1a j hj]; exact hAb j hj) (fun j hj => by rw [h2a j hj]; exact hBb j hj) hwk0 ((GI.first aw bw).congr (fun j hj => by rw [h2o _ (by omega)]; exact h1a j hj) (fun j hj => h2a j hj)) (fun v h1 h2 => by rw [h2o v (by omega)]; exact h1o v (by omega)) _ _ _ B (lv_sub hl [0, 1, 2, 3, 4] rfl)
