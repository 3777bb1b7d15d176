theorem mw_put4 {f : Nat → va_E} {X : List (Nat × va_E)} (hN : (X.map Prod.fst).Nodup) {k1 k2 k3 k4 a b d h : Nat} {e1 e2 e3 e4 d1 d2 d3 d4 : va_E} (h4 : X[k4]? = some (h, e4)) (h3 : (X.set k4 (h, d4))[k3]? = some (d, e3)) (h2 : ((X.set k4 (h, d4)).set k3 (d, d3))[k2]? = some (b, e2)) (h1 : (((X.set k4 (h, d4)).set k3 (d, d3)).set k2 (b, d2))[k1]? = some (a, e1)) : mw (mw f X) [(a, d1), (b, d2), (d, d3), (h, d4)] = mw f ((((X.set k4 (h, d4)).set k3 (d, d3)).set k2 (b, d2)).set k1 (a, d1)) := by
  rw [mw_set (by rw [mw_keys h2, mw_keys h3, mw_keys h4]; exact hN) h1, mw_set (by rw [mw_keys h3, mw_keys h4]; exact hN) h2, mw_set (by rw [mw_keys h4]; exact hN) h3, mw_set hN h4]
  rfl
def dva (A : Nat → Int) : Nat → Int := fun j => if j < 5 then ((j : Int) + 1) * A (j + 1) else 0
theorem Gcd.congr {A B A' B' C : Nat → Int} (h : Gcd A B C) (hA : ∀ j, j < 6 → A' j = A j) (hB : ∀ j, j < 6 → B' j = B j) : Gcd A' B' C := by
  have eA : ∀ x, es A' 6 x = es A 6 x := fun x => es_congr hA x
  have eB : ∀ x, es B' 6 x = es B 6 x := fun x => es_congr hB x
  rcases h with ⟨h1, h2, h3⟩ | ⟨h1, h2, ⟨u, w, h3⟩, ⟨q, h4⟩, ⟨r, h5⟩⟩
  · exact Or.inl ⟨fun j hj => by rw [hA j hj]; exact h1 j hj, fun j hj => by rw [hB j hj]; exact h2 j hj, h3⟩
  · exact Or.inr ⟨h1, h2, ⟨u, w, fun x => by rw [eA x, eB x]; exact h3 x⟩, ⟨q, fun x => by rw [← es_ev, eA x, es_ev]; exact h4 x⟩, ⟨r, fun x => by rw [← es_ev, eB x, es_ev]; exact h5 x⟩⟩
theorem PrimOf.congr {A A' C : Nat → Int} (h : PrimOf A C) (hA : ∀ j, j < 6 → A' j = A j) : PrimOf A' C := by
  rcases h with ⟨h1, h2⟩ | ⟨c, hc, h1, h2⟩
  · exact Or.inl ⟨fun j hj => by rw [hA j hj]; exact h1 j hj, h2⟩
  · exact Or.inr ⟨c, hc, fun j hj => by rw [hA j hj]; exact h1 j hj, h2⟩
/-- all that the exact quotient wants -/
theorem sqf_facts {A B G p1 : Nat → Int} {M : Int} (hM : 0 ≤ M) (hA : ∃ t, t < 6 ∧ A t ≠ 0) (hb : ∀ j, j < 6 → -M ≤ A j ∧ A j ≤ M) (hG : Gcd A B G) (hp : PrimOf A p1) : ∃ (nb : Nat) (C : Nat → Int), nb < 6 ∧ (∀ j, nb < j → j < 6 → G j = 0) ∧ G nb ≠ 0 ∧ (∀ j, j < 6 → -(49 * M) ≤ G j ∧ G j ≤ 49 * M) ∧ (∀ j, j < 6 → -(49 * M) ≤ C j ∧ C j ≤ 49 * M) ∧ (∀ j, j < 6 → C j ≠ 0 → j + nb ≤ 5) ∧ (∀ t, t < 6 → p1 t = cv C G 5 6 t) ∧ ∀ x, es p1 6 x = es C 6 x * es G 6 x := by
  obtain ⟨t, ht, hAt⟩ := hA
  rcases hG with ⟨g1, _, _⟩ | ⟨g1, ⟨nb, n1, n2, n3⟩, _, g4, _⟩
  · exact absurd (g1 t ht) hAt
  rcases hp with ⟨p2, _⟩ | ⟨c, hc, p2, p3, _⟩
  · exact absurd (p2 t ht) hAt
  have hp0 : ∃ t, t < 6 ∧ p1 t ≠ 0 := ⟨t, ht, fun h => hAt (by rw [p2 t ht, h]; simp)⟩
  have hpb : ∀ j, j < 6 → -M ≤ p1 j ∧ p1 j ≤ M := fun j hj => by
    have h1 := hb j hj
    have h2 : ((A j).natAbs : Int) = (c.natAbs : Int) * ((p1 j).natAbs : Int) := by rw [p2 j hj, Int.natAbs_mul, Int.natCast_mul]
    have h3 := Int.mul_le_mul_of_nonneg_right (show (1 : Int) ≤ (c.natAbs : Int) by omega) (show (0 : Int) ≤ ((p1 j).natAbs : Int) by omega)
    omega
  have hd : Dv (il G 6) (il p1 6) := by
    obtain ⟨q, hq⟩ := g4
    have hc' : (c : Rat) ≠ 0 := fun h0 => hc (by exact_mod_cast h0)
    have hcc : (c : Rat)⁻¹ * (c : Rat) = 1 := Rat.inv_mul_cancel _ hc'
    refine ⟨psc (c : Rat)⁻¹ q, fun x => ?_⟩
    have h2 := hq x
    rw [← es_ev, es_congr p2 x, es_sc] at h2
    rw [ev_sc, ← es_ev]
    have h3 : es p1 6 x = (c : Rat)⁻¹ * ((c : Rat) * es p1 6 x) := by grind
    rw [h3, h2]
    grind
  obtain ⟨⟨C, hC⟩, hGb⟩ := prim_small hM hp0 hpb g1 hd
  refine ⟨nb, C, n1, n3, by omega, hGb, fac_all (C := G) (P := C) hp0 hpb (fun x => by rw [hC x, Rat.mul_comm]), fac_deg hC n3 (by omega) n1, fun t ht => ?_, hC⟩
  have := cv_of hC t (by omega)
  rw [if_pos ht] at this
  exact this.symm
theorem d_Mo_squareFree_0 : decode prog_9_method_35_code 0 = .ok (.iconst 0, 1) := by decide +kernel
theorem d_Mo_squareFree_1 : decode prog_9_method_35_code 1 = .ok (.istore_n 2, 1) := by decide +kernel
theorem d_Mo_squareFree_2 : decode prog_9_method_35_code 2 = .ok (.iload_n 2, 1) := by decide +kernel
theorem d_Mo_squareFree_3 : decode prog_9_method_35_code 3 = .ok (.bipush 6, 2) := by decide +kernel
theorem d_Mo_squareFree_5 : decode prog_9_method_35_code 5 = .ok (.if_icmp .ge 27, 3) := by decide +kernel
theorem d_Mo_squareFree_8 : decode prog_9_method_35_code 8 = .ok (.aload_n 0, 1) := by decide +kernel
theorem d_Mo_squareFree_9 : decode prog_9_method_35_code 9 = .ok (.getfield 33, 3) := by decide +kernel
theorem d_Mo_squareFree_12 : decode prog_9_method_35_code 12 = .ok (.iload_n 2, 1) := by decide +kernel
theorem d_Mo_squareFree_13 : decode prog_9_method_35_code 13 = .ok (.aload_n 1, 1) := by decide +kernel
theorem d_Mo_squareFree_14 : decode prog_9_method_35_code 14 = .ok (.iload_n 2, 1) := by decide +kernel
theorem d_Mo_squareFree_15 : decode prog_9_method_35_code 15 = .ok (.laload, 1) := by decide +kernel
theorem d_Mo_squareFree_16 : decode prog_9_method_35_code 16 = .ok (.lastore, 1) := by decide +kernel
theorem d_Mo_squareFree_17 : decode prog_9_method_35_code 17 = .ok (.aload_n 0, 1) := by decide +kernel
theorem d_Mo_squareFree_18 : decode prog_9_method_35_code 18 = .ok (.getfield 30, 3) := by decide +kernel
theorem d_Mo_squareFree_21 : decode prog_9_method_35_code 21 = .ok (.iload_n 2, 1) := by decide +kernel
theorem d_Mo_squareFree_22 : decode prog_9_method_35_code 22 = .ok (.aload_n 1, 1) := by decide +kernel
theorem d_Mo_squareFree_23 : decode prog_9_method_35_code 23 = .ok (.iload_n 2, 1) := by decide +kernel
theorem d_Mo_squareFree_24 : decode prog_9_method_35_code 24 = .ok (.laload, 1) := by decide +kernel
theorem d_Mo_squareFree_25 : decode prog_9_method_35_code 25 = .ok (.lastore, 1) := by decide +kernel
theorem d_Mo_squareFree_26 : decode prog_9_method_35_code 26 = .ok (.iinc 2 1, 3) := by decide +kernel
theorem d_Mo_squareFree_29 : decode prog_9_method_35_code 29 = .ok (.goto (-27), 3) := by decide +kernel
theorem d_Mo_squareFree_32 : decode prog_9_method_35_code 32 = .ok (.aload_n 0, 1) := by decide +kernel
theorem d_Mo_squareFree_33 : decode prog_9_method_35_code 33 = .ok (.getfield 30, 3) := by decide +kernel
theorem d_Mo_squareFree_36 : decode prog_9_method_35_code 36 = .ok (.invokestatic 146, 3) := by decide +kernel
theorem d_Mo_squareFree_39 : decode prog_9_method_35_code 39 = .ok (.aload_n 0, 1) := by decide +kernel
theorem d_Mo_squareFree_40 : decode prog_9_method_35_code 40 = .ok (.aload_n 0, 1) := by decide +kernel
theorem d_Mo_squareFree_41 : decode prog_9_method_35_code 41 = .ok (.getfield 33, 3) := by decide +kernel
theorem d_Mo_squareFree_44 : decode prog_9_method_35_code 44 = .ok (.aload_n 0, 1) := by decide +kernel
theorem d_Mo_squareFree_45 : decode prog_9_method_35_code 45 = .ok (.getfield 30, 3) := by decide +kernel
theorem d_Mo_squareFree_48 : decode prog_9_method_35_code 48 = .ok (.invokevirtual 149, 3) := by decide +kernel
theorem d_Mo_squareFree_51 : decode prog_9_method_35_code 51 = .ok (.iconst 0, 1) := by decide +kernel
theorem d_Mo_squareFree_52 : decode prog_9_method_35_code 52 = .ok (.istore_n 2, 1) := by decide +kernel
theorem d_Mo_squareFree_53 : decode prog_9_method_35_code 53 = .ok (.iload_n 2, 1) := by decide +kernel
theorem d_Mo_squareFree_54 : decode prog_9_method_35_code 54 = .ok (.bipush 6, 2) := by decide +kernel
theorem d_Mo_squareFree_56 : decode prog_9_method_35_code 56 = .ok (.if_icmp .ge 18, 3) := by decide +kernel
theorem d_Mo_squareFree_59 : decode prog_9_method_35_code 59 = .ok (.aload_n 0, 1) := by decide +kernel
theorem d_Mo_squareFree_60 : decode prog_9_method_35_code 60 = .ok (.getfield 30, 3) := by decide +kernel
theorem d_Mo_squareFree_63 : decode prog_9_method_35_code 63 = .ok (.iload_n 2, 1) := by decide +kernel
theorem d_Mo_squareFree_64 : decode prog_9_method_35_code 64 = .ok (.aload_n 1, 1) := by decide +kernel
theorem d_Mo_squareFree_65 : decode prog_9_method_35_code 65 = .ok (.iload_n 2, 1) := by decide +kernel
theorem d_Mo_squareFree_66 : decode prog_9_method_35_code 66 = .ok (.laload, 1) := by decide +kernel
theorem d_Mo_squareFree_67 : decode prog_9_method_35_code 67 = .ok (.lastore, 1) := by decide +kernel
theorem d_Mo_squareFree_68 : decode prog_9_method_35_code 68 = .ok (.iinc 2 1, 3) := by decide +kernel
theorem d_Mo_squareFree_71 : decode prog_9_method_35_code 71 = .ok (.goto (-18), 3) := by decide +kernel
theorem d_Mo_squareFree_74 : decode prog_9_method_35_code 74 = .ok (.aload_n 0, 1) := by decide +kernel
theorem d_Mo_squareFree_75 : decode prog_9_method_35_code 75 = .ok (.getfield 30, 3) := by decide +kernel
theorem d_Mo_squareFree_78 : decode prog_9_method_35_code 78 = .ok (.invokestatic 142, 3) := by decide +kernel
theorem d_Mo_squareFree_81 : decode prog_9_method_35_code 81 = .ok (.aload_n 0, 1) := by decide +kernel
theorem d_Mo_squareFree_82 : decode prog_9_method_35_code 82 = .ok (.aload_n 0, 1) := by decide +kernel
theorem d_Mo_squareFree_83 : decode prog_9_method_35_code 83 = .ok (.getfield 30, 3) := by decide +kernel
theorem d_Mo_squareFree_86 : decode prog_9_method_35_code 86 = .ok (.aload_n 0, 1) := by decide +kernel
theorem d_Mo_squareFree_87 : decode prog_9_method_35_code 87 = .ok (.getfield 33, 3) := by decide +kernel
theorem d_Mo_squareFree_90 : decode prog_9_method_35_code 90 = .ok (.invokevirtual 153, 3) := by decide +kernel
theorem d_Mo_squareFree_93 : decode prog_9_method_35_code 93 = .ok (.aload_n 0, 1) := by decide +kernel
theorem d_Mo_squareFree_94 : decode prog_9_method_35_code 94 = .ok (.getfield 36, 3) := by decide +kernel
theorem d_Mo_squareFree_97 : decode prog_9_method_35_code 97 = .ok (.invokestatic 142, 3) := by decide +kernel
theorem d_Mo_squareFree_100 : decode prog_9_method_35_code 100 = .ok (.return_, 1) := by decide +kernel
set_option maxHeartbeats 8000000 in
set_option maxRecDepth 100000 in
theorem c_Mo_squareFree (l : Launch) (D : va_G) (cs : Nat → ClassId) (L : List Nat) (f : Nat → va_E) (sz : Nat) (y m1 m2 m3 m5 m6 m7 m8 m9 m10 m11 m12 m13 m15 : Nat) (th pn rw_ fu fb : Int) (lm mn sn Z : Nat → Int) (ta : Nat) (w8 w9 w10 aw : Nat → Int) (M1 : Int) (nal nbe : Nat) (hF : Fc L [y, m1, m2, m3, m8, m9, m10, ta]) (ha : f y = .inr (7, [.int (iI th), .ref m1, .ref m2, .ref m3, .int (iI pn), .ref m5, .ref m6, .ref m7, .ref m8, .ref m9, .ref m10, .ref m11, .ref m12, .ref m13, .int (iI rw_), .ref m15, .long (lI fu), .long (lI fb)])) (hm1 : f m1 = .inl (cs 0, 11520, .inl (ai lm))) (hm2 : f m2 = .inl (cs 0, 180, .inl (ai mn))) (hm3 : f m3 = .inl (cs 0, 180, .inl (ai sn))) (hRS : RS lm mn sn Z) (hm8 : f m8 = .inl (cs 1, 6, .inr (.inl (al w8)))) (hm9 : f m9 = .inl (cs 1, 6, .inr (.inl (al w9)))) (hm10 : f m10 = .inl (cs 1, 6, .inr (.inl (al w10)))) (hta : f ta = .inl (cs 1, 6, .inr (.inl (al aw)))) (hM0 : 0 ≤ M1) (hM1 : M1 ≤ 5000000) (hA0 : ∃ t, t < 6 ∧ aw t ≠ 0) (hAM2 : ∀ j, j < 6 → -M1 ≤ aw j ∧ aw j ≤ M1) (hDM2 : ∀ j, j < 6 → -M1 ≤ dva aw j ∧ dva aw j ≤ M1) (hAb : ∀ j, j < 6 → ((aw j).natAbs : Int) < 2 ^ nal) (hDb : ∀ j, j < 6 → ((dva aw j).natAbs : Int) < 2 ^ nbe) (hwk0 : ∀ d, d < 5 → wOk 7 5 d nal nbe = true) (hal : nal ≤ 1950) (hbe : nbe ≤ 1950) : Met l (⟨"RealRootsModel", "squareFree", "([J)V"⟩ : MethodName) (.code (⟨"RealRootsModel", "squareFree", "([J)V"⟩ : MethodName) prog_9_method_35_code 3 (Option.none : Option Jvm.ClassFile.FieldType) :: gw) ({ frames := 8, cells := 0, slots := 0, locals := 260 }) (va_Pc [.ref y, .ref ta] (K0 D vwCl (TY cs) L f sz)) (va_Qv (fun (g : Nat → va_E) => ∃ lm' mn' sn' Z' z8' z9' zf' G' p1' C' : Nat → Int, RS lm' mn' sn' Z' ∧ Gcd aw (dva aw) G' ∧ PrimOf aw p1' ∧ (∀ x, es p1' 6 x = es C' 6 x * es G' 6 x) ∧ PrimOf C' zf' ∧ (∀ v, (v < 96 ∨ 107 < v) → v < 169 → Z' v = Z v) ∧ g = mw f [(m1, .inl (cs 0, 11520, .inl (ai (lm')))), (m2, .inl (cs 0, 180, .inl (ai (mn')))), (m3, .inl (cs 0, 180, .inl (ai (sn')))), (m8, .inl (cs 1, 6, .inr (.inl (al (z8'))))), (m9, .inl (cs 1, 6, .inr (.inl (al (z9'))))), (m10, .inl (cs 1, 6, .inr (.inl (al (zf')))))]) (K1 D vwCl (TY cs) (AL L sz) L) (AL L sz)) 0 0 (AL L sz) := by
  refine Met.ofW (cc := prog_9_method_35_code) (maxL := 3) (ret := (Option.none : Option Jvm.ClassFile.FieldType)) (by decide) rfl ?_
  intro p e s m args below meth c s₁ Bd hml hv
  obtain ⟨rfl, hk0⟩ := hv
  obtain ⟨hsz, B⟩ := hk0.start
  subst hsz
  have hx := Bd.exec
  have hb := Bd.bytes
  have hr := Bd.returns
  have hlocks := Bd.notSynchronized
  have hts0 := atoms_spec Bd.pre
  have hown : s.vm.findClass RX7 = some m.cls := findClass_of_methodNamed Bd.named
  have hA : ∀ q, s.heap.size ≤ q → AL L s.heap.size q := fun _ h => Or.inr h
  have hl := lv_entry ([.ref y, .ref ta]) (n := 3) (Nat.le_of_ble_eq_true rfl)
  rw [lg_entry_eq]
  generalize (lg_sl ([.ref y, .ref ta]) ++ List.replicate (3 - (lg_sl ([.ref y, .ref ta])).length) Slot.unset).toArray = ls at hl ⊢
  refine absQ (fun Q R av hQ hR hav => ?_)
  have hts : ∀ w ∈ gw, w.before av s = true := by rw [hav]; exact fun w h => hts0 w (List.mem_cons_of_mem _ h)
  have hRf : R.frames = 8 := by rw [hR]; rfl
  have hRl : R.locals = 260 := by rw [hR]; rfl
  have hRc : R.cells = 0 := by rw [hR]; rfl
  have hRs : R.slots = 0 := by rw [hR]; rfl
  clear hR hts0 Bd
  have hl : lv_has ls 3 [(0, .ref y), (1, .ref ta)] := hl
  have hfx : ∀ q ∈ ([(y, .inr (7, [.int (iI th), .ref m1, .ref m2, .ref m3, .int (iI pn), .ref m5, .ref m6, .ref m7, .ref m8, .ref m9, .ref m10, .ref m11, .ref m12, .ref m13, .int (iI rw_), .ref m15, .long (lI fu), .long (lI fb)])), (m1, .inl (cs 0, 11520, .inl (ai lm))), (m2, .inl (cs 0, 180, .inl (ai mn))), (m3, .inl (cs 0, 180, .inl (ai sn))), (m8, .inl (cs 1, 6, .inr (.inl (al w8)))), (m9, .inl (cs 1, 6, .inr (.inl (al w9)))), (m10, .inl (cs 1, 6, .inr (.inl (al w10)))), (ta, .inl (cs 1, 6, .inr (.inl (al aw))))] : List (Nat × va_E)), f q.1 = q.2 := fun q hq => by
    simp only [List.mem_cons, List.not_mem_nil, or_false] at hq
    rcases hq with rfl | rfl | rfl | rfl | rfl | rfl | rfl | rfl
    · exact ha
    · exact hm1
    · exact hm2
    · exact hm3
    · exact hm8
    · exact hm9
    · exact hm10
    · exact hta
  have hmw : mw f [(y, .inr (7, [.int (iI th), .ref m1, .ref m2, .ref m3, .int (iI pn), .ref m5, .ref m6, .ref m7, .ref m8, .ref m9, .ref m10, .ref m11, .ref m12, .ref m13, .int (iI rw_), .ref m15, .long (lI fu), .long (lI fb)])), (m1, .inl (cs 0, 11520, .inl (ai lm))), (m2, .inl (cs 0, 180, .inl (ai mn))), (m3, .inl (cs 0, 180, .inl (ai sn))), (m8, .inl (cs 1, 6, .inr (.inl (al w8)))), (m9, .inl (cs 1, 6, .inr (.inl (al w9)))), (m10, .inl (cs 1, 6, .inr (.inl (al w10)))), (ta, .inl (cs 1, 6, .inr (.inl (al aw))))] = f := mw_self (fun k a e hk => hfx (a, e) (List.mem_of_getElem? hk))
  have B := B.focus [(y, .inr (7, [.int (iI th), .ref m1, .ref m2, .ref m3, .int (iI pn), .ref m5, .ref m6, .ref m7, .ref m8, .ref m9, .ref m10, .ref m11, .ref m12, .ref m13, .int (iI rw_), .ref m15, .long (lI fu), .long (lI fb)])), (m1, .inl (cs 0, 11520, .inl (ai lm))), (m2, .inl (cs 0, 180, .inl (ai mn))), (m3, .inl (cs 0, 180, .inl (ai sn))), (m8, .inl (cs 1, 6, .inr (.inl (al w8)))), (m9, .inl (cs 1, 6, .inr (.inl (al w9)))), (m10, .inl (cs 1, 6, .inr (.inl (al w10)))), (ta, .inl (cs 1, 6, .inr (.inl (al aw))))] hfx
  refine x_iconst hx hb d_Mo_squareFree_0 ?_
  refine lv_istore_n (lv' := [(2, .int (iI 0)), (0, .ref y), (1, .ref ta)]) hx hb d_Mo_squareFree_1 rfl hl (by decide) rfl (fun ls hl => ?_)
  have L1 : ∀ (fuel : Nat) (k : Nat) (z8 : Nat → Int) (z9 : Nat → Int), 6 - k < fuel → (k ≤ 6) → (∀ j, j < k → z8 j = aw j) → (∀ j, j < k → z9 j = aw j) → ∀ (H : Heap) (locs : List Loc) (ls : Array Slot), Wb D vwCl (TY cs) L (mw f [(y, .inr (7, [.int (iI th), .ref m1, .ref m2, .ref m3, .int (iI pn), .ref m5, .ref m6, .ref m7, .ref m8, .ref m9, .ref m10, .ref m11, .ref m12, .ref m13, .int (iI rw_), .ref m15, .long (lI fu), .long (lI fb)])), (m1, .inl (cs 0, 11520, .inl (ai lm))), (m2, .inl (cs 0, 180, .inl (ai mn))), (m3, .inl (cs 0, 180, .inl (ai sn))), (m8, .inl (cs 1, 6, .inr (.inl (al z8)))), (m9, .inl (cs 1, 6, .inr (.inl (al z9)))), (m10, .inl (cs 1, 6, .inr (.inl (al w10)))), (ta, .inl (cs 1, 6, .inr (.inl (al aw))))]) (AL L s.heap.size) s H locs → lv_has ls 3 [(2, .int (iI ((k : Int)))), (0, .ref y), (1, .ref ta)] → W p l e R s m av below meth c H locs (0) (0) Q (F0 m 2 ls []) := by
    intro fuel
    induction fuel with
    | zero => intro k z8 z9 hfu; exact absurd hfu (Nat.not_lt_zero _)
    | succ fuel ih_L1 =>
      intro k z8 z9 hfu_L1 hk hI8 hI9 H locs ls B hl
      refine lv_iload_n hx hb d_Mo_squareFree_2 rfl (lv_at hl 0 rfl) ?_
      refine x_bipush hx hb d_Mo_squareFree_3 (by decide) ?_
      refine x_icmp_ge (tgt := 32) hx hb d_Mo_squareFree_5 (by decide) (by omega) (by omega) (fun h5 => ?_) (fun h5 => ?_)
      · refine lv_aload_n hx hb d_Mo_squareFree_32 rfl (lv_at hl 1 rfl) ?_
        refine x_get (C := RX7) (T := TX7) (N := 18) hx hb hts inX7 hown B hF 0 rfl rfl 8 (by decide) (hts _ w_685) (fun _ h9 => h9) rfl d_Mo_squareFree_33 ?_
        refine x_callv B hA (va_runS (As := [.ref m8]) (rest := []) ⟨hx, hb, hml, hown, hts⟩ (c_Mo_derive l D cs _ _ _ m8 z8 (hF.pick [4] rfl rfl) (mw_get (X := [(y, .inr (7, [.int (iI th), .ref m1, .ref m2, .ref m3, .int (iI pn), .ref m5, .ref m6, .ref m7, .ref m8, .ref m9, .ref m10, .ref m11, .ref m12, .ref m13, .int (iI rw_), .ref m15, .long (lI fu), .long (lI fb)])), (m1, .inl (cs 0, 11520, .inl (ai lm))), (m2, .inl (cs 0, 180, .inl (ai mn))), (m3, .inl (cs 0, 180, .inl (ai sn))), (m8, .inl (cs 1, 6, .inr (.inl (al z8)))), (m9, .inl (cs 1, 6, .inr (.inl (al z9)))), (m10, .inl (cs 1, 6, .inr (.inl (al w10)))), (ta, .inl (cs 1, 6, .inr (.inl (al aw))))]) hF.1 (k := 4) rfl)) (va_cwS 1 hts (gw_S w_866 w_867 w_8 w_868) rfl rfl rfl (by decide +kernel) ⟨by rw [hRf]; exact Nat.le_of_ble_eq_true rfl, by rw [hRl]; exact Nat.le_of_ble_eq_true rfl⟩) ⟨K0.blind, B.pre _⟩ rfl rfl hl.1 rfl (lv_room (Nat.le_of_ble_eq_true rfl)) d_Mo_squareFree_36 ⟨by rw [hRc]; omega, by rw [hRs]; omega⟩) (fun g36 H locs hw B => ?_)
        obtain ⟨d8, hd8, hd85, rfl⟩ := hw
        have B := B.of_eq (mw_put (X := [(y, .inr (7, [.int (iI th), .ref m1, .ref m2, .ref m3, .int (iI pn), .ref m5, .ref m6, .ref m7, .ref m8, .ref m9, .ref m10, .ref m11, .ref m12, .ref m13, .int (iI rw_), .ref m15, .long (lI fu), .long (lI fb)])), (m1, .inl (cs 0, 11520, .inl (ai lm))), (m2, .inl (cs 0, 180, .inl (ai mn))), (m3, .inl (cs 0, 180, .inl (ai sn))), (m8, .inl (cs 1, 6, .inr (.inl (al z8)))), (m9, .inl (cs 1, 6, .inr (.inl (al z9)))), (m10, .inl (cs 1, 6, .inr (.inl (al w10)))), (ta, .inl (cs 1, 6, .inr (.inl (al aw))))]) hF.1 (k := 4) rfl)
        have B : Wb D vwCl (TY cs) L (mw f [(y, .inr (7, [.int (iI th), .ref m1, .ref m2, .ref m3, .int (iI pn), .ref m5, .ref m6, .ref m7, .ref m8, .ref m9, .ref m10, .ref m11, .ref m12, .ref m13, .int (iI rw_), .ref m15, .long (lI fu), .long (lI fb)])), (m1, .inl (cs 0, 11520, .inl (ai lm))), (m2, .inl (cs 0, 180, .inl (ai mn))), (m3, .inl (cs 0, 180, .inl (ai sn))), (m8, .inl (cs 1, 6, .inr (.inl (al d8)))), (m9, .inl (cs 1, 6, .inr (.inl (al z9)))), (m10, .inl (cs 1, 6, .inr (.inl (al w10)))), (ta, .inl (cs 1, 6, .inr (.inl (al aw))))]) (AL L s.heap.size) s H _ := B
        have h6 : k = 6 := by omega
        have hz9 : ∀ j, j < 6 → z9 j = aw j := fun j hj => hI9 j (by omega)
        have hd9 : ∀ j, j < 6 → d8 j = dva aw j := fun j hj => by unfold dva; split; rw [hd8 j (by omega), hI8 (j + 1) (by omega)]; rw [show j = 5 by omega]; exact hd85
        refine lv_aload_n hx hb d_Mo_squareFree_39 rfl (lv_at hl 1 rfl) ?_
        refine lv_aload_n hx hb d_Mo_squareFree_40 rfl (lv_at hl 1 rfl) ?_
        refine x_get (C := RX7) (T := TX7) (N := 18) hx hb hts inX7 hown B hF 0 rfl rfl 9 (by decide) (hts _ w_686) (fun _ h9 => h9) rfl d_Mo_squareFree_41 ?_
        refine lv_aload_n hx hb d_Mo_squareFree_44 rfl (lv_at hl 1 rfl) ?_
        refine x_get (C := RX7) (T := TX7) (N := 18) hx hb hts inX7 hown B hF 0 rfl rfl 8 (by decide) (hts _ w_685) (fun _ h9 => h9) rfl d_Mo_squareFree_45 ?_
        refine x_callv B hA (va_runV (As := [.ref m9, .ref m8]) (rest := []) ⟨hx, hb, hml, hown, hts⟩ (c_Mo_common l D cs _ _ _ y m1 m2 m3 m5 m6 m7 m8 m9 m10 m11 m12 m13 m15 th pn rw_ fu fb lm mn sn Z m9 m8 z9 d8 M1 nal nbe 5 (hF.pick [0, 1, 2, 3, 5, 4] rfl rfl) (mw_get (X := [(y, .inr (7, [.int (iI th), .ref m1, .ref m2, .ref m3, .int (iI pn), .ref m5, .ref m6, .ref m7, .ref m8, .ref m9, .ref m10, .ref m11, .ref m12, .ref m13, .int (iI rw_), .ref m15, .long (lI fu), .long (lI fb)])), (m1, .inl (cs 0, 11520, .inl (ai lm))), (m2, .inl (cs 0, 180, .inl (ai mn))), (m3, .inl (cs 0, 180, .inl (ai sn))), (m8, .inl (cs 1, 6, .inr (.inl (al d8)))), (m9, .inl (cs 1, 6, .inr (.inl (al z9)))), (m10, .inl (cs 1, 6, .inr (.inl (al w10)))), (ta, .inl (cs 1, 6, .inr (.inl (al aw))))]) hF.1 (k := 0) rfl) (mw_get (X := [(y, .inr (7, [.int (iI th), .ref m1, .ref m2, .ref m3, .int (iI pn), .ref m5, .ref m6, .ref m7, .ref m8, .ref m9, .ref m10, .ref m11, .ref m12, .ref m13, .int (iI rw_), .ref m15, .long (lI fu), .long (lI fb)])), (m1, .inl (cs 0, 11520, .inl (ai lm))), (m2, .inl (cs 0, 180, .inl (ai mn))), (m3, .inl (cs 0, 180, .inl (ai sn))), (m8, .inl (cs 1, 6, .inr (.inl (al d8)))), (m9, .inl (cs 1, 6, .inr (.inl (al z9)))), (m10, .inl (cs 1, 6, .inr (.inl (al w10)))), (ta, .inl (cs 1, 6, .inr (.inl (al aw))))]) hF.1 (k := 1) rfl) (mw_get (X := [(y, .inr (7, [.int (iI th), .ref m1, .ref m2, .ref m3, .int (iI pn), .ref m5, .ref m6, .ref m7, .ref m8, .ref m9, .ref m10, .ref m11, .ref m12, .ref m13, .int (iI rw_), .ref m15, .long (lI fu), .long (lI fb)])), (m1, .inl (cs 0, 11520, .inl (ai lm))), (m2, .inl (cs 0, 180, .inl (ai mn))), (m3, .inl (cs 0, 180, .inl (ai sn))), (m8, .inl (cs 1, 6, .inr (.inl (al d8)))), (m9, .inl (cs 1, 6, .inr (.inl (al z9)))), (m10, .inl (cs 1, 6, .inr (.inl (al w10)))), (ta, .inl (cs 1, 6, .inr (.inl (al aw))))]) hF.1 (k := 2) rfl) (mw_get (X := [(y, .inr (7, [.int (iI th), .ref m1, .ref m2, .ref m3, .int (iI pn), .ref m5, .ref m6, .ref m7, .ref m8, .ref m9, .ref m10, .ref m11, .ref m12, .ref m13, .int (iI rw_), .ref m15, .long (lI fu), .long (lI fb)])), (m1, .inl (cs 0, 11520, .inl (ai lm))), (m2, .inl (cs 0, 180, .inl (ai mn))), (m3, .inl (cs 0, 180, .inl (ai sn))), (m8, .inl (cs 1, 6, .inr (.inl (al d8)))), (m9, .inl (cs 1, 6, .inr (.inl (al z9)))), (m10, .inl (cs 1, 6, .inr (.inl (al w10)))), (ta, .inl (cs 1, 6, .inr (.inl (al aw))))]) hF.1 (k := 3) rfl) hRS (mw_get (X := [(y, .inr (7, [.int (iI th), .ref m1, .ref m2, .ref m3, .int (iI pn), .ref m5, .ref m6, .ref m7, .ref m8, .ref m9, .ref m10, .ref m11, .ref m12, .ref m13, .int (iI rw_), .ref m15, .long (lI fu), .long (lI fb)])), (m1, .inl (cs 0, 11520, .inl (ai lm))), (m2, .inl (cs 0, 180, .inl (ai mn))), (m3, .inl (cs 0, 180, .inl (ai sn))), (m8, .inl (cs 1, 6, .inr (.inl (al d8)))), (m9, .inl (cs 1, 6, .inr (.inl (al z9)))), (m10, .inl (cs 1, 6, .inr (.inl (al w10)))), (ta, .inl (cs 1, 6, .inr (.inl (al aw))))]) hF.1 (k := 5) rfl) (mw_get (X := [(y, .inr (7, [.int (iI th), .ref m1, .ref m2, .ref m3, .int (iI pn), .ref m5, .ref m6, .ref m7, .ref m8, .ref m9, .ref m10, .ref m11, .ref m12, .ref m13, .int (iI rw_), .ref m15, .long (lI fu), .long (lI fb)])), (m1, .inl (cs 0, 11520, .inl (ai lm))), (m2, .inl (cs 0, 180, .inl (ai mn))), (m3, .inl (cs 0, 180, .inl (ai sn))), (m8, .inl (cs 1, 6, .inr (.inl (al d8)))), (m9, .inl (cs 1, 6, .inr (.inl (al z9)))), (m10, .inl (cs 1, 6, .inr (.inl (al w10)))), (ta, .inl (cs 1, 6, .inr (.inl (al aw))))]) hF.1 (k := 4) rfl) hM0 (by omega) (fun j hj => by rw [hz9 j hj]; exact hAM2 j hj) (fun j hj => by rw [hd9 j hj]; exact hDM2 j hj) (fun j hj => by rw [hz9 j hj]; exact hAb j hj) (fun j hj => by rw [hd9 j hj]; exact hDb j hj) (by decide) (fun j h1 h2 => by rw [show j = 5 by omega]; exact hd85) hwk0 hal hbe) (cwV 2 hts (gw_V w_784 w_786 s_33 w_8 w_787) rfl rfl rfl (by decide +kernel) ⟨by rw [hRf]; exact Nat.le_of_ble_eq_true rfl, by rw [hRl]; exact Nat.le_of_ble_eq_true rfl⟩) ⟨K0.blind, B.recv (hF.2 _ (mw_key (k := 0) (X := [(y, .inr (7, [.int (iI th), .ref m1, .ref m2, .ref m3, .int (iI pn), .ref m5, .ref m6, .ref m7, .ref m8, .ref m9, .ref m10, .ref m11, .ref m12, .ref m13, .int (iI rw_), .ref m15, .long (lI fu), .long (lI fb)])), (m1, .inl (cs 0, 11520, .inl (ai lm))), (m2, .inl (cs 0, 180, .inl (ai mn))), (m3, .inl (cs 0, 180, .inl (ai sn))), (m8, .inl (cs 1, 6, .inr (.inl (al d8)))), (m9, .inl (cs 1, 6, .inr (.inl (al z9)))), (m10, .inl (cs 1, 6, .inr (.inl (al w10)))), (ta, .inl (cs 1, 6, .inr (.inl (al aw))))]) rfl)) (mw_get (X := [(y, .inr (7, [.int (iI th), .ref m1, .ref m2, .ref m3, .int (iI pn), .ref m5, .ref m6, .ref m7, .ref m8, .ref m9, .ref m10, .ref m11, .ref m12, .ref m13, .int (iI rw_), .ref m15, .long (lI fu), .long (lI fb)])), (m1, .inl (cs 0, 11520, .inl (ai lm))), (m2, .inl (cs 0, 180, .inl (ai mn))), (m3, .inl (cs 0, 180, .inl (ai sn))), (m8, .inl (cs 1, 6, .inr (.inl (al d8)))), (m9, .inl (cs 1, 6, .inr (.inl (al z9)))), (m10, .inl (cs 1, 6, .inr (.inl (al w10)))), (ta, .inl (cs 1, 6, .inr (.inl (al aw))))]) hF.1 (k := 0) rfl) rfl, B.pre _⟩ rfl rfl hl.1 rfl (lv_room (Nat.le_of_ble_eq_true rfl)) d_Mo_squareFree_48 ⟨by rw [hRc]; omega, by rw [hRs]; omega⟩) (fun g48 H locs hw B => ?_)
        obtain ⟨lm48, mn48, sn48, Z5, G5, hR5, hG5, h5o, rfl⟩ := hw
        have B := B.of_eq (mw_put4 (X := [(y, .inr (7, [.int (iI th), .ref m1, .ref m2, .ref m3, .int (iI pn), .ref m5, .ref m6, .ref m7, .ref m8, .ref m9, .ref m10, .ref m11, .ref m12, .ref m13, .int (iI rw_), .ref m15, .long (lI fu), .long (lI fb)])), (m1, .inl (cs 0, 11520, .inl (ai lm))), (m2, .inl (cs 0, 180, .inl (ai mn))), (m3, .inl (cs 0, 180, .inl (ai sn))), (m8, .inl (cs 1, 6, .inr (.inl (al d8)))), (m9, .inl (cs 1, 6, .inr (.inl (al z9)))), (m10, .inl (cs 1, 6, .inr (.inl (al w10)))), (ta, .inl (cs 1, 6, .inr (.inl (al aw))))]) hF.1 (k1 := 1) (k2 := 2) (k3 := 3) (k4 := 5) rfl rfl rfl rfl)
        have B : Wb D vwCl (TY cs) L (mw f [(y, .inr (7, [.int (iI th), .ref m1, .ref m2, .ref m3, .int (iI pn), .ref m5, .ref m6, .ref m7, .ref m8, .ref m9, .ref m10, .ref m11, .ref m12, .ref m13, .int (iI rw_), .ref m15, .long (lI fu), .long (lI fb)])), (m1, .inl (cs 0, 11520, .inl (ai lm48))), (m2, .inl (cs 0, 180, .inl (ai mn48))), (m3, .inl (cs 0, 180, .inl (ai sn48))), (m8, .inl (cs 1, 6, .inr (.inl (al d8)))), (m9, .inl (cs 1, 6, .inr (.inl (al G5)))), (m10, .inl (cs 1, 6, .inr (.inl (al w10)))), (ta, .inl (cs 1, 6, .inr (.inl (al aw))))]) (AL L s.heap.size) s H _ := B
        have hG6 : Gcd aw (dva aw) G5 := hG5.congr (fun j hj => (hz9 j hj).symm) (fun j hj => (hd9 j hj).symm)
        refine x_iconst hx hb d_Mo_squareFree_51 ?_
        refine lv_istore_n (lv' := [(2, .int (iI 0)), (0, .ref y), (1, .ref ta)]) hx hb d_Mo_squareFree_52 rfl hl (by decide) rfl (fun ls hl => ?_)
        have L2 : ∀ (fuel : Nat) (i : Nat) (y8 : Nat → Int), 6 - i < fuel → (i ≤ 6) → (∀ j, j < i → y8 j = aw j) → ∀ (H : Heap) (locs : List Loc) (ls : Array Slot), Wb D vwCl (TY cs) L (mw f [(y, .inr (7, [.int (iI th), .ref m1, .ref m2, .ref m3, .int (iI pn), .ref m5, .ref m6, .ref m7, .ref m8, .ref m9, .ref m10, .ref m11, .ref m12, .ref m13, .int (iI rw_), .ref m15, .long (lI fu), .long (lI fb)])), (m1, .inl (cs 0, 11520, .inl (ai lm48))), (m2, .inl (cs 0, 180, .inl (ai mn48))), (m3, .inl (cs 0, 180, .inl (ai sn48))), (m8, .inl (cs 1, 6, .inr (.inl (al y8)))), (m9, .inl (cs 1, 6, .inr (.inl (al G5)))), (m10, .inl (cs 1, 6, .inr (.inl (al w10)))), (ta, .inl (cs 1, 6, .inr (.inl (al aw))))]) (AL L s.heap.size) s H locs → lv_has ls 3 [(2, .int (iI ((i : Int)))), (0, .ref y), (1, .ref ta)] → W p l e R s m av below meth c H locs (0) (0) Q (F0 m 53 ls []) := by
          intro fuel
          induction fuel with
          | zero => intro i y8 hfu; exact absurd hfu (Nat.not_lt_zero _)
          | succ fuel ih_L2 =>
            intro i y8 hfu_L2 hi hJ H locs ls B hl
            refine lv_iload_n hx hb d_Mo_squareFree_53 rfl (lv_at hl 0 rfl) ?_
            refine x_bipush hx hb d_Mo_squareFree_54 (by decide) ?_
            refine x_icmp_ge (tgt := 74) hx hb d_Mo_squareFree_56 (by decide) (by omega) (by omega) (fun h56 => ?_) (fun h56 => ?_)
            · refine lv_aload_n hx hb d_Mo_squareFree_74 rfl (lv_at hl 1 rfl) ?_
              refine x_get (C := RX7) (T := TX7) (N := 18) hx hb hts inX7 hown B hF 0 rfl rfl 8 (by decide) (hts _ w_685) (fun _ h9 => h9) rfl d_Mo_squareFree_75 ?_
              refine x_callv B hA (va_runS (As := [.ref m8]) (rest := []) ⟨hx, hb, hml, hown, hts⟩ (c_Mo_primitive l D cs _ _ _ m8 y8 (hF.pick [4] rfl rfl) (mw_get (X := [(y, .inr (7, [.int (iI th), .ref m1, .ref m2, .ref m3, .int (iI pn), .ref m5, .ref m6, .ref m7, .ref m8, .ref m9, .ref m10, .ref m11, .ref m12, .ref m13, .int (iI rw_), .ref m15, .long (lI fu), .long (lI fb)])), (m1, .inl (cs 0, 11520, .inl (ai lm48))), (m2, .inl (cs 0, 180, .inl (ai mn48))), (m3, .inl (cs 0, 180, .inl (ai sn48))), (m8, .inl (cs 1, 6, .inr (.inl (al y8)))), (m9, .inl (cs 1, 6, .inr (.inl (al G5)))), (m10, .inl (cs 1, 6, .inr (.inl (al w10)))), (ta, .inl (cs 1, 6, .inr (.inl (al aw))))]) hF.1 (k := 4) rfl) (fun j hj => by rw [hJ j (by omega)]; have h9 := hAM2 j hj; omega)) (va_cwS 1 hts (gw_S w_856 w_857 w_8 w_858) rfl rfl rfl (by decide +kernel) ⟨by rw [hRf]; exact Nat.le_of_ble_eq_true rfl, by rw [hRl]; exact Nat.le_of_ble_eq_true rfl⟩) ⟨K0.blind, B.pre _⟩ rfl rfl hl.1 rfl (lv_room (Nat.le_of_ble_eq_true rfl)) d_Mo_squareFree_78 ⟨by rw [hRc]; omega, by rw [hRs]; omega⟩) (fun g78 H locs hw B => ?_)
              obtain ⟨p8, hp8, rfl⟩ := hw
              have B := B.of_eq (mw_put (X := [(y, .inr (7, [.int (iI th), .ref m1, .ref m2, .ref m3, .int (iI pn), .ref m5, .ref m6, .ref m7, .ref m8, .ref m9, .ref m10, .ref m11, .ref m12, .ref m13, .int (iI rw_), .ref m15, .long (lI fu), .long (lI fb)])), (m1, .inl (cs 0, 11520, .inl (ai lm48))), (m2, .inl (cs 0, 180, .inl (ai mn48))), (m3, .inl (cs 0, 180, .inl (ai sn48))), (m8, .inl (cs 1, 6, .inr (.inl (al y8)))), (m9, .inl (cs 1, 6, .inr (.inl (al G5)))), (m10, .inl (cs 1, 6, .inr (.inl (al w10)))), (ta, .inl (cs 1, 6, .inr (.inl (al aw))))]) hF.1 (k := 4) rfl)
              have B : Wb D vwCl (TY cs) L (mw f [(y, .inr (7, [.int (iI th), .ref m1, .ref m2, .ref m3, .int (iI pn), .ref m5, .ref m6, .ref m7, .ref m8, .ref m9, .ref m10, .ref m11, .ref m12, .ref m13, .int (iI rw_), .ref m15, .long (lI fu), .long (lI fb)])), (m1, .inl (cs 0, 11520, .inl (ai lm48))), (m2, .inl (cs 0, 180, .inl (ai mn48))), (m3, .inl (cs 0, 180, .inl (ai sn48))), (m8, .inl (cs 1, 6, .inr (.inl (al p8)))), (m9, .inl (cs 1, 6, .inr (.inl (al G5)))), (m10, .inl (cs 1, 6, .inr (.inl (al w10)))), (ta, .inl (cs 1, 6, .inr (.inl (al aw))))]) (AL L s.heap.size) s H _ := B
              have hpa := hp8.congr (A' := aw) (fun j hj => (hJ j (by omega)).symm)
              obtain ⟨nb, C0, q1, q2, q3, q4, q5, q6, q7, q8⟩ := sqf_facts hM0 hA0 hAM2 hG6 hpa
              refine lv_aload_n hx hb d_Mo_squareFree_81 rfl (lv_at hl 1 rfl) ?_
              refine lv_aload_n hx hb d_Mo_squareFree_82 rfl (lv_at hl 1 rfl) ?_
              refine x_get (C := RX7) (T := TX7) (N := 18) hx hb hts inX7 hown B hF 0 rfl rfl 8 (by decide) (hts _ w_685) (fun _ h9 => h9) rfl d_Mo_squareFree_83 ?_
              refine lv_aload_n hx hb d_Mo_squareFree_86 rfl (lv_at hl 1 rfl) ?_
              refine x_get (C := RX7) (T := TX7) (N := 18) hx hb hts inX7 hown B hF 0 rfl rfl 9 (by decide) (hts _ w_686) (fun _ h9 => h9) rfl d_Mo_squareFree_87 ?_
              refine x_callv B hA (va_runV (As := [.ref m8, .ref m9]) (rest := []) ⟨hx, hb, hml, hown, hts⟩ (c_Mo_quotient l D cs _ _ _ y m1 m2 m3 m5 m6 m7 m8 m9 m10 m11 m12 m13 m15 th pn rw_ fu fb m8 m9 nb w10 p8 G5 C0 (hF.pick [0, 6, 4, 5] rfl rfl) (mw_get (X := [(y, .inr (7, [.int (iI th), .ref m1, .ref m2, .ref m3, .int (iI pn), .ref m5, .ref m6, .ref m7, .ref m8, .ref m9, .ref m10, .ref m11, .ref m12, .ref m13, .int (iI rw_), .ref m15, .long (lI fu), .long (lI fb)])), (m1, .inl (cs 0, 11520, .inl (ai lm48))), (m2, .inl (cs 0, 180, .inl (ai mn48))), (m3, .inl (cs 0, 180, .inl (ai sn48))), (m8, .inl (cs 1, 6, .inr (.inl (al p8)))), (m9, .inl (cs 1, 6, .inr (.inl (al G5)))), (m10, .inl (cs 1, 6, .inr (.inl (al w10)))), (ta, .inl (cs 1, 6, .inr (.inl (al aw))))]) hF.1 (k := 0) rfl) (mw_get (X := [(y, .inr (7, [.int (iI th), .ref m1, .ref m2, .ref m3, .int (iI pn), .ref m5, .ref m6, .ref m7, .ref m8, .ref m9, .ref m10, .ref m11, .ref m12, .ref m13, .int (iI rw_), .ref m15, .long (lI fu), .long (lI fb)])), (m1, .inl (cs 0, 11520, .inl (ai lm48))), (m2, .inl (cs 0, 180, .inl (ai mn48))), (m3, .inl (cs 0, 180, .inl (ai sn48))), (m8, .inl (cs 1, 6, .inr (.inl (al p8)))), (m9, .inl (cs 1, 6, .inr (.inl (al G5)))), (m10, .inl (cs 1, 6, .inr (.inl (al w10)))), (ta, .inl (cs 1, 6, .inr (.inl (al aw))))]) hF.1 (k := 6) rfl) (mw_get (X := [(y, .inr (7, [.int (iI th), .ref m1, .ref m2, .ref m3, .int (iI pn), .ref m5, .ref m6, .ref m7, .ref m8, .ref m9, .ref m10, .ref m11, .ref m12, .ref m13, .int (iI rw_), .ref m15, .long (lI fu), .long (lI fb)])), (m1, .inl (cs 0, 11520, .inl (ai lm48))), (m2, .inl (cs 0, 180, .inl (ai mn48))), (m3, .inl (cs 0, 180, .inl (ai sn48))), (m8, .inl (cs 1, 6, .inr (.inl (al p8)))), (m9, .inl (cs 1, 6, .inr (.inl (al G5)))), (m10, .inl (cs 1, 6, .inr (.inl (al w10)))), (ta, .inl (cs 1, 6, .inr (.inl (al aw))))]) hF.1 (k := 4) rfl) (mw_get (X := [(y, .inr (7, [.int (iI th), .ref m1, .ref m2, .ref m3, .int (iI pn), .ref m5, .ref m6, .ref m7, .ref m8, .ref m9, .ref m10, .ref m11, .ref m12, .ref m13, .int (iI rw_), .ref m15, .long (lI fu), .long (lI fb)])), (m1, .inl (cs 0, 11520, .inl (ai lm48))), (m2, .inl (cs 0, 180, .inl (ai mn48))), (m3, .inl (cs 0, 180, .inl (ai sn48))), (m8, .inl (cs 1, 6, .inr (.inl (al p8)))), (m9, .inl (cs 1, 6, .inr (.inl (al G5)))), (m10, .inl (cs 1, 6, .inr (.inl (al w10)))), (ta, .inl (cs 1, 6, .inr (.inl (al aw))))]) hF.1 (k := 5) rfl) q1 q2 q3 (fun j hj => by have h9 := q4 j hj; omega) (fun j hj => by have h9 := q5 j hj; omega) q6 q7) (cwV 2 hts (gw_V w_869 w_871 s_51 w_8 w_872) rfl rfl rfl (by decide +kernel) ⟨by rw [hRf]; exact Nat.le_of_ble_eq_true rfl, by rw [hRl]; exact Nat.le_of_ble_eq_true rfl⟩) ⟨K0.blind, B.recv (hF.2 _ (mw_key (k := 0) (X := [(y, .inr (7, [.int (iI th), .ref m1, .ref m2, .ref m3, .int (iI pn), .ref m5, .ref m6, .ref m7, .ref m8, .ref m9, .ref m10, .ref m11, .ref m12, .ref m13, .int (iI rw_), .ref m15, .long (lI fu), .long (lI fb)])), (m1, .inl (cs 0, 11520, .inl (ai lm48))), (m2, .inl (cs 0, 180, .inl (ai mn48))), (m3, .inl (cs 0, 180, .inl (ai sn48))), (m8, .inl (cs 1, 6, .inr (.inl (al p8)))), (m9, .inl (cs 1, 6, .inr (.inl (al G5)))), (m10, .inl (cs 1, 6, .inr (.inl (al w10)))), (ta, .inl (cs 1, 6, .inr (.inl (al aw))))]) rfl)) (mw_get (X := [(y, .inr (7, [.int (iI th), .ref m1, .ref m2, .ref m3, .int (iI pn), .ref m5, .ref m6, .ref m7, .ref m8, .ref m9, .ref m10, .ref m11, .ref m12, .ref m13, .int (iI rw_), .ref m15, .long (lI fu), .long (lI fb)])), (m1, .inl (cs 0, 11520, .inl (ai lm48))), (m2, .inl (cs 0, 180, .inl (ai mn48))), (m3, .inl (cs 0, 180, .inl (ai sn48))), (m8, .inl (cs 1, 6, .inr (.inl (al p8)))), (m9, .inl (cs 1, 6, .inr (.inl (al G5)))), (m10, .inl (cs 1, 6, .inr (.inl (al w10)))), (ta, .inl (cs 1, 6, .inr (.inl (al aw))))]) hF.1 (k := 0) rfl) rfl, B.pre _⟩ rfl rfl hl.1 rfl (lv_room (Nat.le_of_ble_eq_true rfl)) d_Mo_squareFree_90 ⟨by rw [hRc]; omega, by rw [hRs]; omega⟩) (fun g90 H locs hw B => ?_)
              obtain ⟨z10, x8, hz10, rfl⟩ := hw
              have B := B.of_eq (mw_put2 (X := [(y, .inr (7, [.int (iI th), .ref m1, .ref m2, .ref m3, .int (iI pn), .ref m5, .ref m6, .ref m7, .ref m8, .ref m9, .ref m10, .ref m11, .ref m12, .ref m13, .int (iI rw_), .ref m15, .long (lI fu), .long (lI fb)])), (m1, .inl (cs 0, 11520, .inl (ai lm48))), (m2, .inl (cs 0, 180, .inl (ai mn48))), (m3, .inl (cs 0, 180, .inl (ai sn48))), (m8, .inl (cs 1, 6, .inr (.inl (al p8)))), (m9, .inl (cs 1, 6, .inr (.inl (al G5)))), (m10, .inl (cs 1, 6, .inr (.inl (al w10)))), (ta, .inl (cs 1, 6, .inr (.inl (al aw))))]) hF.1 (k1 := 4) (k2 := 6) rfl rfl)
              have B : Wb D vwCl (TY cs) L (mw f [(y, .inr (7, [.int (iI th), .ref m1, .ref m2, .ref m3, .int (iI pn), .ref m5, .ref m6, .ref m7, .ref m8, .ref m9, .ref m10, .ref m11, .ref m12, .ref m13, .int (iI rw_), .ref m15, .long (lI fu), .long (lI fb)])), (m1, .inl (cs 0, 11520, .inl (ai lm48))), (m2, .inl (cs 0, 180, .inl (ai mn48))), (m3, .inl (cs 0, 180, .inl (ai sn48))), (m8, .inl (cs 1, 6, .inr (.inl (al x8)))), (m9, .inl (cs 1, 6, .inr (.inl (al G5)))), (m10, .inl (cs 1, 6, .inr (.inl (al z10)))), (ta, .inl (cs 1, 6, .inr (.inl (al aw))))]) (AL L s.heap.size) s H _ := B
              refine lv_aload_n hx hb d_Mo_squareFree_93 rfl (lv_at hl 1 rfl) ?_
              refine x_get (C := RX7) (T := TX7) (N := 18) hx hb hts inX7 hown B hF 0 rfl rfl 10 (by decide) (hts _ w_687) (fun _ h9 => h9) rfl d_Mo_squareFree_94 ?_
              refine x_callv B hA (va_runS (As := [.ref m10]) (rest := []) ⟨hx, hb, hml, hown, hts⟩ (c_Mo_primitive l D cs _ _ _ m10 z10 (hF.pick [6] rfl rfl) (mw_get (X := [(y, .inr (7, [.int (iI th), .ref m1, .ref m2, .ref m3, .int (iI pn), .ref m5, .ref m6, .ref m7, .ref m8, .ref m9, .ref m10, .ref m11, .ref m12, .ref m13, .int (iI rw_), .ref m15, .long (lI fu), .long (lI fb)])), (m1, .inl (cs 0, 11520, .inl (ai lm48))), (m2, .inl (cs 0, 180, .inl (ai mn48))), (m3, .inl (cs 0, 180, .inl (ai sn48))), (m8, .inl (cs 1, 6, .inr (.inl (al x8)))), (m9, .inl (cs 1, 6, .inr (.inl (al G5)))), (m10, .inl (cs 1, 6, .inr (.inl (al z10)))), (ta, .inl (cs 1, 6, .inr (.inl (al aw))))]) hF.1 (k := 6) rfl) (fun j hj => by rw [hz10 j hj]; have h9 := q5 j hj; omega)) (va_cwS 1 hts (gw_S w_856 w_857 w_8 w_858) rfl rfl rfl (by decide +kernel) ⟨by rw [hRf]; exact Nat.le_of_ble_eq_true rfl, by rw [hRl]; exact Nat.le_of_ble_eq_true rfl⟩) ⟨K0.blind, B.pre _⟩ rfl rfl hl.1 rfl (lv_room (Nat.le_of_ble_eq_true rfl)) d_Mo_squareFree_97 ⟨by rw [hRc]; omega, by rw [hRs]; omega⟩) (fun g97 H locs hw B => ?_)
              obtain ⟨F9, hF9, rfl⟩ := hw
              have B := B.of_eq (mw_put (X := [(y, .inr (7, [.int (iI th), .ref m1, .ref m2, .ref m3, .int (iI pn), .ref m5, .ref m6, .ref m7, .ref m8, .ref m9, .ref m10, .ref m11, .ref m12, .ref m13, .int (iI rw_), .ref m15, .long (lI fu), .long (lI fb)])), (m1, .inl (cs 0, 11520, .inl (ai lm48))), (m2, .inl (cs 0, 180, .inl (ai mn48))), (m3, .inl (cs 0, 180, .inl (ai sn48))), (m8, .inl (cs 1, 6, .inr (.inl (al x8)))), (m9, .inl (cs 1, 6, .inr (.inl (al G5)))), (m10, .inl (cs 1, 6, .inr (.inl (al z10)))), (ta, .inl (cs 1, 6, .inr (.inl (al aw))))]) hF.1 (k := 6) rfl)
              have B : Wb D vwCl (TY cs) L (mw f [(y, .inr (7, [.int (iI th), .ref m1, .ref m2, .ref m3, .int (iI pn), .ref m5, .ref m6, .ref m7, .ref m8, .ref m9, .ref m10, .ref m11, .ref m12, .ref m13, .int (iI rw_), .ref m15, .long (lI fu), .long (lI fb)])), (m1, .inl (cs 0, 11520, .inl (ai lm48))), (m2, .inl (cs 0, 180, .inl (ai mn48))), (m3, .inl (cs 0, 180, .inl (ai sn48))), (m8, .inl (cs 1, 6, .inr (.inl (al x8)))), (m9, .inl (cs 1, 6, .inr (.inl (al G5)))), (m10, .inl (cs 1, 6, .inr (.inl (al F9)))), (ta, .inl (cs 1, 6, .inr (.inl (al aw))))]) (AL L s.heap.size) s H _ := B
              subst hQ hav
              exact x_vret hx hb hr hlocks B d_Mo_squareFree_100 (⟨_, _, _, Z5, _, _, F9, G5, p8, C0, hR5, hG6, hpa, q8, hF9.congr (fun j hj => (hz10 j hj).symm), h5o, Eq.trans (mw_drop (f := f) (X := [(m1, .inl (cs 0, 11520, .inl (ai lm48))), (m2, .inl (cs 0, 180, .inl (ai mn48))), (m3, .inl (cs 0, 180, .inl (ai sn48))), (m8, .inl (cs 1, 6, .inr (.inl (al x8)))), (m9, .inl (cs 1, 6, .inr (.inl (al G5)))), (m10, .inl (cs 1, 6, .inr (.inl (al F9)))), (ta, .inl (cs 1, 6, .inr (.inl (al aw))))]) ha (List.nodup_cons.mp hF.1).1) (mw_tail (X := [(m1, .inl (cs 0, 11520, .inl (ai lm48))), (m2, .inl (cs 0, 180, .inl (ai mn48))), (m3, .inl (cs 0, 180, .inl (ai sn48))), (m8, .inl (cs 1, 6, .inr (.inl (al x8)))), (m9, .inl (cs 1, 6, .inr (.inl (al G5)))), (m10, .inl (cs 1, 6, .inr (.inl (al F9))))]) (Y := [(ta, .inl (cs 1, 6, .inr (.inl (al aw))))]) (fun p hp => hfx p (List.mem_cons_of_mem _ (List.mem_cons_of_mem _ (List.mem_cons_of_mem _ (List.mem_cons_of_mem _ (List.mem_cons_of_mem _ (List.mem_cons_of_mem _ (List.mem_cons_of_mem _ (hp))))))))))⟩)
            · refine lv_aload_n hx hb d_Mo_squareFree_59 rfl (lv_at hl 1 rfl) ?_
              refine x_get (C := RX7) (T := TX7) (N := 18) hx hb hts inX7 hown B hF 0 rfl rfl 8 (by decide) (hts _ w_685) (fun _ h9 => h9) rfl d_Mo_squareFree_60 ?_
              refine lv_iload_n hx hb d_Mo_squareFree_63 rfl (lv_at hl 0 rfl) ?_
              refine lv_aload_n hx hb d_Mo_squareFree_64 rfl (lv_at hl 2 rfl) ?_
              refine lv_iload_n hx hb d_Mo_squareFree_65 rfl (lv_at hl 0 rfl) ?_
              refine x_lald hx hb B hF 7 1 rfl rfl i (by omega) (by omega) (by decide) d_Mo_squareFree_66 ?_
              refine x_last hx hb B hF 4 1 rfl rfl i (by omega) (by omega) (by decide) d_Mo_squareFree_67 (fun H locs B => ?_)
              have B : Wb D vwCl (TY cs) L (mw f [(y, .inr (7, [.int (iI th), .ref m1, .ref m2, .ref m3, .int (iI pn), .ref m5, .ref m6, .ref m7, .ref m8, .ref m9, .ref m10, .ref m11, .ref m12, .ref m13, .int (iI rw_), .ref m15, .long (lI fu), .long (lI fb)])), (m1, .inl (cs 0, 11520, .inl (ai lm48))), (m2, .inl (cs 0, 180, .inl (ai mn48))), (m3, .inl (cs 0, 180, .inl (ai sn48))), (m8, .inl (cs 1, 6, .inr (.inl (al (up y8 i (aw i)))))), (m9, .inl (cs 1, 6, .inr (.inl (al G5)))), (m10, .inl (cs 1, 6, .inr (.inl (al w10)))), (ta, .inl (cs 1, 6, .inr (.inl (al aw))))]) (AL L s.heap.size) s H _ := B
              refine x_iinc (lv' := [(2, .int (iI (((i : Int)) + 1))), (0, .ref y), (1, .ref ta)]) hx hb d_Mo_squareFree_68 hl (q := 0) rfl rfl (by decide) rfl (fun ls hl => ?_)
              refine lv_goto (tgt := 53) hx hb d_Mo_squareFree_71 (by decide) ?_
              exact ih_L2 (i + 1) (up y8 i (aw i)) (by omega) (by omega) (fun j hj => by
          by_cases hji : j = i
          · rw [hji, up_self]
          · rw [up_ne _ _ hji]; exact hJ j (by omega)) _ _ _ B (lv_sub hl [0, 1, 2] rfl)
        exact L2 _ 0 d8 (Nat.lt_succ_self _) (by omega) (fun j hj => by omega) _ _ _ B (lv_sub hl [0, 1, 2] rfl)
      · refine lv_aload_n hx hb d_Mo_squareFree_8 rfl (lv_at hl 1 rfl) ?_
        refine x_get (C := RX7) (T := TX7) (N := 18) hx hb hts inX7 hown B hF 0 rfl rfl 9 (by decide) (hts _ w_686) (fun _ h9 => h9) rfl d_Mo_squareFree_9 ?_
        refine lv_iload_n hx hb d_Mo_squareFree_12 rfl (lv_at hl 0 rfl) ?_
        refine lv_aload_n hx hb d_Mo_squareFree_13 rfl (lv_at hl 2 rfl) ?_
        refine lv_iload_n hx hb d_Mo_squareFree_14 rfl (lv_at hl 0 rfl) ?_
        refine x_lald hx hb B hF 7 1 rfl rfl k (by omega) (by omega) (by decide) d_Mo_squareFree_15 ?_
        refine x_last hx hb B hF 5 1 rfl rfl k (by omega) (by omega) (by decide) d_Mo_squareFree_16 (fun H locs B => ?_)
        have B : Wb D vwCl (TY cs) L (mw f [(y, .inr (7, [.int (iI th), .ref m1, .ref m2, .ref m3, .int (iI pn), .ref m5, .ref m6, .ref m7, .ref m8, .ref m9, .ref m10, .ref m11, .ref m12, .ref m13, .int (iI rw_), .ref m15, .long (lI fu), .long (lI fb)])), (m1, .inl (cs 0, 11520, .inl (ai lm))), (m2, .inl (cs 0, 180, .inl (ai mn))), (m3, .inl (cs 0, 180, .inl (ai sn))), (m8, .inl (cs 1, 6, .inr (.inl (al z8)))), (m9, .inl (cs 1, 6, .inr (.inl (al (up z9 k (aw k)))))), (m10, .inl (cs 1, 6, .inr (.inl (al w10)))), (ta, .inl (cs 1, 6, .inr (.inl (al aw))))]) (AL L s.heap.size) s H _ := B
        refine lv_aload_n hx hb d_Mo_squareFree_17 rfl (lv_at hl 1 rfl) ?_
        refine x_get (C := RX7) (T := TX7) (N := 18) hx hb hts inX7 hown B hF 0 rfl rfl 8 (by decide) (hts _ w_685) (fun _ h9 => h9) rfl d_Mo_squareFree_18 ?_
        refine lv_iload_n hx hb d_Mo_squareFree_21 rfl (lv_at hl 0 rfl) ?_
        refine lv_aload_n hx hb d_Mo_squareFree_22 rfl (lv_at hl 2 rfl) ?_
        refine lv_iload_n hx hb d_Mo_squareFree_23 rfl (lv_at hl 0 rfl) ?_
        refine x_lald hx hb B hF 7 1 rfl rfl k (by omega) (by omega) (by decide) d_Mo_squareFree_24 ?_
        refine x_last hx hb B hF 4 1 rfl rfl k (by omega) (by omega) (by decide) d_Mo_squareFree_25 (fun H locs B => ?_)
        have B : Wb D vwCl (TY cs) L (mw f [(y, .inr (7, [.int (iI th), .ref m1, .ref m2, .ref m3, .int (iI pn), .ref m5, .ref m6, .ref m7, .ref m8, .ref m9, .ref m10, .ref m11, .ref m12, .ref m13, .int (iI rw_), .ref m15, .long (lI fu), .long (lI fb)])), (m1, .inl (cs 0, 11520, .inl (ai lm))), (m2, .inl (cs 0, 180, .inl (ai mn))), (m3, .inl (cs 0, 180, .inl (ai sn))), (m8, .inl (cs 1, 6, .inr (.inl (al (up z8 k (aw k)))))), (m9, .inl (cs 1, 6, .inr (.inl (al (up z9 k (aw k)))))), (m10, .inl (cs 1, 6, .inr (.inl (al w10)))), (ta, .inl (cs 1, 6, .inr (.inl (al aw))))]) (AL L s.heap.size) s H _ := B
        refine x_iinc (lv' := [(2, .int (iI (((k : Int)) + 1))), (0, .ref y), (1, .ref ta)]) hx hb d_Mo_squareFree_26 hl (q := 0) rfl rfl (by decide) rfl (fun ls hl => ?_)
        refine lv_goto (tgt := 2) hx hb d_Mo_squareFree_29 (by decide) ?_
        exact ih_L1 (k + 1) (up z8 k (aw k)) (up z9 k (aw k)) (by omega) (by omega) (fun j hj => by
          by_cases hjk : j = k
          · rw [hjk, up_self]
          · rw [up_ne _ _ hjk]; exact hI8 j (by omega)) (fun j hj => by
          by_cases hjk : j = k
          · rw [hjk, up_self]
          · rw [up_ne _ _ hjk]; exact hI9 j (by omega)) _ _ _ B (lv_sub hl [0, 1, 2] rfl)
  exact L1 _ 0 w8 w9 (Nat.lt_succ_self _) (by omega) (fun j hj => by omega) (fun j hj => by omega) _ _ _ B (lv_sub hl [0, 1, 2] rfl)
