/-! the Bigs of a chain: 42 terms, and two to work with -/
def CI (Ck : Nat → Prop) (tm : Nat → Nat) (cl cr : Nat) : Prop := (∀ t, t < 42 → Ck (tm t) ∧ tm t ≠ cl ∧ tm t ≠ cr) ∧ (∀ t u, t < 42 → u < 42 → tm t = tm u → t = u) ∧ Ck cl ∧ Ck cr ∧ cl ≠ cr
theorem CI.swap {Ck : Nat → Prop} {tm : Nat → Nat} {cl cr t : Nat} (h : CI Ck tm cl cr) (ht : t < 42) : CI Ck (va_up tm t cl) (tm t) cr := by
  obtain ⟨h1, h2, h3, h4, h5⟩ := h
  refine ⟨fun u hu => ?_, fun u v hu hv e => ?_, (h1 t ht).1, h4, (h1 t ht).2.2⟩
  · by_cases hut : u = t
    · rw [hut, va_up_self]; exact ⟨h3, (Ne.symm (h1 t ht).2.1), h5⟩
    · rw [va_up_ne _ _ hut]; exact ⟨(h1 u hu).1, fun e => hut (h2 u t hu ht e), (h1 u hu).2.2⟩
  · by_cases hut : u = t
    · by_cases hvt : v = t
      · rw [hut, hvt]
      · rw [hut, va_up_self, va_up_ne _ _ hvt] at e; exact absurd e.symm (h1 v hv).2.1
    · by_cases hvt : v = t
      · rw [hvt, va_up_self, va_up_ne _ _ hut] at e; exact absurd e (h1 u hu).2.1
      · rw [va_up_ne _ _ hut, va_up_ne _ _ hvt] at e; exact h2 u v hu hv e
theorem gg_swap {gg : Nat → Option Nat} {tm : Nat → Nat} {j c : Nat} (h : ∀ t, t < 42 → gg t = some (tm t)) : ∀ t, t < 42 → va_up gg j (some c) t = some (va_up tm j c t) := fun t ht => by
  by_cases htj : t = j
  · rw [htj, va_up_self, va_up_self]
  · rw [va_up_ne _ _ htj, va_up_ne _ _ htj]; exact h t ht
theorem BV.sgm {sd n : Int} {g : Nat → Int} {z s : Int} (h : BV sd n g z) (hs : s = 1 ∨ s = -1) : BV (sd * s) n g (z * s) := by
  obtain ⟨h1, h2, h3, h4, h5, h6⟩ := h
  refine ⟨h1, h2, h3, h4, ?_, ?_⟩
  · rw [h5, Int.sign_mul]; rcases hs with rfl | rfl <;> rfl
  · rw [h6, Int.natAbs_mul]; rcases hs with rfl | rfl <;> simp
theorem BV.ngs {sd n : Int} {g : Nat → Int} {z : Int} (h : BV sd n g z) : BV (-sd) n g (-z) := by
  obtain ⟨h1, h2, h3, h4, h5, h6⟩ := h
  exact ⟨h1, h2, h3, h4, by rw [h5, Int.sign_neg], by rw [h6, Int.natAbs_neg]⟩
theorem BH.side {cs : Nat → ClassId} {L : List Nat} {f : Nat → va_E} {S : Nat → Prop} {Q : Nat → Nat} {Zf : Nat → Int} (hS : Sp L S Q) (h : BH cs f S Q Zf) {a : Nat} (ha : S a) {sd : Int} {n : Nat} {lm : Nat → Int} {z : Int} (h2 : f (Q a) = .inl (cs 0, 48, .inl (ai lm))) (hz : BV sd (n : Int) lm z) : BH cs (mw f [(a, .inr (0, [.int (iI sd), .int (iI (n : Int)), .ref (Q a)]))]) S Q (up Zf a z) := fun b hb => by
  by_cases hba : b = a
  · subst hba
    refine ⟨sd, n, lm, mw_get (X := [(b, .inr (0, [.int (iI sd), .int (iI (n : Int)), .ref (Q b)]))]) (k := 0) (by simp) rfl, ?_, by rw [up_self]; exact hz⟩
    rw [mw_out (by simp only [List.map_cons, List.map_nil, List.mem_cons, List.not_mem_nil, or_false]; exact fun e => hS.2.1 b b hb hb e.symm)]; exact h2
  · obtain ⟨sd, n, lm, h1, h2, h3⟩ := h b hb
    refine ⟨sd, n, lm, ?_, ?_, by rw [up_ne _ _ hba]; exact h3⟩
    · rw [mw_out (by simp only [List.map_cons, List.map_nil, List.mem_cons, List.not_mem_nil, or_false]; exact hba)]; exact h1
    · rw [mw_out (by simp only [List.map_cons, List.map_nil, List.mem_cons, List.not_mem_nil, or_false]; exact fun e => hS.2.1 a b ha hb e.symm)]; exact h2
theorem Out.one {S : Nat → Prop} {Q : Nat → Nat} {a k : Nat} {e1 : va_E} (h : Out S Q k) (ha : S a) : k ∉ [(a, e1)].map Prod.fst := by
  simp only [List.map_cons, List.map_nil, List.mem_cons, List.not_mem_nil, or_false]
  exact fun e => h.1 (e ▸ ha)
theorem Fc.front {L : List Nat} {S : Nat → Prop} {Q : Nat → Nat} {ks : List Nat} {a : Nat} (hF : Fc L ks) (hSp : Sp L S Q) (hOk : ∀ k ∈ ks, Out S Q k) (ha : S a) : Fc L (a :: ks) := ⟨List.nodup_cons.mpr ⟨fun hm => (hOk a hm).1 ha, hF.1⟩, fun q hq => by
  rcases List.mem_cons.mp hq with h | hq
  · rw [h]; exact (hSp.1 _ ha).1
  · exact hF.2 q hq⟩
/-- no coefficient needs more than i bits -/
def RowB (P : Nat → Int) (i : Nat) : Prop := ∀ j, j < 6 → ((P j).natAbs : Int) < 2 ^ i
theorem RowB.up {P : Nat → Int} {i i' : Nat} (h : RowB P i) (hi : i ≤ i') : RowB P i' := fun j hj => Int.lt_of_lt_of_le (h j hj) (pow2_le hi)
theorem RowB.congr {P P' : Nat → Int} {i : Nat} (h : RowB P i) (hh : ∀ j, j < 6 → P' j = P j) : RowB P' i := fun j hj => by rw [hh j hj]; exact h j hj
theorem sgn_abs (z : Int) : z * z.sign = (z.natAbs : Int) := by
  rcases Int.lt_trichotomy z 0 with h | h | h
  · rw [Int.sign_eq_neg_one_of_neg h]; omega
  · rw [h]; rfl
  · rw [Int.sign_eq_one_of_pos h]; omega
theorem div_step {P0 P q P' : Nat → Int} {tp d i be : Nat} (hR : Rem P0 q P) (htp : tp < 6) (hd : d ≤ tp) (hP : ∀ j, tp < j → j < 6 → P j = 0) (hq : ∀ j, d < j → j < 6 → q j = 0) (hq0 : q d ≠ 0) (hPb : RowB P i) (hqb : RowB q be) (h1 : ∀ j, j < 6 → P' j = if j = tp then 0 else if P tp = 0 then P j else if j < tp then nwc P q tp d (q d).sign ((q d).natAbs : Int) j else P j) : Rem P0 q P' ∧ (∀ j, tp ≤ j → j < 6 → P' j = 0) ∧ RowB P' (i + (be + 1)) := by
  by_cases h0 : P tp = 0
  · have e : ∀ j, j < 6 → P' j = P j := fun j hj => by
      rw [h1 j hj]
      by_cases hj2 : j = tp
      · rw [if_pos hj2, hj2, h0]
      · rw [if_neg hj2, if_pos h0]
    refine ⟨?_, fun j h2 h3 => ?_, (hPb.up (by omega)).congr e⟩
    · obtain ⟨la, Q, hla, h⟩ := hR
      exact ⟨la, Q, hla, fun x => by rw [es_congr e x]; exact h x⟩
    · rw [e j h3]
      by_cases hj2 : j = tp
      · rw [hj2, h0]
      · exact hP j (by omega) h3
  · obtain ⟨hz, hx⟩ := rem_step (P := P) (q := q) (nw := fun j => if j ≤ tp then nwc P q tp d (q d).sign ((q d).natAbs : Int) j else P j) htp hd hP hq rfl rfl (fun j hj => by show (if j ≤ tp then _ else _) = _; rw [if_pos hj]; rfl) (fun j h2 _ => by show (if j ≤ tp then _ else _) = _; rw [if_neg (by omega)])
    have e : ∀ j, j < 6 → P' j = if j ≤ tp then nwc P q tp d (q d).sign ((q d).natAbs : Int) j else P j := fun j hj => by
      rw [h1 j hj]
      by_cases hj2 : j = tp
      · rw [if_pos hj2, hj2]; exact hz.symm
      · rw [if_neg hj2, if_neg h0]
        by_cases h3 : j < tp
        · rw [if_pos h3, if_pos (by omega)]
        · rw [if_neg h3, if_neg (by omega)]
    refine ⟨hR.step (c := 1) (L := ((q d).natAbs : Int)) (by omega) (by decide) (fun x => by rw [hx x]) (fun j hj => by rw [Int.one_mul]; exact (e j hj).symm), fun j h2 h3 => ?_, fun j hj => ?_⟩
    · rw [e j h3]
      by_cases hj2 : j = tp
      · rw [hj2]; exact hz
      · rw [if_neg (by omega)]; exact hP j (by omega) h3
    · rw [e j hj]
      split
      · rename_i h3
        exact nwc_bd (sign_cases _) hPb hqb (hqb d (by omega)) h3 htp
      · exact (hPb.up (by omega)) j hj
/-- the highest place of the first k that is not 0 -/
def TopT (P : Nat → Int) (k : Nat) (T : Int) : Prop := (T = -1 ∧ ∀ j, j < k → P j = 0) ∨ ∃ t : Nat, t < k ∧ T = (t : Int) ∧ P t ≠ 0 ∧ ∀ j, t < j → j < k → P j = 0
theorem TopT.zero (P : Nat → Int) : TopT P 0 (-1) := Or.inl ⟨rfl, fun j hj => by omega⟩
theorem TopT.next {P : Nat → Int} {k : Nat} {T : Int} (h : TopT P k T) (hk : P k = 0) : TopT P (k + 1) T := by
  rcases h with ⟨h1, h2⟩ | ⟨t, h1, h2, h3, h4⟩
  · exact Or.inl ⟨h1, fun j hj => by
      by_cases h : j = k
      · rw [h, hk]
      · exact h2 j (by omega)⟩
  · exact Or.inr ⟨t, by omega, h2, h3, fun j h5 h6 => by
      by_cases h : j = k
      · rw [h, hk]
      · exact h4 j h5 (by omega)⟩
theorem TopT.new {P : Nat → Int} {k : Nat} (hk : P k ≠ 0) : TopT P (k + 1) (k : Int) := Or.inr ⟨k, by omega, rfl, hk, fun j h1 h2 => by omega⟩
theorem pw_Bp {i : Nat} (h : i ≤ 1457) {z : Int} (hz : z < 2 ^ i) : z < Bp 47 := by
  have h2 := pow2_le h
  rw [Bp_pow]
  exact Int.lt_of_lt_of_le hz h2
theorem pw_Bp8 {z : Int} (hz : z < Bp 47) : z < Bp 48 := Int.lt_of_lt_of_le hz (Bp_le (by omega))
/-- products within one step have room -/
theorem dvs_room {P q : Nat → Int} {i be : Nat} (hP : RowB P i) (hq : RowB q be) (h : i + (be + 1) ≤ 1457) {a b c d : Nat} (ha : a < 6) (hb : b < 6) (hc : c < 6) (hd : d < 6) : ((q a * P b).natAbs : Int) < Bp 47 ∧ ((P c * q d).natAbs : Int) < Bp 47 ∧ ((q a * P b).natAbs : Int) + ((P c * q d).natAbs : Int) < Bp 48 := by
  have k := pow2_bd (hP b hb) (hq a ha) (hq d hd) (hP c hc) (s := 0) (Or.inr (Or.inr rfl))
  rw [Int.mul_comm (q a), Int.mul_comm (P c)]
  have e : (2 : Int) ^ (i + (be + 1)) = 2 * 2 ^ (i + be) := by rw [← Nat.add_assoc, Int.pow_succ]; omega
  exact ⟨pw_Bp (by omega) k.2.2.1, pw_Bp (by omega) k.2.2.2, pw_Bp8 (pw_Bp h (by rw [e]; have h1 := k.2.2.1; have h2 := k.2.2.2; generalize (2 : Int) ^ (i + be) = M at *; omega))⟩
theorem nwc_of {P q : Nat → Int} {tp d k : Nat} (hk : tp ≤ k + d) (hd : d ≤ tp) : (q d * P k + -1 * (P tp * q (k + d - tp))) * (q d).sign = nwc P q tp d (q d).sign ((q d).natAbs : Int) k := by
  unfold nwc
  rw [if_pos (by omega), ← sgn_abs, show k - (tp - d) = k + d - tp by omega]
  grind
theorem nwc_of2 {P q : Nat → Int} {tp d k : Nat} (hk : ¬ tp ≤ k + d) : q d * P k * (q d).sign = nwc P q tp d (q d).sign ((q d).natAbs : Int) k := by
  unfold nwc
  rw [if_neg (by omega), ← sgn_abs]
  grind
section XB
variable {p : Program} {l : Launch} {e : Env} {R : Room} {s : State} {m : MethodId} {args : Array Value} {below : List Frame} {meth : Method} {c : Code} {H : Heap} {locs : List Loc} {cells slots : Nat} {Q : State → Prop}
variable {cc : ByteArray} {pc : Nat} {ls : Array Slot} {rest : List Value}
/-- the side of a Big of the family -/
theorem x_bget {D : va_G} {cs : Nat → ClassId} {L : List Nat} {f : Nat → va_E} {X : List (Nat × va_E)} {A : Nat → Prop} {S : Nat → Prop} {Qm : Nat → Nat} {Zf : Nat → Int} {a : Nat} {own : String} {index : Nat} {Ts : List Cond} (hx : p.tables.exec = Jvm.exec) (hb : c.code = cc) (hts : ∀ w ∈ Ts, w.before args s = true) (hin : ∀ w ∈ u_ws RX0 TX0 3, w ∈ Ts) (hown : s.vm.findClass own = some m.cls) (B : Wb D vwCl (TY cs) L (mw f X) A s H locs) (hF : Fc L (X.map Prod.fst)) (hSp : Sp L S Qm) (hB : BH cs f S Qm Zf) (hOk : ∀ k ∈ X.map Prod.fst, Out S Qm k) (ha : S a) (hlink : (Cond.fieldLink own index (TX0 0).1 (TX0 0).2.1 (TX0 0).2.2.1).before args s = true) (hd : decode cc pc = .ok (.getfield index, 3))
    (kk : W p l e R s m args below meth c H locs cells slots Q (F0 m (pc + 3) ls (.int (iI (Zf a).sign) :: rest))) : W p l e R s m args below meth c H locs cells slots Q (F0 m pc ls (.ref a :: rest)) := by
  obtain ⟨sd, n, lm, d1, d2, d3⟩ := hB.keep hOk a ha
  obtain rfl := d3.2.2.2.2.1
  have B2 := (B.focus [(a, .inr (0, [.int (iI (Zf a).sign), .int (iI (n : Int)), .ref (Qm a)]))] (fun p hp => by rw [List.mem_singleton.mp hp]; exact d1)).of_eq (mw_app _ _ _)
  exact x_get (C := RX0) (T := TX0) (N := 3) hx hb hts hin hown B2 (Fc.front hF hSp hOk ha) 0 rfl rfl 0 (by decide) hlink (fun _ h9 => h9) rfl hd kk
/-- another side for a Big of the family -/
theorem x_bput {D : va_G} {cs : Nat → ClassId} {L : List Nat} {f : Nat → va_E} {X : List (Nat × va_E)} {A : Nat → Prop} {S : Nat → Prop} {Qm : Nat → Nat} {Zf : Nat → Int} {a : Nat} {own : String} {index : Nat} {Ts : List Cond} {v : Int} (z : Int) (hx : p.tables.exec = Jvm.exec) (hb : c.code = cc) (hts : ∀ w ∈ Ts, w.before args s = true) (hin : ∀ w ∈ u_ws RX0 TX0 3, w ∈ Ts) (hown : s.vm.findClass own = some m.cls) (B : Wb D vwCl (TY cs) L (mw f X) A s H locs) (hF : Fc L (X.map Prod.fst)) (hSp : Sp L S Qm) (hB : BH cs f S Qm Zf) (hOk : ∀ k ∈ X.map Prod.fst, Out S Qm k) (ha : S a) (hz : ∀ (n : Nat) (lm : Nat → Int), BV (Zf a).sign (n : Int) lm (Zf a) → BV v (n : Int) lm z) (hlink : (Cond.fieldLink own index (TX0 0).1 (TX0 0).2.1 (TX0 0).2.2.1).before args s = true) (hd : decode cc pc = .ok (.putfield index, 3))
    (kk : ∀ (f2 : Nat → va_E) (H : Heap) (locs : List Loc), BH cs f2 S Qm (up Zf a z) → (∀ k, Out S Qm k → k ∉ X.map Prod.fst → f2 k = f k) → Wb D vwCl (TY cs) L (mw f2 X) A s H locs → W p l e R s m args below meth c H locs cells slots Q (F0 m (pc + 3) ls rest)) : W p l e R s m args below meth c H locs cells slots Q (F0 m pc ls (.int (iI v) :: .ref a :: rest)) := by
  have hB2 := hB.keep hOk
  obtain ⟨sd, n, lm, d1, d2, d3⟩ := hB2 a ha
  obtain rfl := d3.2.2.2.2.1
  have B2 := (B.focus [(a, .inr (0, [.int (iI (Zf a).sign), .int (iI (n : Int)), .ref (Qm a)]))] (fun p hp => by rw [List.mem_singleton.mp hp]; exact d1)).of_eq (mw_app _ _ _)
  refine x_put (C := RX0) (T := TX0) (N := 3) hx hb hts hin tyX0 tyX0_ok nmX0 hown B2 (Fc.front hF hSp hOk ha) 0 rfl rfl 0 (by decide) hlink (fun _ h9 => h9) rfl (tyX0_ok 0 (by decide)) rfl rfl (Nat.le_of_ble_eq_true rfl) hd (fun H locs B => ?_)
  have B : Wb D vwCl (TY cs) L (mw f ([(a, .inr (0, [.int (iI v), .int (iI (n : Int)), .ref (Qm a)]))] ++ X)) A s H locs := B
  rw [← mw_app] at B
  refine kk (mw (mw f X) [(a, .inr (0, [.int (iI v), .int (iI (n : Int)), .ref (Qm a)]))]) H locs (BH.side hSp hB2 ha d2 (hz n lm d3)) (fun k h1 h2 => ?_) (B.focus X (foc hF.1 (fun k hk => (hOk k hk).one ha)))
  rw [mw_out (h1.one ha), mw_out h2]
end XB
