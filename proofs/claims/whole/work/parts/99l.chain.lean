/-! rows of remainders of two -/
def Spr2 (a b : Nat → Int) (r : Nat → Nat → Int) (n : Nat) : Prop := 2 ≤ n ∧ (∀ j, j < 6 → r 0 j = a j) ∧ (∀ j, j < 6 → r 1 j = b j) ∧ (∀ k, k < n → Nz (r k)) ∧ ∀ k, k + 2 < n → NR (r k) (r (k + 1)) (r (k + 2))
def SeqC (a b : Nat → Int) (r : Nat → Nat → Int) (n : Nat) : Prop := (n = 1 ∧ (∀ j, j < 6 → r 0 j = a j) ∧ ∀ j, j < 6 → b j = 0) ∨ (Spr2 a b r n ∧ Dv (il (r (n - 1)) 6) (il (r (n - 2)) 6))
def TopsC (t : Nat → Int) (r : Nat → Nat → Int) (n : Nat) : Prop := ∀ k, k < n → ∃ d : Nat, d < 6 ∧ t k = (d : Int) ∧ r k d ≠ 0 ∧ ∀ j, d < j → j < 6 → r k j = 0
def BtC (r : Nat → Nat → Int) (n : Nat) : Prop := ∀ k, k < n → ∃ d a0, d ≤ 5 ∧ (∀ j, d < j → j < 6 → r k j = 0) ∧ RowB (r k) a0 ∧ a0 + d * 261 ≤ 1430
/-- bits of the remainders that can still come, with room for signs -/
def wCs : Nat → Nat → Nat → Nat → Nat → Bool
  | 0, _, _, _, _ => false
  | n + 1, e, d, al, be => decide (d = 0) || (decide (rE al be e d ≤ 1457 ∧ rE al be e d + (d - 1) * 261 ≤ 1430) && (List.range d).all (fun d2 => wCs n d d2 be (rE al be e d)))
theorem wCs_use {n e d al be : Nat} (h : wCs n e d al be = true) (hd : 1 ≤ d) : ∃ m, n = m + 1 ∧ (rE al be e d ≤ 1457 ∧ rE al be e d + (d - 1) * 261 ≤ 1430) ∧ ∀ d2, d2 < d → wCs m d d2 be (rE al be e d) = true := by
  cases n with
  | zero => simp [wCs] at h
  | succ n =>
    rw [wCs, Bool.or_eq_true] at h
    rcases h with h | h
    · have := of_decide_eq_true h
      omega
    rw [Bool.and_eq_true] at h
    exact ⟨n, rfl, of_decide_eq_true h.1, fun d2 hd => (List.all_eq_true.mp h.2) d2 (List.mem_range.mpr hd)⟩
theorem wCs_18 : ∀ e, e < 6 → ∀ d, d ≤ e → wCs 7 e d 18 18 = true := by decide +kernel
def ChI (a b : Nat → Int) (t : Nat → Int) (r : Nat → Nat → Int) (n kb : Nat) : Prop := Spr2 a b r n ∧ TopsC t r n ∧ BtC r n ∧ ∃ e d al be m : Nat, t (n - 2) = (e : Int) ∧ t (n - 1) = (d : Int) ∧ d ≤ e ∧ e < 6 ∧ d + n ≤ kb + 1 ∧ (r (n - 1) d ≠ 0 ∧ ∀ j, d < j → j < 6 → r (n - 1) j = 0) ∧ (∀ j, e < j → j < 6 → r (n - 2) j = 0) ∧ RowB (r (n - 2)) al ∧ RowB (r (n - 1)) be ∧ wCs m e d al be = true
theorem Spr2.congr {a b : Nat → Int} {r r' : Nat → Nat → Int} {n : Nat} (h : Spr2 a b r n) (hh : ∀ k, k < n → ∀ j, j < 6 → r' k j = r k j) : Spr2 a b r' n := by
  obtain ⟨h1, h2, h3, h4, h5⟩ := h
  exact ⟨h1, fun j hj => by rw [hh 0 (by omega) j hj]; exact h2 j hj, fun j hj => by rw [hh 1 (by omega) j hj]; exact h3 j hj, fun k hk => (h4 k hk).congr (hh k hk), fun k hk => (h5 k hk).congr (hh k (by omega)) (hh _ (by omega)) (hh _ (by omega))⟩
theorem TopsC.congr {t t' : Nat → Int} {r r' : Nat → Nat → Int} {n : Nat} (h : TopsC t r n) (hh : ∀ k, k < n → ∀ j, j < 6 → r' k j = r k j) (ht : ∀ k, k < n → t' k = t k) : TopsC t' r' n := fun k hk => by
  obtain ⟨d, h1, h2, h3, h4⟩ := h k hk
  exact ⟨d, h1, by rw [ht k hk]; exact h2, by rw [hh k hk d h1]; exact h3, fun j h5 h6 => by rw [hh k hk j h6]; exact h4 j h5 h6⟩
theorem BtC.congr {r r' : Nat → Nat → Int} {n : Nat} (h : BtC r n) (hh : ∀ k, k < n → ∀ j, j < 6 → r' k j = r k j) : BtC r' n := fun k hk => by
  obtain ⟨d, a0, h1, h2, h3, h4⟩ := h k hk
  exact ⟨d, a0, h1, fun j h5 h6 => by rw [hh k hk j h6]; exact h2 j h5 h6, h3.congr (hh k hk), h4⟩
/-- the first two rows -/
theorem ChI.first {a b t : Nat → Int} {r : Nat → Nat → Int} {ka kb : Nat} (hka : 0 < ka ∧ ka ≤ 6) (hkb : 0 < kb ∧ kb ≤ ka) (haz : ∀ j, ka ≤ j → j < 6 → a j = 0) (hal : a (ka - 1) ≠ 0) (hbz : ∀ j, kb ≤ j → j < 6 → b j = 0) (hbl : b (kb - 1) ≠ 0) (hA : RowB a 18) (hB : RowB b 18) (h0 : ∀ j, j < 6 → r 0 j = a j) (h1 : ∀ j, j < 6 → r 1 j = b j) (ht0 : t 0 = ((ka - 1 : Nat) : Int)) (ht1 : t 1 = ((kb - 1 : Nat) : Int)) : ChI a b t r 2 kb := by
  have two : ∀ k, k < 2 → k = 0 ∨ k = 1 := fun k hk => by omega
  refine ⟨⟨Nat.le_refl _, h0, h1, fun k hk => ?_, fun k hk => by omega⟩, fun k hk => ?_, fun k hk => ?_, ka - 1, kb - 1, 18, 18, 7, ht0, ht1, by omega, by omega, by omega, ⟨?_, fun j h3 h4 => ?_⟩, fun j h3 h4 => ?_, hA.congr h0, hB.congr h1, wCs_18 _ (by omega) _ (by omega)⟩
  · rcases two k hk with rfl | rfl
    · exact ⟨ka - 1, by omega, by rw [h0 _ (by omega)]; exact hal⟩
    · exact ⟨kb - 1, by omega, by rw [h1 _ (by omega)]; exact hbl⟩
  · rcases two k hk with rfl | rfl
    · exact ⟨ka - 1, by omega, ht0, by rw [h0 _ (by omega)]; exact hal, fun j h3 h4 => by rw [h0 j h4]; exact haz j (by omega) h4⟩
    · exact ⟨kb - 1, by omega, ht1, by rw [h1 _ (by omega)]; exact hbl, fun j h3 h4 => by rw [h1 j h4]; exact hbz j (by omega) h4⟩
  · rcases two k hk with rfl | rfl
    · exact ⟨5, 18, Nat.le_refl _, fun j h3 h4 => by omega, hA.congr h0, by decide⟩
    · exact ⟨5, 18, Nat.le_refl _, fun j h3 h4 => by omega, hB.congr h1, by decide⟩
  · show r 1 (kb - 1) ≠ 0
    rw [h1 _ (by omega)]; exact hbl
  · show r 1 j = 0
    rw [h1 j h4]; exact hbz j (by omega) h4
  · show r 0 j = 0
    rw [h0 j h4]; exact haz j (by omega) h4
/-- one division more -/
theorem ChI.step {a b t t' R : Nat → Int} {r r' : Nat → Nat → Int} {n kb e d al be m : Nat} (hn : n ≤ 6) (h1 : Spr2 a b r n) (h2 : TopsC t r n) (h3 : BtC r n) (he : t (n - 2) = (e : Int)) (hd : t (n - 1) = (d : Int)) (hde : 1 ≤ d ∧ d ≤ e ∧ e < 6) (hdn : d + n ≤ kb + 1) (hl : r (n - 1) d ≠ 0) (hz : ∀ j, d < j → j < 6 → r (n - 1) j = 0) (hb : RowB (r (n - 1)) be) (hw : wCs m e d al be = true)
    (hh : ∀ k, k < n → ∀ j, j < 6 → r' k j = r k j) (hR : Rem (r (n - 2)) (r (n - 1)) R) (hRz : ∀ j, d ≤ j → j < 6 → R j = 0) (hRn : ∀ j, j < 6 → r' n j = -R j) (hRb : RowB (r' n) (rE al be e d)) (hT : TopT (r' n) 6 (t' n)) (ht : ∀ j, j ≠ n → t' j = t j) :
    (t' n = -1 → SeqC a b r' n ∧ TopsC t' r' n ∧ BtC r' n) ∧ (t' n ≠ -1 → ChI a b t' r' (n + 1) kb) := by
  have hn2 := h1.1
  obtain ⟨m', rfl, hw1, hw2⟩ := wCs_use hw hde.1
  have hs := h1.congr hh
  have hto := h2.congr hh (fun k hk => ht k (by omega))
  have hbt := h3.congr hh
  have e1 : n - 2 + 1 = n - 1 := by omega
  refine ⟨fun hm => ⟨Or.inr ⟨hs, ?_⟩, hto, hbt⟩, fun hm => ?_⟩
  · have hz0 : ∀ j, j < 6 → R j = 0 := fun j hj => by
      rcases hT with ⟨_, h5⟩ | ⟨t1, _, h5, _⟩
      · have h6 := h5 j hj
        rw [hRn j hj] at h6
        omega
      · omega
    rw [il_congr6 (hh (n - 1) (by omega)), il_congr6 (hh (n - 2) (by omega))]
    exact hR.dv hz0
  · rcases hT with ⟨h5, _⟩ | ⟨d2, h5, h6, h7, h8⟩
    · exact absurd h5 hm
    have hd2 : d2 < d := by
      refine Classical.byContradiction (fun h9 => h7 ?_)
      rw [hRn d2 h5, hRz d2 (by omega) h5]; rfl
    have hnr : NR (r (n - 2)) (r (n - 1)) (r' n) := hR.nr (show d < 6 by omega) hl hRz hRn
    have hnr' : NR (r' (n - 2)) (r' (n - 1)) (r' n) := hnr.congr (hh _ (by omega)) (hh _ (by omega)) (fun j _ => rfl)
    refine ⟨⟨by omega, hs.2.1, hs.2.2.1, fun k hk => ?_, fun k hk => ?_⟩, fun k hk => ?_, fun k hk => ?_, d, d2, be, rE al be e d, m', ?_, ?_, by omega, by omega, by omega, ⟨?_, ?_⟩, ?_, ?_, ?_, hw2 d2 hd2⟩
    · by_cases h9 : k = n
      · rw [h9]; exact ⟨d2, h5, h7⟩
      · exact hs.2.2.2.1 k (by omega)
    · by_cases h9 : k + 2 = n
      · rw [h9, show k + 1 = n - 1 by omega, show k = n - 2 by omega]; exact hnr'
      · exact hs.2.2.2.2 k (by omega)
    · by_cases h9 : k = n
      · rw [h9]; exact ⟨d2, h5, h6, h7, h8⟩
      · exact hto k (by omega)
    · by_cases h9 : k = n
      · rw [h9]
        refine ⟨d - 1, rE al be e d, by omega, fun j h10 h11 => ?_, hRb, hw1.2⟩
        rw [hRn j h11, hRz j (by omega) h11]; rfl
      · exact hbt k (by omega)
    · rw [show n + 1 - 2 = n - 1 by omega, ht _ (by omega)]; exact hd
    · rw [Nat.add_sub_cancel]; exact h6
    · rw [Nat.add_sub_cancel]; exact h7
    · rw [Nat.add_sub_cancel]; exact h8
    · rw [show n + 1 - 2 = n - 1 by omega]
      exact fun j h10 h11 => by rw [hh _ (by omega) j h11]; exact hz j h10 h11
    · rw [show n + 1 - 2 = n - 1 by omega]; exact hb.congr (hh _ (by omega))
    · rw [Nat.add_sub_cancel]; exact hRb
/-- a number goes into all -/
theorem unit_dv {q p : Nat → Int} (h0 : q 0 ≠ 0) (hz : ∀ j, 0 < j → j < 6 → q j = 0) : Dv (il q 6) (il p 6) := by
  refine ⟨psc (1 / (q 0 : Rat)) (il p 6), fun x => ?_⟩
  have e : ev (il q 6) x = (q 0 : Rat) := by
    rw [← es_ev, es_more (n := 1) x 6 (by omega) (fun j h1 h2 => hz j (by omega) h2)]
    simp only [es]
    grind
  have hne : (q 0 : Rat) ≠ 0 := fun h => h0 (by exact_mod_cast h)
  rw [e, ev_sc]
  grind
theorem ChI.unit {a b t : Nat → Int} {r : Nat → Nat → Int} {n kb : Nat} (h : ChI a b t r n kb) (ht : t (n - 1) ≤ 0) : SeqC a b r n := by
  obtain ⟨h1, h2, h3, e, d, al, be, m, h4, h5, h6, h7, h8, ⟨h9, h10⟩, _⟩ := h
  have hd : d = 0 := by omega
  subst hd
  exact Or.inr ⟨h1, unit_dv h9 h10⟩
theorem d_Chain_begin_0 : decode prog_3_method_2_code 0 = .ok (.aload_n 0, 1) := by decide +kernel
theorem d_Chain_begin_1 : decode prog_3_method_2_code 1 = .ok (.getfield 17, 3) := by decide +kernel
theorem d_Chain_begin_4 : decode prog_3_method_2_code 4 = .ok (.iconst 0, 1) := by decide +kernel
theorem d_Chain_begin_5 : decode prog_3_method_2_code 5 = .ok (.aload_n 1, 1) := by decide +kernel
theorem d_Chain_begin_6 : decode prog_3_method_2_code 6 = .ok (.invokestatic 39, 3) := by decide +kernel
theorem d_Chain_begin_9 : decode prog_3_method_2_code 9 = .ok (.iastore, 1) := by decide +kernel
theorem d_Chain_begin_10 : decode prog_3_method_2_code 10 = .ok (.aload_n 0, 1) := by decide +kernel
theorem d_Chain_begin_11 : decode prog_3_method_2_code 11 = .ok (.getfield 17, 3) := by decide +kernel
theorem d_Chain_begin_14 : decode prog_3_method_2_code 14 = .ok (.iconst 1, 1) := by decide +kernel
theorem d_Chain_begin_15 : decode prog_3_method_2_code 15 = .ok (.aload_n 2, 1) := by decide +kernel
theorem d_Chain_begin_16 : decode prog_3_method_2_code 16 = .ok (.invokestatic 39, 3) := by decide +kernel
theorem d_Chain_begin_19 : decode prog_3_method_2_code 19 = .ok (.iastore, 1) := by decide +kernel
theorem d_Chain_begin_20 : decode prog_3_method_2_code 20 = .ok (.iconst 0, 1) := by decide +kernel
theorem d_Chain_begin_21 : decode prog_3_method_2_code 21 = .ok (.istore_n 3, 1) := by decide +kernel
theorem d_Chain_begin_22 : decode prog_3_method_2_code 22 = .ok (.iload_n 3, 1) := by decide +kernel
theorem d_Chain_begin_23 : decode prog_3_method_2_code 23 = .ok (.bipush 6, 2) := by decide +kernel
theorem d_Chain_begin_25 : decode prog_3_method_2_code 25 = .ok (.if_icmp .ge 38, 3) := by decide +kernel
theorem d_Chain_begin_28 : decode prog_3_method_2_code 28 = .ok (.aload_n 0, 1) := by decide +kernel
theorem d_Chain_begin_29 : decode prog_3_method_2_code 29 = .ok (.getfield 13, 3) := by decide +kernel
theorem d_Chain_begin_32 : decode prog_3_method_2_code 32 = .ok (.iload_n 3, 1) := by decide +kernel
theorem d_Chain_begin_33 : decode prog_3_method_2_code 33 = .ok (.aaload, 1) := by decide +kernel
theorem d_Chain_begin_34 : decode prog_3_method_2_code 34 = .ok (.aload_n 1, 1) := by decide +kernel
theorem d_Chain_begin_35 : decode prog_3_method_2_code 35 = .ok (.iload_n 3, 1) := by decide +kernel
theorem d_Chain_begin_36 : decode prog_3_method_2_code 36 = .ok (.iaload, 1) := by decide +kernel
theorem d_Chain_begin_37 : decode prog_3_method_2_code 37 = .ok (.i2l, 1) := by decide +kernel
theorem d_Chain_begin_38 : decode prog_3_method_2_code 38 = .ok (.invokevirtual 43, 3) := by decide +kernel
theorem d_Chain_begin_41 : decode prog_3_method_2_code 41 = .ok (.aload_n 0, 1) := by decide +kernel
theorem d_Chain_begin_42 : decode prog_3_method_2_code 42 = .ok (.getfield 13, 3) := by decide +kernel
theorem d_Chain_begin_45 : decode prog_3_method_2_code 45 = .ok (.bipush 6, 2) := by decide +kernel
theorem d_Chain_begin_47 : decode prog_3_method_2_code 47 = .ok (.iload_n 3, 1) := by decide +kernel
theorem d_Chain_begin_48 : decode prog_3_method_2_code 48 = .ok (.iadd, 1) := by decide +kernel
theorem d_Chain_begin_49 : decode prog_3_method_2_code 49 = .ok (.aaload, 1) := by decide +kernel
theorem d_Chain_begin_50 : decode prog_3_method_2_code 50 = .ok (.aload_n 2, 1) := by decide +kernel
theorem d_Chain_begin_51 : decode prog_3_method_2_code 51 = .ok (.iload_n 3, 1) := by decide +kernel
theorem d_Chain_begin_52 : decode prog_3_method_2_code 52 = .ok (.iaload, 1) := by decide +kernel
theorem d_Chain_begin_53 : decode prog_3_method_2_code 53 = .ok (.i2l, 1) := by decide +kernel
theorem d_Chain_begin_54 : decode prog_3_method_2_code 54 = .ok (.invokevirtual 43, 3) := by decide +kernel
theorem d_Chain_begin_57 : decode prog_3_method_2_code 57 = .ok (.iinc 3 1, 3) := by decide +kernel
theorem d_Chain_begin_60 : decode prog_3_method_2_code 60 = .ok (.goto (-38), 3) := by decide +kernel
theorem d_Chain_begin_63 : decode prog_3_method_2_code 63 = .ok (.aload_n 0, 1) := by decide +kernel
theorem d_Chain_begin_64 : decode prog_3_method_2_code 64 = .ok (.aload_n 0, 1) := by decide +kernel
theorem d_Chain_begin_65 : decode prog_3_method_2_code 65 = .ok (.getfield 17, 3) := by decide +kernel
theorem d_Chain_begin_68 : decode prog_3_method_2_code 68 = .ok (.iconst 1, 1) := by decide +kernel
theorem d_Chain_begin_69 : decode prog_3_method_2_code 69 = .ok (.iaload, 1) := by decide +kernel
theorem d_Chain_begin_70 : decode prog_3_method_2_code 70 = .ok (.iconst (-1), 1) := by decide +kernel
theorem d_Chain_begin_71 : decode prog_3_method_2_code 71 = .ok (.if_icmp .ne 7, 3) := by decide +kernel
theorem d_Chain_begin_74 : decode prog_3_method_2_code 74 = .ok (.iconst 1, 1) := by decide +kernel
theorem d_Chain_begin_75 : decode prog_3_method_2_code 75 = .ok (.goto 4, 3) := by decide +kernel
theorem d_Chain_begin_78 : decode prog_3_method_2_code 78 = .ok (.iconst 2, 1) := by decide +kernel
theorem d_Chain_begin_79 : decode prog_3_method_2_code 79 = .ok (.putfield 21, 3) := by decide +kernel
theorem d_Chain_begin_82 : decode prog_3_method_2_code 82 = .ok (.iconst 2, 1) := by decide +kernel
theorem d_Chain_begin_83 : decode prog_3_method_2_code 83 = .ok (.istore_n 3, 1) := by decide +kernel
theorem d_Chain_begin_84 : decode prog_3_method_2_code 84 = .ok (.iload_n 3, 1) := by decide +kernel
theorem d_Chain_begin_85 : decode prog_3_method_2_code 85 = .ok (.aload_n 0, 1) := by decide +kernel
theorem d_Chain_begin_86 : decode prog_3_method_2_code 86 = .ok (.getfield 21, 3) := by decide +kernel
theorem d_Chain_begin_89 : decode prog_3_method_2_code 89 = .ok (.if_icmp .ne 54, 3) := by decide +kernel
theorem d_Chain_begin_92 : decode prog_3_method_2_code 92 = .ok (.iload_n 3, 1) := by decide +kernel
theorem d_Chain_begin_93 : decode prog_3_method_2_code 93 = .ok (.bipush 7, 2) := by decide +kernel
theorem d_Chain_begin_95 : decode prog_3_method_2_code 95 = .ok (.if_icmp .ge 48, 3) := by decide +kernel
theorem d_Chain_begin_98 : decode prog_3_method_2_code 98 = .ok (.aload_n 0, 1) := by decide +kernel
theorem d_Chain_begin_99 : decode prog_3_method_2_code 99 = .ok (.getfield 17, 3) := by decide +kernel
theorem d_Chain_begin_102 : decode prog_3_method_2_code 102 = .ok (.iload_n 3, 1) := by decide +kernel
theorem d_Chain_begin_103 : decode prog_3_method_2_code 103 = .ok (.iconst 1, 1) := by decide +kernel
theorem d_Chain_begin_104 : decode prog_3_method_2_code 104 = .ok (.isub, 1) := by decide +kernel
theorem d_Chain_begin_105 : decode prog_3_method_2_code 105 = .ok (.iaload, 1) := by decide +kernel
theorem d_Chain_begin_106 : decode prog_3_method_2_code 106 = .ok (.ifCond .le 37, 3) := by decide +kernel
theorem d_Chain_begin_109 : decode prog_3_method_2_code 109 = .ok (.aload_n 0, 1) := by decide +kernel
theorem d_Chain_begin_110 : decode prog_3_method_2_code 110 = .ok (.invokevirtual 47, 3) := by decide +kernel
theorem d_Chain_begin_113 : decode prog_3_method_2_code 113 = .ok (.aload_n 0, 1) := by decide +kernel
theorem d_Chain_begin_114 : decode prog_3_method_2_code 114 = .ok (.dup, 1) := by decide +kernel
theorem d_Chain_begin_115 : decode prog_3_method_2_code 115 = .ok (.getfield 21, 3) := by decide +kernel
theorem d_Chain_begin_118 : decode prog_3_method_2_code 118 = .ok (.aload_n 0, 1) := by decide +kernel
theorem d_Chain_begin_119 : decode prog_3_method_2_code 119 = .ok (.getfield 17, 3) := by decide +kernel
theorem d_Chain_begin_122 : decode prog_3_method_2_code 122 = .ok (.iload_n 3, 1) := by decide +kernel
theorem d_Chain_begin_123 : decode prog_3_method_2_code 123 = .ok (.iaload, 1) := by decide +kernel
theorem d_Chain_begin_124 : decode prog_3_method_2_code 124 = .ok (.iconst (-1), 1) := by decide +kernel
theorem d_Chain_begin_125 : decode prog_3_method_2_code 125 = .ok (.if_icmp .eq 7, 3) := by decide +kernel
theorem d_Chain_begin_128 : decode prog_3_method_2_code 128 = .ok (.iconst 1, 1) := by decide +kernel
theorem d_Chain_begin_129 : decode prog_3_method_2_code 129 = .ok (.goto 4, 3) := by decide +kernel
theorem d_Chain_begin_132 : decode prog_3_method_2_code 132 = .ok (.iconst 0, 1) := by decide +kernel
theorem d_Chain_begin_133 : decode prog_3_method_2_code 133 = .ok (.iadd, 1) := by decide +kernel
theorem d_Chain_begin_134 : decode prog_3_method_2_code 134 = .ok (.putfield 21, 3) := by decide +kernel
theorem d_Chain_begin_137 : decode prog_3_method_2_code 137 = .ok (.iinc 3 1, 3) := by decide +kernel
theorem d_Chain_begin_140 : decode prog_3_method_2_code 140 = .ok (.goto (-56), 3) := by decide +kernel
theorem d_Chain_begin_143 : decode prog_3_method_2_code 143 = .ok (.return_, 1) := by decide +kernel
set_option maxHeartbeats 8000000 in
set_option maxRecDepth 100000 in
theorem c_Chain_begin (l : Launch) (D : va_G) (cs : Nat → ClassId) (L : List Nat) (f : Nat → va_E) (sz : Nat) (ch tt tq cl cr va vb : Nat) (n0 tu fi : Int) (tps aw bw : Nat → Int) (gg : Nat → Option Nat) (tm : Nat → Nat) (Ck S : Nat → Prop) (Qm : Nat → Nat) (Zf : Nat → Int) (hF : Fc L [ch, tt, tq, va, vb]) (ha : f ch = .inr (1, [.ref tt, .ref tq, .int (iI n0), .int (iI tu), .int (iI fi), .ref cl, .ref cr])) (htt : f tt = .inl (cs 3, 42, .inr (.inr (.inr (.inr gg))))) (htq : f tq = .inl (cs 0, 7, .inl (ai tps))) (hva : f va = .inl (cs 0, 6, .inl (ai aw))) (hvb : f vb = .inl (cs 0, 6, .inl (ai bw))) (hG : ∀ t, t < 42 → gg t = some (tm t)) (hCI : CI Ck tm cl cr) (hCS : ∀ b, Ck b → S b) (hSp : Sp L S Qm) (hB : BH cs f S Qm Zf) (hOk : ∀ k ∈ ([ch, tt, tq, va, vb] : List Nat), Out S Qm k) (haw : ∀ j, j < 6 → -262144 < aw j ∧ aw j < 262144) (hbw : ∀ j, j < 6 → -262144 < bw j ∧ bw j < 262144) (hdeg : ∀ ka kb : Nat, ka ≤ 6 → kb ≤ 6 → (∀ j, ka ≤ j → j < 6 → aw j = 0) → (0 < kb → bw (kb - 1) ≠ 0) → kb ≤ ka) (hANz : Nz aw) : Met l (⟨"RealRoots$Chain", "begin", "([I[I)V"⟩ : MethodName) (.code (⟨"RealRoots$Chain", "begin", "([I[I)V"⟩ : MethodName) prog_3_method_2_code 4 (Option.none : Option Jvm.ClassFile.FieldType) :: gw) ({ frames := 2, cells := 0, slots := 0, locals := 120 }) (va_Pc [.ref ch, .ref va, .ref vb] (K0 D vwCl (TY cs) L f sz)) (va_Qv (fun (g : Nat → va_E) => ∃ (n ka kb : Nat) (tm' : Nat → Nat) (gg' : Nat → Option Nat) (cl' : Nat) (Z' t' : Nat → Int), 1 ≤ n ∧ n ≤ kb + 1 ∧ (ka ≤ 6 ∧ (∀ j, ka ≤ j → j < 6 → aw j = 0) ∧ (0 < ka → aw (ka - 1) ≠ 0)) ∧ (kb ≤ 6 ∧ (∀ j, kb ≤ j → j < 6 → bw j = 0) ∧ (0 < kb → bw (kb - 1) ≠ 0)) ∧ CI Ck tm' cl' cr ∧ (∀ t, t < 42 → gg' t = some (tm' t)) ∧ (∀ b, ¬ Ck b → Z' b = Zf b) ∧ SeqC aw bw (fun k j => Z' (tm' (6 * k + j))) n ∧ TopsC t' (fun k j => Z' (tm' (6 * k + j))) n ∧ BtC (fun k j => Z' (tm' (6 * k + j))) n ∧ BH cs g S Qm Z' ∧ (∀ k, Out S Qm k → k ∉ ([ch, tt, tq, va, vb] : List Nat) → g k = f k) ∧ g ch = .inr (1, [.ref tt, .ref tq, .int (iI ((n : Int))), .int (iI tu), .int (iI fi), .ref (cl'), .ref cr]) ∧ g tt = .inl (cs 3, 42, .inr (.inr (.inr (.inr (gg'))))) ∧ g tq = .inl (cs 0, 7, .inl (ai (t'))) ∧ g va = .inl (cs 0, 6, .inl (ai aw)) ∧ g vb = .inl (cs 0, 6, .inl (ai bw))) (K1 D vwCl (TY cs) (AL L sz) L) (AL L sz)) 0 0 (AL L sz) := by
  refine Met.ofW (cc := prog_3_method_2_code) (maxL := 4) (ret := (Option.none : Option Jvm.ClassFile.FieldType)) (by decide) rfl ?_
  intro p e s m args below meth c s₁ Bd hml hv
  obtain ⟨rfl, hk0⟩ := hv
  obtain ⟨hsz, B⟩ := hk0.start
  subst hsz
  have hx := Bd.exec
  have hb := Bd.bytes
  have hr := Bd.returns
  have hlocks := Bd.notSynchronized
  have hts0 := atoms_spec Bd.pre
  have hown : s.vm.findClass RX1 = some m.cls := findClass_of_methodNamed Bd.named
  have hA : ∀ q, s.heap.size ≤ q → AL L s.heap.size q := fun _ h => Or.inr h
  have hl := lv_entry ([.ref ch, .ref va, .ref vb]) (n := 4) (Nat.le_of_ble_eq_true rfl)
  rw [lg_entry_eq]
  generalize (lg_sl ([.ref ch, .ref va, .ref vb]) ++ List.replicate (4 - (lg_sl ([.ref ch, .ref va, .ref vb])).length) Slot.unset).toArray = ls at hl ⊢
  refine absQ (fun Q R av hQ hR hav => ?_)
  have hts : ∀ w ∈ gw, w.before av s = true := by rw [hav]; exact fun w h => hts0 w (List.mem_cons_of_mem _ h)
  have hRf : R.frames = 2 := by rw [hR]; rfl
  have hRl : R.locals = 120 := by rw [hR]; rfl
  have hRc : R.cells = 0 := by rw [hR]; rfl
  have hRs : R.slots = 0 := by rw [hR]; rfl
  clear hR hts0 Bd
  have hl : lv_has ls 4 [(0, .ref ch), (1, .ref va), (2, .ref vb)] := hl
  have hinj : ∀ t u, t < 42 → u < 42 → t ≠ u → tm t ≠ tm u := fun t u ht hu h e => h (hCI.2.1 t u ht hu e)
  have hRA : RowB aw 18 := fun j hj => by have := haw j hj; rw [show (2 : Int) ^ 18 = 262144 from rfl]; omega
  have hRB : RowB bw 18 := fun j hj => by have := hbw j hj; rw [show (2 : Int) ^ 18 = 262144 from rfl]; omega
  have hnva : va ∉ ([ch, tt, tq] : List Nat) := by have h9 := hF.1; simp only [List.nodup_cons, List.mem_cons, List.not_mem_nil, or_false, not_or, List.nodup_nil, not_false_eq_true, and_true] at h9 ⊢; obtain ⟨⟨_, q1⟩, ⟨_, q2⟩, q3, _⟩ := h9; exact ⟨fun h => q1.2.1 h.symm, fun h => q2.1 h.symm, fun h => q3.1 h.symm⟩
  have hnvb : vb ∉ ([ch, tt, tq] : List Nat) := by have h9 := hF.1; simp only [List.nodup_cons, List.mem_cons, List.not_mem_nil, or_false, not_or, List.nodup_nil, not_false_eq_true, and_true] at h9 ⊢; obtain ⟨⟨_, q1⟩, ⟨_, q2⟩, q3, _⟩ := h9; exact ⟨fun h => q1.2.2 h.symm, fun h => q2.2 h.symm, fun h => q3.2 h.symm⟩
  have hfx : ∀ q ∈ ([(ch, .inr (1, [.ref tt, .ref tq, .int (iI n0), .int (iI tu), .int (iI fi), .ref cl, .ref cr])), (tt, .inl (cs 3, 42, .inr (.inr (.inr (.inr gg))))), (tq, .inl (cs 0, 7, .inl (ai tps))), (va, .inl (cs 0, 6, .inl (ai aw))), (vb, .inl (cs 0, 6, .inl (ai bw)))] : List (Nat × va_E)), f q.1 = q.2 := fun q hq => by
    simp only [List.mem_cons, List.not_mem_nil, or_false] at hq
    rcases hq with rfl | rfl | rfl | rfl | rfl
    · exact ha
    · exact htt
    · exact htq
    · exact hva
    · exact hvb
  have hmw : mw f [(ch, .inr (1, [.ref tt, .ref tq, .int (iI n0), .int (iI tu), .int (iI fi), .ref cl, .ref cr])), (tt, .inl (cs 3, 42, .inr (.inr (.inr (.inr gg))))), (tq, .inl (cs 0, 7, .inl (ai tps))), (va, .inl (cs 0, 6, .inl (ai aw))), (vb, .inl (cs 0, 6, .inl (ai bw)))] = f := mw_self (fun k a e hk => hfx (a, e) (List.mem_of_getElem? hk))
  have B := B.focus [(ch, .inr (1, [.ref tt, .ref tq, .int (iI n0), .int (iI tu), .int (iI fi), .ref cl, .ref cr])), (tt, .inl (cs 3, 42, .inr (.inr (.inr (.inr gg))))), (tq, .inl (cs 0, 7, .inl (ai tps))), (va, .inl (cs 0, 6, .inl (ai aw))), (vb, .inl (cs 0, 6, .inl (ai bw)))] hfx
  refine lv_aload_n hx hb d_Chain_begin_0 rfl (lv_at hl 0 rfl) ?_
  refine x_get (C := RX1) (T := TX1) (N := 7) hx hb hts inX1 hown B hF 0 rfl rfl 1 (by decide) (hts _ w_53) (fun _ h9 => h9) rfl d_Chain_begin_1 ?_
  refine x_iconst hx hb d_Chain_begin_4 ?_
  refine lv_aload_n hx hb d_Chain_begin_5 rfl (lv_at hl 1 rfl) ?_
  refine x_calli B hA (va_runSN (As := [.ref va]) (rest := [.int (iI 0), .ref tq]) ⟨hx, hb, hml, hown, hts⟩ (c_RR_topOf l D cs _ _ _ va aw (hF.pick [3] rfl rfl) (mw_get (X := [(ch, .inr (1, [.ref tt, .ref tq, .int (iI n0), .int (iI tu), .int (iI fi), .ref cl, .ref cr])), (tt, .inl (cs 3, 42, .inr (.inr (.inr (.inr gg))))), (tq, .inl (cs 0, 7, .inl (ai tps))), (va, .inl (cs 0, 6, .inl (ai aw))), (vb, .inl (cs 0, 6, .inl (ai bw)))]) hF.1 (k := 3) rfl) (fun j hj => by have := haw j hj; omega)) ⟨va_cnB (host := RX6) 1 hts (gw_cons w_275) rfl rfl rfl (B.2.2.2.2.2.2.2.2.2.1) (hts _ w_1) (by decide +kernel) ⟨by rw [hRf]; exact Nat.le_of_ble_eq_true rfl, by rw [hRl]; exact Nat.le_of_ble_eq_true rfl⟩, hts _ w_274, trivial⟩ ⟨K0.blind, B.pre _⟩ rfl rfl hl.1 rfl (lv_room (Nat.le_of_ble_eq_true rfl)) d_Chain_begin_6 ⟨by rw [hRc]; omega, by rw [hRs]; omega⟩) (fun r6 g6 H locs hw B => ?_)
  obtain ⟨ka, rfl, hka6, hkaz, hkal, rfl⟩ := hw
  have B : Wb D vwCl (TY cs) L (mw f [(ch, .inr (1, [.ref tt, .ref tq, .int (iI n0), .int (iI tu), .int (iI fi), .ref cl, .ref cr])), (tt, .inl (cs 3, 42, .inr (.inr (.inr (.inr gg))))), (tq, .inl (cs 0, 7, .inl (ai tps))), (va, .inl (cs 0, 6, .inl (ai aw))), (vb, .inl (cs 0, 6, .inl (ai bw)))]) (AL L s.heap.size) s H _ := B
  refine x_iast hx hb B hF 2 0 rfl rfl 0 (by omega) (by omega) (by decide) d_Chain_begin_9 (fun H locs B => ?_)
  have B : Wb D vwCl (TY cs) L (mw f [(ch, .inr (1, [.ref tt, .ref tq, .int (iI n0), .int (iI tu), .int (iI fi), .ref cl, .ref cr])), (tt, .inl (cs 3, 42, .inr (.inr (.inr (.inr gg))))), (tq, .inl (cs 0, 7, .inl (ai (up tps 0 ((ka : Int) - 1))))), (va, .inl (cs 0, 6, .inl (ai aw))), (vb, .inl (cs 0, 6, .inl (ai bw)))]) (AL L s.heap.size) s H _ := B
  refine lv_aload_n hx hb d_Chain_begin_10 rfl (lv_at hl 0 rfl) ?_
  refine x_get (C := RX1) (T := TX1) (N := 7) hx hb hts inX1 hown B hF 0 rfl rfl 1 (by decide) (hts _ w_53) (fun _ h9 => h9) rfl d_Chain_begin_11 ?_
  refine x_iconst hx hb d_Chain_begin_14 ?_
  refine lv_aload_n hx hb d_Chain_begin_15 rfl (lv_at hl 2 rfl) ?_
  refine x_calli B hA (va_runSN (As := [.ref vb]) (rest := [.int (iI 1), .ref tq]) ⟨hx, hb, hml, hown, hts⟩ (c_RR_topOf l D cs _ _ _ vb bw (hF.pick [4] rfl rfl) (mw_get (X := [(ch, .inr (1, [.ref tt, .ref tq, .int (iI n0), .int (iI tu), .int (iI fi), .ref cl, .ref cr])), (tt, .inl (cs 3, 42, .inr (.inr (.inr (.inr gg))))), (tq, .inl (cs 0, 7, .inl (ai (up tps 0 ((ka : Int) - 1))))), (va, .inl (cs 0, 6, .inl (ai aw))), (vb, .inl (cs 0, 6, .inl (ai bw)))]) hF.1 (k := 4) rfl) (fun j hj => by have := hbw j hj; omega)) ⟨va_cnB (host := RX6) 1 hts (gw_cons w_275) rfl rfl rfl (B.2.2.2.2.2.2.2.2.2.1) (hts _ w_1) (by decide +kernel) ⟨by rw [hRf]; exact Nat.le_of_ble_eq_true rfl, by rw [hRl]; exact Nat.le_of_ble_eq_true rfl⟩, hts _ w_274, trivial⟩ ⟨K0.blind, B.pre _⟩ rfl rfl hl.1 rfl (lv_room (Nat.le_of_ble_eq_true rfl)) d_Chain_begin_16 ⟨by rw [hRc]; omega, by rw [hRs]; omega⟩) (fun r16 g16 H locs hw B => ?_)
  obtain ⟨kb, rfl, hkb6, hkbz, hkbl, rfl⟩ := hw
  have B : Wb D vwCl (TY cs) L (mw f [(ch, .inr (1, [.ref tt, .ref tq, .int (iI n0), .int (iI tu), .int (iI fi), .ref cl, .ref cr])), (tt, .inl (cs 3, 42, .inr (.inr (.inr (.inr gg))))), (tq, .inl (cs 0, 7, .inl (ai (up tps 0 ((ka : Int) - 1))))), (va, .inl (cs 0, 6, .inl (ai aw))), (vb, .inl (cs 0, 6, .inl (ai bw)))]) (AL L s.heap.size) s H _ := B
  refine x_iast hx hb B hF 2 0 rfl rfl 1 (by omega) (by omega) (by decide) d_Chain_begin_19 (fun H locs B => ?_)
  have B : Wb D vwCl (TY cs) L (mw f [(ch, .inr (1, [.ref tt, .ref tq, .int (iI n0), .int (iI tu), .int (iI fi), .ref cl, .ref cr])), (tt, .inl (cs 3, 42, .inr (.inr (.inr (.inr gg))))), (tq, .inl (cs 0, 7, .inl (ai (up (up tps 0 ((ka : Int) - 1)) 1 ((kb : Int) - 1))))), (va, .inl (cs 0, 6, .inl (ai aw))), (vb, .inl (cs 0, 6, .inl (ai bw)))]) (AL L s.heap.size) s H _ := B
  obtain ⟨t1, ht1⟩ : ∃ t1, t1 = up (up tps 0 ((ka : Int) - 1)) 1 ((kb : Int) - 1) := ⟨_, rfl⟩
  rw [← ht1] at B
  have ht11 : t1 1 = (kb : Int) - 1 := by rw [ht1, up_self]
  have ht10 : t1 0 = (ka : Int) - 1 := by rw [ht1, up_ne _ _ (by decide), up_self]
  have B : Wb D vwCl (TY cs) L (mw f [(ch, .inr (1, [.ref tt, .ref tq, .int (iI n0), .int (iI tu), .int (iI fi), .ref cl, .ref cr])), (tt, .inl (cs 3, 42, .inr (.inr (.inr (.inr gg))))), (tq, .inl (cs 0, 7, .inl (ai t1))), (va, .inl (cs 0, 6, .inl (ai aw))), (vb, .inl (cs 0, 6, .inl (ai bw)))]) (AL L s.heap.size) s H _ := B
  have hkab : kb ≤ ka := hdeg ka kb hka6 hkb6 hkaz hkbl
  have hkapos : 0 < ka := by rcases Nat.eq_zero_or_pos ka with h | h; obtain ⟨j, hj, hjn⟩ := hANz; exact absurd (hkaz j (by omega) hj) hjn; exact h
  clear hANz hdeg
  refine x_iconst hx hb d_Chain_begin_20 ?_
  refine lv_istore_n (lv' := [(3, .int (iI 0)), (0, .ref ch), (1, .ref va), (2, .ref vb)]) hx hb d_Chain_begin_21 rfl hl (by decide) rfl (fun ls hl => ?_)
  have LA : ∀ (fuel : Nat) (k : Nat) (f2 : Nat → va_E) (Z2 : Nat → Int), 6 - k < fuel → (k ≤ 6) → (BH cs f2 S Qm Z2) → (∀ j, j < k → Z2 (tm j) = aw j ∧ Z2 (tm (6 + j)) = bw j) → (∀ b, ¬ Ck b → Z2 b = Zf b) → (∀ k, Out S Qm k → k ∉ ([ch, tt, tq, va, vb] : List Nat) → f2 k = f k) → ∀ (H : Heap) (locs : List Loc) (ls : Array Slot), Wb D vwCl (TY cs) L (mw f2 [(ch, .inr (1, [.ref tt, .ref tq, .int (iI n0), .int (iI tu), .int (iI fi), .ref cl, .ref cr])), (tt, .inl (cs 3, 42, .inr (.inr (.inr (.inr gg))))), (tq, .inl (cs 0, 7, .inl (ai t1))), (va, .inl (cs 0, 6, .inl (ai aw))), (vb, .inl (cs 0, 6, .inl (ai bw)))]) (AL L s.heap.size) s H locs → lv_has ls 4 [(3, .int (iI ((k : Int)))), (0, .ref ch), (1, .ref va), (2, .ref vb)] → W p l e R s m av below meth c H locs (0) (0) Q (F0 m 22 ls []) := by
    intro fuel
    induction fuel with
    | zero => intro k f2 Z2 hfu; exact absurd hfu (Nat.not_lt_zero _)
    | succ fuel ih_LA =>
      intro k f2 Z2 hfu_LA hk hB2 hI hZo hfr2 H locs ls B hl
      refine lv_iload_n hx hb d_Chain_begin_22 rfl (lv_at hl 0 rfl) ?_
      refine x_bipush hx hb d_Chain_begin_23 (by decide) ?_
      refine x_icmp_ge (tgt := 63) hx hb d_Chain_begin_25 (by decide) (by omega) (by omega) (fun h25 => ?_) (fun h25 => ?_)
      · refine lv_aload_n hx hb d_Chain_begin_63 rfl (lv_at hl 1 rfl) ?_
        refine lv_aload_n hx hb d_Chain_begin_64 rfl (lv_at hl 1 rfl) ?_
        refine x_get (C := RX1) (T := TX1) (N := 7) hx hb hts inX1 hown B hF 0 rfl rfl 1 (by decide) (hts _ w_53) (fun _ h9 => h9) rfl d_Chain_begin_65 ?_
        refine x_iconst hx hb d_Chain_begin_68 ?_
        refine x_iald hx hb B hF 2 0 rfl rfl 1 (by omega) (by omega) (by decide) d_Chain_begin_69 ?_
        refine x_iconst hx hb d_Chain_begin_70 ?_
        refine x_icmp_ne (tgt := 78) hx hb d_Chain_begin_71 (by decide) (by omega) (by omega) (fun h71 => ?_) (fun h71 => ?_)
        · refine x_iconst hx hb d_Chain_begin_78 ?_
          refine x_put (C := RX1) (T := TX1) (N := 7) hx hb hts inX1 tyX1 tyX1_ok nmX1 hown B hF 0 rfl rfl 2 (by decide) (hts _ w_54) (fun _ h9 => h9) rfl (tyX1_ok 2 (by decide)) rfl rfl (Nat.le_of_ble_eq_true rfl) d_Chain_begin_79 (fun H locs B => ?_)
          have B : Wb D vwCl (TY cs) L (mw f2 [(ch, .inr (1, [.ref tt, .ref tq, .int (iI 2), .int (iI tu), .int (iI fi), .ref cl, .ref cr])), (tt, .inl (cs 3, 42, .inr (.inr (.inr (.inr gg))))), (tq, .inl (cs 0, 7, .inl (ai t1))), (va, .inl (cs 0, 6, .inl (ai aw))), (vb, .inl (cs 0, 6, .inl (ai bw)))]) (AL L s.heap.size) s H _ := B
          refine x_iconst hx hb d_Chain_begin_82 ?_
          refine lv_istore_n (lv' := [(3, .int (iI 2)), (0, .ref ch), (1, .ref va), (2, .ref vb)]) hx hb d_Chain_begin_83 rfl hl (by decide) rfl (fun ls hl => ?_)
          rw [show (2 : Int) = ((2 : Nat) : Int) from rfl] at hl
          rw [show (2 : Int) = ((2 : Nat) : Int) from rfl] at B
          have LB : ∀ (fuel : Nat) (n : Nat) (f3 : Nat → va_E) (tm2 : Nat → Nat) (gg2 : Nat → Option Nat) (cl2 : Nat) (Z3 : Nat → Int) (t2 : Nat → Int), 7 - n < fuel → (n ≤ 7) → (BH cs f3 S Qm Z3) → (CI Ck tm2 cl2 cr) → (∀ t, t < 42 → gg2 t = some (tm2 t)) → (∀ b, ¬ Ck b → Z3 b = Zf b) → (ChI aw bw t2 (fun k j => Z3 (tm2 (6 * k + j))) n kb) → (∀ k, Out S Qm k → k ∉ ([ch, tt, tq, va, vb] : List Nat) → f3 k = f k) → ∀ (H : Heap) (locs : List Loc) (ls : Array Slot), Wb D vwCl (TY cs) L (mw f3 [(ch, .inr (1, [.ref tt, .ref tq, .int (iI ((n : Int))), .int (iI tu), .int (iI fi), .ref cl2, .ref cr])), (tt, .inl (cs 3, 42, .inr (.inr (.inr (.inr gg2))))), (tq, .inl (cs 0, 7, .inl (ai t2))), (va, .inl (cs 0, 6, .inl (ai aw))), (vb, .inl (cs 0, 6, .inl (ai bw)))]) (AL L s.heap.size) s H locs → lv_has ls 4 [(3, .int (iI ((n : Int)))), (0, .ref ch), (1, .ref va), (2, .ref vb)] → W p l e R s m av below meth c H locs (0) (0) Q (F0 m 84 ls []) := by
            intro fuel
            induction fuel with
            | zero => intro n f3 tm2 gg2 cl2 Z3 t2 hfu; exact absurd hfu (Nat.not_lt_zero _)
            | succ fuel ih_LB =>
              intro n f3 tm2 gg2 cl2 Z3 t2 hfu_LB hn7 hB3 hCI2 hG2 hZ3 hCh hfr3 H locs ls B hl
              have hn2 := hCh.1.1
              have hChZ := hCh
              have hChZ0 := hCh
              refine lv_iload_n hx hb d_Chain_begin_84 rfl (lv_at hl 0 rfl) ?_
              refine lv_aload_n hx hb d_Chain_begin_85 rfl (lv_at hl 1 rfl) ?_
              refine x_get (C := RX1) (T := TX1) (N := 7) hx hb hts inX1 hown B hF 0 rfl rfl 2 (by decide) (hts _ w_54) (fun _ h9 => h9) rfl d_Chain_begin_86 ?_
              refine x_icmp_ne (tgt := 143) hx hb d_Chain_begin_89 (by decide) (by omega) (by omega) (fun h89 => ?_) (fun h89 => ?_)
              · subst hQ hav
                exact x_vret hx hb hr hlocks B d_Chain_begin_143 (by
      obtain ⟨h1z, h2z, h3z, ez, dz, alz, bez, mz, hez, hdz, hdez, he6z, hdnz, -⟩ := hChZ
      first | (exfalso; omega) | exact ⟨n, ka, kb, tm2, gg2, cl2, Z3, t2, by omega, by omega, ⟨hka6, hkaz, hkal⟩, ⟨hkb6, hkbz, hkbl⟩, hCI2, hG2, hZ3, hChZ0.unit (by omega), h2z, h3z, hB3.keep (X := [(ch, .inr (1, [.ref tt, .ref tq, .int (iI ((n : Int))), .int (iI tu), .int (iI fi), .ref cl2, .ref cr])), (tt, .inl (cs 3, 42, .inr (.inr (.inr (.inr gg2))))), (tq, .inl (cs 0, 7, .inl (ai t2))), (va, .inl (cs 0, 6, .inl (ai aw))), (vb, .inl (cs 0, 6, .inl (ai bw)))]) hOk, fun k h1 h2 => by rw [mw_out (X := [(ch, .inr (1, [.ref tt, .ref tq, .int (iI ((n : Int))), .int (iI tu), .int (iI fi), .ref cl2, .ref cr])), (tt, .inl (cs 3, 42, .inr (.inr (.inr (.inr gg2))))), (tq, .inl (cs 0, 7, .inl (ai t2))), (va, .inl (cs 0, 6, .inl (ai aw))), (vb, .inl (cs 0, 6, .inl (ai bw)))]) h2]; exact hfr3 k h1 h2, mw_get (X := [(ch, .inr (1, [.ref tt, .ref tq, .int (iI ((n : Int))), .int (iI tu), .int (iI fi), .ref cl2, .ref cr])), (tt, .inl (cs 3, 42, .inr (.inr (.inr (.inr gg2))))), (tq, .inl (cs 0, 7, .inl (ai t2))), (va, .inl (cs 0, 6, .inl (ai aw))), (vb, .inl (cs 0, 6, .inl (ai bw)))]) hF.1 (k := 0) rfl, mw_get (X := [(ch, .inr (1, [.ref tt, .ref tq, .int (iI ((n : Int))), .int (iI tu), .int (iI fi), .ref cl2, .ref cr])), (tt, .inl (cs 3, 42, .inr (.inr (.inr (.inr gg2))))), (tq, .inl (cs 0, 7, .inl (ai t2))), (va, .inl (cs 0, 6, .inl (ai aw))), (vb, .inl (cs 0, 6, .inl (ai bw)))]) hF.1 (k := 1) rfl, mw_get (X := [(ch, .inr (1, [.ref tt, .ref tq, .int (iI ((n : Int))), .int (iI tu), .int (iI fi), .ref cl2, .ref cr])), (tt, .inl (cs 3, 42, .inr (.inr (.inr (.inr gg2))))), (tq, .inl (cs 0, 7, .inl (ai t2))), (va, .inl (cs 0, 6, .inl (ai aw))), (vb, .inl (cs 0, 6, .inl (ai bw)))]) hF.1 (k := 2) rfl, mw_get (X := [(ch, .inr (1, [.ref tt, .ref tq, .int (iI ((n : Int))), .int (iI tu), .int (iI fi), .ref cl2, .ref cr])), (tt, .inl (cs 3, 42, .inr (.inr (.inr (.inr gg2))))), (tq, .inl (cs 0, 7, .inl (ai t2))), (va, .inl (cs 0, 6, .inl (ai aw))), (vb, .inl (cs 0, 6, .inl (ai bw)))]) hF.1 (k := 3) rfl, mw_get (X := [(ch, .inr (1, [.ref tt, .ref tq, .int (iI ((n : Int))), .int (iI tu), .int (iI fi), .ref cl2, .ref cr])), (tt, .inl (cs 3, 42, .inr (.inr (.inr (.inr gg2))))), (tq, .inl (cs 0, 7, .inl (ai t2))), (va, .inl (cs 0, 6, .inl (ai aw))), (vb, .inl (cs 0, 6, .inl (ai bw)))]) hF.1 (k := 4) rfl⟩)
              · refine lv_iload_n hx hb d_Chain_begin_92 rfl (lv_at hl 0 rfl) ?_
                refine x_bipush hx hb d_Chain_begin_93 (by decide) ?_
                refine x_icmp_ge (tgt := 143) hx hb d_Chain_begin_95 (by decide) (by omega) (by omega) (fun h95 => ?_) (fun h95 => ?_)
                · subst hQ hav
                  exact x_vret hx hb hr hlocks B d_Chain_begin_143 (by
      obtain ⟨h1z, h2z, h3z, ez, dz, alz, bez, mz, hez, hdz, hdez, he6z, hdnz, -⟩ := hChZ
      first | (exfalso; omega) | exact ⟨n, ka, kb, tm2, gg2, cl2, Z3, t2, by omega, by omega, ⟨hka6, hkaz, hkal⟩, ⟨hkb6, hkbz, hkbl⟩, hCI2, hG2, hZ3, hChZ0.unit (by omega), h2z, h3z, hB3.keep (X := [(ch, .inr (1, [.ref tt, .ref tq, .int (iI ((n : Int))), .int (iI tu), .int (iI fi), .ref cl2, .ref cr])), (tt, .inl (cs 3, 42, .inr (.inr (.inr (.inr gg2))))), (tq, .inl (cs 0, 7, .inl (ai t2))), (va, .inl (cs 0, 6, .inl (ai aw))), (vb, .inl (cs 0, 6, .inl (ai bw)))]) hOk, fun k h1 h2 => by rw [mw_out (X := [(ch, .inr (1, [.ref tt, .ref tq, .int (iI ((n : Int))), .int (iI tu), .int (iI fi), .ref cl2, .ref cr])), (tt, .inl (cs 3, 42, .inr (.inr (.inr (.inr gg2))))), (tq, .inl (cs 0, 7, .inl (ai t2))), (va, .inl (cs 0, 6, .inl (ai aw))), (vb, .inl (cs 0, 6, .inl (ai bw)))]) h2]; exact hfr3 k h1 h2, mw_get (X := [(ch, .inr (1, [.ref tt, .ref tq, .int (iI ((n : Int))), .int (iI tu), .int (iI fi), .ref cl2, .ref cr])), (tt, .inl (cs 3, 42, .inr (.inr (.inr (.inr gg2))))), (tq, .inl (cs 0, 7, .inl (ai t2))), (va, .inl (cs 0, 6, .inl (ai aw))), (vb, .inl (cs 0, 6, .inl (ai bw)))]) hF.1 (k := 0) rfl, mw_get (X := [(ch, .inr (1, [.ref tt, .ref tq, .int (iI ((n : Int))), .int (iI tu), .int (iI fi), .ref cl2, .ref cr])), (tt, .inl (cs 3, 42, .inr (.inr (.inr (.inr gg2))))), (tq, .inl (cs 0, 7, .inl (ai t2))), (va, .inl (cs 0, 6, .inl (ai aw))), (vb, .inl (cs 0, 6, .inl (ai bw)))]) hF.1 (k := 1) rfl, mw_get (X := [(ch, .inr (1, [.ref tt, .ref tq, .int (iI ((n : Int))), .int (iI tu), .int (iI fi), .ref cl2, .ref cr])), (tt, .inl (cs 3, 42, .inr (.inr (.inr (.inr gg2))))), (tq, .inl (cs 0, 7, .inl (ai t2))), (va, .inl (cs 0, 6, .inl (ai aw))), (vb, .inl (cs 0, 6, .inl (ai bw)))]) hF.1 (k := 2) rfl, mw_get (X := [(ch, .inr (1, [.ref tt, .ref tq, .int (iI ((n : Int))), .int (iI tu), .int (iI fi), .ref cl2, .ref cr])), (tt, .inl (cs 3, 42, .inr (.inr (.inr (.inr gg2))))), (tq, .inl (cs 0, 7, .inl (ai t2))), (va, .inl (cs 0, 6, .inl (ai aw))), (vb, .inl (cs 0, 6, .inl (ai bw)))]) hF.1 (k := 3) rfl, mw_get (X := [(ch, .inr (1, [.ref tt, .ref tq, .int (iI ((n : Int))), .int (iI tu), .int (iI fi), .ref cl2, .ref cr])), (tt, .inl (cs 3, 42, .inr (.inr (.inr (.inr gg2))))), (tq, .inl (cs 0, 7, .inl (ai t2))), (va, .inl (cs 0, 6, .inl (ai aw))), (vb, .inl (cs 0, 6, .inl (ai bw)))]) hF.1 (k := 4) rfl⟩)
                · have hCh0 := hCh
                  obtain ⟨h1c, h2c, h3c, eg, d, al, be, mf, heg, hd, hde, he6, hdn, ⟨hl1, hl2⟩, hPz, hPa, hqb, hwk⟩ := hCh
                  refine lv_aload_n hx hb d_Chain_begin_98 rfl (lv_at hl 1 rfl) ?_
                  refine x_get (C := RX1) (T := TX1) (N := 7) hx hb hts inX1 hown B hF 0 rfl rfl 1 (by decide) (hts _ w_53) (fun _ h9 => h9) rfl d_Chain_begin_99 ?_
                  refine lv_iload_n hx hb d_Chain_begin_102 rfl (lv_at hl 0 rfl) ?_
                  refine x_iconst hx hb d_Chain_begin_103 ?_
                  refine x_isub hx hb d_Chain_begin_104 ?_
                  refine x_iald hx hb B hF 2 0 rfl rfl (n - 1) (by omega) (by omega) (by decide) d_Chain_begin_105 ?_
                  refine x_if_le (tgt := 143) hx hb d_Chain_begin_106 (by decide) (by omega) (fun h106 => ?_) (fun h106 => ?_)
                  · subst hQ hav
                    exact x_vret hx hb hr hlocks B d_Chain_begin_143 (by
      obtain ⟨h1z, h2z, h3z, ez, dz, alz, bez, mz, hez, hdz, hdez, he6z, hdnz, -⟩ := hChZ
      first | (exfalso; omega) | exact ⟨n, ka, kb, tm2, gg2, cl2, Z3, t2, by omega, by omega, ⟨hka6, hkaz, hkal⟩, ⟨hkb6, hkbz, hkbl⟩, hCI2, hG2, hZ3, hChZ0.unit (by omega), h2z, h3z, hB3.keep (X := [(ch, .inr (1, [.ref tt, .ref tq, .int (iI ((n : Int))), .int (iI tu), .int (iI fi), .ref cl2, .ref cr])), (tt, .inl (cs 3, 42, .inr (.inr (.inr (.inr gg2))))), (tq, .inl (cs 0, 7, .inl (ai t2))), (va, .inl (cs 0, 6, .inl (ai aw))), (vb, .inl (cs 0, 6, .inl (ai bw)))]) hOk, fun k h1 h2 => by rw [mw_out (X := [(ch, .inr (1, [.ref tt, .ref tq, .int (iI ((n : Int))), .int (iI tu), .int (iI fi), .ref cl2, .ref cr])), (tt, .inl (cs 3, 42, .inr (.inr (.inr (.inr gg2))))), (tq, .inl (cs 0, 7, .inl (ai t2))), (va, .inl (cs 0, 6, .inl (ai aw))), (vb, .inl (cs 0, 6, .inl (ai bw)))]) h2]; exact hfr3 k h1 h2, mw_get (X := [(ch, .inr (1, [.ref tt, .ref tq, .int (iI ((n : Int))), .int (iI tu), .int (iI fi), .ref cl2, .ref cr])), (tt, .inl (cs 3, 42, .inr (.inr (.inr (.inr gg2))))), (tq, .inl (cs 0, 7, .inl (ai t2))), (va, .inl (cs 0, 6, .inl (ai aw))), (vb, .inl (cs 0, 6, .inl (ai bw)))]) hF.1 (k := 0) rfl, mw_get (X := [(ch, .inr (1, [.ref tt, .ref tq, .int (iI ((n : Int))), .int (iI tu), .int (iI fi), .ref cl2, .ref cr])), (tt, .inl (cs 3, 42, .inr (.inr (.inr (.inr gg2))))), (tq, .inl (cs 0, 7, .inl (ai t2))), (va, .inl (cs 0, 6, .inl (ai aw))), (vb, .inl (cs 0, 6, .inl (ai bw)))]) hF.1 (k := 1) rfl, mw_get (X := [(ch, .inr (1, [.ref tt, .ref tq, .int (iI ((n : Int))), .int (iI tu), .int (iI fi), .ref cl2, .ref cr])), (tt, .inl (cs 3, 42, .inr (.inr (.inr (.inr gg2))))), (tq, .inl (cs 0, 7, .inl (ai t2))), (va, .inl (cs 0, 6, .inl (ai aw))), (vb, .inl (cs 0, 6, .inl (ai bw)))]) hF.1 (k := 2) rfl, mw_get (X := [(ch, .inr (1, [.ref tt, .ref tq, .int (iI ((n : Int))), .int (iI tu), .int (iI fi), .ref cl2, .ref cr])), (tt, .inl (cs 3, 42, .inr (.inr (.inr (.inr gg2))))), (tq, .inl (cs 0, 7, .inl (ai t2))), (va, .inl (cs 0, 6, .inl (ai aw))), (vb, .inl (cs 0, 6, .inl (ai bw)))]) hF.1 (k := 3) rfl, mw_get (X := [(ch, .inr (1, [.ref tt, .ref tq, .int (iI ((n : Int))), .int (iI tu), .int (iI fi), .ref cl2, .ref cr])), (tt, .inl (cs 3, 42, .inr (.inr (.inr (.inr gg2))))), (tq, .inl (cs 0, 7, .inl (ai t2))), (va, .inl (cs 0, 6, .inl (ai aw))), (vb, .inl (cs 0, 6, .inl (ai bw)))]) hF.1 (k := 4) rfl⟩)
                  · obtain ⟨mf', -, hw1, hw2⟩ := wCs_use hwk (by omega)
                    refine lv_aload_n hx hb d_Chain_begin_109 rfl (lv_at hl 1 rfl) ?_
                    refine x_callv B hA (va_runV (As := []) (rest := []) ⟨hx, hb, hml, hown, hts⟩ (c_Chain_divide l D cs _ _ _ ch tt tq cl2 cr n d eg al be tu fi t2 gg2 tm2 Ck S Qm Z3 (hF.pick [0, 1, 2] rfl rfl) (mw_get (X := [(ch, .inr (1, [.ref tt, .ref tq, .int (iI ((n : Int))), .int (iI tu), .int (iI fi), .ref cl2, .ref cr])), (tt, .inl (cs 3, 42, .inr (.inr (.inr (.inr gg2))))), (tq, .inl (cs 0, 7, .inl (ai t2))), (va, .inl (cs 0, 6, .inl (ai aw))), (vb, .inl (cs 0, 6, .inl (ai bw)))]) hF.1 (k := 0) rfl) (mw_get (X := [(ch, .inr (1, [.ref tt, .ref tq, .int (iI ((n : Int))), .int (iI tu), .int (iI fi), .ref cl2, .ref cr])), (tt, .inl (cs 3, 42, .inr (.inr (.inr (.inr gg2))))), (tq, .inl (cs 0, 7, .inl (ai t2))), (va, .inl (cs 0, 6, .inl (ai aw))), (vb, .inl (cs 0, 6, .inl (ai bw)))]) hF.1 (k := 1) rfl) (mw_get (X := [(ch, .inr (1, [.ref tt, .ref tq, .int (iI ((n : Int))), .int (iI tu), .int (iI fi), .ref cl2, .ref cr])), (tt, .inl (cs 3, 42, .inr (.inr (.inr (.inr gg2))))), (tq, .inl (cs 0, 7, .inl (ai t2))), (va, .inl (cs 0, 6, .inl (ai aw))), (vb, .inl (cs 0, 6, .inl (ai bw)))]) hF.1 (k := 2) rfl) ⟨hn2, by omega⟩ hd heg ⟨by omega, hde, he6⟩ hG2 hCI2 hCS hSp (hB3.keep (X := [(ch, .inr (1, [.ref tt, .ref tq, .int (iI ((n : Int))), .int (iI tu), .int (iI fi), .ref cl2, .ref cr])), (tt, .inl (cs 3, 42, .inr (.inr (.inr (.inr gg2))))), (tq, .inl (cs 0, 7, .inl (ai t2))), (va, .inl (cs 0, 6, .inl (ai aw))), (vb, .inl (cs 0, 6, .inl (ai bw)))]) hOk) (fun q hq => hOk q (by simp only [List.mem_cons, List.not_mem_nil, or_false] at hq ⊢; rcases hq with h | h | h <;> simp [h])) hPz hl2 hl1 hPa hqb hw1.1) (cwV 0 hts (gw_V w_298 w_300 s_7 w_2 w_301) rfl rfl rfl (by decide +kernel) ⟨by rw [hRf]; exact Nat.le_of_ble_eq_true rfl, by rw [hRl]; exact Nat.le_of_ble_eq_true rfl⟩) ⟨K0.blind, B.recv (hF.2 _ (mw_key (k := 0) (X := [(ch, .inr (1, [.ref tt, .ref tq, .int (iI ((n : Int))), .int (iI tu), .int (iI fi), .ref cl2, .ref cr])), (tt, .inl (cs 3, 42, .inr (.inr (.inr (.inr gg2))))), (tq, .inl (cs 0, 7, .inl (ai t2))), (va, .inl (cs 0, 6, .inl (ai aw))), (vb, .inl (cs 0, 6, .inl (ai bw)))]) rfl)) (mw_get (X := [(ch, .inr (1, [.ref tt, .ref tq, .int (iI ((n : Int))), .int (iI tu), .int (iI fi), .ref cl2, .ref cr])), (tt, .inl (cs 3, 42, .inr (.inr (.inr (.inr gg2))))), (tq, .inl (cs 0, 7, .inl (ai t2))), (va, .inl (cs 0, 6, .inl (ai aw))), (vb, .inl (cs 0, 6, .inl (ai bw)))]) hF.1 (k := 0) rfl) rfl, B.pre _⟩ rfl rfl hl.1 rfl (lv_room (Nat.le_of_ble_eq_true rfl)) d_Chain_begin_110 ⟨by rw [hRc]; omega, by rw [hRs]; omega⟩) (fun g110 H locs hw B => ?_)
                    obtain ⟨tm3, gg3, cl3, Z4, t3, hCI3, hG3, hT3, hZ4, ⟨R9, hR1, hR2, hR3⟩, hRb, hTo, ht3, hB4, hfr9, hch9, htt9, htq9⟩ := hw
                    have hstp := ChI.step (r := (fun k j => Z3 (tm2 (6 * k + j)))) (r' := fun k j => Z4 (tm3 (6 * k + j))) (t' := t3) (by omega) h1c h2c h3c heg hd ⟨by omega, hde, he6⟩ hdn hl1 hl2 hqb hwk (fun k hk j hj => by show Z4 (tm3 (6 * k + j)) = Z3 (tm2 (6 * k + j)); rw [(hT3 (6 * k + j) (by omega)).1]; exact (hT3 (6 * k + j) (by omega)).2) hR1 hR2 hR3 hRb hTo ht3
                    have hva9 : g110 va = .inl (cs 0, 6, .inl (ai aw)) := (hfr9 va (hOk va (by simp)) hnva).trans (mw_get (X := [(ch, .inr (1, [.ref tt, .ref tq, .int (iI ((n : Int))), .int (iI tu), .int (iI fi), .ref cl2, .ref cr])), (tt, .inl (cs 3, 42, .inr (.inr (.inr (.inr gg2))))), (tq, .inl (cs 0, 7, .inl (ai t2))), (va, .inl (cs 0, 6, .inl (ai aw))), (vb, .inl (cs 0, 6, .inl (ai bw)))]) hF.1 (k := 3) rfl)
                    have hvb9 : g110 vb = .inl (cs 0, 6, .inl (ai bw)) := (hfr9 vb (hOk vb (by simp)) hnvb).trans (mw_get (X := [(ch, .inr (1, [.ref tt, .ref tq, .int (iI ((n : Int))), .int (iI tu), .int (iI fi), .ref cl2, .ref cr])), (tt, .inl (cs 3, 42, .inr (.inr (.inr (.inr gg2))))), (tq, .inl (cs 0, 7, .inl (ai t2))), (va, .inl (cs 0, 6, .inl (ai aw))), (vb, .inl (cs 0, 6, .inl (ai bw)))]) hF.1 (k := 4) rfl)
                    have hfr4 : ∀ k, Out S Qm k → k ∉ ([ch, tt, tq, va, vb] : List Nat) → g110 k = f k := fun c0 h1 h2 => by rw [hfr9 c0 h1 (fun hm => h2 (by simp only [List.mem_cons, List.not_mem_nil, or_false] at hm ⊢; rcases hm with h | h | h <;> simp [h])), mw_out (X := [(ch, .inr (1, [.ref tt, .ref tq, .int (iI ((n : Int))), .int (iI tu), .int (iI fi), .ref cl2, .ref cr])), (tt, .inl (cs 3, 42, .inr (.inr (.inr (.inr gg2))))), (tq, .inl (cs 0, 7, .inl (ai t2))), (va, .inl (cs 0, 6, .inl (ai aw))), (vb, .inl (cs 0, 6, .inl (ai bw)))]) h2]; exact hfr3 c0 h1 h2
                    have B := B.focus [(ch, .inr (1, [.ref tt, .ref tq, .int (iI ((n : Int))), .int (iI tu), .int (iI fi), .ref cl3, .ref cr])), (tt, .inl (cs 3, 42, .inr (.inr (.inr (.inr gg3))))), (tq, .inl (cs 0, 7, .inl (ai t3))), (va, .inl (cs 0, 6, .inl (ai aw))), (vb, .inl (cs 0, 6, .inl (ai bw)))] (fun q hq => by
                        simp only [List.mem_cons, List.not_mem_nil, or_false] at hq
                        rcases hq with rfl | rfl | rfl | rfl | rfl
                        · exact hch9
                        · exact htt9
                        · exact htq9
                        · exact hva9
                        · exact hvb9)
                    have B : Wb D vwCl (TY cs) L (mw g110 [(ch, .inr (1, [.ref tt, .ref tq, .int (iI ((n : Int))), .int (iI tu), .int (iI fi), .ref cl3, .ref cr])), (tt, .inl (cs 3, 42, .inr (.inr (.inr (.inr gg3))))), (tq, .inl (cs 0, 7, .inl (ai t3))), (va, .inl (cs 0, 6, .inl (ai aw))), (vb, .inl (cs 0, 6, .inl (ai bw)))]) (AL L s.heap.size) s H _ := B
                    have ht3r : -1 ≤ t3 n ∧ t3 n < 6 := by rcases hTo with ⟨h, _⟩ | ⟨q, h1, h2, _⟩ <;> omega
                    refine lv_aload_n hx hb d_Chain_begin_113 rfl (lv_at hl 1 rfl) ?_
                    refine lv_dup hx hb d_Chain_begin_114 rfl ?_
                    refine x_get (C := RX1) (T := TX1) (N := 7) hx hb hts inX1 hown B hF 0 rfl rfl 2 (by decide) (hts _ w_54) (fun _ h9 => h9) rfl d_Chain_begin_115 ?_
                    refine lv_aload_n hx hb d_Chain_begin_118 rfl (lv_at hl 1 rfl) ?_
                    refine x_get (C := RX1) (T := TX1) (N := 7) hx hb hts inX1 hown B hF 0 rfl rfl 1 (by decide) (hts _ w_53) (fun _ h9 => h9) rfl d_Chain_begin_119 ?_
                    refine lv_iload_n hx hb d_Chain_begin_122 rfl (lv_at hl 0 rfl) ?_
                    refine x_iald hx hb B hF 2 0 rfl rfl n (by omega) (by omega) (by decide) d_Chain_begin_123 ?_
                    refine x_iconst hx hb d_Chain_begin_124 ?_
                    refine x_icmp_eq (tgt := 132) hx hb d_Chain_begin_125 (by decide) (by omega) (by omega) (fun h125 => ?_) (fun h125 => ?_)
                    · refine x_iconst hx hb d_Chain_begin_132 ?_
                      refine x_iadd hx hb d_Chain_begin_133 ?_
                      rw [show (n : Int) + 0 = (n : Int) by omega]
                      refine x_put (C := RX1) (T := TX1) (N := 7) hx hb hts inX1 tyX1 tyX1_ok nmX1 hown B hF 0 rfl rfl 2 (by decide) (hts _ w_54) (fun _ h9 => h9) rfl (tyX1_ok 2 (by decide)) rfl rfl (Nat.le_of_ble_eq_true rfl) d_Chain_begin_134 (fun H locs B => ?_)
                      have B : Wb D vwCl (TY cs) L (mw g110 [(ch, .inr (1, [.ref tt, .ref tq, .int (iI ((n : Int))), .int (iI tu), .int (iI fi), .ref cl3, .ref cr])), (tt, .inl (cs 3, 42, .inr (.inr (.inr (.inr gg3))))), (tq, .inl (cs 0, 7, .inl (ai t3))), (va, .inl (cs 0, 6, .inl (ai aw))), (vb, .inl (cs 0, 6, .inl (ai bw)))]) (AL L s.heap.size) s H _ := B
                      refine x_iinc (lv' := [(3, .int (iI (((n : Int)) + 1))), (0, .ref ch), (1, .ref va), (2, .ref vb)]) hx hb d_Chain_begin_137 hl (q := 0) rfl rfl (by decide) rfl (fun ls hl => ?_)
                      refine lv_goto (tgt := 84) hx hb d_Chain_begin_140 (by decide) ?_
                      refine lv_iload_n hx hb d_Chain_begin_84 rfl (lv_at hl 0 rfl) ?_
                      refine lv_aload_n hx hb d_Chain_begin_85 rfl (lv_at hl 1 rfl) ?_
                      refine x_get (C := RX1) (T := TX1) (N := 7) hx hb hts inX1 hown B hF 0 rfl rfl 2 (by decide) (hts _ w_54) (fun _ h9 => h9) rfl d_Chain_begin_86 ?_
                      refine x_icmp_ne (tgt := 143) hx hb d_Chain_begin_89 (by decide) (by omega) (by omega) (fun h89 => ?_) (fun h89 => ?_)
                      · subst hQ hav
                        exact x_vret hx hb hr hlocks B d_Chain_begin_143 (by first | (exfalso; omega) | exact ⟨n, ka, kb, tm3, gg3, cl3, Z4, t3, by omega, by omega, ⟨hka6, hkaz, hkal⟩, ⟨hkb6, hkbz, hkbl⟩, hCI3, hG3, (fun b hb => by rw [hZ4 b hb]; exact hZ3 b hb), (hstp.1 (by omega)).1, (hstp.1 (by omega)).2.1, (hstp.1 (by omega)).2.2, hB4.keep (X := [(ch, .inr (1, [.ref tt, .ref tq, .int (iI ((n : Int))), .int (iI tu), .int (iI fi), .ref cl3, .ref cr])), (tt, .inl (cs 3, 42, .inr (.inr (.inr (.inr gg3))))), (tq, .inl (cs 0, 7, .inl (ai t3))), (va, .inl (cs 0, 6, .inl (ai aw))), (vb, .inl (cs 0, 6, .inl (ai bw)))]) hOk, fun k h1 h2 => by rw [mw_out (X := [(ch, .inr (1, [.ref tt, .ref tq, .int (iI ((n : Int))), .int (iI tu), .int (iI fi), .ref cl3, .ref cr])), (tt, .inl (cs 3, 42, .inr (.inr (.inr (.inr gg3))))), (tq, .inl (cs 0, 7, .inl (ai t3))), (va, .inl (cs 0, 6, .inl (ai aw))), (vb, .inl (cs 0, 6, .inl (ai bw)))]) h2]; exact hfr4 k h1 h2, mw_get (X := [(ch, .inr (1, [.ref tt, .ref tq, .int (iI ((n : Int))), .int (iI tu), .int (iI fi), .ref cl3, .ref cr])), (tt, .inl (cs 3, 42, .inr (.inr (.inr (.inr gg3))))), (tq, .inl (cs 0, 7, .inl (ai t3))), (va, .inl (cs 0, 6, .inl (ai aw))), (vb, .inl (cs 0, 6, .inl (ai bw)))]) hF.1 (k := 0) rfl, mw_get (X := [(ch, .inr (1, [.ref tt, .ref tq, .int (iI ((n : Int))), .int (iI tu), .int (iI fi), .ref cl3, .ref cr])), (tt, .inl (cs 3, 42, .inr (.inr (.inr (.inr gg3))))), (tq, .inl (cs 0, 7, .inl (ai t3))), (va, .inl (cs 0, 6, .inl (ai aw))), (vb, .inl (cs 0, 6, .inl (ai bw)))]) hF.1 (k := 1) rfl, mw_get (X := [(ch, .inr (1, [.ref tt, .ref tq, .int (iI ((n : Int))), .int (iI tu), .int (iI fi), .ref cl3, .ref cr])), (tt, .inl (cs 3, 42, .inr (.inr (.inr (.inr gg3))))), (tq, .inl (cs 0, 7, .inl (ai t3))), (va, .inl (cs 0, 6, .inl (ai aw))), (vb, .inl (cs 0, 6, .inl (ai bw)))]) hF.1 (k := 2) rfl, mw_get (X := [(ch, .inr (1, [.ref tt, .ref tq, .int (iI ((n : Int))), .int (iI tu), .int (iI fi), .ref cl3, .ref cr])), (tt, .inl (cs 3, 42, .inr (.inr (.inr (.inr gg3))))), (tq, .inl (cs 0, 7, .inl (ai t3))), (va, .inl (cs 0, 6, .inl (ai aw))), (vb, .inl (cs 0, 6, .inl (ai bw)))]) hF.1 (k := 3) rfl, mw_get (X := [(ch, .inr (1, [.ref tt, .ref tq, .int (iI ((n : Int))), .int (iI tu), .int (iI fi), .ref cl3, .ref cr])), (tt, .inl (cs 3, 42, .inr (.inr (.inr (.inr gg3))))), (tq, .inl (cs 0, 7, .inl (ai t3))), (va, .inl (cs 0, 6, .inl (ai aw))), (vb, .inl (cs 0, 6, .inl (ai bw)))]) hF.1 (k := 4) rfl⟩)
                      · exfalso; omega
                    · refine x_iconst hx hb d_Chain_begin_128 ?_
                      refine lv_goto (tgt := 133) hx hb d_Chain_begin_129 (by decide) ?_
                      refine x_iadd hx hb d_Chain_begin_133 ?_
                      rw [show (n : Int) + 1 = ((n + 1 : Nat) : Int) by omega]
                      refine x_put (C := RX1) (T := TX1) (N := 7) hx hb hts inX1 tyX1 tyX1_ok nmX1 hown B hF 0 rfl rfl 2 (by decide) (hts _ w_54) (fun _ h9 => h9) rfl (tyX1_ok 2 (by decide)) rfl rfl (Nat.le_of_ble_eq_true rfl) d_Chain_begin_134 (fun H locs B => ?_)
                      have B : Wb D vwCl (TY cs) L (mw g110 [(ch, .inr (1, [.ref tt, .ref tq, .int (iI (((n + 1 : Nat) : Int))), .int (iI tu), .int (iI fi), .ref cl3, .ref cr])), (tt, .inl (cs 3, 42, .inr (.inr (.inr (.inr gg3))))), (tq, .inl (cs 0, 7, .inl (ai t3))), (va, .inl (cs 0, 6, .inl (ai aw))), (vb, .inl (cs 0, 6, .inl (ai bw)))]) (AL L s.heap.size) s H _ := B
                      refine x_iinc (lv' := [(3, .int (iI (((n : Int)) + 1))), (0, .ref ch), (1, .ref va), (2, .ref vb)]) hx hb d_Chain_begin_137 hl (q := 0) rfl rfl (by decide) rfl (fun ls hl => ?_)
                      refine lv_goto (tgt := 84) hx hb d_Chain_begin_140 (by decide) ?_
                      rw [show (n : Int) + 1 = ((n + 1 : Nat) : Int) by omega] at hl
                      exact ih_LB (n + 1) g110 tm3 gg3 cl3 Z4 t3 (by omega) (by omega) hB4 hCI3 hG3 (fun b hb => by rw [hZ4 b hb]; exact hZ3 b hb) (hstp.2 (by omega)) hfr4 _ _ _ B (lv_sub hl [0, 1, 2, 3] rfl)
          exact LB _ 2 f2 tm gg cl Z2 t1 (Nat.lt_succ_self _) (by omega) hB2 hCI hG hZo (ChI.first ⟨by omega, hka6⟩ ⟨by omega, hkab⟩ hkaz (hkal (by omega)) hkbz (hkbl (by omega)) hRA hRB (fun j hj => by rw [Nat.mul_zero, Nat.zero_add]; exact (hI j (by omega)).1) (fun j hj => (hI j (by omega)).2) (by rw [ht10]; omega) (by rw [ht11]; omega)) hfr2 _ _ _ B (lv_sub hl [0, 1, 2, 3] rfl)
        · refine x_iconst hx hb d_Chain_begin_74 ?_
          refine lv_goto (tgt := 79) hx hb d_Chain_begin_75 (by decide) ?_
          refine x_put (C := RX1) (T := TX1) (N := 7) hx hb hts inX1 tyX1 tyX1_ok nmX1 hown B hF 0 rfl rfl 2 (by decide) (hts _ w_54) (fun _ h9 => h9) rfl (tyX1_ok 2 (by decide)) rfl rfl (Nat.le_of_ble_eq_true rfl) d_Chain_begin_79 (fun H locs B => ?_)
          have B : Wb D vwCl (TY cs) L (mw f2 [(ch, .inr (1, [.ref tt, .ref tq, .int (iI 1), .int (iI tu), .int (iI fi), .ref cl, .ref cr])), (tt, .inl (cs 3, 42, .inr (.inr (.inr (.inr gg))))), (tq, .inl (cs 0, 7, .inl (ai t1))), (va, .inl (cs 0, 6, .inl (ai aw))), (vb, .inl (cs 0, 6, .inl (ai bw)))]) (AL L s.heap.size) s H _ := B
          refine x_iconst hx hb d_Chain_begin_82 ?_
          refine lv_istore_n (lv' := [(3, .int (iI 2)), (0, .ref ch), (1, .ref va), (2, .ref vb)]) hx hb d_Chain_begin_83 rfl hl (by decide) rfl (fun ls hl => ?_)
          refine lv_iload_n hx hb d_Chain_begin_84 rfl (lv_at hl 0 rfl) ?_
          refine lv_aload_n hx hb d_Chain_begin_85 rfl (lv_at hl 1 rfl) ?_
          refine x_get (C := RX1) (T := TX1) (N := 7) hx hb hts inX1 hown B hF 0 rfl rfl 2 (by decide) (hts _ w_54) (fun _ h9 => h9) rfl d_Chain_begin_86 ?_
          refine x_icmp_ne (tgt := 143) hx hb d_Chain_begin_89 (by decide) (by omega) (by omega) (fun h89 => ?_) (fun h89 => ?_)
          · subst hQ hav
            exact x_vret hx hb hr hlocks B d_Chain_begin_143 (by
      have hr0 : ∀ j, j < 6 → Z2 (tm (6 * 0 + j)) = aw j := fun j hj => by rw [Nat.mul_zero, Nat.zero_add]; exact (hI j (by omega)).1
      exact ⟨1, ka, kb, tm, gg, cl, Z2, t1, by omega, by omega, ⟨hka6, hkaz, hkal⟩, ⟨hkb6, hkbz, hkbl⟩, hCI, hG, hZo, Or.inl ⟨rfl, hr0, fun j hj => hkbz j (by omega) hj⟩, (fun k hk => by
        rw [show k = 0 by omega]
        exact ⟨ka - 1, by omega, by rw [ht10]; omega, fun h => hkal (by omega) ((hr0 _ (by omega)).symm.trans h), fun j h1 h2 => (hr0 j h2).trans (hkaz j (by omega) h2)⟩), (fun k hk => by
        rw [show k = 0 by omega]
        exact ⟨5, 18, Nat.le_refl _, fun j h1 h2 => by omega, hRA.congr hr0, by decide⟩), hB2.keep (X := [(ch, .inr (1, [.ref tt, .ref tq, .int (iI 1), .int (iI tu), .int (iI fi), .ref cl, .ref cr])), (tt, .inl (cs 3, 42, .inr (.inr (.inr (.inr gg))))), (tq, .inl (cs 0, 7, .inl (ai t1))), (va, .inl (cs 0, 6, .inl (ai aw))), (vb, .inl (cs 0, 6, .inl (ai bw)))]) hOk, fun k h1 h2 => by rw [mw_out (X := [(ch, .inr (1, [.ref tt, .ref tq, .int (iI 1), .int (iI tu), .int (iI fi), .ref cl, .ref cr])), (tt, .inl (cs 3, 42, .inr (.inr (.inr (.inr gg))))), (tq, .inl (cs 0, 7, .inl (ai t1))), (va, .inl (cs 0, 6, .inl (ai aw))), (vb, .inl (cs 0, 6, .inl (ai bw)))]) h2]; exact hfr2 k h1 h2, mw_get (X := [(ch, .inr (1, [.ref tt, .ref tq, .int (iI 1), .int (iI tu), .int (iI fi), .ref cl, .ref cr])), (tt, .inl (cs 3, 42, .inr (.inr (.inr (.inr gg))))), (tq, .inl (cs 0, 7, .inl (ai t1))), (va, .inl (cs 0, 6, .inl (ai aw))), (vb, .inl (cs 0, 6, .inl (ai bw)))]) hF.1 (k := 0) rfl, mw_get (X := [(ch, .inr (1, [.ref tt, .ref tq, .int (iI 1), .int (iI tu), .int (iI fi), .ref cl, .ref cr])), (tt, .inl (cs 3, 42, .inr (.inr (.inr (.inr gg))))), (tq, .inl (cs 0, 7, .inl (ai t1))), (va, .inl (cs 0, 6, .inl (ai aw))), (vb, .inl (cs 0, 6, .inl (ai bw)))]) hF.1 (k := 1) rfl, mw_get (X := [(ch, .inr (1, [.ref tt, .ref tq, .int (iI 1), .int (iI tu), .int (iI fi), .ref cl, .ref cr])), (tt, .inl (cs 3, 42, .inr (.inr (.inr (.inr gg))))), (tq, .inl (cs 0, 7, .inl (ai t1))), (va, .inl (cs 0, 6, .inl (ai aw))), (vb, .inl (cs 0, 6, .inl (ai bw)))]) hF.1 (k := 2) rfl, mw_get (X := [(ch, .inr (1, [.ref tt, .ref tq, .int (iI 1), .int (iI tu), .int (iI fi), .ref cl, .ref cr])), (tt, .inl (cs 3, 42, .inr (.inr (.inr (.inr gg))))), (tq, .inl (cs 0, 7, .inl (ai t1))), (va, .inl (cs 0, 6, .inl (ai aw))), (vb, .inl (cs 0, 6, .inl (ai bw)))]) hF.1 (k := 3) rfl, mw_get (X := [(ch, .inr (1, [.ref tt, .ref tq, .int (iI 1), .int (iI tu), .int (iI fi), .ref cl, .ref cr])), (tt, .inl (cs 3, 42, .inr (.inr (.inr (.inr gg))))), (tq, .inl (cs 0, 7, .inl (ai t1))), (va, .inl (cs 0, 6, .inl (ai aw))), (vb, .inl (cs 0, 6, .inl (ai bw)))]) hF.1 (k := 4) rfl⟩)
          · exfalso; omega
      · have hC1 : Ck (tm k) := (hCI.1 _ (by omega)).1
        have hC2 : Ck (tm (6 + k)) := (hCI.1 _ (by omega)).1
        have hS1 : S (tm k) := hCS _ hC1
        have hS2 : S (tm (6 + k)) := hCS _ hC2
        have h9k := haw k (by omega)
        have h9b := hbw k (by omega)
        refine lv_aload_n hx hb d_Chain_begin_28 rfl (lv_at hl 1 rfl) ?_
        refine x_get (C := RX1) (T := TX1) (N := 7) hx hb hts inX1 hown B hF 0 rfl rfl 0 (by decide) (hts _ w_52) (fun _ h9 => h9) rfl d_Chain_begin_29 ?_
        refine lv_iload_n hx hb d_Chain_begin_32 rfl (lv_at hl 0 rfl) ?_
        refine x_aald hx hb B hF 1 3 rfl rfl k (rfl) (by omega) (by decide) (hG _ (by omega)) d_Chain_begin_33 ?_
        refine lv_aload_n hx hb d_Chain_begin_34 rfl (lv_at hl 2 rfl) ?_
        refine lv_iload_n hx hb d_Chain_begin_35 rfl (lv_at hl 0 rfl) ?_
        refine x_iald hx hb B hF 3 0 rfl rfl k (by omega) (by omega) (by decide) d_Chain_begin_36 ?_
        refine x_i2l hx hb d_Chain_begin_37 (by omega) ?_
        have hx_38 := hB2.keep (X := [(ch, .inr (1, [.ref tt, .ref tq, .int (iI n0), .int (iI tu), .int (iI fi), .ref cl, .ref cr])), (tt, .inl (cs 3, 42, .inr (.inr (.inr (.inr gg))))), (tq, .inl (cs 0, 7, .inl (ai t1))), (va, .inl (cs 0, 6, .inl (ai aw))), (vb, .inl (cs 0, 6, .inl (ai bw)))]) hOk
        obtain ⟨sd_380, n_380, lm_380, c1_380, c2_380, c3_380⟩ := hx_38 (tm k) hS1
        refine x_callv B hA (va_runV (As := [.long (lI (aw k))]) (rest := []) ⟨hx, hb, hml, hown, hts⟩ (c_Big_put l D cs _ _ _ (tm k) (Qm (tm k)) sd_380 n_380 lm_380 (aw k) (hSp.fc1 hS1) c1_380 c2_380 (by omega)) (cwV 1 hts (gw_V w_293 w_294 w_295 w_3 w_296) rfl rfl rfl (by decide +kernel) ⟨by rw [hRf]; exact Nat.le_of_ble_eq_true rfl, by rw [hRl]; exact Nat.le_of_ble_eq_true rfl⟩) ⟨K0.blind, B.recv (hSp.1 _ (hS1)).1 c1_380 rfl, B.pre _⟩ rfl rfl hl.1 rfl (lv_room (Nat.le_of_ble_eq_true rfl)) d_Chain_begin_38 ⟨by rw [hRc]; omega, by rw [hRs]; omega⟩) (fun g38 H locs hw B => ?_)
        obtain ⟨s_38, n_38, l_38, hz_38, rfl⟩ := hw
        obtain ⟨f_38, hf_38⟩ : ∃ f_38, f_38 = mw (mw f2 [(ch, .inr (1, [.ref tt, .ref tq, .int (iI n0), .int (iI tu), .int (iI fi), .ref cl, .ref cr])), (tt, .inl (cs 3, 42, .inr (.inr (.inr (.inr gg))))), (tq, .inl (cs 0, 7, .inl (ai t1))), (va, .inl (cs 0, 6, .inl (ai aw))), (vb, .inl (cs 0, 6, .inl (ai bw)))]) [((tm k), .inr (0, [.int (iI s_38), .int (iI (n_38 : Int)), .ref (Qm (tm k))])), (Qm (tm k), .inl (cs 0, 48, .inl (ai l_38)))] := ⟨_, rfl⟩
        have hB_38 : BH cs f_38 S Qm (up Z2 (tm k) (aw k)) := by rw [hf_38]; exact BH.set hSp (hB2.keep (X := [(ch, .inr (1, [.ref tt, .ref tq, .int (iI n0), .int (iI tu), .int (iI fi), .ref cl, .ref cr])), (tt, .inl (cs 3, 42, .inr (.inr (.inr (.inr gg))))), (tq, .inl (cs 0, 7, .inl (ai t1))), (va, .inl (cs 0, 6, .inl (ai aw))), (vb, .inl (cs 0, 6, .inl (ai bw)))]) hOk) hS1 hz_38
        have hfr_38 : ∀ k, Out S Qm k → k ∉ ([ch, tt, tq, va, vb] : List Nat) → f_38 k = f2 k := fun k h1 h2 => by rw [hf_38, mw_out (h1.two hS1), mw_out (X := [(ch, .inr (1, [.ref tt, .ref tq, .int (iI n0), .int (iI tu), .int (iI fi), .ref cl, .ref cr])), (tt, .inl (cs 3, 42, .inr (.inr (.inr (.inr gg))))), (tq, .inl (cs 0, 7, .inl (ai t1))), (va, .inl (cs 0, 6, .inl (ai aw))), (vb, .inl (cs 0, 6, .inl (ai bw)))]) h2]
        rw [← hf_38] at B
        have B := B.focus [(ch, .inr (1, [.ref tt, .ref tq, .int (iI n0), .int (iI tu), .int (iI fi), .ref cl, .ref cr])), (tt, .inl (cs 3, 42, .inr (.inr (.inr (.inr gg))))), (tq, .inl (cs 0, 7, .inl (ai t1))), (va, .inl (cs 0, 6, .inl (ai aw))), (vb, .inl (cs 0, 6, .inl (ai bw)))] (by rw [hf_38]; exact foc hF.1 (fun k hk => (hOk k hk).two hS1))
        have B : Wb D vwCl (TY cs) L (mw f_38 [(ch, .inr (1, [.ref tt, .ref tq, .int (iI n0), .int (iI tu), .int (iI fi), .ref cl, .ref cr])), (tt, .inl (cs 3, 42, .inr (.inr (.inr (.inr gg))))), (tq, .inl (cs 0, 7, .inl (ai t1))), (va, .inl (cs 0, 6, .inl (ai aw))), (vb, .inl (cs 0, 6, .inl (ai bw)))]) (AL L s.heap.size) s H _ := B
        refine lv_aload_n hx hb d_Chain_begin_41 rfl (lv_at hl 1 rfl) ?_
        refine x_get (C := RX1) (T := TX1) (N := 7) hx hb hts inX1 hown B hF 0 rfl rfl 0 (by decide) (hts _ w_52) (fun _ h9 => h9) rfl d_Chain_begin_42 ?_
        refine x_bipush hx hb d_Chain_begin_45 (by decide) ?_
        refine lv_iload_n hx hb d_Chain_begin_47 rfl (lv_at hl 0 rfl) ?_
        refine x_iadd hx hb d_Chain_begin_48 ?_
        refine x_aald hx hb B hF 1 3 rfl rfl (6 + k) (by omega) (by omega) (by decide) (hG _ (by omega)) d_Chain_begin_49 ?_
        refine lv_aload_n hx hb d_Chain_begin_50 rfl (lv_at hl 3 rfl) ?_
        refine lv_iload_n hx hb d_Chain_begin_51 rfl (lv_at hl 0 rfl) ?_
        refine x_iald hx hb B hF 4 0 rfl rfl k (by omega) (by omega) (by decide) d_Chain_begin_52 ?_
        refine x_i2l hx hb d_Chain_begin_53 (by omega) ?_
        have hx_54 := hB_38.keep (X := [(ch, .inr (1, [.ref tt, .ref tq, .int (iI n0), .int (iI tu), .int (iI fi), .ref cl, .ref cr])), (tt, .inl (cs 3, 42, .inr (.inr (.inr (.inr gg))))), (tq, .inl (cs 0, 7, .inl (ai t1))), (va, .inl (cs 0, 6, .inl (ai aw))), (vb, .inl (cs 0, 6, .inl (ai bw)))]) hOk
        obtain ⟨sd_540, n_540, lm_540, c1_540, c2_540, c3_540⟩ := hx_54 (tm (6 + k)) hS2
        refine x_callv B hA (va_runV (As := [.long (lI (bw k))]) (rest := []) ⟨hx, hb, hml, hown, hts⟩ (c_Big_put l D cs _ _ _ (tm (6 + k)) (Qm (tm (6 + k))) sd_540 n_540 lm_540 (bw k) (hSp.fc1 hS2) c1_540 c2_540 (by omega)) (cwV 1 hts (gw_V w_293 w_294 w_295 w_3 w_296) rfl rfl rfl (by decide +kernel) ⟨by rw [hRf]; exact Nat.le_of_ble_eq_true rfl, by rw [hRl]; exact Nat.le_of_ble_eq_true rfl⟩) ⟨K0.blind, B.recv (hSp.1 _ (hS2)).1 c1_540 rfl, B.pre _⟩ rfl rfl hl.1 rfl (lv_room (Nat.le_of_ble_eq_true rfl)) d_Chain_begin_54 ⟨by rw [hRc]; omega, by rw [hRs]; omega⟩) (fun g54 H locs hw B => ?_)
        obtain ⟨s_54, n_54, l_54, hz_54, rfl⟩ := hw
        obtain ⟨f_54, hf_54⟩ : ∃ f_54, f_54 = mw (mw f_38 [(ch, .inr (1, [.ref tt, .ref tq, .int (iI n0), .int (iI tu), .int (iI fi), .ref cl, .ref cr])), (tt, .inl (cs 3, 42, .inr (.inr (.inr (.inr gg))))), (tq, .inl (cs 0, 7, .inl (ai t1))), (va, .inl (cs 0, 6, .inl (ai aw))), (vb, .inl (cs 0, 6, .inl (ai bw)))]) [((tm (6 + k)), .inr (0, [.int (iI s_54), .int (iI (n_54 : Int)), .ref (Qm (tm (6 + k)))])), (Qm (tm (6 + k)), .inl (cs 0, 48, .inl (ai l_54)))] := ⟨_, rfl⟩
        have hB_54 : BH cs f_54 S Qm (up ((up Z2 (tm k) (aw k))) (tm (6 + k)) (bw k)) := by rw [hf_54]; exact BH.set hSp (hB_38.keep (X := [(ch, .inr (1, [.ref tt, .ref tq, .int (iI n0), .int (iI tu), .int (iI fi), .ref cl, .ref cr])), (tt, .inl (cs 3, 42, .inr (.inr (.inr (.inr gg))))), (tq, .inl (cs 0, 7, .inl (ai t1))), (va, .inl (cs 0, 6, .inl (ai aw))), (vb, .inl (cs 0, 6, .inl (ai bw)))]) hOk) hS2 hz_54
        have hfr_54 : ∀ k, Out S Qm k → k ∉ ([ch, tt, tq, va, vb] : List Nat) → f_54 k = f_38 k := fun k h1 h2 => by rw [hf_54, mw_out (h1.two hS2), mw_out (X := [(ch, .inr (1, [.ref tt, .ref tq, .int (iI n0), .int (iI tu), .int (iI fi), .ref cl, .ref cr])), (tt, .inl (cs 3, 42, .inr (.inr (.inr (.inr gg))))), (tq, .inl (cs 0, 7, .inl (ai t1))), (va, .inl (cs 0, 6, .inl (ai aw))), (vb, .inl (cs 0, 6, .inl (ai bw)))]) h2]
        rw [← hf_54] at B
        have B := B.focus [(ch, .inr (1, [.ref tt, .ref tq, .int (iI n0), .int (iI tu), .int (iI fi), .ref cl, .ref cr])), (tt, .inl (cs 3, 42, .inr (.inr (.inr (.inr gg))))), (tq, .inl (cs 0, 7, .inl (ai t1))), (va, .inl (cs 0, 6, .inl (ai aw))), (vb, .inl (cs 0, 6, .inl (ai bw)))] (by rw [hf_54]; exact foc hF.1 (fun k hk => (hOk k hk).two hS2))
        have B : Wb D vwCl (TY cs) L (mw f_54 [(ch, .inr (1, [.ref tt, .ref tq, .int (iI n0), .int (iI tu), .int (iI fi), .ref cl, .ref cr])), (tt, .inl (cs 3, 42, .inr (.inr (.inr (.inr gg))))), (tq, .inl (cs 0, 7, .inl (ai t1))), (va, .inl (cs 0, 6, .inl (ai aw))), (vb, .inl (cs 0, 6, .inl (ai bw)))]) (AL L s.heap.size) s H _ := B
        refine x_iinc (lv' := [(3, .int (iI (((k : Int)) + 1))), (0, .ref ch), (1, .ref va), (2, .ref vb)]) hx hb d_Chain_begin_57 hl (q := 0) rfl rfl (by decide) rfl (fun ls hl => ?_)
        refine lv_goto (tgt := 22) hx hb d_Chain_begin_60 (by decide) ?_
        exact ih_LA (k + 1) f_54 ((up ((up Z2 (tm k) (aw k))) (tm (6 + k)) (bw k))) (by omega) (by omega) hB_54 (fun j hj => by
                    by_cases hjk : j = k
                    · rw [hjk]; exact ⟨by rw [up_ne _ _ (hinj _ _ (by omega) (by omega) (by omega)), up_self], by rw [up_self]⟩
                    · exact ⟨by rw [up_ne _ _ (hinj _ _ (by omega) (by omega) (by omega)), up_ne _ _ (hinj _ _ (by omega) (by omega) (by omega))]; exact (hI j (by omega)).1, by rw [up_ne _ _ (hinj _ _ (by omega) (by omega) (by omega)), up_ne _ _ (hinj _ _ (by omega) (by omega) (by omega))]; exact (hI j (by omega)).2⟩) (fun b hb => by rw [up_ne _ _ (ne_of_not hb hC2), up_ne _ _ (ne_of_not hb hC1)]; exact hZo b hb) (fun k h1 h2 => by rw [hfr_54 k h1 h2, hfr_38 k h1 h2]; exact hfr2 k h1 h2) _ _ _ B (lv_sub hl [0, 1, 2, 3] rfl)
  exact LA _ 0 f Zf (Nat.lt_succ_self _) (by omega) hB (fun j hj => by omega) (fun b _ => rfl) (fun k _ _ => rfl) _ _ _ B (lv_sub hl [0, 1, 2, 3] rfl)
set_option maxHeartbeats 8000000 in
set_option maxRecDepth 100000 in
theorem c_Chain_begin_s (l : Launch) (D : va_G) (cs : Nat → ClassId) (L : List Nat) (f : Nat → va_E) (sz : Nat) (ch tt tq cl cr va : Nat) (n0 tu fi : Int) (tps aw : Nat → Int) (gg : Nat → Option Nat) (tm : Nat → Nat) (Ck S : Nat → Prop) (Qm : Nat → Nat) (Zf : Nat → Int) (hF : Fc L [ch, tt, tq, va]) (ha : f ch = .inr (1, [.ref tt, .ref tq, .int (iI n0), .int (iI tu), .int (iI fi), .ref cl, .ref cr])) (htt : f tt = .inl (cs 3, 42, .inr (.inr (.inr (.inr gg))))) (htq : f tq = .inl (cs 0, 7, .inl (ai tps))) (hva : f va = .inl (cs 0, 6, .inl (ai aw))) (hG : ∀ t, t < 42 → gg t = some (tm t)) (hCI : CI Ck tm cl cr) (hCS : ∀ b, Ck b → S b) (hSp : Sp L S Qm) (hB : BH cs f S Qm Zf) (hOk : ∀ k ∈ ([ch, tt, tq, va] : List Nat), Out S Qm k) (haw : ∀ j, j < 6 → -262144 < aw j ∧ aw j < 262144) (hdeg : ∀ ka kb : Nat, ka ≤ 6 → kb ≤ 6 → (∀ j, ka ≤ j → j < 6 → aw j = 0) → (0 < kb → aw (kb - 1) ≠ 0) → kb ≤ ka) (hANz : Nz aw) : Met l (⟨"RealRoots$Chain", "begin", "([I[I)V"⟩ : MethodName) (.code (⟨"RealRoots$Chain", "begin", "([I[I)V"⟩ : MethodName) prog_3_method_2_code 4 (Option.none : Option Jvm.ClassFile.FieldType) :: gw) ({ frames := 2, cells := 0, slots := 0, locals := 120 }) (va_Pc [.ref ch, .ref va, .ref va] (K0 D vwCl (TY cs) L f sz)) (va_Qv (fun (g : Nat → va_E) => ∃ (n ka kb : Nat) (tm' : Nat → Nat) (gg' : Nat → Option Nat) (cl' : Nat) (Z' t' : Nat → Int), 1 ≤ n ∧ n ≤ kb + 1 ∧ (ka ≤ 6 ∧ (∀ j, ka ≤ j → j < 6 → aw j = 0) ∧ (0 < ka → aw (ka - 1) ≠ 0)) ∧ (kb ≤ 6 ∧ (∀ j, kb ≤ j → j < 6 → aw j = 0) ∧ (0 < kb → aw (kb - 1) ≠ 0)) ∧ CI Ck tm' cl' cr ∧ (∀ t, t < 42 → gg' t = some (tm' t)) ∧ (∀ b, ¬ Ck b → Z' b = Zf b) ∧ SeqC aw aw (fun k j => Z' (tm' (6 * k + j))) n ∧ TopsC t' (fun k j => Z' (tm' (6 * k + j))) n ∧ BtC (fun k j => Z' (tm' (6 * k + j))) n ∧ BH cs g S Qm Z' ∧ (∀ k, Out S Qm k → k ∉ ([ch, tt, tq, va] : List Nat) → g k = f k) ∧ g ch = .inr (1, [.ref tt, .ref tq, .int (iI ((n : Int))), .int (iI tu), .int (iI fi), .ref (cl'), .ref cr]) ∧ g tt = .inl (cs 3, 42, .inr (.inr (.inr (.inr (gg'))))) ∧ g tq = .inl (cs 0, 7, .inl (ai (t'))) ∧ g va = .inl (cs 0, 6, .inl (ai aw))) (K1 D vwCl (TY cs) (AL L sz) L) (AL L sz)) 0 0 (AL L sz) := by
  refine Met.ofW (cc := prog_3_method_2_code) (maxL := 4) (ret := (Option.none : Option Jvm.ClassFile.FieldType)) (by decide) rfl ?_
  intro p e s m args below meth c s₁ Bd hml hv
  obtain ⟨rfl, hk0⟩ := hv
  obtain ⟨hsz, B⟩ := hk0.start
  subst hsz
  have hx := Bd.exec
  have hb := Bd.bytes
  have hr := Bd.returns
  have hlocks := Bd.notSynchronized
  have hts0 := atoms_spec Bd.pre
  have hown : s.vm.findClass RX1 = some m.cls := findClass_of_methodNamed Bd.named
  have hA : ∀ q, s.heap.size ≤ q → AL L s.heap.size q := fun _ h => Or.inr h
  have hl := lv_entry ([.ref ch, .ref va, .ref va]) (n := 4) (Nat.le_of_ble_eq_true rfl)
  rw [lg_entry_eq]
  generalize (lg_sl ([.ref ch, .ref va, .ref va]) ++ List.replicate (4 - (lg_sl ([.ref ch, .ref va, .ref va])).length) Slot.unset).toArray = ls at hl ⊢
  refine absQ (fun Q R av hQ hR hav => ?_)
  have hts : ∀ w ∈ gw, w.before av s = true := by rw [hav]; exact fun w h => hts0 w (List.mem_cons_of_mem _ h)
  have hRf : R.frames = 2 := by rw [hR]; rfl
  have hRl : R.locals = 120 := by rw [hR]; rfl
  have hRc : R.cells = 0 := by rw [hR]; rfl
  have hRs : R.slots = 0 := by rw [hR]; rfl
  clear hR hts0 Bd
  have hl : lv_has ls 4 [(0, .ref ch), (1, .ref va), (2, .ref va)] := hl
  have hinj : ∀ t u, t < 42 → u < 42 → t ≠ u → tm t ≠ tm u := fun t u ht hu h e => h (hCI.2.1 t u ht hu e)
  have hRA : RowB aw 18 := fun j hj => by have := haw j hj; rw [show (2 : Int) ^ 18 = 262144 from rfl]; omega
  have hRB := hRA
  have hnva : va ∉ ([ch, tt, tq] : List Nat) := by have h9 := hF.1; simp only [List.nodup_cons, List.mem_cons, List.not_mem_nil, or_false, not_or, List.nodup_nil, not_false_eq_true, and_true] at h9 ⊢; obtain ⟨⟨_, q1⟩, ⟨_, q2⟩, q3⟩ := h9; exact ⟨fun h => q1.2 h.symm, fun h => q2 h.symm, fun h => q3 h.symm⟩
  have hfx : ∀ q ∈ ([(ch, .inr (1, [.ref tt, .ref tq, .int (iI n0), .int (iI tu), .int (iI fi), .ref cl, .ref cr])), (tt, .inl (cs 3, 42, .inr (.inr (.inr (.inr gg))))), (tq, .inl (cs 0, 7, .inl (ai tps))), (va, .inl (cs 0, 6, .inl (ai aw)))] : List (Nat × va_E)), f q.1 = q.2 := fun q hq => by
    simp only [List.mem_cons, List.not_mem_nil, or_false] at hq
    rcases hq with rfl | rfl | rfl | rfl
    · exact ha
    · exact htt
    · exact htq
    · exact hva
  have hmw : mw f [(ch, .inr (1, [.ref tt, .ref tq, .int (iI n0), .int (iI tu), .int (iI fi), .ref cl, .ref cr])), (tt, .inl (cs 3, 42, .inr (.inr (.inr (.inr gg))))), (tq, .inl (cs 0, 7, .inl (ai tps))), (va, .inl (cs 0, 6, .inl (ai aw)))] = f := mw_self (fun k a e hk => hfx (a, e) (List.mem_of_getElem? hk))
  have B := B.focus [(ch, .inr (1, [.ref tt, .ref tq, .int (iI n0), .int (iI tu), .int (iI fi), .ref cl, .ref cr])), (tt, .inl (cs 3, 42, .inr (.inr (.inr (.inr gg))))), (tq, .inl (cs 0, 7, .inl (ai tps))), (va, .inl (cs 0, 6, .inl (ai aw)))] hfx
  refine lv_aload_n hx hb d_Chain_begin_0 rfl (lv_at hl 0 rfl) ?_
  refine x_get (C := RX1) (T := TX1) (N := 7) hx hb hts inX1 hown B hF 0 rfl rfl 1 (by decide) (hts _ w_53) (fun _ h9 => h9) rfl d_Chain_begin_1 ?_
  refine x_iconst hx hb d_Chain_begin_4 ?_
  refine lv_aload_n hx hb d_Chain_begin_5 rfl (lv_at hl 1 rfl) ?_
  refine x_calli B hA (va_runSN (As := [.ref va]) (rest := [.int (iI 0), .ref tq]) ⟨hx, hb, hml, hown, hts⟩ (c_RR_topOf l D cs _ _ _ va aw (hF.pick [3] rfl rfl) (mw_get (X := [(ch, .inr (1, [.ref tt, .ref tq, .int (iI n0), .int (iI tu), .int (iI fi), .ref cl, .ref cr])), (tt, .inl (cs 3, 42, .inr (.inr (.inr (.inr gg))))), (tq, .inl (cs 0, 7, .inl (ai tps))), (va, .inl (cs 0, 6, .inl (ai aw)))]) hF.1 (k := 3) rfl) (fun j hj => by have := haw j hj; omega)) ⟨va_cnB (host := RX6) 1 hts (gw_cons w_275) rfl rfl rfl (B.2.2.2.2.2.2.2.2.2.1) (hts _ w_1) (by decide +kernel) ⟨by rw [hRf]; exact Nat.le_of_ble_eq_true rfl, by rw [hRl]; exact Nat.le_of_ble_eq_true rfl⟩, hts _ w_274, trivial⟩ ⟨K0.blind, B.pre _⟩ rfl rfl hl.1 rfl (lv_room (Nat.le_of_ble_eq_true rfl)) d_Chain_begin_6 ⟨by rw [hRc]; omega, by rw [hRs]; omega⟩) (fun r6 g6 H locs hw B => ?_)
  obtain ⟨ka, rfl, hka6, hkaz, hkal, rfl⟩ := hw
  have B : Wb D vwCl (TY cs) L (mw f [(ch, .inr (1, [.ref tt, .ref tq, .int (iI n0), .int (iI tu), .int (iI fi), .ref cl, .ref cr])), (tt, .inl (cs 3, 42, .inr (.inr (.inr (.inr gg))))), (tq, .inl (cs 0, 7, .inl (ai tps))), (va, .inl (cs 0, 6, .inl (ai aw)))]) (AL L s.heap.size) s H _ := B
  refine x_iast hx hb B hF 2 0 rfl rfl 0 (by omega) (by omega) (by decide) d_Chain_begin_9 (fun H locs B => ?_)
  have B : Wb D vwCl (TY cs) L (mw f [(ch, .inr (1, [.ref tt, .ref tq, .int (iI n0), .int (iI tu), .int (iI fi), .ref cl, .ref cr])), (tt, .inl (cs 3, 42, .inr (.inr (.inr (.inr gg))))), (tq, .inl (cs 0, 7, .inl (ai (up tps 0 ((ka : Int) - 1))))), (va, .inl (cs 0, 6, .inl (ai aw)))]) (AL L s.heap.size) s H _ := B
  refine lv_aload_n hx hb d_Chain_begin_10 rfl (lv_at hl 0 rfl) ?_
  refine x_get (C := RX1) (T := TX1) (N := 7) hx hb hts inX1 hown B hF 0 rfl rfl 1 (by decide) (hts _ w_53) (fun _ h9 => h9) rfl d_Chain_begin_11 ?_
  refine x_iconst hx hb d_Chain_begin_14 ?_
  refine lv_aload_n hx hb d_Chain_begin_15 rfl (lv_at hl 2 rfl) ?_
  refine x_calli B hA (va_runSN (As := [.ref va]) (rest := [.int (iI 1), .ref tq]) ⟨hx, hb, hml, hown, hts⟩ (c_RR_topOf l D cs _ _ _ va aw (hF.pick [3] rfl rfl) (mw_get (X := [(ch, .inr (1, [.ref tt, .ref tq, .int (iI n0), .int (iI tu), .int (iI fi), .ref cl, .ref cr])), (tt, .inl (cs 3, 42, .inr (.inr (.inr (.inr gg))))), (tq, .inl (cs 0, 7, .inl (ai (up tps 0 ((ka : Int) - 1))))), (va, .inl (cs 0, 6, .inl (ai aw)))]) hF.1 (k := 3) rfl) (fun j hj => by have := haw j hj; omega)) ⟨va_cnB (host := RX6) 1 hts (gw_cons w_275) rfl rfl rfl (B.2.2.2.2.2.2.2.2.2.1) (hts _ w_1) (by decide +kernel) ⟨by rw [hRf]; exact Nat.le_of_ble_eq_true rfl, by rw [hRl]; exact Nat.le_of_ble_eq_true rfl⟩, hts _ w_274, trivial⟩ ⟨K0.blind, B.pre _⟩ rfl rfl hl.1 rfl (lv_room (Nat.le_of_ble_eq_true rfl)) d_Chain_begin_16 ⟨by rw [hRc]; omega, by rw [hRs]; omega⟩) (fun r16 g16 H locs hw B => ?_)
  obtain ⟨kb, rfl, hkb6, hkbz, hkbl, rfl⟩ := hw
  have B : Wb D vwCl (TY cs) L (mw f [(ch, .inr (1, [.ref tt, .ref tq, .int (iI n0), .int (iI tu), .int (iI fi), .ref cl, .ref cr])), (tt, .inl (cs 3, 42, .inr (.inr (.inr (.inr gg))))), (tq, .inl (cs 0, 7, .inl (ai (up tps 0 ((ka : Int) - 1))))), (va, .inl (cs 0, 6, .inl (ai aw)))]) (AL L s.heap.size) s H _ := B
  refine x_iast hx hb B hF 2 0 rfl rfl 1 (by omega) (by omega) (by decide) d_Chain_begin_19 (fun H locs B => ?_)
  have B : Wb D vwCl (TY cs) L (mw f [(ch, .inr (1, [.ref tt, .ref tq, .int (iI n0), .int (iI tu), .int (iI fi), .ref cl, .ref cr])), (tt, .inl (cs 3, 42, .inr (.inr (.inr (.inr gg))))), (tq, .inl (cs 0, 7, .inl (ai (up (up tps 0 ((ka : Int) - 1)) 1 ((kb : Int) - 1))))), (va, .inl (cs 0, 6, .inl (ai aw)))]) (AL L s.heap.size) s H _ := B
  obtain ⟨t1, ht1⟩ : ∃ t1, t1 = up (up tps 0 ((ka : Int) - 1)) 1 ((kb : Int) - 1) := ⟨_, rfl⟩
  rw [← ht1] at B
  have ht11 : t1 1 = (kb : Int) - 1 := by rw [ht1, up_self]
  have ht10 : t1 0 = (ka : Int) - 1 := by rw [ht1, up_ne _ _ (by decide), up_self]
  have B : Wb D vwCl (TY cs) L (mw f [(ch, .inr (1, [.ref tt, .ref tq, .int (iI n0), .int (iI tu), .int (iI fi), .ref cl, .ref cr])), (tt, .inl (cs 3, 42, .inr (.inr (.inr (.inr gg))))), (tq, .inl (cs 0, 7, .inl (ai t1))), (va, .inl (cs 0, 6, .inl (ai aw)))]) (AL L s.heap.size) s H _ := B
  have hkab : kb ≤ ka := hdeg ka kb hka6 hkb6 hkaz hkbl
  have hkapos : 0 < ka := by rcases Nat.eq_zero_or_pos ka with h | h; obtain ⟨j, hj, hjn⟩ := hANz; exact absurd (hkaz j (by omega) hj) hjn; exact h
  clear hANz hdeg
  refine x_iconst hx hb d_Chain_begin_20 ?_
  refine lv_istore_n (lv' := [(3, .int (iI 0)), (0, .ref ch), (1, .ref va), (2, .ref va)]) hx hb d_Chain_begin_21 rfl hl (by decide) rfl (fun ls hl => ?_)
  have LA : ∀ (fuel : Nat) (k : Nat) (f2 : Nat → va_E) (Z2 : Nat → Int), 6 - k < fuel → (k ≤ 6) → (BH cs f2 S Qm Z2) → (∀ j, j < k → Z2 (tm j) = aw j ∧ Z2 (tm (6 + j)) = aw j) → (∀ b, ¬ Ck b → Z2 b = Zf b) → (∀ k, Out S Qm k → k ∉ ([ch, tt, tq, va] : List Nat) → f2 k = f k) → ∀ (H : Heap) (locs : List Loc) (ls : Array Slot), Wb D vwCl (TY cs) L (mw f2 [(ch, .inr (1, [.ref tt, .ref tq, .int (iI n0), .int (iI tu), .int (iI fi), .ref cl, .ref cr])), (tt, .inl (cs 3, 42, .inr (.inr (.inr (.inr gg))))), (tq, .inl (cs 0, 7, .inl (ai t1))), (va, .inl (cs 0, 6, .inl (ai aw)))]) (AL L s.heap.size) s H locs → lv_has ls 4 [(3, .int (iI ((k : Int)))), (0, .ref ch), (1, .ref va), (2, .ref va)] → W p l e R s m av below meth c H locs (0) (0) Q (F0 m 22 ls []) := by
    intro fuel
    induction fuel with
    | zero => intro k f2 Z2 hfu; exact absurd hfu (Nat.not_lt_zero _)
    | succ fuel ih_LA =>
      intro k f2 Z2 hfu_LA hk hB2 hI hZo hfr2 H locs ls B hl
      refine lv_iload_n hx hb d_Chain_begin_22 rfl (lv_at hl 0 rfl) ?_
      refine x_bipush hx hb d_Chain_begin_23 (by decide) ?_
      refine x_icmp_ge (tgt := 63) hx hb d_Chain_begin_25 (by decide) (by omega) (by omega) (fun h25 => ?_) (fun h25 => ?_)
      · refine lv_aload_n hx hb d_Chain_begin_63 rfl (lv_at hl 1 rfl) ?_
        refine lv_aload_n hx hb d_Chain_begin_64 rfl (lv_at hl 1 rfl) ?_
        refine x_get (C := RX1) (T := TX1) (N := 7) hx hb hts inX1 hown B hF 0 rfl rfl 1 (by decide) (hts _ w_53) (fun _ h9 => h9) rfl d_Chain_begin_65 ?_
        refine x_iconst hx hb d_Chain_begin_68 ?_
        refine x_iald hx hb B hF 2 0 rfl rfl 1 (by omega) (by omega) (by decide) d_Chain_begin_69 ?_
        refine x_iconst hx hb d_Chain_begin_70 ?_
        refine x_icmp_ne (tgt := 78) hx hb d_Chain_begin_71 (by decide) (by omega) (by omega) (fun h71 => ?_) (fun h71 => ?_)
        · refine x_iconst hx hb d_Chain_begin_78 ?_
          refine x_put (C := RX1) (T := TX1) (N := 7) hx hb hts inX1 tyX1 tyX1_ok nmX1 hown B hF 0 rfl rfl 2 (by decide) (hts _ w_54) (fun _ h9 => h9) rfl (tyX1_ok 2 (by decide)) rfl rfl (Nat.le_of_ble_eq_true rfl) d_Chain_begin_79 (fun H locs B => ?_)
          have B : Wb D vwCl (TY cs) L (mw f2 [(ch, .inr (1, [.ref tt, .ref tq, .int (iI 2), .int (iI tu), .int (iI fi), .ref cl, .ref cr])), (tt, .inl (cs 3, 42, .inr (.inr (.inr (.inr gg))))), (tq, .inl (cs 0, 7, .inl (ai t1))), (va, .inl (cs 0, 6, .inl (ai aw)))]) (AL L s.heap.size) s H _ := B
          refine x_iconst hx hb d_Chain_begin_82 ?_
          refine lv_istore_n (lv' := [(3, .int (iI 2)), (0, .ref ch), (1, .ref va), (2, .ref va)]) hx hb d_Chain_begin_83 rfl hl (by decide) rfl (fun ls hl => ?_)
          rw [show (2 : Int) = ((2 : Nat) : Int) from rfl] at hl
          rw [show (2 : Int) = ((2 : Nat) : Int) from rfl] at B
          have LB : ∀ (fuel : Nat) (n : Nat) (f3 : Nat → va_E) (tm2 : Nat → Nat) (gg2 : Nat → Option Nat) (cl2 : Nat) (Z3 : Nat → Int) (t2 : Nat → Int), 7 - n < fuel → (n ≤ 7) → (BH cs f3 S Qm Z3) → (CI Ck tm2 cl2 cr) → (∀ t, t < 42 → gg2 t = some (tm2 t)) → (∀ b, ¬ Ck b → Z3 b = Zf b) → (ChI aw aw t2 (fun k j => Z3 (tm2 (6 * k + j))) n kb) → (∀ k, Out S Qm k → k ∉ ([ch, tt, tq, va] : List Nat) → f3 k = f k) → ∀ (H : Heap) (locs : List Loc) (ls : Array Slot), Wb D vwCl (TY cs) L (mw f3 [(ch, .inr (1, [.ref tt, .ref tq, .int (iI ((n : Int))), .int (iI tu), .int (iI fi), .ref cl2, .ref cr])), (tt, .inl (cs 3, 42, .inr (.inr (.inr (.inr gg2))))), (tq, .inl (cs 0, 7, .inl (ai t2))), (va, .inl (cs 0, 6, .inl (ai aw)))]) (AL L s.heap.size) s H locs → lv_has ls 4 [(3, .int (iI ((n : Int)))), (0, .ref ch), (1, .ref va), (2, .ref va)] → W p l e R s m av below meth c H locs (0) (0) Q (F0 m 84 ls []) := by
            intro fuel
            induction fuel with
            | zero => intro n f3 tm2 gg2 cl2 Z3 t2 hfu; exact absurd hfu (Nat.not_lt_zero _)
            | succ fuel ih_LB =>
              intro n f3 tm2 gg2 cl2 Z3 t2 hfu_LB hn7 hB3 hCI2 hG2 hZ3 hCh hfr3 H locs ls B hl
              have hn2 := hCh.1.1
              have hChZ := hCh
              have hChZ0 := hCh
              refine lv_iload_n hx hb d_Chain_begin_84 rfl (lv_at hl 0 rfl) ?_
              refine lv_aload_n hx hb d_Chain_begin_85 rfl (lv_at hl 1 rfl) ?_
              refine x_get (C := RX1) (T := TX1) (N := 7) hx hb hts inX1 hown B hF 0 rfl rfl 2 (by decide) (hts _ w_54) (fun _ h9 => h9) rfl d_Chain_begin_86 ?_
              refine x_icmp_ne (tgt := 143) hx hb d_Chain_begin_89 (by decide) (by omega) (by omega) (fun h89 => ?_) (fun h89 => ?_)
              · subst hQ hav
                exact x_vret hx hb hr hlocks B d_Chain_begin_143 (by
      obtain ⟨h1z, h2z, h3z, ez, dz, alz, bez, mz, hez, hdz, hdez, he6z, hdnz, -⟩ := hChZ
      first | (exfalso; omega) | exact ⟨n, ka, kb, tm2, gg2, cl2, Z3, t2, by omega, by omega, ⟨hka6, hkaz, hkal⟩, ⟨hkb6, hkbz, hkbl⟩, hCI2, hG2, hZ3, hChZ0.unit (by omega), h2z, h3z, hB3.keep (X := [(ch, .inr (1, [.ref tt, .ref tq, .int (iI ((n : Int))), .int (iI tu), .int (iI fi), .ref cl2, .ref cr])), (tt, .inl (cs 3, 42, .inr (.inr (.inr (.inr gg2))))), (tq, .inl (cs 0, 7, .inl (ai t2))), (va, .inl (cs 0, 6, .inl (ai aw)))]) hOk, fun k h1 h2 => by rw [mw_out (X := [(ch, .inr (1, [.ref tt, .ref tq, .int (iI ((n : Int))), .int (iI tu), .int (iI fi), .ref cl2, .ref cr])), (tt, .inl (cs 3, 42, .inr (.inr (.inr (.inr gg2))))), (tq, .inl (cs 0, 7, .inl (ai t2))), (va, .inl (cs 0, 6, .inl (ai aw)))]) h2]; exact hfr3 k h1 h2, mw_get (X := [(ch, .inr (1, [.ref tt, .ref tq, .int (iI ((n : Int))), .int (iI tu), .int (iI fi), .ref cl2, .ref cr])), (tt, .inl (cs 3, 42, .inr (.inr (.inr (.inr gg2))))), (tq, .inl (cs 0, 7, .inl (ai t2))), (va, .inl (cs 0, 6, .inl (ai aw)))]) hF.1 (k := 0) rfl, mw_get (X := [(ch, .inr (1, [.ref tt, .ref tq, .int (iI ((n : Int))), .int (iI tu), .int (iI fi), .ref cl2, .ref cr])), (tt, .inl (cs 3, 42, .inr (.inr (.inr (.inr gg2))))), (tq, .inl (cs 0, 7, .inl (ai t2))), (va, .inl (cs 0, 6, .inl (ai aw)))]) hF.1 (k := 1) rfl, mw_get (X := [(ch, .inr (1, [.ref tt, .ref tq, .int (iI ((n : Int))), .int (iI tu), .int (iI fi), .ref cl2, .ref cr])), (tt, .inl (cs 3, 42, .inr (.inr (.inr (.inr gg2))))), (tq, .inl (cs 0, 7, .inl (ai t2))), (va, .inl (cs 0, 6, .inl (ai aw)))]) hF.1 (k := 2) rfl, mw_get (X := [(ch, .inr (1, [.ref tt, .ref tq, .int (iI ((n : Int))), .int (iI tu), .int (iI fi), .ref cl2, .ref cr])), (tt, .inl (cs 3, 42, .inr (.inr (.inr (.inr gg2))))), (tq, .inl (cs 0, 7, .inl (ai t2))), (va, .inl (cs 0, 6, .inl (ai aw)))]) hF.1 (k := 3) rfl⟩)
              · refine lv_iload_n hx hb d_Chain_begin_92 rfl (lv_at hl 0 rfl) ?_
                refine x_bipush hx hb d_Chain_begin_93 (by decide) ?_
                refine x_icmp_ge (tgt := 143) hx hb d_Chain_begin_95 (by decide) (by omega) (by omega) (fun h95 => ?_) (fun h95 => ?_)
                · subst hQ hav
                  exact x_vret hx hb hr hlocks B d_Chain_begin_143 (by
      obtain ⟨h1z, h2z, h3z, ez, dz, alz, bez, mz, hez, hdz, hdez, he6z, hdnz, -⟩ := hChZ
      first | (exfalso; omega) | exact ⟨n, ka, kb, tm2, gg2, cl2, Z3, t2, by omega, by omega, ⟨hka6, hkaz, hkal⟩, ⟨hkb6, hkbz, hkbl⟩, hCI2, hG2, hZ3, hChZ0.unit (by omega), h2z, h3z, hB3.keep (X := [(ch, .inr (1, [.ref tt, .ref tq, .int (iI ((n : Int))), .int (iI tu), .int (iI fi), .ref cl2, .ref cr])), (tt, .inl (cs 3, 42, .inr (.inr (.inr (.inr gg2))))), (tq, .inl (cs 0, 7, .inl (ai t2))), (va, .inl (cs 0, 6, .inl (ai aw)))]) hOk, fun k h1 h2 => by rw [mw_out (X := [(ch, .inr (1, [.ref tt, .ref tq, .int (iI ((n : Int))), .int (iI tu), .int (iI fi), .ref cl2, .ref cr])), (tt, .inl (cs 3, 42, .inr (.inr (.inr (.inr gg2))))), (tq, .inl (cs 0, 7, .inl (ai t2))), (va, .inl (cs 0, 6, .inl (ai aw)))]) h2]; exact hfr3 k h1 h2, mw_get (X := [(ch, .inr (1, [.ref tt, .ref tq, .int (iI ((n : Int))), .int (iI tu), .int (iI fi), .ref cl2, .ref cr])), (tt, .inl (cs 3, 42, .inr (.inr (.inr (.inr gg2))))), (tq, .inl (cs 0, 7, .inl (ai t2))), (va, .inl (cs 0, 6, .inl (ai aw)))]) hF.1 (k := 0) rfl, mw_get (X := [(ch, .inr (1, [.ref tt, .ref tq, .int (iI ((n : Int))), .int (iI tu), .int (iI fi), .ref cl2, .ref cr])), (tt, .inl (cs 3, 42, .inr (.inr (.inr (.inr gg2))))), (tq, .inl (cs 0, 7, .inl (ai t2))), (va, .inl (cs 0, 6, .inl (ai aw)))]) hF.1 (k := 1) rfl, mw_get (X := [(ch, .inr (1, [.ref tt, .ref tq, .int (iI ((n : Int))), .int (iI tu), .int (iI fi), .ref cl2, .ref cr])), (tt, .inl (cs 3, 42, .inr (.inr (.inr (.inr gg2))))), (tq, .inl (cs 0, 7, .inl (ai t2))), (va, .inl (cs 0, 6, .inl (ai aw)))]) hF.1 (k := 2) rfl, mw_get (X := [(ch, .inr (1, [.ref tt, .ref tq, .int (iI ((n : Int))), .int (iI tu), .int (iI fi), .ref cl2, .ref cr])), (tt, .inl (cs 3, 42, .inr (.inr (.inr (.inr gg2))))), (tq, .inl (cs 0, 7, .inl (ai t2))), (va, .inl (cs 0, 6, .inl (ai aw)))]) hF.1 (k := 3) rfl⟩)
                · have hCh0 := hCh
                  obtain ⟨h1c, h2c, h3c, eg, d, al, be, mf, heg, hd, hde, he6, hdn, ⟨hl1, hl2⟩, hPz, hPa, hqb, hwk⟩ := hCh
                  refine lv_aload_n hx hb d_Chain_begin_98 rfl (lv_at hl 1 rfl) ?_
                  refine x_get (C := RX1) (T := TX1) (N := 7) hx hb hts inX1 hown B hF 0 rfl rfl 1 (by decide) (hts _ w_53) (fun _ h9 => h9) rfl d_Chain_begin_99 ?_
                  refine lv_iload_n hx hb d_Chain_begin_102 rfl (lv_at hl 0 rfl) ?_
                  refine x_iconst hx hb d_Chain_begin_103 ?_
                  refine x_isub hx hb d_Chain_begin_104 ?_
                  refine x_iald hx hb B hF 2 0 rfl rfl (n - 1) (by omega) (by omega) (by decide) d_Chain_begin_105 ?_
                  refine x_if_le (tgt := 143) hx hb d_Chain_begin_106 (by decide) (by omega) (fun h106 => ?_) (fun h106 => ?_)
                  · subst hQ hav
                    exact x_vret hx hb hr hlocks B d_Chain_begin_143 (by
      obtain ⟨h1z, h2z, h3z, ez, dz, alz, bez, mz, hez, hdz, hdez, he6z, hdnz, -⟩ := hChZ
      first | (exfalso; omega) | exact ⟨n, ka, kb, tm2, gg2, cl2, Z3, t2, by omega, by omega, ⟨hka6, hkaz, hkal⟩, ⟨hkb6, hkbz, hkbl⟩, hCI2, hG2, hZ3, hChZ0.unit (by omega), h2z, h3z, hB3.keep (X := [(ch, .inr (1, [.ref tt, .ref tq, .int (iI ((n : Int))), .int (iI tu), .int (iI fi), .ref cl2, .ref cr])), (tt, .inl (cs 3, 42, .inr (.inr (.inr (.inr gg2))))), (tq, .inl (cs 0, 7, .inl (ai t2))), (va, .inl (cs 0, 6, .inl (ai aw)))]) hOk, fun k h1 h2 => by rw [mw_out (X := [(ch, .inr (1, [.ref tt, .ref tq, .int (iI ((n : Int))), .int (iI tu), .int (iI fi), .ref cl2, .ref cr])), (tt, .inl (cs 3, 42, .inr (.inr (.inr (.inr gg2))))), (tq, .inl (cs 0, 7, .inl (ai t2))), (va, .inl (cs 0, 6, .inl (ai aw)))]) h2]; exact hfr3 k h1 h2, mw_get (X := [(ch, .inr (1, [.ref tt, .ref tq, .int (iI ((n : Int))), .int (iI tu), .int (iI fi), .ref cl2, .ref cr])), (tt, .inl (cs 3, 42, .inr (.inr (.inr (.inr gg2))))), (tq, .inl (cs 0, 7, .inl (ai t2))), (va, .inl (cs 0, 6, .inl (ai aw)))]) hF.1 (k := 0) rfl, mw_get (X := [(ch, .inr (1, [.ref tt, .ref tq, .int (iI ((n : Int))), .int (iI tu), .int (iI fi), .ref cl2, .ref cr])), (tt, .inl (cs 3, 42, .inr (.inr (.inr (.inr gg2))))), (tq, .inl (cs 0, 7, .inl (ai t2))), (va, .inl (cs 0, 6, .inl (ai aw)))]) hF.1 (k := 1) rfl, mw_get (X := [(ch, .inr (1, [.ref tt, .ref tq, .int (iI ((n : Int))), .int (iI tu), .int (iI fi), .ref cl2, .ref cr])), (tt, .inl (cs 3, 42, .inr (.inr (.inr (.inr gg2))))), (tq, .inl (cs 0, 7, .inl (ai t2))), (va, .inl (cs 0, 6, .inl (ai aw)))]) hF.1 (k := 2) rfl, mw_get (X := [(ch, .inr (1, [.ref tt, .ref tq, .int (iI ((n : Int))), .int (iI tu), .int (iI fi), .ref cl2, .ref cr])), (tt, .inl (cs 3, 42, .inr (.inr (.inr (.inr gg2))))), (tq, .inl (cs 0, 7, .inl (ai t2))), (va, .inl (cs 0, 6, .inl (ai aw)))]) hF.1 (k := 3) rfl⟩)
                  · obtain ⟨mf', -, hw1, hw2⟩ := wCs_use hwk (by omega)
                    refine lv_aload_n hx hb d_Chain_begin_109 rfl (lv_at hl 1 rfl) ?_
                    refine x_callv B hA (va_runV (As := []) (rest := []) ⟨hx, hb, hml, hown, hts⟩ (c_Chain_divide l D cs _ _ _ ch tt tq cl2 cr n d eg al be tu fi t2 gg2 tm2 Ck S Qm Z3 (hF.pick [0, 1, 2] rfl rfl) (mw_get (X := [(ch, .inr (1, [.ref tt, .ref tq, .int (iI ((n : Int))), .int (iI tu), .int (iI fi), .ref cl2, .ref cr])), (tt, .inl (cs 3, 42, .inr (.inr (.inr (.inr gg2))))), (tq, .inl (cs 0, 7, .inl (ai t2))), (va, .inl (cs 0, 6, .inl (ai aw)))]) hF.1 (k := 0) rfl) (mw_get (X := [(ch, .inr (1, [.ref tt, .ref tq, .int (iI ((n : Int))), .int (iI tu), .int (iI fi), .ref cl2, .ref cr])), (tt, .inl (cs 3, 42, .inr (.inr (.inr (.inr gg2))))), (tq, .inl (cs 0, 7, .inl (ai t2))), (va, .inl (cs 0, 6, .inl (ai aw)))]) hF.1 (k := 1) rfl) (mw_get (X := [(ch, .inr (1, [.ref tt, .ref tq, .int (iI ((n : Int))), .int (iI tu), .int (iI fi), .ref cl2, .ref cr])), (tt, .inl (cs 3, 42, .inr (.inr (.inr (.inr gg2))))), (tq, .inl (cs 0, 7, .inl (ai t2))), (va, .inl (cs 0, 6, .inl (ai aw)))]) hF.1 (k := 2) rfl) ⟨hn2, by omega⟩ hd heg ⟨by omega, hde, he6⟩ hG2 hCI2 hCS hSp (hB3.keep (X := [(ch, .inr (1, [.ref tt, .ref tq, .int (iI ((n : Int))), .int (iI tu), .int (iI fi), .ref cl2, .ref cr])), (tt, .inl (cs 3, 42, .inr (.inr (.inr (.inr gg2))))), (tq, .inl (cs 0, 7, .inl (ai t2))), (va, .inl (cs 0, 6, .inl (ai aw)))]) hOk) (fun q hq => hOk q (by simp only [List.mem_cons, List.not_mem_nil, or_false] at hq ⊢; rcases hq with h | h | h <;> simp [h])) hPz hl2 hl1 hPa hqb hw1.1) (cwV 0 hts (gw_V w_298 w_300 s_7 w_2 w_301) rfl rfl rfl (by decide +kernel) ⟨by rw [hRf]; exact Nat.le_of_ble_eq_true rfl, by rw [hRl]; exact Nat.le_of_ble_eq_true rfl⟩) ⟨K0.blind, B.recv (hF.2 _ (mw_key (k := 0) (X := [(ch, .inr (1, [.ref tt, .ref tq, .int (iI ((n : Int))), .int (iI tu), .int (iI fi), .ref cl2, .ref cr])), (tt, .inl (cs 3, 42, .inr (.inr (.inr (.inr gg2))))), (tq, .inl (cs 0, 7, .inl (ai t2))), (va, .inl (cs 0, 6, .inl (ai aw)))]) rfl)) (mw_get (X := [(ch, .inr (1, [.ref tt, .ref tq, .int (iI ((n : Int))), .int (iI tu), .int (iI fi), .ref cl2, .ref cr])), (tt, .inl (cs 3, 42, .inr (.inr (.inr (.inr gg2))))), (tq, .inl (cs 0, 7, .inl (ai t2))), (va, .inl (cs 0, 6, .inl (ai aw)))]) hF.1 (k := 0) rfl) rfl, B.pre _⟩ rfl rfl hl.1 rfl (lv_room (Nat.le_of_ble_eq_true rfl)) d_Chain_begin_110 ⟨by rw [hRc]; omega, by rw [hRs]; omega⟩) (fun g110 H locs hw B => ?_)
                    obtain ⟨tm3, gg3, cl3, Z4, t3, hCI3, hG3, hT3, hZ4, ⟨R9, hR1, hR2, hR3⟩, hRb, hTo, ht3, hB4, hfr9, hch9, htt9, htq9⟩ := hw
                    have hstp := ChI.step (r := (fun k j => Z3 (tm2 (6 * k + j)))) (r' := fun k j => Z4 (tm3 (6 * k + j))) (t' := t3) (by omega) h1c h2c h3c heg hd ⟨by omega, hde, he6⟩ hdn hl1 hl2 hqb hwk (fun k hk j hj => by show Z4 (tm3 (6 * k + j)) = Z3 (tm2 (6 * k + j)); rw [(hT3 (6 * k + j) (by omega)).1]; exact (hT3 (6 * k + j) (by omega)).2) hR1 hR2 hR3 hRb hTo ht3
                    have hva9 : g110 va = .inl (cs 0, 6, .inl (ai aw)) := (hfr9 va (hOk va (by simp)) hnva).trans (mw_get (X := [(ch, .inr (1, [.ref tt, .ref tq, .int (iI ((n : Int))), .int (iI tu), .int (iI fi), .ref cl2, .ref cr])), (tt, .inl (cs 3, 42, .inr (.inr (.inr (.inr gg2))))), (tq, .inl (cs 0, 7, .inl (ai t2))), (va, .inl (cs 0, 6, .inl (ai aw)))]) hF.1 (k := 3) rfl)
                    have hfr4 : ∀ k, Out S Qm k → k ∉ ([ch, tt, tq, va] : List Nat) → g110 k = f k := fun c0 h1 h2 => by rw [hfr9 c0 h1 (fun hm => h2 (by simp only [List.mem_cons, List.not_mem_nil, or_false] at hm ⊢; rcases hm with h | h | h <;> simp [h])), mw_out (X := [(ch, .inr (1, [.ref tt, .ref tq, .int (iI ((n : Int))), .int (iI tu), .int (iI fi), .ref cl2, .ref cr])), (tt, .inl (cs 3, 42, .inr (.inr (.inr (.inr gg2))))), (tq, .inl (cs 0, 7, .inl (ai t2))), (va, .inl (cs 0, 6, .inl (ai aw)))]) h2]; exact hfr3 c0 h1 h2
                    have B := B.focus [(ch, .inr (1, [.ref tt, .ref tq, .int (iI ((n : Int))), .int (iI tu), .int (iI fi), .ref cl3, .ref cr])), (tt, .inl (cs 3, 42, .inr (.inr (.inr (.inr gg3))))), (tq, .inl (cs 0, 7, .inl (ai t3))), (va, .inl (cs 0, 6, .inl (ai aw)))] (fun q hq => by
                        simp only [List.mem_cons, List.not_mem_nil, or_false] at hq
                        rcases hq with rfl | rfl | rfl | rfl
                        · exact hch9
                        · exact htt9
                        · exact htq9
                        · exact hva9)
                    have B : Wb D vwCl (TY cs) L (mw g110 [(ch, .inr (1, [.ref tt, .ref tq, .int (iI ((n : Int))), .int (iI tu), .int (iI fi), .ref cl3, .ref cr])), (tt, .inl (cs 3, 42, .inr (.inr (.inr (.inr gg3))))), (tq, .inl (cs 0, 7, .inl (ai t3))), (va, .inl (cs 0, 6, .inl (ai aw)))]) (AL L s.heap.size) s H _ := B
                    have ht3r : -1 ≤ t3 n ∧ t3 n < 6 := by rcases hTo with ⟨h, _⟩ | ⟨q, h1, h2, _⟩ <;> omega
                    refine lv_aload_n hx hb d_Chain_begin_113 rfl (lv_at hl 1 rfl) ?_
                    refine lv_dup hx hb d_Chain_begin_114 rfl ?_
                    refine x_get (C := RX1) (T := TX1) (N := 7) hx hb hts inX1 hown B hF 0 rfl rfl 2 (by decide) (hts _ w_54) (fun _ h9 => h9) rfl d_Chain_begin_115 ?_
                    refine lv_aload_n hx hb d_Chain_begin_118 rfl (lv_at hl 1 rfl) ?_
                    refine x_get (C := RX1) (T := TX1) (N := 7) hx hb hts inX1 hown B hF 0 rfl rfl 1 (by decide) (hts _ w_53) (fun _ h9 => h9) rfl d_Chain_begin_119 ?_
                    refine lv_iload_n hx hb d_Chain_begin_122 rfl (lv_at hl 0 rfl) ?_
                    refine x_iald hx hb B hF 2 0 rfl rfl n (by omega) (by omega) (by decide) d_Chain_begin_123 ?_
                    refine x_iconst hx hb d_Chain_begin_124 ?_
                    refine x_icmp_eq (tgt := 132) hx hb d_Chain_begin_125 (by decide) (by omega) (by omega) (fun h125 => ?_) (fun h125 => ?_)
                    · refine x_iconst hx hb d_Chain_begin_132 ?_
                      refine x_iadd hx hb d_Chain_begin_133 ?_
                      rw [show (n : Int) + 0 = (n : Int) by omega]
                      refine x_put (C := RX1) (T := TX1) (N := 7) hx hb hts inX1 tyX1 tyX1_ok nmX1 hown B hF 0 rfl rfl 2 (by decide) (hts _ w_54) (fun _ h9 => h9) rfl (tyX1_ok 2 (by decide)) rfl rfl (Nat.le_of_ble_eq_true rfl) d_Chain_begin_134 (fun H locs B => ?_)
                      have B : Wb D vwCl (TY cs) L (mw g110 [(ch, .inr (1, [.ref tt, .ref tq, .int (iI ((n : Int))), .int (iI tu), .int (iI fi), .ref cl3, .ref cr])), (tt, .inl (cs 3, 42, .inr (.inr (.inr (.inr gg3))))), (tq, .inl (cs 0, 7, .inl (ai t3))), (va, .inl (cs 0, 6, .inl (ai aw)))]) (AL L s.heap.size) s H _ := B
                      refine x_iinc (lv' := [(3, .int (iI (((n : Int)) + 1))), (0, .ref ch), (1, .ref va), (2, .ref va)]) hx hb d_Chain_begin_137 hl (q := 0) rfl rfl (by decide) rfl (fun ls hl => ?_)
                      refine lv_goto (tgt := 84) hx hb d_Chain_begin_140 (by decide) ?_
                      refine lv_iload_n hx hb d_Chain_begin_84 rfl (lv_at hl 0 rfl) ?_
                      refine lv_aload_n hx hb d_Chain_begin_85 rfl (lv_at hl 1 rfl) ?_
                      refine x_get (C := RX1) (T := TX1) (N := 7) hx hb hts inX1 hown B hF 0 rfl rfl 2 (by decide) (hts _ w_54) (fun _ h9 => h9) rfl d_Chain_begin_86 ?_
                      refine x_icmp_ne (tgt := 143) hx hb d_Chain_begin_89 (by decide) (by omega) (by omega) (fun h89 => ?_) (fun h89 => ?_)
                      · subst hQ hav
                        exact x_vret hx hb hr hlocks B d_Chain_begin_143 (by first | (exfalso; omega) | exact ⟨n, ka, kb, tm3, gg3, cl3, Z4, t3, by omega, by omega, ⟨hka6, hkaz, hkal⟩, ⟨hkb6, hkbz, hkbl⟩, hCI3, hG3, (fun b hb => by rw [hZ4 b hb]; exact hZ3 b hb), (hstp.1 (by omega)).1, (hstp.1 (by omega)).2.1, (hstp.1 (by omega)).2.2, hB4.keep (X := [(ch, .inr (1, [.ref tt, .ref tq, .int (iI ((n : Int))), .int (iI tu), .int (iI fi), .ref cl3, .ref cr])), (tt, .inl (cs 3, 42, .inr (.inr (.inr (.inr gg3))))), (tq, .inl (cs 0, 7, .inl (ai t3))), (va, .inl (cs 0, 6, .inl (ai aw)))]) hOk, fun k h1 h2 => by rw [mw_out (X := [(ch, .inr (1, [.ref tt, .ref tq, .int (iI ((n : Int))), .int (iI tu), .int (iI fi), .ref cl3, .ref cr])), (tt, .inl (cs 3, 42, .inr (.inr (.inr (.inr gg3))))), (tq, .inl (cs 0, 7, .inl (ai t3))), (va, .inl (cs 0, 6, .inl (ai aw)))]) h2]; exact hfr4 k h1 h2, mw_get (X := [(ch, .inr (1, [.ref tt, .ref tq, .int (iI ((n : Int))), .int (iI tu), .int (iI fi), .ref cl3, .ref cr])), (tt, .inl (cs 3, 42, .inr (.inr (.inr (.inr gg3))))), (tq, .inl (cs 0, 7, .inl (ai t3))), (va, .inl (cs 0, 6, .inl (ai aw)))]) hF.1 (k := 0) rfl, mw_get (X := [(ch, .inr (1, [.ref tt, .ref tq, .int (iI ((n : Int))), .int (iI tu), .int (iI fi), .ref cl3, .ref cr])), (tt, .inl (cs 3, 42, .inr (.inr (.inr (.inr gg3))))), (tq, .inl (cs 0, 7, .inl (ai t3))), (va, .inl (cs 0, 6, .inl (ai aw)))]) hF.1 (k := 1) rfl, mw_get (X := [(ch, .inr (1, [.ref tt, .ref tq, .int (iI ((n : Int))), .int (iI tu), .int (iI fi), .ref cl3, .ref cr])), (tt, .inl (cs 3, 42, .inr (.inr (.inr (.inr gg3))))), (tq, .inl (cs 0, 7, .inl (ai t3))), (va, .inl (cs 0, 6, .inl (ai aw)))]) hF.1 (k := 2) rfl, mw_get (X := [(ch, .inr (1, [.ref tt, .ref tq, .int (iI ((n : Int))), .int (iI tu), .int (iI fi), .ref cl3, .ref cr])), (tt, .inl (cs 3, 42, .inr (.inr (.inr (.inr gg3))))), (tq, .inl (cs 0, 7, .inl (ai t3))), (va, .inl (cs 0, 6, .inl (ai aw)))]) hF.1 (k := 3) rfl⟩)
                      · exfalso; omega
                    · refine x_iconst hx hb d_Chain_begin_128 ?_
                      refine lv_goto (tgt := 133) hx hb d_Chain_begin_129 (by decide) ?_
                      refine x_iadd hx hb d_Chain_begin_133 ?_
                      rw [show (n : Int) + 1 = ((n + 1 : Nat) : Int) by omega]
                      refine x_put (C := RX1) (T := TX1) (N := 7) hx hb hts inX1 tyX1 tyX1_ok nmX1 hown B hF 0 rfl rfl 2 (by decide) (hts _ w_54) (fun _ h9 => h9) rfl (tyX1_ok 2 (by decide)) rfl rfl (Nat.le_of_ble_eq_true rfl) d_Chain_begin_134 (fun H locs B => ?_)
                      have B : Wb D vwCl (TY cs) L (mw g110 [(ch, .inr (1, [.ref tt, .ref tq, .int (iI (((n + 1 : Nat) : Int))), .int (iI tu), .int (iI fi), .ref cl3, .ref cr])), (tt, .inl (cs 3, 42, .inr (.inr (.inr (.inr gg3))))), (tq, .inl (cs 0, 7, .inl (ai t3))), (va, .inl (cs 0, 6, .inl (ai aw)))]) (AL L s.heap.size) s H _ := B
                      refine x_iinc (lv' := [(3, .int (iI (((n : Int)) + 1))), (0, .ref ch), (1, .ref va), (2, .ref va)]) hx hb d_Chain_begin_137 hl (q := 0) rfl rfl (by decide) rfl (fun ls hl => ?_)
                      refine lv_goto (tgt := 84) hx hb d_Chain_begin_140 (by decide) ?_
                      rw [show (n : Int) + 1 = ((n + 1 : Nat) : Int) by omega] at hl
                      exact ih_LB (n + 1) g110 tm3 gg3 cl3 Z4 t3 (by omega) (by omega) hB4 hCI3 hG3 (fun b hb => by rw [hZ4 b hb]; exact hZ3 b hb) (hstp.2 (by omega)) hfr4 _ _ _ B (lv_sub hl [0, 1, 2, 3] rfl)
          exact LB _ 2 f2 tm gg cl Z2 t1 (Nat.lt_succ_self _) (by omega) hB2 hCI hG hZo (ChI.first ⟨by omega, hka6⟩ ⟨by omega, hkab⟩ hkaz (hkal (by omega)) hkbz (hkbl (by omega)) hRA hRB (fun j hj => by rw [Nat.mul_zero, Nat.zero_add]; exact (hI j (by omega)).1) (fun j hj => (hI j (by omega)).2) (by rw [ht10]; omega) (by rw [ht11]; omega)) hfr2 _ _ _ B (lv_sub hl [0, 1, 2, 3] rfl)
        · refine x_iconst hx hb d_Chain_begin_74 ?_
          refine lv_goto (tgt := 79) hx hb d_Chain_begin_75 (by decide) ?_
          refine x_put (C := RX1) (T := TX1) (N := 7) hx hb hts inX1 tyX1 tyX1_ok nmX1 hown B hF 0 rfl rfl 2 (by decide) (hts _ w_54) (fun _ h9 => h9) rfl (tyX1_ok 2 (by decide)) rfl rfl (Nat.le_of_ble_eq_true rfl) d_Chain_begin_79 (fun H locs B => ?_)
          have B : Wb D vwCl (TY cs) L (mw f2 [(ch, .inr (1, [.ref tt, .ref tq, .int (iI 1), .int (iI tu), .int (iI fi), .ref cl, .ref cr])), (tt, .inl (cs 3, 42, .inr (.inr (.inr (.inr gg))))), (tq, .inl (cs 0, 7, .inl (ai t1))), (va, .inl (cs 0, 6, .inl (ai aw)))]) (AL L s.heap.size) s H _ := B
          refine x_iconst hx hb d_Chain_begin_82 ?_
          refine lv_istore_n (lv' := [(3, .int (iI 2)), (0, .ref ch), (1, .ref va), (2, .ref va)]) hx hb d_Chain_begin_83 rfl hl (by decide) rfl (fun ls hl => ?_)
          refine lv_iload_n hx hb d_Chain_begin_84 rfl (lv_at hl 0 rfl) ?_
          refine lv_aload_n hx hb d_Chain_begin_85 rfl (lv_at hl 1 rfl) ?_
          refine x_get (C := RX1) (T := TX1) (N := 7) hx hb hts inX1 hown B hF 0 rfl rfl 2 (by decide) (hts _ w_54) (fun _ h9 => h9) rfl d_Chain_begin_86 ?_
          refine x_icmp_ne (tgt := 143) hx hb d_Chain_begin_89 (by decide) (by omega) (by omega) (fun h89 => ?_) (fun h89 => ?_)
          · subst hQ hav
            exact x_vret hx hb hr hlocks B d_Chain_begin_143 (by
      have hr0 : ∀ j, j < 6 → Z2 (tm (6 * 0 + j)) = aw j := fun j hj => by rw [Nat.mul_zero, Nat.zero_add]; exact (hI j (by omega)).1
      exact ⟨1, ka, kb, tm, gg, cl, Z2, t1, by omega, by omega, ⟨hka6, hkaz, hkal⟩, ⟨hkb6, hkbz, hkbl⟩, hCI, hG, hZo, Or.inl ⟨rfl, hr0, fun j hj => hkbz j (by omega) hj⟩, (fun k hk => by
        rw [show k = 0 by omega]
        exact ⟨ka - 1, by omega, by rw [ht10]; omega, fun h => hkal (by omega) ((hr0 _ (by omega)).symm.trans h), fun j h1 h2 => (hr0 j h2).trans (hkaz j (by omega) h2)⟩), (fun k hk => by
        rw [show k = 0 by omega]
        exact ⟨5, 18, Nat.le_refl _, fun j h1 h2 => by omega, hRA.congr hr0, by decide⟩), hB2.keep (X := [(ch, .inr (1, [.ref tt, .ref tq, .int (iI 1), .int (iI tu), .int (iI fi), .ref cl, .ref cr])), (tt, .inl (cs 3, 42, .inr (.inr (.inr (.inr gg))))), (tq, .inl (cs 0, 7, .inl (ai t1))), (va, .inl (cs 0, 6, .inl (ai aw)))]) hOk, fun k h1 h2 => by rw [mw_out (X := [(ch, .inr (1, [.ref tt, .ref tq, .int (iI 1), .int (iI tu), .int (iI fi), .ref cl, .ref cr])), (tt, .inl (cs 3, 42, .inr (.inr (.inr (.inr gg))))), (tq, .inl (cs 0, 7, .inl (ai t1))), (va, .inl (cs 0, 6, .inl (ai aw)))]) h2]; exact hfr2 k h1 h2, mw_get (X := [(ch, .inr (1, [.ref tt, .ref tq, .int (iI 1), .int (iI tu), .int (iI fi), .ref cl, .ref cr])), (tt, .inl (cs 3, 42, .inr (.inr (.inr (.inr gg))))), (tq, .inl (cs 0, 7, .inl (ai t1))), (va, .inl (cs 0, 6, .inl (ai aw)))]) hF.1 (k := 0) rfl, mw_get (X := [(ch, .inr (1, [.ref tt, .ref tq, .int (iI 1), .int (iI tu), .int (iI fi), .ref cl, .ref cr])), (tt, .inl (cs 3, 42, .inr (.inr (.inr (.inr gg))))), (tq, .inl (cs 0, 7, .inl (ai t1))), (va, .inl (cs 0, 6, .inl (ai aw)))]) hF.1 (k := 1) rfl, mw_get (X := [(ch, .inr (1, [.ref tt, .ref tq, .int (iI 1), .int (iI tu), .int (iI fi), .ref cl, .ref cr])), (tt, .inl (cs 3, 42, .inr (.inr (.inr (.inr gg))))), (tq, .inl (cs 0, 7, .inl (ai t1))), (va, .inl (cs 0, 6, .inl (ai aw)))]) hF.1 (k := 2) rfl, mw_get (X := [(ch, .inr (1, [.ref tt, .ref tq, .int (iI 1), .int (iI tu), .int (iI fi), .ref cl, .ref cr])), (tt, .inl (cs 3, 42, .inr (.inr (.inr (.inr gg))))), (tq, .inl (cs 0, 7, .inl (ai t1))), (va, .inl (cs 0, 6, .inl (ai aw)))]) hF.1 (k := 3) rfl⟩)
          · exfalso; omega
      · have hC1 : Ck (tm k) := (hCI.1 _ (by omega)).1
        have hC2 : Ck (tm (6 + k)) := (hCI.1 _ (by omega)).1
        have hS1 : S (tm k) := hCS _ hC1
        have hS2 : S (tm (6 + k)) := hCS _ hC2
        have h9k := haw k (by omega)
        refine lv_aload_n hx hb d_Chain_begin_28 rfl (lv_at hl 1 rfl) ?_
        refine x_get (C := RX1) (T := TX1) (N := 7) hx hb hts inX1 hown B hF 0 rfl rfl 0 (by decide) (hts _ w_52) (fun _ h9 => h9) rfl d_Chain_begin_29 ?_
        refine lv_iload_n hx hb d_Chain_begin_32 rfl (lv_at hl 0 rfl) ?_
        refine x_aald hx hb B hF 1 3 rfl rfl k (rfl) (by omega) (by decide) (hG _ (by omega)) d_Chain_begin_33 ?_
        refine lv_aload_n hx hb d_Chain_begin_34 rfl (lv_at hl 2 rfl) ?_
        refine lv_iload_n hx hb d_Chain_begin_35 rfl (lv_at hl 0 rfl) ?_
        refine x_iald hx hb B hF 3 0 rfl rfl k (by omega) (by omega) (by decide) d_Chain_begin_36 ?_
        refine x_i2l hx hb d_Chain_begin_37 (by omega) ?_
        have hx_38 := hB2.keep (X := [(ch, .inr (1, [.ref tt, .ref tq, .int (iI n0), .int (iI tu), .int (iI fi), .ref cl, .ref cr])), (tt, .inl (cs 3, 42, .inr (.inr (.inr (.inr gg))))), (tq, .inl (cs 0, 7, .inl (ai t1))), (va, .inl (cs 0, 6, .inl (ai aw)))]) hOk
        obtain ⟨sd_380, n_380, lm_380, c1_380, c2_380, c3_380⟩ := hx_38 (tm k) hS1
        refine x_callv B hA (va_runV (As := [.long (lI (aw k))]) (rest := []) ⟨hx, hb, hml, hown, hts⟩ (c_Big_put l D cs _ _ _ (tm k) (Qm (tm k)) sd_380 n_380 lm_380 (aw k) (hSp.fc1 hS1) c1_380 c2_380 (by omega)) (cwV 1 hts (gw_V w_293 w_294 w_295 w_3 w_296) rfl rfl rfl (by decide +kernel) ⟨by rw [hRf]; exact Nat.le_of_ble_eq_true rfl, by rw [hRl]; exact Nat.le_of_ble_eq_true rfl⟩) ⟨K0.blind, B.recv (hSp.1 _ (hS1)).1 c1_380 rfl, B.pre _⟩ rfl rfl hl.1 rfl (lv_room (Nat.le_of_ble_eq_true rfl)) d_Chain_begin_38 ⟨by rw [hRc]; omega, by rw [hRs]; omega⟩) (fun g38 H locs hw B => ?_)
        obtain ⟨s_38, n_38, l_38, hz_38, rfl⟩ := hw
        obtain ⟨f_38, hf_38⟩ : ∃ f_38, f_38 = mw (mw f2 [(ch, .inr (1, [.ref tt, .ref tq, .int (iI n0), .int (iI tu), .int (iI fi), .ref cl, .ref cr])), (tt, .inl (cs 3, 42, .inr (.inr (.inr (.inr gg))))), (tq, .inl (cs 0, 7, .inl (ai t1))), (va, .inl (cs 0, 6, .inl (ai aw)))]) [((tm k), .inr (0, [.int (iI s_38), .int (iI (n_38 : Int)), .ref (Qm (tm k))])), (Qm (tm k), .inl (cs 0, 48, .inl (ai l_38)))] := ⟨_, rfl⟩
        have hB_38 : BH cs f_38 S Qm (up Z2 (tm k) (aw k)) := by rw [hf_38]; exact BH.set hSp (hB2.keep (X := [(ch, .inr (1, [.ref tt, .ref tq, .int (iI n0), .int (iI tu), .int (iI fi), .ref cl, .ref cr])), (tt, .inl (cs 3, 42, .inr (.inr (.inr (.inr gg))))), (tq, .inl (cs 0, 7, .inl (ai t1))), (va, .inl (cs 0, 6, .inl (ai aw)))]) hOk) hS1 hz_38
        have hfr_38 : ∀ k, Out S Qm k → k ∉ ([ch, tt, tq, va] : List Nat) → f_38 k = f2 k := fun k h1 h2 => by rw [hf_38, mw_out (h1.two hS1), mw_out (X := [(ch, .inr (1, [.ref tt, .ref tq, .int (iI n0), .int (iI tu), .int (iI fi), .ref cl, .ref cr])), (tt, .inl (cs 3, 42, .inr (.inr (.inr (.inr gg))))), (tq, .inl (cs 0, 7, .inl (ai t1))), (va, .inl (cs 0, 6, .inl (ai aw)))]) h2]
        rw [← hf_38] at B
        have B := B.focus [(ch, .inr (1, [.ref tt, .ref tq, .int (iI n0), .int (iI tu), .int (iI fi), .ref cl, .ref cr])), (tt, .inl (cs 3, 42, .inr (.inr (.inr (.inr gg))))), (tq, .inl (cs 0, 7, .inl (ai t1))), (va, .inl (cs 0, 6, .inl (ai aw)))] (by rw [hf_38]; exact foc hF.1 (fun k hk => (hOk k hk).two hS1))
        have B : Wb D vwCl (TY cs) L (mw f_38 [(ch, .inr (1, [.ref tt, .ref tq, .int (iI n0), .int (iI tu), .int (iI fi), .ref cl, .ref cr])), (tt, .inl (cs 3, 42, .inr (.inr (.inr (.inr gg))))), (tq, .inl (cs 0, 7, .inl (ai t1))), (va, .inl (cs 0, 6, .inl (ai aw)))]) (AL L s.heap.size) s H _ := B
        refine lv_aload_n hx hb d_Chain_begin_41 rfl (lv_at hl 1 rfl) ?_
        refine x_get (C := RX1) (T := TX1) (N := 7) hx hb hts inX1 hown B hF 0 rfl rfl 0 (by decide) (hts _ w_52) (fun _ h9 => h9) rfl d_Chain_begin_42 ?_
        refine x_bipush hx hb d_Chain_begin_45 (by decide) ?_
        refine lv_iload_n hx hb d_Chain_begin_47 rfl (lv_at hl 0 rfl) ?_
        refine x_iadd hx hb d_Chain_begin_48 ?_
        refine x_aald hx hb B hF 1 3 rfl rfl (6 + k) (by omega) (by omega) (by decide) (hG _ (by omega)) d_Chain_begin_49 ?_
        refine lv_aload_n hx hb d_Chain_begin_50 rfl (lv_at hl 3 rfl) ?_
        refine lv_iload_n hx hb d_Chain_begin_51 rfl (lv_at hl 0 rfl) ?_
        refine x_iald hx hb B hF 3 0 rfl rfl k (by omega) (by omega) (by decide) d_Chain_begin_52 ?_
        refine x_i2l hx hb d_Chain_begin_53 (by omega) ?_
        have hx_54 := hB_38.keep (X := [(ch, .inr (1, [.ref tt, .ref tq, .int (iI n0), .int (iI tu), .int (iI fi), .ref cl, .ref cr])), (tt, .inl (cs 3, 42, .inr (.inr (.inr (.inr gg))))), (tq, .inl (cs 0, 7, .inl (ai t1))), (va, .inl (cs 0, 6, .inl (ai aw)))]) hOk
        obtain ⟨sd_540, n_540, lm_540, c1_540, c2_540, c3_540⟩ := hx_54 (tm (6 + k)) hS2
        refine x_callv B hA (va_runV (As := [.long (lI (aw k))]) (rest := []) ⟨hx, hb, hml, hown, hts⟩ (c_Big_put l D cs _ _ _ (tm (6 + k)) (Qm (tm (6 + k))) sd_540 n_540 lm_540 (aw k) (hSp.fc1 hS2) c1_540 c2_540 (by omega)) (cwV 1 hts (gw_V w_293 w_294 w_295 w_3 w_296) rfl rfl rfl (by decide +kernel) ⟨by rw [hRf]; exact Nat.le_of_ble_eq_true rfl, by rw [hRl]; exact Nat.le_of_ble_eq_true rfl⟩) ⟨K0.blind, B.recv (hSp.1 _ (hS2)).1 c1_540 rfl, B.pre _⟩ rfl rfl hl.1 rfl (lv_room (Nat.le_of_ble_eq_true rfl)) d_Chain_begin_54 ⟨by rw [hRc]; omega, by rw [hRs]; omega⟩) (fun g54 H locs hw B => ?_)
        obtain ⟨s_54, n_54, l_54, hz_54, rfl⟩ := hw
        obtain ⟨f_54, hf_54⟩ : ∃ f_54, f_54 = mw (mw f_38 [(ch, .inr (1, [.ref tt, .ref tq, .int (iI n0), .int (iI tu), .int (iI fi), .ref cl, .ref cr])), (tt, .inl (cs 3, 42, .inr (.inr (.inr (.inr gg))))), (tq, .inl (cs 0, 7, .inl (ai t1))), (va, .inl (cs 0, 6, .inl (ai aw)))]) [((tm (6 + k)), .inr (0, [.int (iI s_54), .int (iI (n_54 : Int)), .ref (Qm (tm (6 + k)))])), (Qm (tm (6 + k)), .inl (cs 0, 48, .inl (ai l_54)))] := ⟨_, rfl⟩
        have hB_54 : BH cs f_54 S Qm (up ((up Z2 (tm k) (aw k))) (tm (6 + k)) (aw k)) := by rw [hf_54]; exact BH.set hSp (hB_38.keep (X := [(ch, .inr (1, [.ref tt, .ref tq, .int (iI n0), .int (iI tu), .int (iI fi), .ref cl, .ref cr])), (tt, .inl (cs 3, 42, .inr (.inr (.inr (.inr gg))))), (tq, .inl (cs 0, 7, .inl (ai t1))), (va, .inl (cs 0, 6, .inl (ai aw)))]) hOk) hS2 hz_54
        have hfr_54 : ∀ k, Out S Qm k → k ∉ ([ch, tt, tq, va] : List Nat) → f_54 k = f_38 k := fun k h1 h2 => by rw [hf_54, mw_out (h1.two hS2), mw_out (X := [(ch, .inr (1, [.ref tt, .ref tq, .int (iI n0), .int (iI tu), .int (iI fi), .ref cl, .ref cr])), (tt, .inl (cs 3, 42, .inr (.inr (.inr (.inr gg))))), (tq, .inl (cs 0, 7, .inl (ai t1))), (va, .inl (cs 0, 6, .inl (ai aw)))]) h2]
        rw [← hf_54] at B
        have B := B.focus [(ch, .inr (1, [.ref tt, .ref tq, .int (iI n0), .int (iI tu), .int (iI fi), .ref cl, .ref cr])), (tt, .inl (cs 3, 42, .inr (.inr (.inr (.inr gg))))), (tq, .inl (cs 0, 7, .inl (ai t1))), (va, .inl (cs 0, 6, .inl (ai aw)))] (by rw [hf_54]; exact foc hF.1 (fun k hk => (hOk k hk).two hS2))
        have B : Wb D vwCl (TY cs) L (mw f_54 [(ch, .inr (1, [.ref tt, .ref tq, .int (iI n0), .int (iI tu), .int (iI fi), .ref cl, .ref cr])), (tt, .inl (cs 3, 42, .inr (.inr (.inr (.inr gg))))), (tq, .inl (cs 0, 7, .inl (ai t1))), (va, .inl (cs 0, 6, .inl (ai aw)))]) (AL L s.heap.size) s H _ := B
        refine x_iinc (lv' := [(3, .int (iI (((k : Int)) + 1))), (0, .ref ch), (1, .ref va), (2, .ref va)]) hx hb d_Chain_begin_57 hl (q := 0) rfl rfl (by decide) rfl (fun ls hl => ?_)
        refine lv_goto (tgt := 22) hx hb d_Chain_begin_60 (by decide) ?_
        exact ih_LA (k + 1) f_54 ((up ((up Z2 (tm k) (aw k))) (tm (6 + k)) (aw k))) (by omega) (by omega) hB_54 (fun j hj => by
                    by_cases hjk : j = k
                    · rw [hjk]; exact ⟨by rw [up_ne _ _ (hinj _ _ (by omega) (by omega) (by omega)), up_self], by rw [up_self]⟩
                    · exact ⟨by rw [up_ne _ _ (hinj _ _ (by omega) (by omega) (by omega)), up_ne _ _ (hinj _ _ (by omega) (by omega) (by omega))]; exact (hI j (by omega)).1, by rw [up_ne _ _ (hinj _ _ (by omega) (by omega) (by omega)), up_ne _ _ (hinj _ _ (by omega) (by omega) (by omega))]; exact (hI j (by omega)).2⟩) (fun b hb => by rw [up_ne _ _ (ne_of_not hb hC2), up_ne _ _ (ne_of_not hb hC1)]; exact hZo b hb) (fun k h1 h2 => by rw [hfr_54 k h1 h2, hfr_38 k h1 h2]; exact hfr2 k h1 h2) _ _ _ B (lv_sub hl [0, 1, 2, 3] rfl)
  exact LA _ 0 f Zf (Nat.lt_succ_self _) (by omega) hB (fun j hj => by omega) (fun b _ => rfl) (fun k _ _ => rfl) _ _ _ B (lv_sub hl [0, 1, 2, 3] rfl)
