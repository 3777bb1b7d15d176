/-! walks over the class's cells -/
theorem Wb.foc1 {D : va_G} {cl : List vw_C} {tys : List (ClassId × FieldType)} {L : List Nat} {f : Nat → va_E} {A : Nat → Prop} {s : State} {H : Heap} {locs : List Loc} (B : Wb D cl tys L f A s H locs) {a : Nat} {e : va_E} (h : f a = e) : Wb D cl tys L (mw f [(a, e)]) A s H locs := B.focus [(a, e)] (fun q hq => by rw [List.mem_singleton.mp hq]; exact h)
theorem AdOk.f1 {L : List Nat} {ad Qm : Nat → Nat} (h : AdOk L ad Qm) {k : Nat} (hk : k < 305) : Fc L [ad k] := h.fc [k] (by simp) (by simpa using hk)
theorem Awy.mw1 {ad : Nat → Nat} {k j : Nat} (hk : Awy ad k) (hj : j < 305) {f : Nat → va_E} {e : va_E} : mw f [(ad j, e)] k = f k := mw_out (by simp only [List.map_cons, List.map_nil, List.mem_cons, List.not_mem_nil, or_false]; exact hk j hj)
theorem Awy.mws {ad : Nat → Nat} {k : Nat} (hk : Awy ad k) (ks : List Nat) (hj : ∀ j ∈ ks, j < 305) {f : Nat → va_E} {X : List (Nat × va_E)} (hX : X.map Prod.fst = ks.map ad) : mw f X k = f k := mw_out (by rw [hX]; exact hk.nin ks hj)
theorem CSt.bigs {cs : Nat → ClassId} {ad Qm : Nat → Nat} {f g : Nat → va_E} {I : Nat → Int} {A : Nat → Nat → Int} {R : Nat → Nat} {Zf Z' : Nat → Int} (h : CSt cs ad Qm f I A R Zf) (hB : BH cs g (Bg ad) Qm Z') (hfr : ∀ k, k < 183 → g (ad k) = f (ad k)) : CSt cs ad Qm g I A R Z' :=
  h.next [] hB h.2.2.2 (fun k hk _ => hfr k hk) (fun k hk => absurd hk (by simp)) (Or.inl ⟨fun _ _ => rfl, by simp⟩) (fun i hi => absurd rfl hi) (fun q hq => absurd rfl hq) (fun t ht => absurd rfl ht)
theorem CI.congr {Ck : Nat → Prop} {tm tm' : Nat → Nat} {cl cr : Nat} (h : CI Ck tm cl cr) (ht : ∀ t, t < 42 → tm' t = tm t) : CI Ck tm' cl cr := by
  obtain ⟨h1, h2, h3⟩ := h
  exact ⟨fun t hh => by rw [ht t hh]; exact h1 t hh, fun t u hh hu e => h2 t u hh hu (by rw [← ht t hh, ← ht u hu]; exact e), h3⟩
/-- new references: the chain's terms and its left -/
def upC (R tm : Nat → Nat) (cl : Nat) : Nat → Nat := fun t => if t < 42 then tm t else if t = 42 then cl else R t
/-- new references: the spot's four to work with -/
def upW (R : Nat → Nat) (gt gp ga gb : Nat) : Nat → Nat := fun t => if t = 52 then gt else if t = 53 then gp else if t = 54 then ga else if t = 55 then gb else R t
theorem Rok.c {ad R tm : Nat → Nat} {cl : Nat} (h : Rok ad R) (hc : CI (Ckk ad) tm cl (ad 226)) : Rok ad (upC R tm cl) := ⟨hc.congr (fun t ht => by unfold upC; rw [if_pos ht]), h.2⟩
theorem Rok.w {ad R : Nat → Nat} {gt gp ga gb : Nat} (h : Rok ad R) (hw : Wkk ad gt ∧ Wkk ad gp ∧ Wkk ad ga ∧ Wkk ad gb) (hn : Ne4 gt gp ga gb) : Rok ad (upW R gt gp ga gb) := ⟨h.1.congr (fun t ht => by unfold upW; rw [if_neg (by omega), if_neg (by omega), if_neg (by omega), if_neg (by omega)]), hw, hn⟩
theorem CSt.begin {cs : Nat → ClassId} {L : List Nat} {ad Qm : Nat → Nat} {f g : Nat → va_E} {I : Nat → Int} {A : Nat → Nat → Int} {R : Nat → Nat} {Zf Z' : Nat → Int} (hAd : AdOk L ad Qm) (h : CSt cs ad Qm f I A R Zf) {n : Int} {tm' : Nat → Nat} {gg' : Nat → Option Nat} {cl' : Nat} {t' : Nat → Int} (ex : List Nat) (hCI : CI (Ckk ad) tm' cl' (ad 226)) (hG : ∀ t, t < 42 → gg' t = some (tm' t)) (hB : BH cs g (Bg ad) Qm Z') (hfr : ∀ k, Out (Bg ad) Qm k → k ∉ ([2, 3, 4] ++ ex).map ad → g k = f k) (hex : ∀ k ∈ ex, k < 183 ∧ g (ad k) = f (ad k)) (hch : g (ad 2) = .inr (1, [.ref (ad 3), .ref (ad 4), .int (iI n), .int (iI (I 4)), .int (iI (I 5)), .ref cl', .ref (ad 226)])) (htt : g (ad 3) = .inl (cs 3, 42, .inr (.inr (.inr (.inr gg'))))) (htq : g (ad 4) = .inl (cs 0, 7, .inl (ai t'))) : CSt cs ad Qm g (up I 3 n) (upA A 7 t') (upC R tm' cl') Z' := by
  refine h.next [2, 3, 4] hB (h.2.2.2.c hCI) (fun k hk hk2 => ?_) (fun k hk hk3 => ?_) (Or.inr ⟨gg', fun t ht => by unfold upC; rw [if_pos ht]; exact hG t ht, htt⟩) (fun i hi => ⟨2, by simp, by rw [up_dif hi]; unfold depI; omega⟩) (fun q hq => ⟨4, by simp, by rw [upA_dif hq]; unfold depA; omega⟩) (fun t ht => ?_)
  · by_cases hm : k ∈ ex
    · exact (hex k hm).2
    · refine hfr (ad k) (hAd.out hk) (fun hm2 => ?_)
      obtain ⟨j, hj, e⟩ := List.mem_map.mp hm2
      have hj3 : j < 305 := by
        rcases List.mem_append.mp hj with h1 | h1
        · simp only [List.mem_cons, List.not_mem_nil, or_false] at h1; omega
        · have := (hex j h1).1; omega
      have ejk := hAd.2.1 j k hj3 (by omega) e
      rcases List.mem_append.mp hj with h1 | h1
      · exact hk2 (by rw [← ejk]; exact h1)
      · exact hm (by rw [← ejk]; exact h1)
  · simp only [List.mem_cons, List.not_mem_nil, or_false] at hk
    rcases hk with rfl | rfl | rfl
    · rw [CE_ch, hch]; rfl
    · exact absurd rfl hk3
    · rw [CE_tq, upA_self]; exact htq
  · by_cases h1 : t < 42
    · exact Or.inl h1
    · right
      unfold upC at ht
      rw [if_neg h1] at ht
      by_cases h2 : t = 42
      · exact ⟨2, by simp, by unfold depR; omega⟩
      · rw [if_neg h2] at ht; exact absurd rfl ht
theorem upW_dif {R : Nat → Nat} {gt gp ga gb t : Nat} (h : upW R gt gp ga gb t ≠ R t) : 52 ≤ t ∧ t < 56 := by
  refine Classical.byContradiction (fun hn => h ?_)
  unfold upW
  rw [if_neg (by omega), if_neg (by omega), if_neg (by omega), if_neg (by omega)]
theorem CSt.look {cs : Nat → ClassId} {L : List Nat} {ad Qm : Nat → Nat} {f g : Nat → va_E} {I : Nat → Int} {A : Nat → Nat → Int} {R : Nat → Nat} {Zf Z' : Nat → Int} (hAd : AdOk L ad Qm) (h : CSt cs ad Qm f I A R Zf) {tu fi : Int} {gt gp ga gb : Nat} {G : Nat → Option Nat} (hG : ∀ t, t < 42 → G t = some (R t)) (hw : Wkk ad gt ∧ Wkk ad gp ∧ Wkk ad ga ∧ Wkk ad gb) (hn : Ne4 gt gp ga gb) (hB : BH cs g (Bg ad) Qm Z') (hfr : ∀ k, Out (Bg ad) Qm k → k ∉ [ad 2, ad 3, ad 4, ad 5] → g k = f k) (hch : g (ad 2) = .inr (1, [.ref (ad 3), .ref (ad 4), .int (iI (I 3)), .int (iI tu), .int (iI fi), .ref (R 42), .ref (ad 226)])) (htt : g (ad 3) = .inl (cs 3, 42, .inr (.inr (.inr (.inr G))))) (htq : g (ad 4) = .inl (cs 0, 7, .inl (ai (A 7)))) (hsp : g (ad 5) = .inr (5, [.ref (ad 227), .ref (ad 228), .ref (ad 6), .int (iI (I 6)), .ref gt, .ref gp, .ref ga, .ref gb])) : CSt cs ad Qm g (up (up I 4 tu) 5 fi) A (upW R gt gp ga gb) Z' := by
  refine h.next [2, 3, 4, 5] hB (h.2.2.2.w hw hn) (fun k hk hk2 => ?_) (fun k hk hk3 => ?_) (Or.inr ⟨G, fun t ht => by unfold upW; rw [if_neg (by omega), if_neg (by omega), if_neg (by omega), if_neg (by omega)]; exact hG t ht, htt⟩) (fun i hi => ⟨2, by simp, ?_⟩) (fun q hq => absurd rfl hq) (fun t ht => Or.inr ⟨5, by simp, by have := upW_dif ht; unfold depR; omega⟩)
  · refine hfr (ad k) (hAd.out hk) (fun hm => ?_)
    have e : ([ad 2, ad 3, ad 4, ad 5] : List Nat) = [2, 3, 4, 5].map ad := rfl
    rw [e] at hm
    obtain ⟨j, hj, ej⟩ := List.mem_map.mp hm
    have hj3 : j < 305 := by simp only [List.mem_cons, List.not_mem_nil, or_false] at hj; omega
    exact hk2 (by rw [← hAd.2.1 j k hj3 (by omega) ej]; exact hj)
  · simp only [List.mem_cons, List.not_mem_nil, or_false] at hk
    rcases hk with rfl | rfl | rfl | rfl
    · rw [CE_ch, hch]; rfl
    · exact absurd rfl hk3
    · rw [CE_tq]; exact htq
    · rw [CE_sp, hsp]; rfl
  · have hi2 : i = 4 ∨ i = 5 := Classical.byContradiction (fun hn => hi (by rw [up_ne _ _ (by omega), up_ne _ _ (by omega)]))
    unfold depI; omega
/-- signs of the small row, or any: only the spot's object and numbers change -/
theorem CSt.spot {cs : Nat → ClassId} {L : List Nat} {ad Qm : Nat → Nat} {f g : Nat → va_E} {I : Nat → Int} {A : Nat → Nat → Int} {R : Nat → Nat} {Zf Z' : Nat → Int} (hAd : AdOk L ad Qm) (h : CSt cs ad Qm f I A R Zf) {tp : Int} {gt gp ga gb : Nat} (ex : List Nat) (hw : Wkk ad gt ∧ Wkk ad gp ∧ Wkk ad ga ∧ Wkk ad gb) (hn : Ne4 gt gp ga gb) (hB : BH cs g (Bg ad) Qm Z') (hfr : ∀ k, Out (Bg ad) Qm k → k ∉ ([5] ++ ex).map ad → g k = f k) (hex : ∀ k ∈ ex, k < 183 ∧ g (ad k) = f (ad k)) (hsp : g (ad 5) = .inr (5, [.ref (ad 227), .ref (ad 228), .ref (ad 6), .int (iI tp), .ref gt, .ref gp, .ref ga, .ref gb])) : CSt cs ad Qm g (up I 6 tp) A (upW R gt gp ga gb) Z' := by
  have e3 : g (ad 3) = f (ad 3) := by
    by_cases hm : 3 ∈ ex
    · exact (hex 3 hm).2
    · refine hfr (ad 3) (hAd.out (by decide)) (fun hm2 => ?_)
      obtain ⟨j, hj, e⟩ := List.mem_map.mp hm2
      rcases List.mem_append.mp hj with h1 | h1
      · simp only [List.mem_cons, List.not_mem_nil, or_false] at h1
        rw [h1] at e
        exact absurd (hAd.2.1 5 3 (by decide) (by decide) e) (by decide)
      · have := hAd.2.1 j 3 (by have := (hex j h1).1; omega) (by decide) e
        exact hm (by rw [← this]; exact h1)
  obtain ⟨G, hG1, hG2⟩ := h.2.1
  refine h.next [5] hB (h.2.2.2.w hw hn) (fun k hk hk2 => ?_) (fun k hk hk3 => ?_) (Or.inr ⟨G, fun t ht => by unfold upW; rw [if_neg (by omega), if_neg (by omega), if_neg (by omega), if_neg (by omega)]; exact hG1 t ht, e3.trans hG2⟩) (fun i hi => ⟨5, by simp, by rw [up_dif hi]; unfold depI; omega⟩) (fun q hq => absurd rfl hq) (fun t ht => Or.inr ⟨5, by simp, by have := upW_dif ht; unfold depR; omega⟩)
  · by_cases hm : k ∈ ex
    · exact (hex k hm).2
    · refine hfr (ad k) (hAd.out hk) (fun hm2 => ?_)
      obtain ⟨j, hj, e⟩ := List.mem_map.mp hm2
      have hj3 : j < 305 := by
        rcases List.mem_append.mp hj with h1 | h1
        · simp only [List.mem_cons, List.not_mem_nil, or_false] at h1; omega
        · have := (hex j h1).1; omega
      have ejk := hAd.2.1 j k hj3 (by omega) e
      rcases List.mem_append.mp hj with h1 | h1
      · exact hk2 (by rw [← ejk]; exact h1)
      · exact hm (by rw [← ejk]; exact h1)
  · rw [List.mem_singleton.mp hk, CE_sp, hsp]; rfl
theorem up_same {I : Nat → Int} (i : Nat) : up I i (I i) = I := funext (fun j => by
  by_cases h : j = i
  · rw [h, up_self]
  · rw [up_ne _ _ h])
theorem upW_same {R : Nat → Nat} : upW R (R 52) (R 53) (R 54) (R 55) = R := funext (fun t => by
  unfold upW
  by_cases h1 : t = 52
  · rw [if_pos h1, h1]
  · rw [if_neg h1]
    by_cases h2 : t = 53
    · rw [if_pos h2, h2]
    · rw [if_neg h2]
      by_cases h3 : t = 54
      · rw [if_pos h3, h3]
      · rw [if_neg h3]
        by_cases h4 : t = 55
        · rw [if_pos h4, h4]
        · rw [if_neg h4])
/-- rows of six ints that methods take -/
def Ar (k q : Nat) : Prop := (k = 9 ∧ q = 1) ∨ (k = 10 ∧ q = 2) ∨ (27 ≤ k ∧ k < 39 ∧ q = k - 7) ∨ (39 ≤ k ∧ k < 51 ∧ q = k + 1)
theorem CSt.ar {cs : Nat → ClassId} {ad Qm : Nat → Nat} {f : Nat → va_E} {I : Nat → Int} {A : Nat → Nat → Int} {R : Nat → Nat} {Zf : Nat → Int} (h : CSt cs ad Qm f I A R Zf) {k q : Nat} (hk : Ar k q) : f (ad k) = .inl (cs 0, 6, .inl (ai (A q))) := by
  rcases hk with ⟨rfl, rfl⟩ | ⟨rfl, rfl⟩ | ⟨h1, h2, rfl⟩ | ⟨h1, h2, rfl⟩
  · exact h.slope
  · exact h.shared
  · have := h.va (p := k - 27) (by omega)
    rw [show 27 + (k - 27) = k by omega, show 20 + (k - 27) = k - 7 by omega] at this
    exact this
  · have := h.fr (p := k - 39) (by omega)
    rw [show 39 + (k - 39) = k by omega, show 40 + (k - 39) = k + 1 by omega] at this
    exact this
theorem Ar.lt {k q : Nat} (h : Ar k q) : 9 ≤ k ∧ k < 51 := by unfold Ar at h; omega
theorem Ar.va {p : Nat} (h : p < 12) : Ar (27 + p) (20 + p) := by unfold Ar; omega
theorem Ar.fr {p : Nat} (h : p < 12) : Ar (39 + p) (40 + p) := by unfold Ar; omega
theorem Ar.sl : Ar 9 1 := Or.inl ⟨rfl, rfl⟩
theorem Ar.sh : Ar 10 2 := Or.inr (Or.inl ⟨rfl, rfl⟩)
theorem CSt.wAr {cs : Nat → ClassId} {L : List Nat} {ad Qm : Nat → Nat} {f : Nat → va_E} {I : Nat → Int} {A : Nat → Nat → Int} {R : Nat → Nat} {Zf : Nat → Int} (hAd : AdOk L ad Qm) (h : CSt cs ad Qm f I A R Zf) {k q : Nat} (hk : Ar k q) (w : Nat → Int) : CSt cs ad Qm (mw f [(ad k, .inl (cs 0, 6, .inl (ai w)))]) I (upA A q w) R Zf := by
  refine CSt.setA hAd h k q w (by have := hk.lt; omega) (by unfold Ar at hk; unfold depA; omega) ?_
  rcases hk with ⟨rfl, rfl⟩ | ⟨rfl, rfl⟩ | ⟨h1, h2, rfl⟩ | ⟨h1, h2, rfl⟩
  · rw [CE_slope, upA_self]
  · rw [CE_shared, upA_self]
  · obtain ⟨p, rfl⟩ : ∃ p, k = 27 + p := ⟨k - 27, by omega⟩
    rw [CE_va cs ad _ _ _ (show p < 12 by omega), show 27 + p - 7 = 20 + p by omega, upA_self]
  · obtain ⟨p, rfl⟩ : ∃ p, k = 39 + p := ⟨k - 39, by omega⟩
    rw [CE_fr cs ad _ _ _ (show p < 12 by omega), show 39 + p + 1 = 40 + p by omega, upA_self]
theorem CSt.w_wide {cs : Nat → ClassId} {L : List Nat} {ad Qm : Nat → Nat} {f : Nat → va_E} {I : Nat → Int} {A : Nat → Nat → Int} {R : Nat → Nat} {Zf : Nat → Int} (hAd : AdOk L ad Qm) (h : CSt cs ad Qm f I A R Zf) (w : Nat → Int) : CSt cs ad Qm (mw f [(ad 8, .inl (cs 1, 12, .inr (.inl (al w))))]) I (upA A 0 w) R Zf := CSt.setA hAd h 8 0 w (by decide) (by unfold depA; omega) (by rw [CE_wide, upA_self])
theorem CSt.w_low {cs : Nat → ClassId} {L : List Nat} {ad Qm : Nat → Nat} {f : Nat → va_E} {I : Nat → Int} {A : Nat → Nat → Int} {R : Nat → Nat} {Zf : Nat → Int} (hAd : AdOk L ad Qm) (h : CSt cs ad Qm f I A R Zf) (w : Nat → Int) : CSt cs ad Qm (mw f [(ad 11, .inl (cs 0, 5, .inl (ai w)))]) I (upA A 3 w) R Zf := CSt.setA hAd h 11 3 w (by decide) (by unfold depA; omega) (by rw [CE_low, upA_self])
theorem CSt.w_high {cs : Nat → ClassId} {L : List Nat} {ad Qm : Nat → Nat} {f : Nat → va_E} {I : Nat → Int} {A : Nat → Nat → Int} {R : Nat → Nat} {Zf : Nat → Int} (hAd : AdOk L ad Qm) (h : CSt cs ad Qm f I A R Zf) (w : Nat → Int) : CSt cs ad Qm (mw f [(ad 12, .inl (cs 0, 5, .inl (ai w)))]) I (upA A 4 w) R Zf := CSt.setA hAd h 12 4 w (by decide) (by unfold depA; omega) (by rw [CE_high, upA_self])
theorem CSt.w_line {cs : Nat → ClassId} {L : List Nat} {ad Qm : Nat → Nat} {f : Nat → va_E} {I : Nat → Int} {A : Nat → Nat → Int} {R : Nat → Nat} {Zf : Nat → Int} (hAd : AdOk L ad Qm) (h : CSt cs ad Qm f I A R Zf) (w : Nat → Int) : CSt cs ad Qm (mw f [(ad 13, .inl (cs 0, 60, .inl (ai w)))]) I (upA A 5 w) R Zf := CSt.setA hAd h 13 5 w (by decide) (by unfold depA; omega) (by rw [CE_line, upA_self])
theorem CSt.w_stf {cs : Nat → ClassId} {L : List Nat} {ad Qm : Nat → Nat} {f : Nat → va_E} {I : Nat → Int} {A : Nat → Nat → Int} {R : Nat → Nat} {Zf : Nat → Int} (hAd : AdOk L ad Qm) (h : CSt cs ad Qm f I A R Zf) (w : Nat → Int) : CSt cs ad Qm (mw f [(ad 14, .inl (cs 0, 60, .inl (ai w)))]) I (upA A 6 w) R Zf := CSt.setA hAd h 14 6 w (by decide) (by unfold depA; omega) (by rw [CE_stf, upA_self])
theorem CSt.w_wq {cs : Nat → ClassId} {L : List Nat} {ad Qm : Nat → Nat} {f : Nat → va_E} {I : Nat → Int} {A : Nat → Nat → Int} {R : Nat → Nat} {Zf : Nat → Int} (hAd : AdOk L ad Qm) (h : CSt cs ad Qm f I A R Zf) {m : Nat} (hm : m < 60) (w : Nat → Int) : CSt cs ad Qm (mw f [(ad (123 + m), .inl (cs 0, 8, .inl (ai w)))]) I (upA A (100 + m) w) R Zf := CSt.setA hAd h (123 + m) (100 + m) w (by omega) (by unfold depA; omega) (by rw [CE_wq cs ad _ _ _ hm, upA_self])
theorem CSt.w_lineLength {cs : Nat → ClassId} {L : List Nat} {ad Qm : Nat → Nat} {f : Nat → va_E} {I : Nat → Int} {A : Nat → Nat → Int} {R : Nat → Nat} {Zf : Nat → Int} (hAd : AdOk L ad Qm) (h : CSt cs ad Qm f I A R Zf) (v : Int) : CSt cs ad Qm (mw f [(ad 0, .inr (6, [.ref (ad 1), .int (iI (I 0)), .ref (ad 2), .ref (ad 5), .ref (ad 7), .ref (ad 8), .ref (ad 9), .ref (ad 10), .ref (ad 11), .ref (ad 12), .ref (ad 13), .ref (ad 14), .int (iI v), .int (iI (I 2))]))]) (up I 1 v) A R Zf := CSt.setI hAd h 0 1 v (by decide) (by unfold depI; omega) (by rw [CE_x]; rfl)
theorem CSt.w_lined {cs : Nat → ClassId} {L : List Nat} {ad Qm : Nat → Nat} {f : Nat → va_E} {I : Nat → Int} {A : Nat → Nat → Int} {R : Nat → Nat} {Zf : Nat → Int} (hAd : AdOk L ad Qm) (h : CSt cs ad Qm f I A R Zf) (v : Int) : CSt cs ad Qm (mw f [(ad 0, .inr (6, [.ref (ad 1), .int (iI (I 0)), .ref (ad 2), .ref (ad 5), .ref (ad 7), .ref (ad 8), .ref (ad 9), .ref (ad 10), .ref (ad 11), .ref (ad 12), .ref (ad 13), .ref (ad 14), .int (iI (I 1)), .int (iI v)]))]) (up I 2 v) A R Zf := CSt.setI hAd h 0 2 v (by decide) (by unfold depI; omega) (by rw [CE_x]; rfl)
theorem CSt.w_settled {cs : Nat → ClassId} {L : List Nat} {ad Qm : Nat → Nat} {f : Nat → va_E} {I : Nat → Int} {A : Nat → Nat → Int} {R : Nat → Nat} {Zf : Nat → Int} (hAd : AdOk L ad Qm) (h : CSt cs ad Qm f I A R Zf) {p : Nat} (hp : p < 12) (v : Int) : CSt cs ad Qm (mw f [(ad (15 + p), .inr (2, [.ref (ad (27 + p)), .ref (ad (39 + p)), .ref (ad (51 + p)), .int (iI v), .int (iI (I (40 + p)))]))]) (up I (20 + p) v) A R Zf := CSt.setI hAd h (15 + p) (20 + p) v (by omega) (by unfold depI; omega) (by rw [CE_cu cs ad _ _ _ hp, up_self, up_ne _ _ (by omega)])
theorem CSt.w_many {cs : Nat → ClassId} {L : List Nat} {ad Qm : Nat → Nat} {f : Nat → va_E} {I : Nat → Int} {A : Nat → Nat → Int} {R : Nat → Nat} {Zf : Nat → Int} (hAd : AdOk L ad Qm) (h : CSt cs ad Qm f I A R Zf) {p : Nat} (hp : p < 12) (v : Int) : CSt cs ad Qm (mw f [(ad (15 + p), .inr (2, [.ref (ad (27 + p)), .ref (ad (39 + p)), .ref (ad (51 + p)), .int (iI (I (20 + p))), .int (iI v)]))]) (up I (40 + p) v) A R Zf := CSt.setI hAd h (15 + p) (40 + p) v (by omega) (by unfold depI; omega) (by rw [CE_cu cs ad _ _ _ hp, up_self, up_ne _ _ (by omega)])
theorem CSt.w_n {cs : Nat → ClassId} {L : List Nat} {ad Qm : Nat → Nat} {f : Nat → va_E} {I : Nat → Int} {A : Nat → Nat → Int} {R : Nat → Nat} {Zf : Nat → Int} (hAd : AdOk L ad Qm) (h : CSt cs ad Qm f I A R Zf) (v : Int) : CSt cs ad Qm (mw f [(ad 7, .inr (4, [.ref (ad 239), .ref (ad 240), .long (lI v), .long (lI (I 8)), .ref (ad 241), .ref (ad 242), .ref (ad 243)]))]) (up I 7 v) A R Zf := CSt.setI hAd h 7 7 v (by decide) (by unfold depI; omega) (by rw [CE_ra]; rfl)
theorem CSt.w_d {cs : Nat → ClassId} {L : List Nat} {ad Qm : Nat → Nat} {f : Nat → va_E} {I : Nat → Int} {A : Nat → Nat → Int} {R : Nat → Nat} {Zf : Nat → Int} (hAd : AdOk L ad Qm) (h : CSt cs ad Qm f I A R Zf) (v : Int) : CSt cs ad Qm (mw f [(ad 7, .inr (4, [.ref (ad 239), .ref (ad 240), .long (lI (I 7)), .long (lI v), .ref (ad 241), .ref (ad 242), .ref (ad 243)]))]) (up I 8 v) A R Zf := CSt.setI hAd h 7 8 v (by decide) (by unfold depI; omega) (by rw [CE_ra]; rfl)
theorem CSt.w_pl {cs : Nat → ClassId} {L : List Nat} {ad Qm : Nat → Nat} {f : Nat → va_E} {I : Nat → Int} {A : Nat → Nat → Int} {R : Nat → Nat} {Zf : Nat → Int} (hAd : AdOk L ad Qm) (h : CSt cs ad Qm f I A R Zf) {m : Nat} (hm : m < 60) (wh dp : Int) (w : Nat → Int) : CSt cs ad Qm (mw f [(ad (63 + m), .inr (3, [.int (iI wh), .int (iI dp), .ref (ad (123 + m))])), (ad (123 + m), .inl (cs 0, 8, .inl (ai w)))]) (up (up I (100 + m) wh) (200 + m) dp) (upA A (100 + m) w) R Zf := by
  have h1 := CSt.wr (I' := up (up I (100 + m) wh) (200 + m) dp) (A' := upA A (100 + m) w) hAd h [63 + m, 123 + m] (by simp) (fun k hk => by simp only [List.mem_cons, List.not_mem_nil, or_false] at hk; omega) (fun i hi => ⟨63 + m, by simp, by
    have hi2 : i = 100 + m ∨ i = 200 + m := Classical.byContradiction (fun hn => hi (by rw [up_ne _ _ (by omega), up_ne _ _ (by omega)]))
    unfold depI; omega⟩) (fun q hq => ⟨123 + m, by simp, by rw [upA_dif hq]; unfold depA; omega⟩)
  simp only [List.map_cons, List.map_nil] at h1
  rw [CE_pl cs ad _ _ _ hm, CE_wq cs ad _ _ _ hm, up_self, up_ne _ _ (show 100 + m ≠ 200 + m by omega), up_self, upA_self] at h1
  exact h1
