/-! the first state: where each cell of a new object lies -/
theorem fm_len {f : Nat → List Nat} {c : Nat} : ∀ n, (∀ k, k < n → (f k).length = c) → ((List.range n).flatMap f).length = c * n
  | 0, _ => by simp
  | n + 1, h => by
    rw [List.range_succ, List.flatMap_append, List.length_append, fm_len n (fun k hk => h k (by omega))]
    simp only [List.flatMap_cons, List.flatMap_nil, List.append_nil]
    rw [h n (by omega), Nat.mul_succ]
theorem fm_get {f : Nat → List Nat} {c : Nat} : ∀ n, (∀ k, k < n → (f k).length = c) → ∀ p r, p < n → r < c → ((List.range n).flatMap f)[c * p + r]? = (f p)[r]?
  | 0, _, p, r, hp, _ => by omega
  | n + 1, h, p, r, hp, hr => by
    have hl := fm_len n (fun k hk => h k (by omega))
    rw [List.range_succ, List.flatMap_append]
    simp only [List.flatMap_cons, List.flatMap_nil, List.append_nil]
    by_cases e : p = n
    · subst e
      rw [List.getElem?_append_right (by rw [hl]; omega), hl, Nat.add_sub_cancel_left]
    · have hlt : c * p + r < c * n := by
        have := Nat.mul_le_mul_left c (show p + 1 ≤ n by omega)
        rw [Nat.mul_succ] at this
        omega
      rw [List.getElem?_append_left (by rw [hl]; exact hlt)]
      exact fm_get n (fun k hk => h k (by omega)) p r (by omega) hr
theorem cons_at {α : Type} (a : α) (l : List α) (i : Nat) : (a :: l)[1 + i]? = l[i]? := by rw [Nat.add_comm]; rfl
theorem app_at {α : Type} {l1 l2 : List α} {n : Nat} (h : l1.length = n) (i : Nat) : (l1 ++ l2)[n + i]? = l2[i]? := by
  rw [List.getElem?_append_right (by omega), ← h, Nat.add_sub_cancel_left]
theorem app_in {α : Type} {l1 l2 : List α} {n : Nat} (h : l1.length = n) {i : Nat} (hi : i < n) : (l1 ++ l2)[i]? = l1[i]? := List.getElem?_append_left (by omega)
def bpos (b : Nat) : Nat := if b < 42 then 9 + 2 * b else if b = 42 then 5 else if b = 43 then 7 else if b = 44 then 94 else if b = 45 then 96 else if b < 52 then 107 + 2 * (b - 46) else if b < 56 then 99 + 2 * (b - 52) else 120 + 2 * (b - 56)
def pos (k : Nat) : Nat :=
  if k < 5 then k else if k = 5 then 93 else if k = 6 then 98 else if k = 7 then 119 else if k < 15 then 122 + k else
  if k < 27 then 137 + 14 * (k - 15) else if k < 39 then 138 + 14 * (k - 27) else if k < 51 then 139 + 14 * (k - 39) else if k < 63 then 140 + 14 * (k - 51) else
  if k < 123 then 141 + 14 * ((k - 63) / 5) + 2 * ((k - 63) % 5) else if k < 183 then 142 + 14 * ((k - 123) / 5) + 2 * ((k - 123) % 5) else
  if k < 244 then bpos (k - 183) else bpos (k - 244) + 1
theorem pos_nd : va_nd ((List.range 305).map pos) = true := by decide +kernel
theorem pos_lt : ∀ k, k < 305 → pos k < 305 := by decide +kernel
theorem pos_inj {i j : Nat} (hi : i < 305) (hj : j < 305) (h : pos i = pos j) : i = j := va_nd_inj _ pos_nd i j (pos i) (by rw [List.getElem?_map, List.getElem?_range hi]; rfl) (by rw [List.getElem?_map, List.getElem?_range hj, h]; rfl)
theorem pos_b1 : ∀ t, t < 42 → pos (183 + t) = 9 + 2 * t := by decide +kernel
theorem pos_b2 : ∀ j, j < 6 → pos (229 + j) = 107 + 2 * j := by decide +kernel
theorem pos_b3 : ∀ j, j < 4 → pos (235 + j) = 99 + 2 * j := by decide +kernel
theorem pos_b4 : ∀ j, j < 5 → pos (239 + j) = 120 + 2 * j := by decide +kernel
theorem pos_lb : ∀ b, b < 61 → pos (244 + b) = pos (183 + b) + 1 := by decide +kernel
theorem pos_cu : ∀ p, p < 12 → pos (15 + p) = 137 + (14 * p + 0) ∧ pos (27 + p) = 137 + (14 * p + 1) ∧ pos (39 + p) = 137 + (14 * p + 2) ∧ pos (51 + p) = 137 + (14 * p + 3) := by decide +kernel
theorem pos_pl : ∀ p, p < 12 → ∀ i, i < 5 → pos (63 + (5 * p + i)) = 137 + (14 * p + (4 + (2 * i + 0))) ∧ pos (123 + (5 * p + i)) = 137 + (14 * p + (4 + (2 * i + 1))) := by decide +kernel
theorem new_len {cs : Nat → ClassId} {ci n : Nat} {h : Nat → va_E} {t : Nat} {b : List Nat} (hN : New3 cs ci n h t b) : (t :: b).length = 2 := by
  obtain ⟨w, rfl, _⟩ := hN
  rfl
/-- one Big, fresh -/
def Bz (cs : Nat → ClassId) (h : Nat → va_E) (a w : Nat) : Prop := h a = .inr (0, [.int (iI 0), .int (iI 0), .ref w]) ∧ h w = .inl (cs 0, 48, .inl (ai (fun _ => 0)))
theorem rr_first {cs : Nat → ClassId} {h : Nat → va_E} {x : Nat} {b : List Nat} (hAt : RRAt cs h x b) (hnd : (x :: b).Nodup) : ∃ (ad Qm : Nat → Nat) (I : Nat → Int), AdOk (x :: b) ad Qm ∧ ad 0 = x ∧ (∀ i, i ≠ 6 → I i = 0) ∧ CSt cs ad Qm h I (fun _ _ => 0) (fun t => ad (183 + t)) (fun _ => 0) := by
  obtain ⟨q7, q19, q30, q41, q54, q62, q70, q77, q84, q92, q100, b23, b34, b45, tm, bl, hb, ex, ec0, e54, e62, e70, e77, e84, e92, e100, hch, hsp, hra, hcu⟩ := hAt
  obtain ⟨c7, c16, c37, c41, c48, c52, ctm, cbl, hb23, ech, ec7, ec16, ec37, ec41, ec48, ec52, hct⟩ := hch
  obtain ⟨s5, s9, s16, s20, s29, s41, s45, s52, s56, s63, s67, s74, s78, stm, sbl, hb34, esp, es5, es9, es16, es20, es29, es41, es45, es52, es56, es63, es67, es74, es78, hst⟩ := hsp
  obtain ⟨r5, r9, r16, r20, r37, r41, r48, r52, r59, r63, hb45, era, er5, er9, er16, er20, er37, er41, er48, er52, er59, er63⟩ := hra
  have lc : ∀ k, k < 42 → (ctm k :: cbl k).length = 2 := fun k hk => new_len (hct k hk)
  have ls : ∀ k, k < 6 → (stm k :: sbl k).length = 2 := fun k hk => new_len (hst k hk)
  have lcu : ∀ k, k < 12 → (tm k :: bl k).length = 14 := fun k hk => by
    obtain ⟨va, fr, pa, tm2, bl2, hbl, _, _, _, _, hp⟩ := hcu k hk
    rw [hbl]
    simp only [List.length_cons]
    rw [fm_len (c := 2) 5 (fun j hj => new_len (hp j hj))]
  have l23 : b23.length = 90 := by rw [hb23]; simp only [List.length_cons]; rw [fm_len 42 lc]
  have l34 : b34.length = 25 := by rw [hb34]; simp only [List.length_cons]; rw [fm_len 6 ls]
  have l45 : b45.length = 10 := by rw [hb45]; rfl
  obtain ⟨FM, hFM⟩ : ∃ FM, FM = (List.range 12).flatMap (fun k => tm k :: bl k) := ⟨_, rfl⟩
  have lFM : FM.length = 168 := by rw [hFM, fm_len 12 lcu]
  rw [← hFM] at hb
  obtain ⟨T3, hT3⟩ : ∃ T3, T3 = q54 :: q62 :: q70 :: q77 :: q84 :: q92 :: q100 :: FM := ⟨_, rfl⟩
  rw [← hT3] at hb
  obtain ⟨T2, hT2⟩ : ∃ T2, T2 = q41 :: (b45 ++ T3) := ⟨_, rfl⟩
  rw [← hT2] at hb
  obtain ⟨T1, hT1⟩ : ∃ T1, T1 = q30 :: (b34 ++ T2) := ⟨_, rfl⟩
  rw [← hT1] at hb
  obtain ⟨L, hL⟩ : ∃ L, L = x :: b := ⟨_, rfl⟩
  rw [← hL] at hnd
  have a0 : ∀ i, L[3 + i]? = (b23 ++ T1)[i]? := fun i => by rw [hL, hb, show 3 + i = 1 + (1 + (1 + i)) by omega, cons_at, cons_at, cons_at]
  have a1 : ∀ i, i < 90 → L[3 + i]? = b23[i]? := fun i hi => by rw [a0, app_in l23 hi]
  have a2 : ∀ j, L[93 + j]? = T1[j]? := fun j => by rw [show 93 + j = 3 + (90 + j) by omega, a0, app_at l23]
  have a3 : ∀ i, i < 25 → L[94 + i]? = b34[i]? := fun i hi => by rw [show 94 + i = 93 + (1 + i) by omega, a2, hT1, cons_at, app_in l34 hi]
  have a4 : ∀ j, L[119 + j]? = T2[j]? := fun j => by rw [show 119 + j = 93 + (1 + (25 + j)) by omega, a2, hT1, cons_at, app_at l34]
  have a5 : ∀ i, i < 10 → L[120 + i]? = b45[i]? := fun i hi => by rw [show 120 + i = 119 + (1 + i) by omega, a4, hT2, cons_at, app_in l45 hi]
  have a6 : ∀ j, L[130 + j]? = T3[j]? := fun j => by rw [show 130 + j = 119 + (1 + (10 + j)) by omega, a4, hT2, cons_at, app_at l45]
  have a7 : ∀ j, L[137 + j]? = FM[j]? := fun j => by rw [show 137 + j = 130 + (1 + (1 + (1 + (1 + (1 + (1 + (1 + j))))))) by omega, a6, hT3, cons_at, cons_at, cons_at, cons_at, cons_at, cons_at, cons_at]
  have lL : L.length = 305 := by
    rw [hL, hb, hT1, hT2, hT3]
    simp only [List.length_cons, List.length_append]
    omega
  obtain ⟨ad, had⟩ : ∃ ad : Nat → Nat, ∀ k, ad k = (L[pos k]?).getD 0 := ⟨_, fun _ => rfl⟩
  have at_ : ∀ k v, L[pos k]? = some v → ad k = v := fun k v hv => by rw [had, hv]; rfl
  have mem : ∀ k, k < 305 → L[pos k]? = some (ad k) := fun k hk => by
    have hlt : pos k < L.length := by rw [lL]; exact pos_lt k hk
    rw [had, List.getElem?_eq_getElem hlt]; rfl
  have inj : ∀ i j, i < 305 → j < 305 → ad i = ad j → i = j := fun i j hi hj e => by
    have h1 := mem i hi
    have h2 := mem j hj
    rw [e] at h1
    exact pos_inj hi hj (nd_inj hnd h1 h2)
  obtain ⟨Qm, hQm⟩ : ∃ Qm : Nat → Nat, ∀ b, b < 61 → Qm (ad (183 + b)) = ad (244 + b) := by
    refine ⟨fun a => if hh : ∃ b, b < 61 ∧ a = ad (183 + b) then ad (244 + Classical.choose hh) else 0, fun b hb => ?_⟩
    have hh : ∃ b', b' < 61 ∧ ad (183 + b) = ad (183 + b') := ⟨b, hb, rfl⟩
    show (if hh : ∃ b', b' < 61 ∧ ad (183 + b) = ad (183 + b') then ad (244 + Classical.choose hh) else 0) = _
    rw [dif_pos hh]
    have hs := Classical.choose_spec hh
    have := inj _ _ (by omega) (by omega) hs.2
    rw [show Classical.choose hh = b by omega]
  have p0 : ad 0 = x := at_ 0 x (by show L[0]? = _; rw [hL]; rfl)
  have p1 : ad 1 = q7 := at_ 1 q7 (by show L[1]? = _; rw [hL, hb]; rfl)
  have p2 : ad 2 = q19 := at_ 2 q19 (by show L[2]? = _; rw [hL, hb]; rfl)
  have p3 : ad 3 = c7 := at_ 3 c7 (by show L[3 + 0]? = _; rw [a1 0 (by decide), hb23]; rfl)
  have p4 : ad 4 = c16 := at_ 4 c16 (by show L[3 + 1]? = _; rw [a1 1 (by decide), hb23]; rfl)
  have p5 : ad 5 = q30 := at_ 5 q30 (by show L[93 + 0]? = _; rw [a2, hT1]; rfl)
  have p6 : ad 6 = s29 := at_ 6 s29 (by show L[94 + 4]? = _; rw [a3 4 (by decide), hb34]; rfl)
  have p7 : ad 7 = q41 := at_ 7 q41 (by show L[119 + 0]? = _; rw [a4, hT2]; rfl)
  have p8 : ad 8 = q54 := at_ 8 q54 (by show L[130 + 0]? = _; rw [a6, hT3]; rfl)
  have p9 : ad 9 = q62 := at_ 9 q62 (by show L[130 + 1]? = _; rw [a6, hT3]; rfl)
  have p10 : ad 10 = q70 := at_ 10 q70 (by show L[130 + 2]? = _; rw [a6, hT3]; rfl)
  have p11 : ad 11 = q77 := at_ 11 q77 (by show L[130 + 3]? = _; rw [a6, hT3]; rfl)
  have p12 : ad 12 = q84 := at_ 12 q84 (by show L[130 + 4]? = _; rw [a6, hT3]; rfl)
  have p13 : ad 13 = q92 := at_ 13 q92 (by show L[130 + 5]? = _; rw [a6, hT3]; rfl)
  have p14 : ad 14 = q100 := at_ 14 q100 (by show L[130 + 6]? = _; rw [a6, hT3]; rfl)
  have b42 : ad 225 = c37 ∧ ad 286 = c41 := ⟨at_ 225 c37 (by show L[3 + 2]? = _; rw [a1 2 (by decide), hb23]; rfl), at_ 286 c41 (by show L[3 + 3]? = _; rw [a1 3 (by decide), hb23]; rfl)⟩
  have b43 : ad 226 = c48 ∧ ad 287 = c52 := ⟨at_ 226 c48 (by show L[3 + 4]? = _; rw [a1 4 (by decide), hb23]; rfl), at_ 287 c52 (by show L[3 + 5]? = _; rw [a1 5 (by decide), hb23]; rfl)⟩
  have b44 : ad 227 = s5 ∧ ad 288 = s9 := ⟨at_ 227 s5 (by show L[94 + 0]? = _; rw [a3 0 (by decide), hb34]; rfl), at_ 288 s9 (by show L[94 + 1]? = _; rw [a3 1 (by decide), hb34]; rfl)⟩
  have b45' : ad 228 = s16 ∧ ad 289 = s20 := ⟨at_ 228 s16 (by show L[94 + 2]? = _; rw [a3 2 (by decide), hb34]; rfl), at_ 289 s20 (by show L[94 + 3]? = _; rw [a3 3 (by decide), hb34]; rfl)⟩
  have b52 : ad 235 = s41 ∧ ad 296 = s45 := ⟨at_ 235 s41 (by show L[94 + 5]? = _; rw [a3 5 (by decide), hb34]; rfl), at_ 296 s45 (by show L[94 + 6]? = _; rw [a3 6 (by decide), hb34]; rfl)⟩
  have b53 : ad 236 = s52 ∧ ad 297 = s56 := ⟨at_ 236 s52 (by show L[94 + 7]? = _; rw [a3 7 (by decide), hb34]; rfl), at_ 297 s56 (by show L[94 + 8]? = _; rw [a3 8 (by decide), hb34]; rfl)⟩
  have b54 : ad 237 = s63 ∧ ad 298 = s67 := ⟨at_ 237 s63 (by show L[94 + 9]? = _; rw [a3 9 (by decide), hb34]; rfl), at_ 298 s67 (by show L[94 + 10]? = _; rw [a3 10 (by decide), hb34]; rfl)⟩
  have b55 : ad 238 = s74 ∧ ad 299 = s78 := ⟨at_ 238 s74 (by show L[94 + 11]? = _; rw [a3 11 (by decide), hb34]; rfl), at_ 299 s78 (by show L[94 + 12]? = _; rw [a3 12 (by decide), hb34]; rfl)⟩
  have b56 : ad 239 = r5 ∧ ad 300 = r9 := ⟨at_ 239 r5 (by show L[120 + 0]? = _; rw [a5 0 (by decide), hb45]; rfl), at_ 300 r9 (by show L[120 + 1]? = _; rw [a5 1 (by decide), hb45]; rfl)⟩
  have b57 : ad 240 = r16 ∧ ad 301 = r20 := ⟨at_ 240 r16 (by show L[120 + 2]? = _; rw [a5 2 (by decide), hb45]; rfl), at_ 301 r20 (by show L[120 + 3]? = _; rw [a5 3 (by decide), hb45]; rfl)⟩
  have b58 : ad 241 = r37 ∧ ad 302 = r41 := ⟨at_ 241 r37 (by show L[120 + 4]? = _; rw [a5 4 (by decide), hb45]; rfl), at_ 302 r41 (by show L[120 + 5]? = _; rw [a5 5 (by decide), hb45]; rfl)⟩
  have b59 : ad 242 = r48 ∧ ad 303 = r52 := ⟨at_ 242 r48 (by show L[120 + 6]? = _; rw [a5 6 (by decide), hb45]; rfl), at_ 303 r52 (by show L[120 + 7]? = _; rw [a5 7 (by decide), hb45]; rfl)⟩
  have b60 : ad 243 = r59 ∧ ad 304 = r63 := ⟨at_ 243 r59 (by show L[120 + 8]? = _; rw [a5 8 (by decide), hb45]; rfl), at_ 304 r63 (by show L[120 + 9]? = _; rw [a5 9 (by decide), hb45]; rfl)⟩
  have bt : ∀ t, t < 42 → ad (183 + t) = ctm t ∧ Bz cs h (ad (183 + t)) (ad (244 + t)) := fun t ht => by
    obtain ⟨w, hw, e1, e2⟩ := hct t ht
    have g : ∀ r, r < 2 → L[9 + 2 * t + r]? = (ctm t :: cbl t)[r]? := fun r hr => by
      rw [show 9 + 2 * t + r = 3 + (6 + (2 * t + r)) by omega, a1 _ (by omega), hb23, show 6 + (2 * t + r) = 1 + (1 + (1 + (1 + (1 + (1 + (2 * t + r)))))) by omega, cons_at, cons_at, cons_at, cons_at, cons_at, cons_at]
      exact fm_get 42 lc t r ht hr
    have q1 : ad (183 + t) = ctm t := at_ _ _ (by rw [pos_b1 t ht]; exact g 0 (by decide))
    have q2 : ad (244 + t) = w := at_ _ _ (by rw [pos_lb t (by omega), pos_b1 t ht, g 1 (by decide), hw]; rfl)
    exact ⟨q1, by rw [q1, q2]; exact ⟨e1, e2⟩⟩
  have bs : ∀ t, t < 6 → ad (229 + t) = stm t ∧ Bz cs h (ad (229 + t)) (ad (290 + t)) := fun t ht => by
    obtain ⟨w, hw, e1, e2⟩ := hst t ht
    have g : ∀ r, r < 2 → L[107 + 2 * t + r]? = (stm t :: sbl t)[r]? := fun r hr => by
      rw [show 107 + 2 * t + r = 94 + (13 + (2 * t + r)) by omega, a3 _ (by omega), hb34, show 13 + (2 * t + r) = 1 + (1 + (1 + (1 + (1 + (1 + (1 + (1 + (1 + (1 + (1 + (1 + (1 + (2 * t + r))))))))))))) by omega, cons_at, cons_at, cons_at, cons_at, cons_at, cons_at, cons_at, cons_at, cons_at, cons_at, cons_at, cons_at, cons_at]
      exact fm_get 6 ls t r ht hr
    have q1 : ad (229 + t) = stm t := at_ _ _ (by rw [pos_b2 t ht]; exact g 0 (by decide))
    have q2 : ad (290 + t) = w := at_ _ _ (by rw [show 290 + t = 244 + (46 + t) by omega, pos_lb (46 + t) (by omega), show 183 + (46 + t) = 229 + t by omega, pos_b2 t ht, g 1 (by decide), hw]; rfl)
    exact ⟨q1, by rw [q1, q2]; exact ⟨e1, e2⟩⟩
  have bc : ∀ p, p < 12 → ad (15 + p) = tm p ∧ (h (ad (15 + p)) = .inr (2, [.ref (ad (27 + p)), .ref (ad (39 + p)), .ref (ad (51 + p)), .int (iI 0), .int (iI 0)]) ∧ h (ad (27 + p)) = .inl (cs 0, 6, .inl (ai (fun _ => 0))) ∧ h (ad (39 + p)) = .inl (cs 0, 6, .inl (ai (fun _ => 0))) ∧ h (ad (51 + p)) = .inl (cs 5, 5, .inr (.inr (.inr (.inr (rfs 5 (fun i => ad (63 + (5 * p + i)))))))) ∧ ∀ i, i < 5 → h (ad (63 + (5 * p + i))) = .inr (3, [.int (iI 0), .int (iI 0), .ref (ad (123 + (5 * p + i)))]) ∧ h (ad (123 + (5 * p + i))) = .inl (cs 0, 8, .inl (ai (fun _ => 0)))) := fun p hp => by
    obtain ⟨va, fr, pa, tm2, bl2, hbl, k1, k2, k3, k4, k5⟩ := hcu p hp
    have g : ∀ r, r < 14 → L[137 + (14 * p + r)]? = (tm p :: bl p)[r]? := fun r hr => by rw [a7, hFM]; exact fm_get 12 lcu p r hp hr
    obtain ⟨o1, o2, o3, o4⟩ := pos_cu p hp
    have q1 : ad (15 + p) = tm p := at_ _ _ (by rw [o1, g 0 (by decide)]; rfl)
    have q2 : ad (27 + p) = va := at_ _ _ (by rw [o2, g 1 (by decide), hbl]; rfl)
    have q3 : ad (39 + p) = fr := at_ _ _ (by rw [o3, g 2 (by decide), hbl]; rfl)
    have q4 : ad (51 + p) = pa := at_ _ _ (by rw [o4, g 3 (by decide), hbl]; rfl)
    have q5 : ∀ i, i < 5 → ad (63 + (5 * p + i)) = tm2 i ∧ bl2 i = [ad (123 + (5 * p + i))] := fun i hi => by
      obtain ⟨u1, u2⟩ := pos_pl p hp i hi
      obtain ⟨w, hw, _, _⟩ := k5 i hi
      have gg : ∀ r, r < 2 → L[137 + (14 * p + (4 + (2 * i + r)))]? = (tm2 i :: bl2 i)[r]? := fun r hr => by
        rw [g _ (by omega), hbl, show 4 + (2 * i + r) = 1 + (1 + (1 + (1 + (2 * i + r)))) by omega, cons_at, cons_at, cons_at, cons_at]
        exact fm_get 5 (fun j hj => new_len (k5 j hj)) i r hi hr
      have v1 : ad (63 + (5 * p + i)) = tm2 i := at_ _ _ (by rw [u1]; exact gg 0 (by decide))
      have v2 : ad (123 + (5 * p + i)) = w := at_ _ _ (by rw [u2, gg 1 (by decide), hw]; rfl)
      exact ⟨v1, by rw [v2]; exact hw⟩
    refine ⟨q1, by rw [q1, q2, q3, q4]; exact k1, by rw [q2]; exact k2, by rw [q3]; exact k3, ?_, fun i hi => ?_⟩
    · rw [q4, k4]
      have : rfs 5 tm2 = rfs 5 (fun i => ad (63 + (5 * p + i))) := funext (fun i => by
        unfold rfs
        by_cases c : i < 5
        · rw [if_pos c, if_pos c]; exact congrArg some (q5 i c).1.symm
        · rw [if_neg c, if_neg c])
      rw [this]
    · obtain ⟨v1, v2⟩ := q5 i hi
      obtain ⟨w, hw, e1, e2⟩ := k5 i hi
      rw [v2] at hw
      have hw2 : ad (123 + (5 * p + i)) = w := by cases hw; rfl
      rw [v1, hw2]
      exact ⟨e1, e2⟩
  obtain ⟨I, hI, hI6⟩ : ∃ I : Nat → Int, (∀ i, i ≠ 6 → I i = 0) ∧ I 6 = -1 := ⟨fun i => if i = 6 then -1 else 0, fun i hi => if_neg hi, if_pos rfl⟩
  have hAd : AdOk (x :: b) ad Qm := ⟨fun k hk => by rw [← hL]; exact List.mem_of_getElem? (mem k hk), inj, hQm⟩
  refine ⟨ad, Qm, I, hAd, p0, hI, ⟨fun k hk hk3 => ?_, ⟨rfs 42 ctm, fun t ht => ?_, ?_⟩, ?_, ?_⟩⟩
  · rcases (show k = 0 ∨ k = 1 ∨ k = 2 ∨ k = 4 ∨ k = 5 ∨ k = 6 ∨ k = 7 ∨ k = 8 ∨ k = 9 ∨ k = 10 ∨ k = 11 ∨ k = 12 ∨ k = 13 ∨ k = 14 ∨ (15 ≤ k ∧ k < 27) ∨ (27 ≤ k ∧ k < 39) ∨ (39 ≤ k ∧ k < 51) ∨ (51 ≤ k ∧ k < 63) ∨ (63 ≤ k ∧ k < 123) ∨ (123 ≤ k ∧ k < 183) by omega) with e | e | e | e | e | e | e | e | e | e | e | e | e | e | e | e | e | e | e | e
    · subst e; rw [CE_x, p0, p1, p2, p5, p7, p8, p9, p10, p11, p12, p13, p14, hI 0 (by decide), hI 1 (by decide), hI 2 (by decide)]; exact ex
    · subst e
      rw [CE_c0, p1, ec0]
      have : rfs 12 tm = rfs 12 (fun p => ad (15 + p)) := funext (fun i => by
        unfold rfs
        by_cases c : i < 12
        · rw [if_pos c, if_pos c]; exact congrArg some (bc i c).1.symm
        · rw [if_neg c, if_neg c])
      rw [this]
    · subst e; rw [CE_ch, p2, p3, p4, b43.1, hI 3 (by decide), hI 4 (by decide), hI 5 (by decide)]; show h q19 = .inr (1, [.ref c7, .ref c16, .int (iI 0), .int (iI 0), .int (iI 0), .ref (ad 225), .ref c48]); rw [b42.1]; exact ech
    · subst e; rw [CE_tq, p4]; exact ec16
    · subst e; rw [CE_sp, p5, p6, b44.1, b45'.1, hI6]; show h q30 = .inr (5, [.ref s5, .ref s16, .ref s29, .int (iI (-1)), .ref (ad 235), .ref (ad 236), .ref (ad 237), .ref (ad 238)]); rw [b52.1, b53.1, b54.1, b55.1]; exact esp
    · subst e
      rw [CE_gs, p6, es29]
      have : rfs 6 stm = rfs 6 (fun j => ad (229 + j)) := funext (fun i => by
        unfold rfs
        by_cases c : i < 6
        · rw [if_pos c, if_pos c]; exact congrArg some (bs i c).1.symm
        · rw [if_neg c, if_neg c])
      rw [this]
    · subst e; rw [CE_ra, p7, b56.1, b57.1, b58.1, b59.1, b60.1, hI 7 (by decide), hI 8 (by decide)]; exact era
    · subst e; rw [CE_wide, p8]; exact e54
    · subst e; rw [CE_slope, p9]; exact e62
    · subst e; rw [CE_shared, p10]; exact e70
    · subst e; rw [CE_low, p11]; exact e77
    · subst e; rw [CE_high, p12]; exact e84
    · subst e; rw [CE_line, p13]; exact e92
    · subst e; rw [CE_stf, p14]; exact e100
    · obtain ⟨p, rfl⟩ : ∃ p, k = 15 + p := ⟨k - 15, by omega⟩
      rw [CE_cu _ _ _ _ _ (by omega), hI _ (by omega), hI _ (by omega)]; exact (bc p (by omega)).2.1
    · obtain ⟨p, rfl⟩ : ∃ p, k = 27 + p := ⟨k - 27, by omega⟩
      rw [CE_va _ _ _ _ _ (by omega)]; exact (bc p (by omega)).2.2.1
    · obtain ⟨p, rfl⟩ : ∃ p, k = 39 + p := ⟨k - 39, by omega⟩
      rw [CE_fr _ _ _ _ _ (by omega)]; exact (bc p (by omega)).2.2.2.1
    · obtain ⟨p, rfl⟩ : ∃ p, k = 51 + p := ⟨k - 51, by omega⟩
      rw [CE_pa _ _ _ _ _ (by omega)]; exact (bc p (by omega)).2.2.2.2.1
    · obtain ⟨p, i, hp, hi, rfl⟩ : ∃ p i, p < 12 ∧ i < 5 ∧ k = 63 + (5 * p + i) := ⟨(k - 63) / 5, (k - 63) % 5, by omega, by omega, by omega⟩
      rw [CE_pl _ _ _ _ _ (by omega), hI _ (by omega), hI _ (by omega)]; exact ((bc p hp).2.2.2.2.2 i hi).1
    · obtain ⟨p, i, hp, hi, rfl⟩ : ∃ p i, p < 12 ∧ i < 5 ∧ k = 123 + (5 * p + i) := ⟨(k - 123) / 5, (k - 123) % 5, by omega, by omega, by omega⟩
      rw [CE_wq _ _ _ _ _ (by omega)]; exact ((bc p hp).2.2.2.2.2 i hi).2
  · show rfs 42 ctm t = some (ad (183 + t))
    rw [(bt t ht).1]; unfold rfs; rw [if_pos ht]
  · rw [p3]; exact ec7
  · rintro a ⟨c, hc, rfl⟩
    rw [hQm c hc]
    have key : Bz cs h (ad (183 + c)) (ad (244 + c)) := by
      rcases (show c < 42 ∨ c = 42 ∨ c = 43 ∨ c = 44 ∨ c = 45 ∨ (46 ≤ c ∧ c < 52) ∨ c = 52 ∨ c = 53 ∨ c = 54 ∨ c = 55 ∨ c = 56 ∨ c = 57 ∨ c = 58 ∨ c = 59 ∨ c = 60 by omega) with e | e | e | e | e | e | e | e | e | e | e | e | e | e | e
      · exact (bt c e).2
      · subst e; show Bz cs h (ad 225) (ad 286); rw [b42.1, b42.2]; exact ⟨ec37, ec41⟩
      · subst e; show Bz cs h (ad 226) (ad 287); rw [b43.1, b43.2]; exact ⟨ec48, ec52⟩
      · subst e; show Bz cs h (ad 227) (ad 288); rw [b44.1, b44.2]; exact ⟨es5, es9⟩
      · subst e; show Bz cs h (ad 228) (ad 289); rw [b45'.1, b45'.2]; exact ⟨es16, es20⟩
      · obtain ⟨j, rfl⟩ : ∃ j, c = 46 + j := ⟨c - 46, by omega⟩
        rw [show 183 + (46 + j) = 229 + j by omega, show 244 + (46 + j) = 290 + j by omega]
        exact (bs j (by omega)).2
      · subst e; show Bz cs h (ad 235) (ad 296); rw [b52.1, b52.2]; exact ⟨es41, es45⟩
      · subst e; show Bz cs h (ad 236) (ad 297); rw [b53.1, b53.2]; exact ⟨es52, es56⟩
      · subst e; show Bz cs h (ad 237) (ad 298); rw [b54.1, b54.2]; exact ⟨es63, es67⟩
      · subst e; show Bz cs h (ad 238) (ad 299); rw [b55.1, b55.2]; exact ⟨es74, es78⟩
      · subst e; show Bz cs h (ad 239) (ad 300); rw [b56.1, b56.2]; exact ⟨er5, er9⟩
      · subst e; show Bz cs h (ad 240) (ad 301); rw [b57.1, b57.2]; exact ⟨er16, er20⟩
      · subst e; show Bz cs h (ad 241) (ad 302); rw [b58.1, b58.2]; exact ⟨er37, er41⟩
      · subst e; show Bz cs h (ad 242) (ad 303); rw [b59.1, b59.2]; exact ⟨er48, er52⟩
      · subst e; show Bz cs h (ad 243) (ad 304); rw [b60.1, b60.2]; exact ⟨er59, er63⟩
    exact ⟨0, 0, fun _ => 0, key.1, key.2, ⟨Int.le_refl _, by decide, fun j hj => absurd hj (Nat.not_lt_zero _), fun h => absurd h (by decide), rfl, rfl⟩⟩
  · have cne : ∀ t u, t < 61 → u < 61 → t ≠ u → ad (183 + t) ≠ ad (183 + u) := fun t u ht hu hne e => hne (by have := inj _ _ (by omega) (by omega) e; omega)
    refine ⟨⟨fun t ht => ⟨⟨t, by omega, rfl⟩, cne t 42 (by omega) (by decide) (by omega), cne t 43 (by omega) (by decide) (by omega)⟩, fun t u ht hu e => by have := inj _ _ (by omega) (by omega) e; omega, ⟨42, by decide, rfl⟩, ⟨43, by decide, rfl⟩, cne 42 43 (by decide) (by decide) (by decide)⟩, ⟨⟨52, by decide, by decide, rfl⟩, ⟨53, by decide, by decide, rfl⟩, ⟨54, by decide, by decide, rfl⟩, ⟨55, by decide, by decide, rfl⟩⟩, ⟨⟨cne 52 53 (by decide) (by decide) (by decide), cne 52 54 (by decide) (by decide) (by decide), cne 52 55 (by decide) (by decide) (by decide)⟩, ⟨cne 53 54 (by decide) (by decide) (by decide), cne 53 55 (by decide) (by decide) (by decide)⟩, cne 54 55 (by decide) (by decide) (by decide)⟩⟩
