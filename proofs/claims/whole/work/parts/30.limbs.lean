/-! whole numbers in limbs of 31 bits, the least first -/
def Bp (n : Nat) : Int := 2147483648 ^ n
theorem Bp_zero : Bp 0 = 1 := rfl
theorem Bp_succ (n : Nat) : Bp (n + 1) = 2147483648 * Bp n := by
  simp only [Bp, Int.pow_succ]
  omega
theorem Bp_pos (n : Nat) : 0 < Bp n := by
  induction n with
  | zero => decide
  | succ n ih => rw [Bp_succ]; omega
theorem Bp_add (a b : Nat) : Bp (a + b) = Bp a * Bp b := by
  induction b with
  | zero => rw [Bp_zero, Nat.add_zero, Int.mul_one]
  | succ b ih => rw [← Nat.add_assoc, Bp_succ, ih, Bp_succ]; grind
theorem Bp_le {a b : Nat} (h : a ≤ b) : Bp a ≤ Bp b := by
  induction b with
  | zero => rw [show a = 0 by omega]; exact Int.le_refl _
  | succ b ih =>
    by_cases hb : a ≤ b
    · have := ih hb
      have := Bp_pos b
      rw [Bp_succ]; omega
    · rw [show a = b + 1 by omega]; exact Int.le_refl _
theorem Bp_lt {a b : Nat} (h : Bp a < Bp b) : a < b := by
  by_cases hb : b ≤ a
  · have := Bp_le hb
    omega
  · omega
def Bs (g : Nat → Int) : Nat → Int
  | 0 => 0
  | n + 1 => Bs g n + g n * Bp n
theorem Bs_zero (g : Nat → Int) : Bs g 0 = 0 := rfl
theorem Bs_succ (g : Nat → Int) (n : Nat) : Bs g (n + 1) = Bs g n + g n * Bp n := rfl
def Lb (g : Nat → Int) (n : Nat) : Prop := ∀ j, j < n → 0 ≤ g j ∧ g j < 2147483648
theorem Lb.le {g : Nat → Int} {n m : Nat} (h : Lb g n) (hm : m ≤ n) : Lb g m := fun j hj => h j (by omega)
theorem Lb.put {g : Nat → Int} {n k : Nat} (h : Lb g n) {v : Int} (h0 : 0 ≤ v ∧ v < 2147483648) : Lb (up g k v) n := fun j hj => by
  by_cases hk : j = k
  · rw [hk, up_self]; exact h0
  · rw [up_ne _ _ hk]; exact h j hj
theorem Lb.snoc {g : Nat → Int} {n : Nat} (h : Lb g n) {v : Int} (h0 : 0 ≤ v ∧ v < 2147483648) : Lb (up g n v) (n + 1) := fun j hj => by
  by_cases hk : j = n
  · rw [hk, up_self]; exact h0
  · rw [up_ne _ _ hk]; exact h j (by omega)
theorem Bs_congr {g h : Nat → Int} {n : Nat} (hh : ∀ j, j < n → g j = h j) : Bs g n = Bs h n := by
  induction n with
  | zero => rfl
  | succ n ih => rw [Bs_succ, Bs_succ, ih (fun j hj => hh j (by omega)), hh n (by omega)]
theorem Bs_up_out (g : Nat → Int) {n k : Nat} (v : Int) (h : n ≤ k) : Bs (up g k v) n = Bs g n := Bs_congr (fun j hj => up_ne g v (by omega))
theorem Bs_up_in (g : Nat → Int) {n k : Nat} (v : Int) (h : k < n) : Bs (up g k v) n = Bs g n + (v - g k) * Bp k := by
  induction n with
  | zero => omega
  | succ n ih =>
    rw [Bs_succ, Bs_succ]
    by_cases hk : k = n
    · subst hk
      rw [Bs_up_out g v (Nat.le_refl _), up_self]; grind
    · rw [ih (by omega), up_ne g v (by omega)]; grind
theorem Bs_snoc (g : Nat → Int) (n : Nat) (v : Int) : Bs (up g n v) (n + 1) = Bs g n + v * Bp n := by
  rw [Bs_succ, Bs_up_out g v (Nat.le_refl _), up_self]
theorem Bs_range {g : Nat → Int} {n : Nat} (h : Lb g n) : 0 ≤ Bs g n ∧ Bs g n < Bp n := by
  induction n with
  | zero => exact ⟨Int.le_refl _, Bp_pos 0⟩
  | succ n ih =>
    have h1 := ih (h.le (by omega))
    have h2 := h n (by omega)
    have h3 := Bp_pos n
    have h4 : 0 ≤ g n * Bp n := Int.mul_nonneg h2.1 (by omega)
    have h5 : g n * Bp n ≤ 2147483647 * Bp n := Int.mul_le_mul_of_nonneg_right (by omega) (by omega)
    rw [Bs_succ, Bp_succ]
    omega
theorem Bs_zeros {g : Nat → Int} {n : Nat} (h : ∀ j, j < n → g j = 0) : Bs g n = 0 := by
  induction n with
  | zero => rfl
  | succ n ih => rw [Bs_succ, ih (fun j hj => h j (by omega)), h n (by omega)]; omega
/-- the top limb is not 0: the number is at least so great -/
theorem Bs_top {g : Nat → Int} {n : Nat} (h : Lb g (n + 1)) (ht : g n ≠ 0) : Bp n ≤ Bs g (n + 1) := by
  have h1 := Bs_range (h.le (show n ≤ n + 1 by omega))
  have h2 := h n (by omega)
  have h3 := Bp_pos n
  have h5 : 1 * Bp n ≤ g n * Bp n := Int.mul_le_mul_of_nonneg_right (by omega) (by omega)
  rw [Bs_succ]
  omega
/-- side, size and limbs hold z -/
def BV (sd n : Int) (g : Nat → Int) (z : Int) : Prop := 0 ≤ n ∧ n ≤ 48 ∧ Lb g n.toNat ∧ (0 < n → g (n.toNat - 1) ≠ 0) ∧ sd = z.sign ∧ Bs g n.toNat = (z.natAbs : Int)
theorem BV.zero {sd n : Int} {g : Nat → Int} {z : Int} (h : BV sd n g z) : z = 0 ↔ n = 0 := by
  obtain ⟨h1, h2, h3, h4, h5, h6⟩ := h
  constructor
  · intro hz
    by_cases hn : n = 0
    · exact hn
    · have h7 := Bs_top (g := g) (n := n.toNat - 1) (by rw [show n.toNat - 1 + 1 = n.toNat by omega]; exact h3) (h4 (by omega))
      have h8 := Bp_pos (n.toNat - 1)
      rw [show n.toNat - 1 + 1 = n.toNat by omega] at h7
      omega
  · intro hn
    subst hn
    have h7 : Bs g (0 : Int).toNat = 0 := rfl
    omega
theorem BV.side {sd n : Int} {g : Nat → Int} {z : Int} (h : BV sd n g z) : (sd = 1 ∧ 0 < z) ∨ (sd = 0 ∧ z = 0) ∨ (sd = -1 ∧ z < 0) := by
  have h5 := h.2.2.2.2.1
  rcases Int.lt_trichotomy z 0 with hz | hz | hz
  · rw [Int.sign_eq_neg_one_of_neg hz] at h5; omega
  · subst hz; simp at h5; omega
  · rw [Int.sign_eq_one_of_pos hz] at h5; omega
theorem BV.size {sd n : Int} {g : Nat → Int} {z : Int} (h : BV sd n g z) (k : Nat) (hz : (z.natAbs : Int) < Bp k) : n ≤ k := by
  obtain ⟨h1, h2, h3, h4, h5, h6⟩ := h
  by_cases hn : n = 0
  · omega
  · have h7 := Bs_top (g := g) (n := n.toNat - 1) (by rw [show n.toNat - 1 + 1 = n.toNat by omega]; exact h3) (h4 (by omega))
    rw [show n.toNat - 1 + 1 = n.toNat by omega] at h7
    have h8 := Bp_lt (show Bp (n.toNat - 1) < Bp k by omega)
    omega
theorem BV.lt {sd n : Int} {g : Nat → Int} {z : Int} (h : BV sd n g z) : (z.natAbs : Int) < Bp n.toNat := by
  have h7 := Bs_range h.2.2.1
  have h8 := h.2.2.2.2.2
  omega
/-- from the limbs: after trimming -/
theorem BV.mk {sd : Int} {n : Nat} {g : Nat → Int} {z : Int} (hn : n ≤ 48) (hl : Lb g n) (ht : 0 < n → g (n - 1) ≠ 0) (hs : n ≠ 0 → sd = z.sign) (hv : Bs g n = (z.natAbs : Int)) : BV (if n = 0 then 0 else sd) (n : Int) g z := by
  refine ⟨by omega, by omega, by rw [Int.toNat_natCast]; exact hl, fun h => by rw [Int.toNat_natCast]; exact ht (by omega), ?_, by rw [Int.toNat_natCast]; exact hv⟩
  split
  · rename_i h0
    subst h0
    have : z = 0 := by have h1 : Bs g 0 = 0 := rfl; omega
    subst this
    rfl
  · rename_i h0
    exact hs h0
theorem two63 : (9223372036854775808 : Int) < Bp 3 := by decide
/-! put -/
def PutI (v : Int) (n : Nat) (r : Int) (g : Nat → Int) : Prop := 0 ≤ r ∧ r < 9223372036854775808 ∧ Lb g n ∧ Bs g n + r * Bp n = (v.natAbs : Int) ∧ (n ≠ 0 → r = 0 → g (n - 1) ≠ 0)
theorem PutI.first {v : Int} {g : Nat → Int} {r : Int} (hr : r = (v.natAbs : Int)) (h : r < 9223372036854775808) : PutI v 0 r g := ⟨by omega, h, fun j hj => by omega, by rw [Bs_zero, Bp_zero]; omega, fun h => by omega⟩
theorem PutI.few {v : Int} {n : Nat} {r : Int} {g : Nat → Int} (h : PutI v n r g) (hv : (v.natAbs : Int) < 9223372036854775808) (hr : r ≠ 0) : n < 3 := by
  obtain ⟨h1, h2, h3, h4, h5⟩ := h
  have h6 := Bs_range h3
  have h7 : 1 * Bp n ≤ r * Bp n := Int.mul_le_mul_of_nonneg_right (by omega) (Int.le_of_lt (Bp_pos n))
  have h8 := two63
  exact Bp_lt (by omega)
theorem PutI.step {v : Int} {n : Nat} {r : Int} {g : Nat → Int} (h : PutI v n r g) (hr : r ≠ 0) : PutI v (n + 1) (r / 2147483648) (up g n (r % 2147483648)) := by
  obtain ⟨h1, h2, h3, h4, h5⟩ := h
  refine ⟨by omega, by omega, h3.snoc (by omega), ?_, fun _ h0 => by rw [Nat.add_sub_cancel, up_self]; omega⟩
  rw [Bs_snoc, Bp_succ, ← h4]
  have h6 : r = 2147483648 * (r / 2147483648) + r % 2147483648 := by omega
  generalize r / 2147483648 = q at *
  generalize r % 2147483648 = t at *
  subst h6
  grind
theorem PutI.last {v : Int} {n : Nat} {g : Nat → Int} {sd : Int} (h : PutI v n 0 g) (hv : (v.natAbs : Int) < 9223372036854775808) (hs : sd = v.sign) : BV sd (n : Int) g v := by
  obtain ⟨h1, h2, h3, h4, h5⟩ := h
  have h9 : n ≤ 48 := by
    by_cases hn : n = 0
    · omega
    · have h7 := Bs_top (g := g) (n := n - 1) (by rw [show n - 1 + 1 = n by omega]; exact h3) (h5 hn rfl)
      rw [show n - 1 + 1 = n by omega] at h7
      have h8 := two63
      have := Bp_lt (show Bp (n - 1) < Bp 3 by omega)
      omega
  refine ⟨by omega, by omega, by rw [Int.toNat_natCast]; exact h3, fun h => by rw [Int.toNat_natCast]; exact h5 (by omega) rfl, hs, by rw [Int.toNat_natCast]; omega⟩
/-! putUnit -/
def UnitI (w k : Nat) (g : Nat → Int) : Prop := k ≤ w + 1 ∧ ∀ j, j < k → g j = if j = w then 1 else 0
theorem UnitI.first {w : Nat} {g : Nat → Int} : UnitI w 0 g := ⟨by omega, fun j hj => by omega⟩
theorem UnitI.step {w k : Nat} {g : Nat → Int} (h : UnitI w k g) (hk : k ≤ w) {v : Int} (hv : v = if k = w then 1 else 0) : UnitI w (k + 1) (up g k v) := ⟨by omega, fun j hj => by
  by_cases hjk : j = k
  · rw [hjk, up_self, hv]
  · rw [up_ne _ _ hjk]; exact h.2 j (by omega)⟩
theorem UnitI.last {w : Nat} {g : Nat → Int} (h : UnitI w (w + 1) g) (hw : w < 48) : BV 1 ((w + 1 : Nat) : Int) g (Bp w) := by
  have h0 : Bs g w = 0 := Bs_zeros (fun j hj => by rw [h.2 j (by omega), if_neg (by omega)])
  have h1 : g w = 1 := by rw [h.2 w (by omega), if_pos rfl]
  have h2 := Bp_pos w
  refine ⟨by omega, by omega, fun j hj => ?_, fun _ => ?_, by rw [Int.sign_eq_one_of_pos h2], ?_⟩
  · rw [h.2 j (by omega)]; split <;> omega
  · rw [Int.toNat_natCast, Nat.add_sub_cancel, h1]; omega
  · rw [Int.toNat_natCast, Bs_succ, h0, h1]; omega
/-! putWords -/
def WordsI (w : Nat → Int) (n k sz : Nat) (g : Nat → Int) : Prop := k ≤ n ∧ sz ≤ k ∧ (∀ j, j < k → g j = w (n - 1 - j)) ∧ (∀ j, sz ≤ j → j < k → g j = 0) ∧ (0 < sz → g (sz - 1) ≠ 0)
theorem WordsI.first {w : Nat → Int} {n : Nat} {g : Nat → Int} : WordsI w n 0 0 g := ⟨by omega, by omega, fun j hj => by omega, fun j _ hj => by omega, fun h => by omega⟩
theorem WordsI.stepNe {w : Nat → Int} {n k sz : Nat} {g : Nat → Int} (h : WordsI w n k sz g) (hk : k < n) {v : Int} (hv : v = w (n - 1 - k)) (h0 : v ≠ 0) : WordsI w n (k + 1) (k + 1) (up g k v) := by
  obtain ⟨h1, h2, h3, h4, h5⟩ := h
  refine ⟨by omega, by omega, fun j hj => ?_, fun j h6 h7 => by omega, fun _ => by rw [Nat.add_sub_cancel, up_self]; exact h0⟩
  by_cases hjk : j = k
  · rw [hjk, up_self, hv]
  · rw [up_ne _ _ hjk]; exact h3 j (by omega)
theorem WordsI.stepEq {w : Nat → Int} {n k sz : Nat} {g : Nat → Int} (h : WordsI w n k sz g) (hk : k < n) {v : Int} (hv : v = w (n - 1 - k)) (h0 : v = 0) : WordsI w n (k + 1) sz (up g k v) := by
  obtain ⟨h1, h2, h3, h4, h5⟩ := h
  refine ⟨by omega, by omega, fun j hj => ?_, fun j h6 h7 => ?_, fun h9 => by rw [up_ne _ _ (by omega)]; exact h5 h9⟩
  · by_cases hjk : j = k
    · rw [hjk, up_self, hv]
    · rw [up_ne _ _ hjk]; exact h3 j (by omega)
  · by_cases hjk : j = k
    · rw [hjk, up_self, h0]
    · rw [up_ne _ _ hjk]; exact h4 j h6 (by omega)
theorem Bs_cut {g : Nat → Int} {n m : Nat} (hm : m ≤ n) (h : ∀ j, m ≤ j → j < n → g j = 0) : Bs g n = Bs g m := by
  induction n with
  | zero => rw [show m = 0 by omega]
  | succ n ih =>
    by_cases hn : m = n + 1
    · rw [hn]
    · rw [Bs_succ, ih (by omega) (fun j h1 h2 => h j h1 (by omega)), h n (by omega) (by omega)]; omega
/-- the words of a root's bits as one number -/
def Wv (w : Nat → Int) (n : Nat) : Int := Bs (fun k => w (n - 1 - k)) n
theorem Wv_range {w : Nat → Int} {n : Nat} (h : Lb w n) : 0 ≤ Wv w n ∧ Wv w n < Bp n := Bs_range (fun j hj => h (n - 1 - j) (by omega))
theorem WordsI.last {w : Nat → Int} {n sz : Nat} {g : Nat → Int} (h : WordsI w n n sz g) (hl : Lb w n) (hn : n ≤ 48) {sd : Int} (hs : sd = if sz = 0 then 0 else 1) : BV sd (sz : Int) g (Wv w n) := by
  obtain ⟨h1, h2, h3, h4, h5⟩ := h
  have h6 := Wv_range hl
  have h7 : Bs g sz = Wv w n := by rw [← Bs_cut h2 h4]; exact Bs_congr h3
  have h8 : Lb g sz := fun j hj => by rw [h3 j (by omega)]; exact hl _ (by omega)
  rw [hs]
  refine BV.mk (by omega) h8 h5 (fun h9 => ?_) (by omega)
  have h10 := Bs_top (g := g) (n := sz - 1) (by rw [show sz - 1 + 1 = sz by omega]; exact h8) (h5 (by omega))
  rw [show sz - 1 + 1 = sz by omega] at h10
  have := Bp_pos (sz - 1)
  rw [Int.sign_eq_one_of_pos (by omega)]
/-! trim -/
def TrimI (n : Nat) (g : Nat → Int) (v : Int) : Prop := n ≤ 48 ∧ Lb g n ∧ Bs g n = v
theorem TrimI.step {n : Nat} {g : Nat → Int} {v : Int} (h : TrimI n g v) (hn : 0 < n) (h0 : g (n - 1) = 0) : TrimI (n - 1) g v := by
  refine ⟨by have := h.1; omega, h.2.1.le (by omega), ?_⟩
  rw [← h.2.2]
  exact (Bs_cut (by omega) (fun j h1 h2 => by rw [show j = n - 1 by omega]; exact h0)).symm
/-! copy -/
theorem BV.copy {sd n : Int} {g h : Nat → Int} {z : Int} (hz : BV sd n g z) (hh : ∀ j : Nat, (j : Int) < n → h j = g j) : BV sd n h z := by
  obtain ⟨h1, h2, h3, h4, h5, h6⟩ := hz
  refine ⟨h1, h2, fun j hj => by rw [hh j (by omega)]; exact h3 j hj, fun h => by rw [hh _ (by omega)]; exact h4 h, h5, by rw [← h6]; exact Bs_congr (fun j hj => hh j (by omega))⟩
/-! add -/
def AddI (g h : Nat → Int) (n m : Nat) (same : Int) (k : Nat) (c : Int) (x : Nat → Int) : Prop := -1 ≤ c ∧ c ≤ 1 ∧ Lb x k ∧ (∀ j, k ≤ j → x j = g j) ∧ Bs x k + c * Bp k = Bs g (min k n) + same * Bs h (min k m)
theorem AddI.first {g h : Nat → Int} {n m : Nat} {same : Int} : AddI g h n m same 0 0 g := ⟨by omega, by omega, fun j hj => by omega, fun j _ => rfl, by simp [Bs_zero]⟩
theorem Bs_min (g : Nat → Int) (n k : Nat) : Bs g (min (k + 1) n) = Bs g (min k n) + (if k < n then g k else 0) * Bp k := by
  split
  · rw [show min (k + 1) n = k + 1 by omega, show min k n = k by omega, Bs_succ]
  · rw [show min (k + 1) n = n by omega, show min k n = n by omega, Int.zero_mul, Int.add_zero]
theorem AddI.step {g h x : Nat → Int} {n m : Nat} {same : Int} {k : Nat} {c mine other : Int} (hI : AddI g h n m same k c x) (hg : Lb g n) (hh : Lb h m) (hs : same = 1 ∨ same = 0 ∨ same = -1) (hm : mine = if k < n then x k else 0) (ho : other = if k < m then h k else 0) : AddI g h n m same (k + 1) ((c + (mine + same * other)) / 2147483648) (up x k ((c + (mine + same * other)) % 2147483648)) ∧ -4294967296 < c + (mine + same * other) ∧ c + (mine + same * other) < 4294967296 := by
  obtain ⟨h1, h2, h3, h4, h5⟩ := hI
  rw [h4 k (by omega)] at hm
  have h6 : 0 ≤ mine ∧ mine < 2147483648 := by
    rw [hm]; split
    · exact hg k (by assumption)
    · omega
  have h7 : 0 ≤ other ∧ other < 2147483648 := by
    rw [ho]; split
    · exact hh k (by assumption)
    · omega
  have h8 : same * other = other ∨ same * other = 0 ∨ same * other = -other := by
    rcases hs with rfl | rfl | rfl
    · left; omega
    · right; left; omega
    · right; right; omega
  refine ⟨⟨by omega, by omega, h3.snoc (by omega), fun j hj => by rw [up_ne _ _ (by omega)]; exact h4 j (by omega), ?_⟩, by omega, by omega⟩
  rw [Bs_snoc, Bp_succ, Bs_min, Bs_min, ← hm, ← ho]
  generalize hw : c + (mine + same * other) = w
  have h9 : w = 2147483648 * (w / 2147483648) + w % 2147483648 := by omega
  generalize w / 2147483648 = q at *
  generalize w % 2147483648 = t at *
  grind
/-- the second loop: what is missing to a full power -/
def NegI (g : Nat → Int) (k : Nat) (c : Int) (x : Nat → Int) : Prop := -1 ≤ c ∧ c ≤ 0 ∧ Lb x k ∧ (∀ j, k ≤ j → x j = g j) ∧ Bs x k + c * Bp k = - Bs g k
theorem NegI.first {g : Nat → Int} : NegI g 0 0 g := ⟨by omega, by omega, fun j hj => by omega, fun j _ => rfl, by rw [Bs_zero]; omega⟩
theorem NegI.step {g x : Nat → Int} {n k : Nat} {c : Int} (hI : NegI g k c x) (hg : Lb g n) (hk : k < n) : NegI g (k + 1) ((c - x k) / 2147483648) (up x k ((c - x k) % 2147483648)) ∧ -4294967296 < c - x k ∧ c - x k < 4294967296 := by
  obtain ⟨h1, h2, h3, h4, h5⟩ := hI
  rw [h4 k (by omega)]
  have h6 := hg k hk
  refine ⟨⟨by omega, by omega, h3.snoc (by omega), fun j hj => by rw [up_ne _ _ (by omega)]; exact h4 j (by omega), ?_⟩, by omega, by omega⟩
  rw [Bs_snoc, Bp_succ, Bs_succ]
  generalize hw : c - g k = w
  have h9 : w = 2147483648 * (w / 2147483648) + w % 2147483648 := by omega
  generalize w / 2147483648 = q at *
  generalize w % 2147483648 = t at *
  grind
/-- sign and size of a sum, from the sizes -/
theorem sum_split {z a w s same : Int} (hw : w = 1 ∨ w = -1) (hs : s = if z.sign = 0 then a.sign * w else z.sign) (hm : same = a.sign * w * s) : z + w * a = s * (z.natAbs + same * a.natAbs) ∧ (same = 1 ∨ same = 0 ∨ same = -1) ∧ (s = 1 ∨ s = 0 ∨ s = -1) ∧ (s = 0 → z = 0 ∧ a = 0) ∧ (same = 0 → a = 0) := by
  have hz : (z.sign = 1 ∧ (z.natAbs : Int) = z ∧ 0 < z) ∨ (z.sign = 0 ∧ z = 0) ∨ (z.sign = -1 ∧ (z.natAbs : Int) = -z ∧ z < 0) := by
    rcases Int.lt_trichotomy z 0 with h | h | h
    · right; right; exact ⟨Int.sign_eq_neg_one_of_neg h, by omega, h⟩
    · right; left; subst h; exact ⟨rfl, rfl⟩
    · left; exact ⟨Int.sign_eq_one_of_pos h, by omega, h⟩
  have ha : (a.sign = 1 ∧ (a.natAbs : Int) = a ∧ 0 < a) ∨ (a.sign = 0 ∧ a = 0) ∨ (a.sign = -1 ∧ (a.natAbs : Int) = -a ∧ a < 0) := by
    rcases Int.lt_trichotomy a 0 with h | h | h
    · right; right; exact ⟨Int.sign_eq_neg_one_of_neg h, by omega, h⟩
    · right; left; subst h; exact ⟨rfl, rfl⟩
    · left; exact ⟨Int.sign_eq_one_of_pos h, by omega, h⟩
  rcases hz with ⟨h1, h2, h3⟩ | ⟨h1, h2⟩ | ⟨h1, h2, h3⟩ <;> rcases ha with ⟨h4, h5, h6⟩ | ⟨h4, h5⟩ | ⟨h4, h5, h6⟩ <;> rcases hw with rfl | rfl <;> simp [h1, h4] at hs hm <;> subst hs <;> subst hm <;> (refine ⟨?_, ?_, ?_, ?_, ?_⟩ <;> first | omega | (intros; omega) | grind)
theorem Lb.of_ge {g x : Nat → Int} {n k : Nat} (h1 : Lb x k) (h2 : ∀ j, k ≤ j → x j = g j) (h3 : Lb g n) : Lb x n := fun j hj => by
  by_cases hk : j < k
  · exact h1 j hk
  · rw [h2 j (by omega)]; exact h3 j hj
/-- the end of an addition: what the limbs hold, and the side -/
theorem add_fin {n : Nat} {y : Nat → Int} {V t s z e : Int} (hT : TrimI n y V) (htop : 0 < n → y (n - 1) ≠ 0) (hz : z = s * e) (hV : V = t * e) (ht : t = 1 ∨ t = -1) (hs : s = 1 ∨ s = 0 ∨ s = -1) (hs0 : s = 0 → e = 0) : BV (if n = 0 then 0 else t * s) (n : Int) y z := by
  obtain ⟨h1, h2, h3⟩ := hT
  have h4 := Bs_range h2
  have hzV : (z.natAbs : Int) = V := by
    rcases hs with rfl | rfl | rfl
    · rcases ht with rfl | rfl <;> omega
    · have := hs0 rfl
      subst this
      rcases ht with rfl | rfl <;> omega
    · rcases ht with rfl | rfl <;> omega
  refine BV.mk h1 h2 htop (fun h0 => ?_) (by omega)
  have h5 := Bs_top (g := y) (n := n - 1) (by rw [show n - 1 + 1 = n by omega]; exact h2) (htop (by omega))
  rw [show n - 1 + 1 = n by omega] at h5
  have h6 := Bp_pos (n - 1)
  rcases hs with rfl | rfl | rfl
  · rcases ht with rfl | rfl
    · rw [Int.sign_eq_one_of_pos (by omega)]; omega
    · rw [Int.sign_eq_neg_one_of_neg (by omega)]; omega
  · have := hs0 rfl
    omega
  · rcases ht with rfl | rfl
    · rw [Int.sign_eq_neg_one_of_neg (by omega)]; omega
    · rw [Int.sign_eq_one_of_pos (by omega)]; omega
theorem AddI.full {g h x : Nat → Int} {n m top : Nat} {same c : Int} (hI : AddI g h n m same top c x) (hn : n ≤ top) (hm : m ≤ top) : Bs x top + c * Bp top = Bs g n + same * Bs h m := by
  have := hI.2.2.2.2
  rw [show min top n = n by omega, show min top m = m by omega] at this
  exact this
/-- no carry -/
theorem AddI.even {g h x : Nat → Int} {n m top : Nat} {same : Int} (hI : AddI g h n m same top 0 x) (hn : n ≤ top) (hm : m ≤ top) (ht : top ≤ 48) : TrimI top x (1 * (Bs g n + same * Bs h m)) := by
  have := hI.full hn hm
  exact ⟨ht, hI.2.2.1, by omega⟩
/-- a carry -/
theorem AddI.over {g h x : Nat → Int} {n m top : Nat} {same c : Int} (hI : AddI g h n m same top c x) (hn : n ≤ top) (hm : m ≤ top) (hc : 0 < c) (hs : same = 1 ∨ same = 0 ∨ same = -1) (hh : Lb h m) (hlt : Bs g n + Bs h m < Bp 48) (ht : top ≤ 48) : top < 48 ∧ TrimI (top + 1) (up x top c) (1 * (Bs g n + same * Bs h m)) := by
  have h1 := hI.full hn hm
  have h2 := hI.2.1
  have h3 : c = 1 := by omega
  subst h3
  have h4 := Bs_range hI.2.2.1
  have h5 := Bs_range hh
  have h6 : same * Bs h m ≤ Bs h m := by
    rcases hs with rfl | rfl | rfl <;> omega
  have h7 : top < 48 := Bp_lt (by omega)
  refine ⟨h7, by omega, hI.2.2.1.snoc (by omega), ?_⟩
  rw [Bs_snoc]
  omega
/-- more was taken away than there was -/
theorem NegI.full {g h x y : Nat → Int} {n m top : Nat} {same c c2 : Int} (hI : AddI g h n m same top c x) (hN : NegI x top c2 y) (hn : n ≤ top) (hm : m ≤ top) (hc : c < 0) (hs : same = 1 ∨ same = 0 ∨ same = -1) (hg : Lb g n) (hh : Lb h m) (ht : top ≤ 48) : TrimI top y (-1 * (Bs g n + same * Bs h m)) := by
  have h1 := hI.full hn hm
  have h2 := hI.1
  have h3 : c = -1 := by omega
  subst h3
  obtain ⟨n1, n2, n3, n4, n5⟩ := hN
  have h4 := Bs_range hI.2.2.1
  have h5 := Bs_range hh
  have h8 := Bs_range hg
  have h9 := Bp_le hm
  have h10 := Bs_range n3
  have h11 := Bp_pos top
  have h6 : - Bs h m ≤ same * Bs h m := by
    rcases hs with rfl | rfl | rfl <;> omega
  refine ⟨ht, n3, ?_⟩
  have h7 : c2 = -1 ∨ c2 = 0 := by omega
  rcases h7 with rfl | rfl <;> omega
/-! product -/
def ProI (g h : Nat → Int) (n m N k : Nat) (x : Nat → Int) : Prop := k ≤ n ∧ Lb x N ∧ (N = n + m → Bs x N = Bs g k * Bs h m ∧ ∀ j, k + m ≤ j → j < n + m → x j = 0)
theorem ProI.first {g h x : Nat → Int} {n m N : Nat} (h0 : ∀ j, j < N → x j = 0) : ProI g h n m N 0 x := ⟨by omega, fun j hj => by rw [h0 j hj]; omega, fun hN => ⟨by rw [Bs_zeros h0, Bs_zero, Int.zero_mul], fun j _ hj => h0 j (by omega)⟩⟩
def InI (h : Nat → Int) (n m k j : Nat) (V f c : Int) (x : Nat → Int) : Prop := j ≤ m ∧ 0 ≤ c ∧ c < 2147483648 ∧ Lb x (n + m) ∧ (∀ i, k + m ≤ i → i < n + m → x i = 0) ∧ Bs x (n + m) + c * Bp (k + j) = V + f * (Bs h j * Bp k) ∧ (f = 0 → c = 0)
theorem InI.first {g h x : Nat → Int} {n m k : Nat} {f : Int} (hP : ProI g h n m (n + m) k x) : InI h n m k 0 (Bs g k * Bs h m) f 0 x := by
  obtain ⟨h1, h2, h3⟩ := hP
  have h3 := h3 rfl
  exact ⟨by omega, by omega, by omega, h2, h3.2, by rw [h3.1, Bs_zero]; simp, fun _ => rfl⟩
theorem limb_mul {a b : Int} (ha : 0 ≤ a ∧ a < 2147483648) (hb : 0 ≤ b ∧ b < 2147483648) : 0 ≤ a * b ∧ a * b ≤ 4611686014132420609 := by
  have h1 := Int.mul_nonneg ha.1 hb.1
  have h2 := Int.mul_le_mul (show a ≤ 2147483647 by omega) (show b ≤ 2147483647 by omega) hb.1 (by omega)
  omega
theorem InI.step {h x : Nat → Int} {n m k j : Nat} {V f c : Int} (hI : InI h n m k j V f c x) (hh : Lb h m) (hf : 0 ≤ f ∧ f < 2147483648) (hf0 : f ≠ 0) (hj : j < m) (hk : k < n) : InI h n m k (j + 1) V f ((c + (x (k + j) + f * h j)) / 2147483648) (up x (k + j) ((c + (x (k + j) + f * h j)) % 2147483648)) ∧ 0 ≤ c + (x (k + j) + f * h j) ∧ c + (x (k + j) + f * h j) < 4611686018427387904 := by
  obtain ⟨h1, h2, h3, h4, h5, h6, h7⟩ := hI
  have h8 := h4 (k + j) (by omega)
  have h9 := limb_mul hf (hh j hj)
  refine ⟨⟨by omega, by omega, by omega, h4.put (by omega), fun i hi hi2 => by rw [up_ne _ _ (by omega)]; exact h5 i hi hi2, ?_, fun h => absurd h hf0⟩, by omega, by omega⟩
  rw [Bs_up_in _ _ (by omega), Bs_succ, ← Nat.add_assoc, Bp_succ]
  rw [Bp_add] at *
  generalize hw : c + (x (k + j) + f * h j) = w
  have h10 : w = 2147483648 * (w / 2147483648) + w % 2147483648 := by omega
  generalize w / 2147483648 = q at *
  generalize w % 2147483648 = t at *
  grind
theorem InI.last {g h x : Nat → Int} {n m k j : Nat} {f c : Int} (hI : InI h n m k j (Bs g k * Bs h m) f c x) (hk : k < n) (hf : f = g k) (hj : j = m ∨ f = 0) : ProI g h n m (n + m) (k + 1) (up x (k + m) c) := by
  obtain ⟨h1, h2, h3, h4, h5, h6, h7⟩ := hI
  refine ⟨by omega, h4.put ⟨h2, h3⟩, fun _ => ⟨?_, fun i hi hi2 => by rw [up_ne _ _ (by omega)]; exact h5 i (by omega) hi2⟩⟩
  rw [Bs_up_in _ _ (by omega), h5 (k + m) (by omega) (by omega), Bs_succ, ← hf]
  rcases hj with rfl | rfl
  · rw [Bp_add] at *
    grind
  · have := h7 rfl
    subst this
    grind
theorem pro_fin {g h x : Nat → Int} {n m N k : Nat} {sa sb a b : Int} (hA : BV sa (n : Int) g a) (hB : BV sb (m : Int) h b) (hN : (N = n + m) ∨ (N = 0 ∧ a * b = 0)) (hN48 : N ≤ 48) (hP : ProI g h n m N k x) (hk : n ≤ k ∨ N ≤ k) : TrimI N x ((a * b).natAbs : Int) := by
  obtain ⟨h1, h2, h3⟩ := hP
  refine ⟨hN48, h2, ?_⟩
  rcases hN with hN | hN
  · have h4 := (h3 hN).1
    have h5 := hA.2.2.2.2.2
    have h6 := hB.2.2.2.2.2
    rw [Int.toNat_natCast] at h5 h6
    rw [h4, show k = n by omega, h5, h6, Int.natAbs_mul, Int.natCast_mul]
  · obtain ⟨rfl, h0⟩ := hN
    rw [h0]; rfl
theorem pro_big {x : Nat → Int} {n : Nat} {sa sb a b : Int} (ha : sa = a.sign) (hb : sb = b.sign) (hT : TrimI n x ((a * b).natAbs : Int)) (htop : 0 < n → x (n - 1) ≠ 0) : BV (if n = 0 then 0 else sa * sb) (n : Int) x (a * b) :=
  BV.mk hT.1 hT.2.1 htop (fun _ => by rw [ha, hb, Int.sign_mul]) hT.2.2
/-- room for a product, from the values -/
theorem pro_room {n m : Nat} {g h : Nat → Int} {sa sb a b : Int} (hA : BV sa (n : Int) g a) (hB : BV sb (m : Int) h b) (h0 : a * b ≠ 0) (hlt : ((a * b).natAbs : Int) < Bp 47) : n + m ≤ 48 := by
  have ha : a ≠ 0 := fun h => h0 (by rw [h, Int.zero_mul])
  have hb : b ≠ 0 := fun h => h0 (by rw [h, Int.mul_zero])
  have hn : (n : Int) ≠ 0 := fun h => ha (hA.zero.mpr h)
  have hm : (m : Int) ≠ 0 := fun h => hb (hB.zero.mpr h)
  obtain ⟨a1, a2, a3, a4, a5, a6⟩ := hA
  obtain ⟨b1, b2, b3, b4, b5, b6⟩ := hB
  rw [Int.toNat_natCast] at a3 a4 a6 b3 b4 b6
  have h7 := Bs_top (g := g) (n := n - 1) (by rw [show n - 1 + 1 = n by omega]; exact a3) (a4 (by omega))
  rw [show n - 1 + 1 = n by omega] at h7
  have h8 := Bs_top (g := h) (n := m - 1) (by rw [show m - 1 + 1 = m by omega]; exact b3) (b4 (by omega))
  rw [show m - 1 + 1 = m by omega] at h8
  have h9 := Int.mul_le_mul h7 h8 (Int.le_of_lt (Bp_pos _)) (by omega)
  rw [a6, b6, ← Int.natCast_mul, ← Int.natAbs_mul, ← Bp_add] at h9
  have := Bp_lt (show Bp (n - 1 + (m - 1)) < Bp 47 by omega)
  omega
/-! shiftDown -/
theorem pow31 (p : Nat) (hp : p ≤ 31) : (2147483648 : Int) = 2 ^ p * 2 ^ (31 - p) := by
  rw [← Int.pow_add, show p + (31 - p) = 31 by omega]; rfl
theorem pow_pos2 (p : Nat) : (0 : Int) < 2 ^ p := Int.pow_pos (by decide)
/-- one limb of a number that is moved down by p bits -/
theorem shift_limb {a b : Int} {p : Nat} (hp : p ≤ 31) (ha : 0 ≤ a ∧ a < 2147483648) (hb : 0 ≤ b) : 2 ^ p * ((b * 2147483648 + a) / 2 ^ p % 2147483648) = (b % 2 ^ p) * 2147483648 + a - a % 2 ^ p := by
  have h1 := pow31 p hp
  have h2 := pow_pos2 p
  have h3 := pow_pos2 (31 - p)
  generalize (2 : Int) ^ p = P at *
  generalize (2 : Int) ^ (31 - p) = S at *
  have e1 : (b * 2147483648 + a) / P = b * S + a / P := by
    rw [h1, show b * (P * S) + a = a + P * (b * S) by grind, Int.add_mul_ediv_left _ _ (by omega)]
    grind
  have e2 : b = P * (b / P) + b % P := (Int.mul_ediv_add_emod b P).symm
  have e3 : a = P * (a / P) + a % P := (Int.mul_ediv_add_emod a P).symm
  have m1 := Int.emod_nonneg b (show P ≠ 0 by omega)
  have m2 := Int.emod_lt_of_pos b h2
  have m3 := Int.emod_nonneg a (show P ≠ 0 by omega)
  have m4 := Int.emod_lt_of_pos a h2
  have m5 : 0 ≤ a / P := Int.ediv_nonneg ha.1 (by omega)
  have m6 : a / P < S := Int.ediv_lt_of_lt_mul h2 (by rw [Int.mul_comm, ← h1]; exact ha.2)
  have e4 : (b * S + a / P) % 2147483648 = (b % P) * S + a / P := by
    have : b * S + a / P = (b % P) * S + a / P + 2147483648 * (b / P) := by
      rw [h1]
      generalize a / P = y at *
      generalize b / P = u at *
      generalize b % P = v at *
      subst e2
      grind
    rw [this, Int.add_mul_emod_self_left]
    refine Int.emod_eq_of_lt ?_ ?_
    · have := Int.mul_nonneg m1 (Int.le_of_lt h3)
      omega
    · have := Int.mul_le_mul_of_nonneg_right (show b % P ≤ P - 1 by omega) (Int.le_of_lt h3)
      rw [Int.sub_mul, ← h1] at this
      omega
  rw [e1, e4]
  generalize a / P = y at *
  generalize a % P = t at *
  generalize b % P = v at *
  subst e3
  rw [h1]
  grind
def hAt (g : Nat → Int) (n j : Nat) : Int := if j < n then g j else 0
theorem hAt_range {g : Nat → Int} {n : Nat} (h : Lb g n) (j : Nat) : 0 ≤ hAt g n j ∧ hAt g n j < 2147483648 := by
  unfold hAt
  split
  · exact h j (by assumption)
  · omega
def ShI (g : Nat → Int) (n s p k : Nat) (x : Nat → Int) : Prop := Lb x k ∧ (∀ j, k ≤ j → x j = g j) ∧ 2 ^ p * Bs x k + hAt g n s % 2 ^ p = Bs (fun j => hAt g n (j + s)) k + (hAt g n (k + s) % 2 ^ p) * Bp k
theorem ShI.first {g : Nat → Int} {n s p : Nat} : ShI g n s p 0 g := ⟨fun j hj => by omega, fun j _ => rfl, by rw [Bs_zero, Bs_zero, Bp_zero, Nat.zero_add]; omega⟩
theorem ShI.step {g x : Nat → Int} {n s p k : Nat} {nx cur : Int} (hI : ShI g n s p k x) (hg : Lb g n) (hp : p < 31) (hk : k + s < n) (hnx : nx = if k + s + 1 < n then x (k + s + 1) else 0) (hcur : cur = x (k + s)) : ShI g n s p (k + 1) (up x k ((nx * 2147483648 + cur) / 2 ^ p % 2147483648)) := by
  obtain ⟨h1, h2, h3⟩ := hI
  have c1 : cur = hAt g n (k + s) := by rw [hcur, h2 _ (by omega), hAt, if_pos hk]
  have n1 : nx = hAt g n (k + 1 + s) := by rw [hnx, h2 _ (by omega), hAt, show k + 1 + s = k + s + 1 by omega]
  have r1 := hAt_range hg (k + s)
  have r2 := hAt_range hg (k + 1 + s)
  rw [← c1] at r1
  rw [← n1] at r2
  have hl := shift_limb (p := p) (by omega) r1 r2.1
  refine ⟨h1.snoc ⟨Int.emod_nonneg _ (by decide), Int.emod_lt_of_pos _ (by decide)⟩, fun j hj => by rw [up_ne _ _ (by omega)]; exact h2 j (by omega), ?_⟩
  rw [Bs_snoc, Bp_succ, Bs_succ, ← c1, ← n1]
  rw [← c1] at h3
  generalize (nx * 2147483648 + cur) / 2 ^ p % 2147483648 = q at *
  generalize nx % 2 ^ p = u at *
  generalize cur % 2 ^ p = v at *
  generalize hAt g n s % 2 ^ p = w at *
  generalize (2 : Int) ^ p = P at *
  grind
theorem Bs_split (g : Nat → Int) (s n : Nat) : Bs g (s + n) = Bs g s + Bp s * Bs (fun j => g (j + s)) n := by
  induction n with
  | zero => rw [Nat.add_zero, Bs_zero]; omega
  | succ n ih => rw [← Nat.add_assoc, Bs_succ, ih, Bs_succ, Bp_add, Nat.add_comm s n]; grind
theorem ShI.last {g x : Nat → Int} {n s p : Nat} (hI : ShI g n s p (n - s) x) (hg : Lb g n) (hs : s ≤ n) : Bs x (n - s) = Bs g n / (Bp s * 2 ^ p) := by
  obtain ⟨h1, h2, h3⟩ := hI
  have h0 : hAt g n (n - s + s) = 0 := by rw [hAt, if_neg (by omega)]
  rw [h0] at h3
  have h4 : Bs (fun j => hAt g n (j + s)) (n - s) = Bs (fun j => g (j + s)) (n - s) := Bs_congr (fun j hj => by rw [hAt, if_pos (by omega)])
  have h5 := Bs_split g s (n - s)
  rw [show s + (n - s) = n by omega] at h5
  have h6 := Bs_range (hg.le hs)
  have h7 := pow_pos2 p
  have h8 := Bp_pos s
  rw [h4, Int.zero_emod, Int.zero_mul, Int.add_zero] at h3
  rw [h5, ← h3]
  have m1 := Int.emod_nonneg (hAt g n s) (show (2 : Int) ^ p ≠ 0 by omega)
  have m2 := Int.emod_lt_of_pos (hAt g n s) h7
  generalize hAt g n s % 2 ^ p = w at *
  generalize (2 : Int) ^ p = P at *
  generalize Bs g s = lo at *
  generalize Bs x (n - s) = V at *
  generalize Bp s = S at *
  rw [show lo + S * (P * V + w) = (lo + S * w) + (S * P) * V by grind, Int.add_mul_ediv_left _ _ (by have := Int.mul_pos h8 h7; omega)]
  have h9 : (lo + S * w) / (S * P) = 0 := by
    refine Int.ediv_eq_zero_of_lt ?_ ?_
    · have := Int.mul_nonneg (Int.le_of_lt h8) m1
      omega
    · have := Int.mul_le_mul_of_nonneg_left (show w ≤ P - 1 by omega) (Int.le_of_lt h8)
      rw [Int.mul_sub] at this
      omega
  rw [h9]; omega
theorem Bp_pow (n : Nat) : Bp n = 2 ^ (31 * n) := by
  rw [Bp, Int.pow_mul]; rfl
/-- the end of shiftDown -/
theorem shift_fin {t : Nat} {x : Nat → Int} {sd z : Int} {b : Nat} (hT : TrimI t x ((z.natAbs : Int) / 2 ^ b)) (htop : 0 < t → x (t - 1) ≠ 0) (hs : sd = z.sign) : BV (if t = 0 then 0 else sd) (t : Int) x (z.tdiv (2 ^ b)) := by
  have hp := pow_pos2 b
  have e : ((z.tdiv (2 ^ b)).natAbs : Int) = (z.natAbs : Int) / 2 ^ b := by
    rw [Int.natAbs_tdiv, Int.natAbs_pow]
    show ((z.natAbs / 2 ^ b : Nat) : Int) = _
    rw [Int.natCast_ediv]
    simp
  refine BV.mk hT.1 hT.2.1 htop (fun h0 => ?_) (by rw [e]; exact hT.2.2)
  have h5 := Bs_top (g := x) (n := t - 1) (by rw [show t - 1 + 1 = t by omega]; exact hT.2.1) (htop (by omega))
  rw [show t - 1 + 1 = t by omega, hT.2.2] at h5
  have h6 := Bp_pos (t - 1)
  rw [hs]
  rcases Int.lt_trichotomy z 0 with h | h | h
  · have h7 : (z.natAbs : Int) = -z := by omega
    rw [Int.sign_eq_neg_one_of_neg h, Int.sign_eq_neg_one_of_neg]
    rw [show z = -(-z) by omega, Int.neg_tdiv, Int.tdiv_eq_ediv_of_nonneg (by omega), ← h7]
    omega
  · subst h
    simp at h5
    omega
  · have h7 : (z.natAbs : Int) = z := by omega
    rw [Int.sign_eq_one_of_pos h, Int.sign_eq_one_of_pos]
    rw [Int.tdiv_eq_ediv_of_nonneg (by omega), ← h7]
    omega
/-! twos -/
theorem twos_fin {g : Nat → Int} {n k b : Nat} {z : Int} (hv : Bs g n = (z.natAbs : Int)) (hk : k < n) (hz : ∀ j, j < k → g j = 0) (hb : b ≤ 30) (hd : (2 : Int) ^ b ∣ g k) (ho : (g k / 2 ^ b) % 2 = 1) : ∃ o : Int, z = 2 ^ (31 * k + b) * o ∧ o % 2 = 1 := by
  have h1 := Bs_split g k (n - k)
  rw [show k + (n - k) = n by omega, Bs_zeros hz, Int.zero_add, hv] at h1
  obtain ⟨q, hq⟩ : ∃ q, n - k = q + 1 := ⟨n - k - 1, by omega⟩
  have h2 : Bs (fun j => g (j + k)) (n - k) = g k + 2147483648 * Bs (fun j => g (j + k + 1)) q := by
    have := Bs_split (fun j => g (j + k)) 1 q
    rw [hq, Nat.add_comm q 1, this, Bs_succ, Bs_zero, Bp_zero]
    rw [show Bp 1 = 2147483648 from rfl, show (fun j => g (j + 1 + k)) = (fun j => g (j + k + 1)) from funext (fun j => by rw [Nat.add_right_comm])]
    simp
  have h3 := pow31 b (by omega)
  have h4 : (2 : Int) ^ (31 - b) = 2 * 2 ^ (30 - b) := by rw [show 31 - b = (30 - b) + 1 by omega, Int.pow_succ, Int.mul_comm]
  obtain ⟨w, hw⟩ := hd
  have hp := pow_pos2 b
  rw [hw, Int.mul_ediv_cancel_left _ (by omega)] at ho
  rw [h2, hw, Bp_pow] at h1
  generalize Bs (fun j => g (j + k + 1)) q = r at *
  have h5 : (z.natAbs : Int) = 2 ^ (31 * k + b) * (w + 2 * (2 ^ (30 - b) * r)) := by
    rw [h1, Int.pow_add, h3, h4]; grind
  rcases Int.lt_trichotomy z 0 with h | h | h
  · refine ⟨-(w + 2 * (2 ^ (30 - b) * r)), ?_, by omega⟩
    rw [Int.mul_neg, ← h5]; omega
  · refine ⟨w + 2 * (2 ^ (30 - b) * r), ?_, by omega⟩
    rw [← h5]; omega
  · refine ⟨w + 2 * (2 ^ (30 - b) * r), ?_, by omega⟩
    rw [← h5]; omega
theorem bit_step {a : Int} {b : Nat} (hd : (2 : Int) ^ b ∣ a) (h0 : a / 2 ^ b % 2 = 0) : (2 : Int) ^ (b + 1) ∣ a := by
  obtain ⟨w, hw⟩ := hd
  have hp := pow_pos2 b
  rw [hw, Int.mul_ediv_cancel_left _ (by omega)] at h0
  refine ⟨w / 2, ?_⟩
  rw [hw, Int.pow_succ, Int.mul_assoc]
  congr 1
  omega
theorem bit_last {a : Int} (ha : 0 ≤ a ∧ a < 2147483648) (h0 : a ≠ 0) (hd : (2 : Int) ^ 30 ∣ a) : a / 2 ^ 30 % 2 = 1 := by
  have e : (2 : Int) ^ 30 = 1073741824 := rfl
  rw [e] at *
  omega
/-! the inverse of an odd number -/
theorem inv_first {o : Int} (h : o % 2 = 1) : (8 : Int) ∣ 1 - o * o := by
  have h8 : o % 8 = 1 ∨ o % 8 = 3 ∨ o % 8 = 5 ∨ o % 8 = 7 := by omega
  have hq : o = 8 * (o / 8) + o % 8 := by omega
  generalize o / 8 = q at *
  rcases h8 with h | h | h | h <;> rw [h] at hq <;> subst hq
  · exact ⟨-(8 * q * q + 2 * q), by grind⟩
  · exact ⟨-(8 * q * q + 6 * q + 1), by grind⟩
  · exact ⟨-(8 * q * q + 10 * q + 3), by grind⟩
  · exact ⟨-(8 * q * q + 14 * q + 6), by grind⟩
theorem inv_step {o x : Int} {k : Nat} (h : (2 : Int) ^ k ∣ 1 - o * x) : (2 : Int) ^ (2 * k) ∣ 1 - o * (x * (2 - o * x)) := by
  obtain ⟨w, hw⟩ := h
  refine ⟨w * w, ?_⟩
  rw [show 1 - o * (x * (2 - o * x)) = (1 - o * x) * (1 - o * x) by grind, hw, show 2 * k = k + k by omega, Int.pow_add]
  grind
theorem inv_quot {o o' z' q x lp : Int} (hz : z' = q * o') (ho : o' % 4611686018427387904 = o) (hl : z' % 4611686018427387904 = lp) (hx : (4611686018427387904 : Int) ∣ 1 - o * x) : (lp * x) % 4611686018427387904 = q % 4611686018427387904 := by
  obtain ⟨w, hw⟩ := hx
  have e1 : o' = 4611686018427387904 * (o' / 4611686018427387904) + o := by omega
  have e2 : z' = 4611686018427387904 * (z' / 4611686018427387904) + lp := by omega
  generalize o' / 4611686018427387904 = u at *
  generalize z' / 4611686018427387904 = v at *
  have e3 : lp * x = q + 4611686018427387904 * (q * u * x - v * x - q * w) := by grind
  rw [e3, Int.add_mul_emod_self_left]
theorem low_pair {g : Nat → Int} {n : Nat} {z : Int} (hv : Bs g n = (z.natAbs : Int)) (hg : Lb g n) : (z.natAbs : Int) % 4611686018427387904 = (if 1 < n then g 1 else 0) * 2147483648 + (if 0 < n then g 0 else 0) := by
  rw [← hv]
  by_cases h2 : 2 ≤ n
  · have h1 := Bs_split g 2 (n - 2)
    rw [show 2 + (n - 2) = n by omega] at h1
    have h3 : Bs g 2 = g 0 + g 1 * 2147483648 := by
      rw [Bs_succ, Bs_succ, Bs_zero, Bp_zero, show Bp 1 = 2147483648 from rfl]; omega
    have h4 := hg 0 (by omega)
    have h5 := hg 1 (by omega)
    rw [h1, h3, show Bp 2 = 4611686018427387904 from rfl, Int.add_mul_emod_self_left, if_pos (by omega), if_pos (by omega), Int.emod_eq_of_lt (by omega) (by omega)]
    omega
  · by_cases h1 : n = 1
    · subst h1
      have h4 := hg 0 (by omega)
      rw [Bs_succ, Bs_zero, Bp_zero, if_neg (by omega), if_pos (by omega), Int.emod_eq_of_lt (by omega) (by omega)]
      omega
    · have h0 : n = 0 := by omega
      subst h0
      rfl
theorem inv_more {o x : Int} {k m : Nat} (h : (2 : Int) ^ k ∣ 1 - o * x) (hm : m ≤ k) : (2 : Int) ^ m ∣ 1 - o * x := by
  refine Int.dvd_trans ⟨2 ^ (k - m), ?_⟩ h
  rw [← Int.pow_add, show m + (k - m) = k by omega]
