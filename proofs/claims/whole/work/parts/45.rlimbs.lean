/-! whole numbers in limbs of 32 bits, the least first -/
def Mp (n : Nat) : Int := 4294967296 ^ n
theorem Mp_zero : Mp 0 = 1 := rfl
theorem Mp_succ (n : Nat) : Mp (n + 1) = 4294967296 * Mp n := by
  simp only [Mp, Int.pow_succ]
  omega
theorem Mp_pos (n : Nat) : 0 < Mp n := by
  induction n with
  | zero => decide
  | succ n ih => rw [Mp_succ]; omega
theorem Mp_add (a b : Nat) : Mp (a + b) = Mp a * Mp b := by
  induction b with
  | zero => rw [Mp_zero, Nat.add_zero, Int.mul_one]
  | succ b ih => rw [← Nat.add_assoc, Mp_succ, ih, Mp_succ]; grind
theorem Mp_le {a b : Nat} (h : a ≤ b) : Mp a ≤ Mp b := by
  induction b with
  | zero => rw [show a = 0 by omega]; exact Int.le_refl _
  | succ b ih =>
    by_cases hb : a ≤ b
    · have := ih hb
      have := Mp_pos b
      rw [Mp_succ]; omega
    · rw [show a = b + 1 by omega]; exact Int.le_refl _
theorem Mp_lt {a b : Nat} (h : Mp a < Mp b) : a < b := by
  by_cases hb : b ≤ a
  · have := Mp_le hb
    omega
  · omega
def Ms (g : Nat → Int) : Nat → Int
  | 0 => 0
  | n + 1 => Ms g n + g n * Mp n
theorem Ms_zero (g : Nat → Int) : Ms g 0 = 0 := rfl
theorem Ms_succ (g : Nat → Int) (n : Nat) : Ms g (n + 1) = Ms g n + g n * Mp n := rfl
def Mb (g : Nat → Int) (n : Nat) : Prop := ∀ j, j < n → 0 ≤ g j ∧ g j < 4294967296
theorem Mb.le {g : Nat → Int} {n m : Nat} (h : Mb g n) (hm : m ≤ n) : Mb g m := fun j hj => h j (by omega)
theorem Mb.put {g : Nat → Int} {n k : Nat} (h : Mb g n) {v : Int} (h0 : 0 ≤ v ∧ v < 4294967296) : Mb (up g k v) n := fun j hj => by
  by_cases hk : j = k
  · rw [hk, up_self]; exact h0
  · rw [up_ne _ _ hk]; exact h j hj
theorem Mb.snoc {g : Nat → Int} {n : Nat} (h : Mb g n) {v : Int} (h0 : 0 ≤ v ∧ v < 4294967296) : Mb (up g n v) (n + 1) := fun j hj => by
  by_cases hk : j = n
  · rw [hk, up_self]; exact h0
  · rw [up_ne _ _ hk]; exact h j (by omega)
theorem Ms_congr {g h : Nat → Int} {n : Nat} (hh : ∀ j, j < n → g j = h j) : Ms g n = Ms h n := by
  induction n with
  | zero => rfl
  | succ n ih => rw [Ms_succ, Ms_succ, ih (fun j hj => hh j (by omega)), hh n (by omega)]
theorem Ms_up_out (g : Nat → Int) {n k : Nat} (v : Int) (h : n ≤ k) : Ms (up g k v) n = Ms g n := Ms_congr (fun j hj => up_ne g v (by omega))
theorem Ms_up_in (g : Nat → Int) {n k : Nat} (v : Int) (h : k < n) : Ms (up g k v) n = Ms g n + (v - g k) * Mp k := by
  induction n with
  | zero => omega
  | succ n ih =>
    rw [Ms_succ, Ms_succ]
    by_cases hk : k = n
    · subst hk
      rw [Ms_up_out g v (Nat.le_refl _), up_self]; grind
    · rw [ih (by omega), up_ne g v (by omega)]; grind
theorem Ms_snoc (g : Nat → Int) (n : Nat) (v : Int) : Ms (up g n v) (n + 1) = Ms g n + v * Mp n := by
  rw [Ms_succ, Ms_up_out g v (Nat.le_refl _), up_self]
theorem Ms_range {g : Nat → Int} {n : Nat} (h : Mb g n) : 0 ≤ Ms g n ∧ Ms g n < Mp n := by
  induction n with
  | zero => exact ⟨Int.le_refl _, Mp_pos 0⟩
  | succ n ih =>
    have h1 := ih (h.le (by omega))
    have h2 := h n (by omega)
    have h3 := Mp_pos n
    have h4 : 0 ≤ g n * Mp n := Int.mul_nonneg h2.1 (by omega)
    have h5 : g n * Mp n ≤ 4294967295 * Mp n := Int.mul_le_mul_of_nonneg_right (by omega) (by omega)
    rw [Ms_succ, Mp_succ]
    omega
theorem Ms_zeros {g : Nat → Int} {n : Nat} (h : ∀ j, j < n → g j = 0) : Ms g n = 0 := by
  induction n with
  | zero => rfl
  | succ n ih => rw [Ms_succ, ih (fun j hj => h j (by omega)), h n (by omega)]; omega
/-- the top limb is not 0: the number is at least so great -/
theorem Ms_top {g : Nat → Int} {n : Nat} (h : Mb g (n + 1)) (ht : g n ≠ 0) : Mp n ≤ Ms g (n + 1) := by
  have h1 := Ms_range (h.le (show n ≤ n + 1 by omega))
  have h2 := h n (by omega)
  have h3 := Mp_pos n
  have h5 : 1 * Mp n ≤ g n * Mp n := Int.mul_le_mul_of_nonneg_right (by omega) (by omega)
  rw [Ms_succ]
  omega
/-- side, size and limbs hold z -/
def RV (sd n : Int) (g : Nat → Int) (z : Int) : Prop := 0 ≤ n ∧ n ≤ 64 ∧ Mb g n.toNat ∧ (0 < n → g (n.toNat - 1) ≠ 0) ∧ sd = z.sign ∧ Ms g n.toNat = (z.natAbs : Int)
theorem RV.zero {sd n : Int} {g : Nat → Int} {z : Int} (h : RV sd n g z) : z = 0 ↔ n = 0 := by
  obtain ⟨h1, h2, h3, h4, h5, h6⟩ := h
  constructor
  · intro hz
    by_cases hn : n = 0
    · exact hn
    · have h7 := Ms_top (g := g) (n := n.toNat - 1) (by rw [show n.toNat - 1 + 1 = n.toNat by omega]; exact h3) (h4 (by omega))
      have h8 := Mp_pos (n.toNat - 1)
      rw [show n.toNat - 1 + 1 = n.toNat by omega] at h7
      omega
  · intro hn
    subst hn
    have h7 : Ms g (0 : Int).toNat = 0 := rfl
    omega
theorem RV.side {sd n : Int} {g : Nat → Int} {z : Int} (h : RV sd n g z) : (sd = 1 ∧ 0 < z) ∨ (sd = 0 ∧ z = 0) ∨ (sd = -1 ∧ z < 0) := by
  have h5 := h.2.2.2.2.1
  rcases Int.lt_trichotomy z 0 with hz | hz | hz
  · rw [Int.sign_eq_neg_one_of_neg hz] at h5; omega
  · subst hz; simp at h5; omega
  · rw [Int.sign_eq_one_of_pos hz] at h5; omega
theorem RV.size {sd n : Int} {g : Nat → Int} {z : Int} (h : RV sd n g z) (k : Nat) (hz : (z.natAbs : Int) < Mp k) : n ≤ k := by
  obtain ⟨h1, h2, h3, h4, h5, h6⟩ := h
  by_cases hn : n = 0
  · omega
  · have h7 := Ms_top (g := g) (n := n.toNat - 1) (by rw [show n.toNat - 1 + 1 = n.toNat by omega]; exact h3) (h4 (by omega))
    rw [show n.toNat - 1 + 1 = n.toNat by omega] at h7
    have h8 := Mp_lt (show Mp (n.toNat - 1) < Mp k by omega)
    omega
theorem RV.lt {sd n : Int} {g : Nat → Int} {z : Int} (h : RV sd n g z) : (z.natAbs : Int) < Mp n.toNat := by
  have h7 := Ms_range h.2.2.1
  have h8 := h.2.2.2.2.2
  omega
/-- from the limbs: after trimming -/
theorem RV.mk {sd : Int} {n : Nat} {g : Nat → Int} {z : Int} (hn : n ≤ 64) (hl : Mb g n) (ht : 0 < n → g (n - 1) ≠ 0) (hs : n ≠ 0 → sd = z.sign) (hv : Ms g n = (z.natAbs : Int)) : RV (if n = 0 then 0 else sd) (n : Int) g z := by
  refine ⟨by omega, by omega, by rw [Int.toNat_natCast]; exact hl, fun h => by rw [Int.toNat_natCast]; exact ht (by omega), ?_, by rw [Int.toNat_natCast]; exact hv⟩
  split
  · rename_i h0
    subst h0
    have : z = 0 := by have h1 : Ms g 0 = 0 := rfl; omega
    subst this
    rfl
  · rename_i h0
    exact hs h0
/-! numbers of the reference: limbs of 32 bits in a flat row -/
def fl (lm : Nat → Int) (x : Nat) : Nat → Int := fun j => lm (64 * x + j)
theorem fl_up (lm : Nat → Int) (x k : Nat) (v : Int) : fl (up lm (64 * x + k) v) x = up (fl lm x) k v := by
  funext j
  simp only [fl, up]
  by_cases h : j = k
  · rw [if_pos h, if_pos (by omega)]
  · rw [if_neg h, if_neg (by omega)]
theorem fl_out (lm : Nat → Int) {x y k j : Nat} (v : Int) (hk : k < 64) (hj : j < 64) (h : x ≠ y) : fl (up lm (64 * x + k) v) y j = fl lm y j := by
  simp only [fl, up]
  rw [if_neg (by omega)]
def mAt (g : Nat → Int) (n j : Nat) : Int := if j < n then g j else 0
theorem mAt_range {g : Nat → Int} {n : Nat} (h : Mb g n) (j : Nat) : 0 ≤ mAt g n j ∧ mAt g n j < 4294967296 := by
  unfold mAt
  split
  · exact h j (by assumption)
  · omega
theorem Ms_cut {g : Nat → Int} {n m : Nat} (hm : m ≤ n) (h : ∀ j, m ≤ j → j < n → g j = 0) : Ms g n = Ms g m := by
  induction n with
  | zero => rw [show m = 0 by omega]
  | succ n ih =>
    by_cases hn : m = n + 1
    · rw [hn]
    · rw [Ms_succ, ih (by omega) (fun j h1 h2 => h j h1 (by omega)), h n (by omega) (by omega)]; omega
theorem Ms_at {g : Nat → Int} {n m : Nat} (h : n ≤ m) : Ms (mAt g n) m = Ms g n := by
  rw [Ms_cut h (fun j h1 _ => by rw [mAt, if_neg (by omega)])]
  exact Ms_congr (fun j hj => by rw [mAt, if_pos hj])
/-- sums and differences: limbs a and b (b taken once, or taken away) -/
def MAdd (a b : Nat → Int) (s : Int) (k : Nat) (c : Int) (r : Nat → Int) : Prop := -1 ≤ c ∧ c ≤ 1 ∧ Mb r k ∧ Ms r k + c * Mp k = Ms a k + s * Ms b k
theorem MAdd.first {a b r : Nat → Int} {s : Int} : MAdd a b s 0 0 r := ⟨by omega, by omega, fun j hj => by omega, by simp [Ms_zero]⟩
theorem MAdd.step {a b r : Nat → Int} {s : Int} {k : Nat} {c w : Int} (h : MAdd a b s k c r) (ha : 0 ≤ a k ∧ a k < 4294967296) (hb : 0 ≤ b k ∧ b k < 4294967296) (hs : s = 1 ∨ s = -1) (hw : w = c + (a k + s * b k)) : MAdd a b s (k + 1) (w / 4294967296) (up r k (w % 4294967296)) ∧ -8589934592 < w ∧ w < 8589934592 := by
  obtain ⟨h1, h2, h3, h4⟩ := h
  have h8 : s * b k = b k ∨ s * b k = -(b k) := by
    rcases hs with rfl | rfl
    · left; omega
    · right; omega
  refine ⟨⟨by omega, by omega, h3.snoc (by omega), ?_⟩, by omega, by omega⟩
  rw [Ms_snoc, Mp_succ, Ms_succ, Ms_succ]
  have h9 : w = 4294967296 * (w / 4294967296) + w % 4294967296 := by omega
  generalize w / 4294967296 = q at *
  generalize w % 4294967296 = t at *
  grind
def MTrim (n : Nat) (g : Nat → Int) (v : Int) : Prop := Mb g n ∧ Ms g n = v
theorem MTrim.step {n : Nat} {g : Nat → Int} {v : Int} (h : MTrim n g v) (hn : 0 < n) (h0 : g (n - 1) = 0) : MTrim (n - 1) g v := by
  refine ⟨h.1.le (by omega), ?_⟩
  rw [← h.2]
  exact (Ms_cut (by omega) (fun j h1 h2 => by rw [show j = n - 1 by omega]; exact h0)).symm
theorem MAdd.sum {a b r : Nat → Int} {n m k : Nat} {c : Int} (h : MAdd (mAt a n) (mAt b m) 1 k c r) (hn : n < k) (hm : m < k) (ha : Mb a n) (hb : Mb b m) : MTrim k r (Ms a n + Ms b m) := by
  obtain ⟨h1, h2, h3, h4⟩ := h
  rw [Ms_at (by omega), Ms_at (by omega)] at h4
  have r1 := Ms_range ha
  have r2 := Ms_range hb
  have r3 := Ms_range h3
  have p1 := Mp_le (show n ≤ k - 1 by omega)
  have p2 := Mp_le (show m ≤ k - 1 by omega)
  have p3 : Mp k = 4294967296 * Mp (k - 1) := by rw [← Mp_succ, show k - 1 + 1 = k by omega]
  have p4 := Mp_pos (k - 1)
  refine ⟨h3, ?_⟩
  rcases (show c = -1 ∨ c = 0 ∨ c = 1 by omega) with rfl | rfl | rfl <;> omega
theorem MAdd.diff {a b r : Nat → Int} {n m k : Nat} {c : Int} (h : MAdd (mAt a n) (mAt b m) (-1) k c r) (hn : n ≤ k) (hm : m ≤ k) (ha : Mb a n) (hb : Mb b m) (hle : Ms b m ≤ Ms a n) : MTrim k r (Ms a n - Ms b m) := by
  obtain ⟨h1, h2, h3, h4⟩ := h
  rw [Ms_at hn, Ms_at hm] at h4
  have r1 := Ms_range ha
  have r2 := Ms_range hb
  have r3 := Ms_range h3
  have p1 := Mp_le hn
  have p4 := Mp_pos k
  refine ⟨h3, ?_⟩
  rcases (show c = -1 ∨ c = 0 ∨ c = 1 by omega) with rfl | rfl | rfl <;> omega
theorem rv_fin {sd z : Int} {n : Nat} {g : Nat → Int} (hn : n ≤ 64) (hT : MTrim n g (z.natAbs : Int)) (htop : 0 < n → g (n - 1) ≠ 0) (hs : n ≠ 0 → sd = z.sign) : RV (if n = 0 then 0 else sd) (n : Int) g z := RV.mk hn hT.1 htop hs hT.2
/-- which of two is greater, from the top limb down -/
theorem Ms_lt {a b : Nat → Int} {n k : Nat} (ha : Mb a n) (hb : Mb b n) (hk : k < n) (h : a k < b k) (he : ∀ j, k < j → j < n → a j = b j) : Ms a n < Ms b n := by
  induction n with
  | zero => omega
  | succ n ih =>
    rw [Ms_succ, Ms_succ]
    by_cases hkn : k = n
    · subst hkn
      have r1 := Ms_range (ha.le (show k ≤ k + 1 by omega))
      have r2 := Ms_range (hb.le (show k ≤ k + 1 by omega))
      have p := Mp_pos k
      have h5 : (a k + 1) * Mp k ≤ b k * Mp k := Int.mul_le_mul_of_nonneg_right (by omega) (by omega)
      rw [Int.add_mul] at h5
      omega
    · have := ih (ha.le (by omega)) (hb.le (by omega)) (by omega) (fun j h1 h2 => he j h1 (by omega))
      rw [he n (by omega) (by omega)]
      omega
theorem Ms_size_lt {a b : Nat → Int} {n m : Nat} (ha : Mb a n) (hb : Mb b m) (hm : 0 < m) (ht : b (m - 1) ≠ 0) (h : n < m) : Ms a n < Ms b m := by
  have r1 := Ms_range ha
  have r2 := Ms_top (g := b) (n := m - 1) (by rw [show m - 1 + 1 = m by omega]; exact hb) ht
  rw [show m - 1 + 1 = m by omega] at r2
  have p := Mp_le (show n ≤ m - 1 by omega)
  omega
/-! product -/
def MPro (g h : Nat → Int) (n m k : Nat) (x : Nat → Int) : Prop := k ≤ n ∧ Mb x (n + m) ∧ Ms x (n + m) = Ms g k * Ms h m ∧ ∀ j, k + m ≤ j → j < n + m → x j = 0
theorem MPro.first {g h x : Nat → Int} {n m : Nat} (h0 : ∀ j, j < n + m → x j = 0) : MPro g h n m 0 x := ⟨by omega, fun j hj => by rw [h0 j hj]; omega, by rw [Ms_zeros h0, Ms_zero, Int.zero_mul], fun j _ hj => h0 j (by omega)⟩
def MIn (h : Nat → Int) (n m k j : Nat) (V f c : Int) (x : Nat → Int) : Prop := j ≤ m ∧ 0 ≤ c ∧ c < 4294967296 ∧ Mb x (n + m) ∧ (∀ i, k + m ≤ i → i < n + m → x i = 0) ∧ Ms x (n + m) + c * Mp (k + j) = V + f * (Ms h j * Mp k)
theorem MIn.first {g h x : Nat → Int} {n m k : Nat} {f : Int} (hP : MPro g h n m k x) : MIn h n m k 0 (Ms g k * Ms h m) f 0 x := by
  obtain ⟨h1, h2, h3, h4⟩ := hP
  exact ⟨by omega, by omega, by omega, h2, h4, by rw [h3, Ms_zero]; simp⟩
theorem mlimb_mul {a b : Int} (ha : 0 ≤ a ∧ a < 4294967296) (hb : 0 ≤ b ∧ b < 4294967296) : 0 ≤ a * b ∧ a * b ≤ 18446744065119617025 := by
  have h1 := Int.mul_nonneg ha.1 hb.1
  have h2 := Int.mul_le_mul (show a ≤ 4294967295 by omega) (show b ≤ 4294967295 by omega) hb.1 (by omega)
  omega
theorem MIn.step {h x : Nat → Int} {n m k j : Nat} {V f c w : Int} (hI : MIn h n m k j V f c x) (hh : Mb h m) (hf : 0 ≤ f ∧ f < 4294967296) (hj : j < m) (hk : k < n) (hw : w = c + (f * h j + x (k + j))) : MIn h n m k (j + 1) V f (w / 4294967296) (up x (k + j) (w % 4294967296)) ∧ 0 ≤ w ∧ w < 18446744073709551616 := by
  obtain ⟨h1, h2, h3, h4, h5, h6⟩ := hI
  have h8 := h4 (k + j) (by omega)
  have h9 := mlimb_mul hf (hh j hj)
  refine ⟨⟨by omega, by omega, by omega, h4.put (by omega), fun i hi hi2 => by rw [up_ne _ _ (by omega)]; exact h5 i hi hi2, ?_⟩, by omega, by omega⟩
  rw [Ms_up_in _ _ (by omega), Ms_succ, ← Nat.add_assoc, Mp_succ]
  rw [Mp_add] at *
  have h10 : w = 4294967296 * (w / 4294967296) + w % 4294967296 := by omega
  generalize w / 4294967296 = q at *
  generalize w % 4294967296 = t at *
  grind
theorem MIn.last {g h x : Nat → Int} {n m k : Nat} {f c : Int} (hI : MIn h n m k m (Ms g k * Ms h m) f c x) (hk : k < n) (hf : f = g k) : MPro g h n m (k + 1) (up x (k + m) c) := by
  obtain ⟨h1, h2, h3, h4, h5, h6⟩ := hI
  refine ⟨by omega, h4.put ⟨h2, h3⟩, ?_, fun i hi hi2 => by rw [up_ne _ _ (by omega)]; exact h5 i (by omega) hi2⟩
  rw [Ms_up_in _ _ (by omega), h5 (k + m) (by omega) (by omega), Ms_succ, ← hf]
  rw [Mp_add] at *
  grind
/-! shift up -/
theorem pow32 (p : Nat) (hp : p ≤ 32) : (4294967296 : Int) = 2 ^ p * 2 ^ (32 - p) := by
  rw [← Int.pow_add, show p + (32 - p) = 32 by omega]; rfl
/-- limb k of a number moved up by w limbs and b bits -/
def shl (g : Nat → Int) (m w b k : Nat) : Int := if k < w then 0 else (mAt g m (k - w) * 2 ^ b) % 4294967296 + (if k - w = 0 then 0 else (mAt g m (k - w - 1) * 2 ^ b) / 4294967296)
theorem Ms_shl0 (g : Nat → Int) (m b n : Nat) : Ms (fun j => (mAt g m j * 2 ^ b) % 4294967296 + (if j = 0 then 0 else (mAt g m (j - 1) * 2 ^ b) / 4294967296)) (n + 1) + (mAt g m n * 2 ^ b) / 4294967296 * Mp (n + 1) = Ms (mAt g m) (n + 1) * 2 ^ b := by
  induction n with
  | zero =>
    rw [Ms_succ, Ms_zero, Ms_succ, Ms_zero, Mp_succ, Mp_zero]
    simp only [if_pos]
    have := Int.mul_ediv_add_emod (mAt g m 0 * 2 ^ b) 4294967296
    rw [show (0 + mAt g m 0 * 1) * 2 ^ b = mAt g m 0 * 2 ^ b by rw [Int.zero_add, Int.mul_one]]
    generalize mAt g m 0 * 2 ^ b = v at *
    omega
  | succ n ih =>
    rw [Ms_succ, Ms_succ (mAt g m) (n + 1)]
    simp only [if_neg (show ¬ n + 1 = 0 by omega), Nat.add_sub_cancel]
    have h1 := Int.mul_ediv_add_emod (mAt g m (n + 1) * 2 ^ b) 4294967296
    rw [Mp_succ (n + 1)]
    generalize Ms (fun j => (mAt g m j * 2 ^ b) % 4294967296 + (if j = 0 then 0 else (mAt g m (j - 1) * 2 ^ b) / 4294967296)) (n + 1) = A at *
    generalize (mAt g m n * 2 ^ b) / 4294967296 = q at *
    rw [Int.add_mul (Ms (mAt g m) (n + 1)), ← ih]
    generalize hv : mAt g m (n + 1) * 2 ^ b = v at *
    generalize v / 4294967296 = q2 at *
    generalize v % 4294967296 = t at *
    have h2 : mAt g m (n + 1) * Mp (n + 1) * 2 ^ b = v * Mp (n + 1) := by rw [← hv]; grind
    grind
theorem Ms_split (g : Nat → Int) (s n : Nat) : Ms g (s + n) = Ms g s + Mp s * Ms (fun j => g (j + s)) n := by
  induction n with
  | zero => rw [Nat.add_zero, Ms_zero]; omega
  | succ n ih => rw [← Nat.add_assoc, Ms_succ, ih, Ms_succ, Mp_add, Nat.add_comm s n]; grind
theorem Mp_pow (n : Nat) : Mp n = 2 ^ (32 * n) := by
  rw [Mp, Int.pow_mul]; rfl
theorem Ms_shl (g : Nat → Int) (m w b : Nat) : Ms (shl g m w b) (m + w + 1) = Ms g m * 2 ^ (32 * w + b) := by
  have h1 := Ms_split (shl g m w b) w (m + 1)
  rw [show w + (m + 1) = m + w + 1 by omega] at h1
  have h2 : Ms (shl g m w b) w = 0 := Ms_zeros (fun j hj => by rw [shl, if_pos hj])
  have h3 : Ms (fun j => shl g m w b (j + w)) (m + 1) = Ms (fun j => (mAt g m j * 2 ^ b) % 4294967296 + (if j = 0 then 0 else (mAt g m (j - 1) * 2 ^ b) / 4294967296)) (m + 1) := Ms_congr (fun j _ => by rw [shl, if_neg (by omega), show j + w - w = j by omega])
  have h4 := Ms_shl0 g m b m
  rw [show mAt g m m = 0 by rw [mAt, if_neg (by omega)], Ms_at (by omega)] at h4
  simp at h4
  rw [h1, h2, h3, h4, Mp_pow, Int.pow_add]
  grind
theorem shl_range {g : Nat → Int} {m w b : Nat} (hb : b < 32) (hg : Mb g m) (k : Nat) : 0 ≤ shl g m w b k ∧ shl g m w b k < 4294967296 := by
  unfold shl
  split
  · omega
  · have p1 := pow32 b (by omega)
    have p2 : (0 : Int) < 2 ^ b := Int.pow_pos (by decide)
    have p3 : (0 : Int) < 2 ^ (32 - b) := Int.pow_pos (by decide)
    have r1 := mAt_range hg (k - w)
    have r2 := mAt_range hg (k - w - 1)
    generalize mAt g m (k - w) = u at *
    generalize mAt g m (k - w - 1) = v at *
    generalize (2 : Int) ^ b = P at *
    generalize (2 : Int) ^ (32 - b) = S at *
    -- u * P mod P * S is P times (u mod S): at most P * S - P; v * P / (P * S) is less than P
    have e1 : u * P % 4294967296 = P * (u % S) := by rw [p1, Int.mul_comm u P, Int.mul_emod_mul_of_pos _ _ p2]
    have e2 : v * P / 4294967296 = v / S := by rw [p1, Int.mul_comm v P, Int.mul_ediv_mul_of_pos _ _ p2]
    have m1 := Int.emod_nonneg u (show S ≠ 0 by omega)
    have m2 := Int.emod_lt_of_pos u p3
    have m3 : 0 ≤ v / S := Int.ediv_nonneg r2.1 (by omega)
    have m4 : v / S < P := Int.ediv_lt_of_lt_mul p3 (by rw [← p1]; exact r2.2)
    have m5 := Int.mul_nonneg (Int.le_of_lt p2) m1
    have m6 := Int.mul_le_mul_of_nonneg_left (show u % S ≤ S - 1 by omega) (Int.le_of_lt p2)
    rw [Int.mul_sub, ← p1] at m6
    rw [e1, e2]
    split <;> omega
theorem RV.copy {sd n : Int} {g h : Nat → Int} {z : Int} (hz : RV sd n g z) (hh : ∀ j : Nat, (j : Int) < n → h j = g j) : RV sd n h z := by
  obtain ⟨h1, h2, h3, h4, h5, h6⟩ := hz
  refine ⟨h1, h2, fun j hj => by rw [hh j (by omega)]; exact h3 j hj, fun h => by rw [hh _ (by omega)]; exact h4 h, h5, by rw [← h6]; exact Ms_congr (fun j hj => hh j (by omega))⟩
/-- every number of the reference holds what Z says -/
def RS (lm mn sn Z : Nat → Int) : Prop := ∀ w, w < 180 → RV (sn w) (mn w) (fl lm w) (Z w)
def Off (x : Nat) (lm mn sn lm' mn' sn' : Nat → Int) : Prop := ∀ w, w < 180 → w ≠ x → (∀ j, j < 64 → fl lm' w j = fl lm w j) ∧ mn' w = mn w ∧ sn' w = sn w
theorem RS.set {lm mn sn lm' mn' sn' Z : Nat → Int} {x : Nat} {z : Int} (h : ∀ w, w < 180 → w ≠ x → RV (sn w) (mn w) (fl lm w) (Z w)) (ho : Off x lm mn sn lm' mn' sn') (hx : RV (sn' x) (mn' x) (fl lm' x) z) : RS lm' mn' sn' (up Z x z) := by
  intro w hw
  by_cases hwx : w = x
  · subst hwx
    rw [up_self]
    exact hx
  · rw [up_ne _ _ hwx]
    obtain ⟨h1, h2, h3⟩ := ho w hw hwx
    have h4 := h w hw hwx
    rw [h2, h3]
    exact h4.copy (fun j hj => h1 j (by have := h4.2.1; omega))
theorem RS.off {lm mn sn Z : Nat → Int} (h : RS lm mn sn Z) (x : Nat) : ∀ w, w < 180 → w ≠ x → RV (sn w) (mn w) (fl lm w) (Z w) := fun w hw _ => h w hw
theorem Off.refl (x : Nat) (lm mn sn : Nat → Int) : Off x lm mn sn lm mn sn := fun _ _ _ => ⟨fun _ _ => rfl, rfl, rfl⟩
theorem Off.limb {x : Nat} {lm mn sn lm' mn' sn' : Nat → Int} (h : Off x lm mn sn lm' mn' sn') {k : Nat} (hk : k < 64) (v : Int) : Off x lm mn sn (up lm' (64 * x + k) v) mn' sn' := fun w hw hwx => by
  obtain ⟨h1, h2, h3⟩ := h w hw hwx
  exact ⟨fun j hj => by rw [fl_out _ _ hk hj (fun e => hwx e.symm)]; exact h1 j hj, h2, h3⟩
theorem Off.many {x : Nat} {lm mn sn lm' mn' sn' : Nat → Int} (h : Off x lm mn sn lm' mn' sn') (v : Int) : Off x lm mn sn lm' (up mn' x v) sn' := fun w hw hwx => by
  obtain ⟨h1, h2, h3⟩ := h w hw hwx
  exact ⟨h1, by rw [up_ne _ _ hwx]; exact h2, h3⟩
theorem Off.sign {x : Nat} {lm mn sn lm' mn' sn' : Nat → Int} (h : Off x lm mn sn lm' mn' sn') (v : Int) : Off x lm mn sn lm' mn' (up sn' x v) := fun w hw hwx => by
  obtain ⟨h1, h2, h3⟩ := h w hw hwx
  exact ⟨h1, h2, by rw [up_ne _ _ hwx]; exact h3⟩
theorem lay_rv {v mg k3 : Int} {g : Nat → Int} (hm : mg = (v.natAbs : Int)) (hr : mg < 18446744073709551616) (h0 : g 0 = mg % 4294967296) (h1 : g 1 = mg / 4294967296) (hk : k3 = if mg = 0 then 0 else if mg / 4294967296 = 0 then 1 else 2) : RV v.sign k3 g v := by
  have e1 : Ms g 1 = g 0 := by rw [Ms_succ, Ms_zero, Mp_zero]; omega
  have e2 : Ms g 2 = g 0 + g 1 * 4294967296 := by rw [Ms_succ, e1, show Mp 1 = 4294967296 from rfl]
  by_cases c0 : mg = 0
  · rw [if_pos c0] at hk
    subst hk
    exact ⟨by omega, by omega, fun j hj => absurd hj (Nat.not_lt_zero _), fun h => by omega, rfl, by show Ms g 0 = _; rw [Ms_zero]; omega⟩
  · rw [if_neg c0] at hk
    by_cases c1 : mg / 4294967296 = 0
    · rw [if_pos c1] at hk
      subst hk
      refine ⟨by omega, by omega, fun j hj => ?_, fun _ => ?_, rfl, ?_⟩
      · have : j = 0 := by have : (1 : Int).toNat = 1 := rfl; omega
        subst this; omega
      · show g 0 ≠ 0; omega
      · show Ms g 1 = _; omega
    · rw [if_neg c1] at hk
      subst hk
      refine ⟨by omega, by omega, fun j hj => ?_, fun _ => ?_, rfl, ?_⟩
      · have : j = 0 ∨ j = 1 := by have : (2 : Int).toNat = 2 := rfl; omega
        rcases this with rfl | rfl <;> omega
      · show g 1 ≠ 0; omega
      · show Ms g 2 = _; omega
/-- the size of a number of the reference as a natural number, and what it holds -/
theorem RV.nat {sd n : Int} {g : Nat → Int} {z : Int} (h : RV sd n g z) : ∃ k : Nat, n = (k : Int) ∧ k ≤ 64 ∧ Mb g k ∧ (0 < k → g (k - 1) ≠ 0) ∧ Ms g k = (z.natAbs : Int) := by
  obtain ⟨h1, h2, h3, h4, h5, h6⟩ := h
  exact ⟨n.toNat, by omega, by omega, h3, fun h => h4 (by omega), h6⟩
