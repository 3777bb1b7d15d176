/-! ints and longs by whole numbers -/
def iI (z : Int) : Int32 := Int32.ofInt z
def lI (z : Int) : Int64 := Int64.ofInt z
theorem iI_toInt {z : Int} (h : -2147483648 ≤ z ∧ z < 2147483648) : (iI z).toInt = z := Int32.toInt_ofInt_of_le (by omega) (by omega)
theorem lI_toInt {z : Int} (h : -9223372036854775808 ≤ z ∧ z < 9223372036854775808) : (lI z).toInt = z := Int64.toInt_ofInt_of_le (by omega) (by omega)
theorem iI_of (x : Int32) : iI x.toInt = x := Int32.ofInt_toInt x
theorem lI_of (x : Int64) : lI x.toInt = x := Int64.ofInt_toInt x
theorem iI_add (a b : Int) : iI a + iI b = iI (a + b) := (Int32.ofInt_add a b).symm
theorem iI_sub (a b : Int) : iI a - iI b = iI (a - b) := (Int32.ofInt_sub a b).symm
theorem iI_mul (a b : Int) : iI a * iI b = iI (a * b) := (Int32.ofInt_mul a b).symm
theorem iI_neg (a : Int) : -iI a = iI (-a) := (Int32.ofInt_neg a).symm
theorem lI_add (a b : Int) : lI a + lI b = lI (a + b) := (Int64.ofInt_add a b).symm
theorem lI_sub (a b : Int) : lI a - lI b = lI (a - b) := (Int64.ofInt_sub a b).symm
theorem lI_mul (a b : Int) : lI a * lI b = lI (a * b) := (Int64.ofInt_mul a b).symm
theorem lI_neg (a : Int) : -lI a = lI (-a) := (Int64.ofInt_neg a).symm
theorem iI_eq {a b : Int} (ha : -2147483648 ≤ a ∧ a < 2147483648) (hb : -2147483648 ≤ b ∧ b < 2147483648) : iI a = iI b ↔ a = b :=
  ⟨fun h => by rw [← iI_toInt ha, ← iI_toInt hb, h], fun h => by rw [h]⟩
theorem iI_le {a b : Int} (ha : -2147483648 ≤ a ∧ a < 2147483648) (hb : -2147483648 ≤ b ∧ b < 2147483648) : iI a ≤ iI b ↔ a ≤ b := by
  rw [Int32.le_iff_toInt_le, iI_toInt ha, iI_toInt hb]
theorem iI_lt {a b : Int} (ha : -2147483648 ≤ a ∧ a < 2147483648) (hb : -2147483648 ≤ b ∧ b < 2147483648) : iI a < iI b ↔ a < b := by
  rw [Int32.lt_iff_toInt_lt, iI_toInt ha, iI_toInt hb]
theorem lI_eq {a b : Int} (ha : -9223372036854775808 ≤ a ∧ a < 9223372036854775808) (hb : -9223372036854775808 ≤ b ∧ b < 9223372036854775808) : lI a = lI b ↔ a = b :=
  ⟨fun h => by rw [← lI_toInt ha, ← lI_toInt hb, h], fun h => by rw [h]⟩
theorem lI_le {a b : Int} (ha : -9223372036854775808 ≤ a ∧ a < 9223372036854775808) (hb : -9223372036854775808 ≤ b ∧ b < 9223372036854775808) : lI a ≤ lI b ↔ a ≤ b := by
  rw [Int64.le_iff_toInt_le, lI_toInt ha, lI_toInt hb]
theorem lI_lt {a b : Int} (ha : -9223372036854775808 ≤ a ∧ a < 9223372036854775808) (hb : -9223372036854775808 ≤ b ∧ b < 9223372036854775808) : lI a < lI b ↔ a < b := by
  rw [Int64.lt_iff_toInt_lt, lI_toInt ha, lI_toInt hb]
theorem iI_zero : (0 : Int32) = iI 0 := rfl
theorem iI_clamp {z : Int} (h : 0 ≤ z ∧ z < 2147483648) : (iI z).toNatClampNeg = z.toNat := Int32.toNatClampNeg_ofInt_of_le (by omega) (by omega)
theorem iI_nat (n : Nat) : iI (n : Int) = nI n := Int32.ofInt_eq_ofNat
theorem lI_nat (n : Nat) : lI (n : Int) = lN n := Int64.ofInt_eq_ofNat
theorem iI_in {z : Int} {n : Nat} (h : 0 ≤ z ∧ z < n) (hn : n ≤ 2147483647) : vp_in (iI z) n := by
  rw [vp_in_iff, iI_toInt (by omega)]
  omega
theorem iI_l {z : Int} (h : -2147483648 ≤ z ∧ z < 2147483648) : (iI z).toInt64 = lI z := by
  rw [← lI_of (iI z).toInt64, Int32.toInt_toInt64, iI_toInt h]
theorem lI_i (z : Int) : (lI z).toInt32 = iI z := Int64.toInt32_ofInt
theorem iI_div {a b : Int} (ha : -2147483648 ≤ a ∧ a < 2147483648) (hb : -2147483648 ≤ b ∧ b < 2147483648) : iI a / iI b = iI (a.tdiv b) :=
  (Int32.ofInt_tdiv (show (-2147483648 : Int) ≤ a by omega) (show a ≤ (2147483647 : Int) by omega) (show (-2147483648 : Int) ≤ b by omega) (show b ≤ (2147483647 : Int) by omega)).symm
theorem lI_div {a b : Int} (ha : -9223372036854775808 ≤ a ∧ a < 9223372036854775808) (hb : -9223372036854775808 ≤ b ∧ b < 9223372036854775808) : lI a / lI b = lI (a.tdiv b) :=
  (Int64.ofInt_tdiv (show (-9223372036854775808 : Int) ≤ a by omega) (show a ≤ (9223372036854775807 : Int) by omega) (show (-9223372036854775808 : Int) ≤ b by omega) (show b ≤ (9223372036854775807 : Int) by omega)).symm
theorem iI_rem {a b : Int} (ha : -2147483648 ≤ a ∧ a < 2147483648) (hb : -2147483648 ≤ b ∧ b < 2147483648) : iI a - iI a / iI b * iI b = iI (a.tmod b) := by
  rw [iI_div ha hb, iI_mul, iI_sub]
  congr 1
  rw [Int.tmod_def, Int.mul_comm b]
theorem lI_rem {a b : Int} (ha : -9223372036854775808 ≤ a ∧ a < 9223372036854775808) (hb : -9223372036854775808 ≤ b ∧ b < 9223372036854775808) : lI a - lI a / lI b * lI b = lI (a.tmod b) := by
  rw [lI_div ha hb, lI_mul, lI_sub]
  congr 1
  rw [Int.tmod_def, Int.mul_comm b]
theorem iI_ne0 {b : Int} (hb : -2147483648 ≤ b ∧ b < 2147483648) (h : b ≠ 0) : ¬ iI b = 0 := fun q => h ((iI_eq hb (by omega)).mp q)
theorem lI_ne0 {b : Int} (hb : -9223372036854775808 ≤ b ∧ b < 9223372036854775808) (h : b ≠ 0) : ¬ lI b = 0 := fun q => h ((lI_eq hb (by omega)).mp q)
/-! rows of ints and longs in arrays, by whole numbers -/
def ai (g : Nat → Int) : Nat → Int32 := fun j => iI (g j)
def al (g : Nat → Int) : Nat → Int64 := fun j => lI (g j)
def up (g : Nat → Int) (k : Nat) (v : Int) : Nat → Int := fun j => if j = k then v else g j
theorem up_self (g : Nat → Int) (k : Nat) (v : Int) : up g k v k = v := by simp [up]
theorem up_ne (g : Nat → Int) {k j : Nat} (v : Int) (h : j ≠ k) : up g k v j = g j := by simp [up, h]
theorem ai_up (g : Nat → Int) (k : Nat) (v : Int) : upd (ai g) k (iI v) = ai (up g k v) := by
  funext j
  simp only [upd, ai, up]
  split <;> rfl
theorem al_up (g : Nat → Int) (k : Nat) (v : Int) : vp_updL (al g) k (lI v) = al (up g k v) := by
  funext j
  simp only [vp_updL, al, up]
  split <;> rfl
/-! the heap as a function: a few cells in front of the rest -/
def mw (f : Nat → va_E) : List (Nat × va_E) → Nat → va_E
  | [] => f
  | p :: r => va_up (mw f r) p.1 p.2
theorem mw_out {f : Nat → va_E} {X : List (Nat × va_E)} {a : Nat} (h : a ∉ X.map Prod.fst) : mw f X a = f a := by
  induction X with
  | nil => rfl
  | cons p r ih =>
    rw [List.map_cons, List.mem_cons] at h
    rw [mw, va_up_ne _ _ (fun q => h (Or.inl q)), ih (fun q => h (Or.inr q))]
theorem mw_get {f : Nat → va_E} {X : List (Nat × va_E)} (hN : (X.map Prod.fst).Nodup) {k a : Nat} {e : va_E} (h : X[k]? = some (a, e)) : mw f X a = e := by
  induction X generalizing k with
  | nil => simp at h
  | cons p r ih =>
    rw [List.map_cons, List.nodup_cons] at hN
    cases k with
    | zero =>
      simp at h
      subst h
      exact va_up_self _ _ _
    | succ k =>
      have h1 : r[k]? = some (a, e) := by simpa using h
      have h2 : a ∈ r.map Prod.fst := List.mem_map.mpr ⟨(a, e), List.mem_of_getElem? h1, rfl⟩
      have h3 : a ≠ p.1 := fun q => hN.1 (by rw [← q]; exact h2)
      rw [mw, va_up_ne _ _ h3, ih hN.2 h1]
theorem mw_key {X : List (Nat × va_E)} {k a : Nat} {e : va_E} (h : X[k]? = some (a, e)) : a ∈ X.map Prod.fst := List.mem_map.mpr ⟨(a, e), List.mem_of_getElem? h, rfl⟩
theorem mw_set {f : Nat → va_E} {X : List (Nat × va_E)} (hN : (X.map Prod.fst).Nodup) {k a : Nat} {e0 e : va_E} (h : X[k]? = some (a, e0)) : mw f (X.set k (a, e)) = va_up (mw f X) a e := by
  induction X generalizing k with
  | nil => simp at h
  | cons p r ih =>
    rw [List.map_cons, List.nodup_cons] at hN
    cases k with
    | zero =>
      simp at h
      subst h
      funext q
      simp only [List.set_cons_zero, mw, va_up]
      split <;> simp_all
    | succ k =>
      have h1 : r[k]? = some (a, e0) := by simpa using h
      have h2 : p.1 ≠ a := fun q => hN.1 (by rw [q]; exact mw_key h1)
      funext q
      simp only [List.set_cons_succ, mw, ih hN.2 h1, va_up]
      split
      · rename_i h3
        rw [if_neg (fun h4 => h2 (h3.symm.trans h4))]
      · rfl
theorem mw_self {f : Nat → va_E} {X : List (Nat × va_E)} (h : ∀ (k : Nat) (a : Nat) (e : va_E), X[k]? = some (a, e) → f a = e) : mw f X = f := by
  induction X with
  | nil => rfl
  | cons p r ih =>
    have h0 := h 0 p.1 p.2 (by simp)
    have h1 := ih (fun k a e hk => h (k + 1) a e (by simpa using hk))
    funext q
    rw [mw, h1]
    simp only [va_up]
    split
    · rename_i h2
      rw [h2, h0]
    · rfl
theorem mw_app (f : Nat → va_E) (X Y : List (Nat × va_E)) : mw (mw f X) Y = mw f (Y ++ X) := by
  induction Y with
  | nil => rfl
  | cons p r ih =>
    rw [mw, ih]
    rfl
/-- the keys of a list of cells: apart, and in the pool -/
def Fc (L ks : List Nat) : Prop := ks.Nodup ∧ ∀ x ∈ ks, x ∈ L
