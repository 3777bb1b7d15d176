theorem nd_inj {ks : List Nat} (h : ks.Nodup) {i j v : Nat} (hi : ks[i]? = some v) (hj : ks[j]? = some v) : i = j := by
  obtain ⟨hi1, hi2⟩ := List.getElem?_eq_some_iff.mp hi
  obtain ⟨hj1, hj2⟩ := List.getElem?_eq_some_iff.mp hj
  rcases Nat.lt_trichotomy i j with h1 | h1 | h1
  · exact absurd (hi2.trans hj2.symm) (List.pairwise_iff_getElem.mp h i j hi1 hj1 h1)
  · exact h1
  · exact absurd (hj2.trans hi2.symm) (List.pairwise_iff_getElem.mp h j i hj1 hi1 h1)
/-- some of the keys, by their places -/
theorem Fc.pick {L ks ks' : List Nat} (h : Fc L ks) (js : List Nat) (hn : va_nd js = true) (hs : js.map (fun i => ks[i]?) = ks'.map some) : Fc L ks' := by
  have at' : ∀ (k v : Nat), ks'[k]? = some v → ∃ a, js[k]? = some a ∧ ks[a]? = some v := by
    intro k v hk
    have h1 : (js.map (fun i => ks[i]?))[k]? = some (some v) := by rw [hs, List.getElem?_map, hk]; rfl
    rw [List.getElem?_map] at h1
    cases hi : js[k]? with
    | none => rw [hi] at h1; cases h1
    | some i => rw [hi] at h1; exact ⟨i, rfl, Option.some.inj h1⟩
  refine ⟨?_, fun x hx => ?_⟩
  · unfold List.Nodup
    rw [List.pairwise_iff_getElem]
    intro i j hi hj hij e1
    obtain ⟨a, h1, h2⟩ := at' i _ (List.getElem?_eq_getElem hi)
    obtain ⟨b, h3, h4⟩ := at' j _ (List.getElem?_eq_getElem hj)
    rw [e1] at h2
    have hab := nd_inj h.1 h2 h4
    subst hab
    have := va_nd_inj js hn i j a h1 h3
    omega
  · obtain ⟨k, hk⟩ := List.getElem?_of_mem hx
    obtain ⟨a, h1, h2⟩ := at' k x hk
    exact h.2 x (List.mem_of_getElem? h2)
theorem Fc.apart {L ks : List Nat} (h : Fc L ks) (as bs : List Nat) (js : List Nat) (hn : va_nd js = true) (hs : js.map (fun i => ks[i]?) = (as ++ bs).map some) : ∀ q ∈ as, q ∉ bs := fun q hq hq2 => (List.nodup_append.mp (h.pick js hn hs).1).2.2 q hq q hq2 rfl
