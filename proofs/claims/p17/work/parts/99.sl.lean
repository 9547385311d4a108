/-! the cells of good units -/
theorem good_len {u : List Int32} (h : goodU u) : u.length ≤ 60 := by
  rcases h.2 with z | ⟨ws, p, m, n, e, hl, _⟩
  · omega
  · rw [e, List.length_append, List.length_append, List.length_append, fm_len, w4_len, w4_len, w4_len]
    omega
theorem gcell_of {u : List Int32} {cs : List (Int32 × List Int32)} {c : Int32 × List Int32} (hg : goodU u) (h1 : 1 ≤ u.length) (h : uCs u cs) (hc : c ∈ cs) : gcell c ∧ c.2.length = 48 := by
  have ok := okC_of hg h1 h hc
  obtain ⟨im, r, hr, e, _, _, _, _, ho⟩ := h
  have ho := ho hg.1 (by have := good_len hg; omega)
  rw [e] at hc
  obtain ⟨k, hk, ek⟩ := List.mem_map.mp hc
  have hk := List.mem_range.mp hk
  refine ⟨⟨?_, ok, fun x hx => ?_⟩, ?_⟩
  · rw [← ek]
    show (if k + 1 = r then 82 else 80 : Int32) = 80 ∨ _
    by_cases z : k + 1 = r
    · right
      show (if k + 1 = r then 82 else 80 : Int32) = 82
      rw [if_pos z]
    · left
      rw [if_neg z]
  · rw [← ek] at hx
    obtain ⟨j, hj, ej⟩ := List.mem_map.mp hx
    have hj := List.mem_range.mp hj
    rw [← ej]
    refine ho _ ?_
    have : 48 * (k + 1) ≤ 48 * r := Nat.mul_le_mul_left 48 hk
    omega
  · rw [← ek]
    show ((List.range 48).map _).length = 48
    rw [List.length_map, List.length_range]
theorem gcell_all {u : List Int32} {cs : List (Int32 × List Int32)} {c : Int32 × List Int32} (hg : goodU u) (h : uCs u cs) (hc : c ∈ cs) : gcell c ∧ c.2.length = 48 := by
  by_cases h1 : 1 ≤ u.length
  · exact gcell_of hg h1 h hc
  · have u0 : u.length = 0 := by omega
    obtain ⟨im, r, hr, e, _, z1, z2, z3, ho⟩ := h
    have ho := ho hg.1 (by omega)
    rw [u0] at hr z1 z3
    have r1 : r = 1 := by omega
    subst r1
    rw [e] at hc
    obtain ⟨k, hk, ek⟩ := List.mem_map.mp hc
    have hk := List.mem_range.mp hk
    have k0 : k = 0 := by omega
    subst k0
    have pl : ∀ j, j < 48 → c.2[j]? = some (im j) := fun j hj => by
      rw [← ek]
      show ((List.range 48).map fun j => im (48 * 0 + j))[j]? = _
      rw [get48 hj]
      congr 2
      omega
    refine ⟨⟨Or.inr (by rw [← ek]; rfl), Or.inl ⟨fun j h2 h3 => ?_, im 43, pl 43 (by omega), ?_⟩, fun x hx => ?_⟩, ?_⟩
    · rw [pl j (by omega)]
      by_cases w : j = 42
      · subst w
        exact congrArg some z2
      · rw [z1 j (by omega) (by omega)]
    · have : (im (48 * 1 - 5)).toInt = ((0 : Nat) : Int) := z3
      have : (im 43).toInt = 0 := this
      omega
    · rw [← ek] at hx
      obtain ⟨j, hj, ej⟩ := List.mem_map.mp hx
      have hj := List.mem_range.mp hj
      rw [← ej]
      exact ho _ (by omega)
    · rw [← ek]
      show ((List.range 48).map _).length = 48
      rw [List.length_map, List.length_range]
