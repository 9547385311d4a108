/-! the first world: its addresses are apart, its numbers in their ranges -/
def kT (k : Nat) : Nat × Nat × Nat × Nat := match k with
  | 0 => (3, 0, 2, 0)
  | 1 => (2, 0, 4, 0)
  | 2 => (17, 0, 4, 0)
  | 3 => (18, 0, 4, 0)
  | 4 => (2, 0, 4, 1)
  | 5 => (17, 0, 4, 1)
  | 6 => (18, 0, 4, 1)
  | 7 => (7, 0, 2, 0)
  | 8 => (25, 0, 2, 0)
  | 9 => (0, 0, 2, 0)
  | 10 => (16, 0, 2, 0)
  | 11 => (19, 0, 2, 0)
  | 12 => (20, 0, 2, 0)
  | 13 => (21, 0, 2, 0)
  | 14 => (22, 0, 2, 0)
  | 15 => (23, 0, 2, 0)
  | 16 => (24, 0, 2, 0)
  | 17 => (3, 0, 2, 1)
  | 18 => (2, 0, 4, 2)
  | 19 => (17, 0, 4, 2)
  | 20 => (18, 0, 4, 2)
  | 21 => (2, 0, 4, 3)
  | 22 => (17, 0, 4, 3)
  | 23 => (18, 0, 4, 3)
  | 24 => (7, 0, 2, 1)
  | 25 => (25, 0, 2, 1)
  | 26 => (0, 0, 2, 1)
  | 27 => (16, 0, 2, 1)
  | 28 => (19, 0, 2, 1)
  | 29 => (20, 0, 2, 1)
  | 30 => (21, 0, 2, 1)
  | 31 => (22, 0, 2, 1)
  | 32 => (23, 0, 2, 1)
  | 33 => (24, 0, 2, 1)
  | 34 => (4, 0, 1, 0)
  | 35 => (5, 0, 1, 0)
  | 36 => (6, 0, 1, 0)
  | 37 => (26, 0, 1, 0)
  | 38 => (27, 0, 1, 0)
  | 39 => (28, 0, 1, 0)
  | 40 => (29, 0, 1, 0)
  | 41 => (13, 0, 2, 0)
  | 42 => (39, 0, 2, 0)
  | 43 => (40, 0, 2, 0)
  | 44 => (41, 0, 2, 0)
  | 45 => (42, 0, 2, 0)
  | 46 => (13, 0, 2, 1)
  | 47 => (39, 0, 2, 1)
  | 48 => (40, 0, 2, 1)
  | 49 => (41, 0, 2, 1)
  | 50 => (42, 0, 2, 1)
  | 51 => (12, 0, 1, 0)
  | 52 => (48, 0, 1, 0)
  | 53 => (30, 0, 1, 0)
  | 54 => (31, 0, 1, 0)
  | 55 => (32, 0, 1, 0)
  | 56 => (33, 0, 1, 0)
  | 57 => (10, 0, 1, 0)
  | 58 => (5, 1, 1, 0)
  | 59 => (6, 1, 1, 0)
  | 60 => (26, 1, 1, 0)
  | 61 => (27, 1, 1, 0)
  | 62 => (28, 1, 1, 0)
  | 63 => (29, 1, 1, 0)
  | 64 => (13, 2, 2, 0)
  | 65 => (39, 2, 2, 0)
  | 66 => (40, 2, 2, 0)
  | 67 => (41, 2, 2, 0)
  | 68 => (42, 2, 2, 0)
  | 69 => (13, 2, 2, 1)
  | 70 => (39, 2, 2, 1)
  | 71 => (40, 2, 2, 1)
  | 72 => (41, 2, 2, 1)
  | 73 => (42, 2, 2, 1)
  | 74 => (12, 1, 1, 0)
  | _ => (99, 0, 0, 0)
def kB (a e0 sz n K i : Nat) : Prop := ∃ e k, k < 75 ∧ iA a e0 sz n K i = sz + 8 + 75 * e + k ∧ (kT k).1 = K ∧ (kT k).2.1 * n + (kT k).2.2.1 * e + (kT k).2.2.2 = i
theorem kB_ap {a e0 sz n K i K' i' : Nat} (h : kB a e0 sz n K i) (h' : kB a e0 sz n K' i') (e : iA a e0 sz n K i = iA a e0 sz n K' i') : K = K' ∧ i = i' := by
  obtain ⟨e1, k1, a1, a2, a3, a4⟩ := h
  obtain ⟨e2, k2, b1, b2, b3, b4⟩ := h'
  have hk : k1 = k2 := by omega
  have he : e1 = e2 := by omega
  subst hk he
  exact ⟨a3.symm.trans b3, a4.symm.trans b4⟩
set_option maxHeartbeats 4000000 in
theorem kB_of {a e0 sz n K i : Nat} (hn : 2 ≤ n ∧ n ≤ 4) (hi : i < cCt n K) : kB a e0 sz n K i ∨ (K = 11 ∧ i = 0 ∧ iA a e0 sz n K i = a) ∨ (K = 55 ∧ i = 0 ∧ iA a e0 sz n K i = e0) ∨ (i = 0 ∧ sz ≤ iA a e0 sz n K i ∧ iA a e0 sz n K i < sz + 8 ∧ K = (if iA a e0 sz n K i = sz then 9 else if iA a e0 sz n K i = sz + 1 then 34 else if iA a e0 sz n K i = sz + 2 then 35 else if iA a e0 sz n K i = sz + 3 then 36 else if iA a e0 sz n K i = sz + 4 then 50 else if iA a e0 sz n K i = sz + 5 then 51 else if iA a e0 sz n K i = sz + 6 then 49 else 52)) := by
  by_cases h3 : K = 3
  · subst h3
    left
    have hi : i < 2 * n := hi
    rcases (by omega : i % 2 = 0 ∨ i % 2 = 1) with hp | hp
    · exact ⟨i / 2, 0, by decide, by first | (simp only [iA, dA, lA]; done) | (simp only [iA, dA, lA]; omega), rfl, by show 0 * n + 2 * (i / 2) + 0 = i; omega⟩
    · exact ⟨i / 2, 17, by decide, by first | (simp only [iA, dA, lA]; done) | (simp only [iA, dA, lA]; omega), rfl, by show 0 * n + 2 * (i / 2) + 1 = i; omega⟩
  by_cases h7 : K = 7
  · subst h7
    left
    have hi : i < 2 * n := hi
    rcases (by omega : i % 2 = 0 ∨ i % 2 = 1) with hp | hp
    · exact ⟨i / 2, 7, by decide, by first | (simp only [iA, dA, lA]; done) | (simp only [iA, dA, lA]; omega), rfl, by show 0 * n + 2 * (i / 2) + 0 = i; omega⟩
    · exact ⟨i / 2, 24, by decide, by first | (simp only [iA, dA, lA]; done) | (simp only [iA, dA, lA]; omega), rfl, by show 0 * n + 2 * (i / 2) + 1 = i; omega⟩
  by_cases h25 : K = 25
  · subst h25
    left
    have hi : i < 2 * n := hi
    rcases (by omega : i % 2 = 0 ∨ i % 2 = 1) with hp | hp
    · exact ⟨i / 2, 8, by decide, by first | (simp only [iA, dA, lA]; done) | (simp only [iA, dA, lA]; omega), rfl, by show 0 * n + 2 * (i / 2) + 0 = i; omega⟩
    · exact ⟨i / 2, 25, by decide, by first | (simp only [iA, dA, lA]; done) | (simp only [iA, dA, lA]; omega), rfl, by show 0 * n + 2 * (i / 2) + 1 = i; omega⟩
  by_cases h0 : K = 0
  · subst h0
    left
    have hi : i < 2 * n := hi
    rcases (by omega : i % 2 = 0 ∨ i % 2 = 1) with hp | hp
    · exact ⟨i / 2, 9, by decide, by first | (simp only [iA, dA, lA]; done) | (simp only [iA, dA, lA]; omega), rfl, by show 0 * n + 2 * (i / 2) + 0 = i; omega⟩
    · exact ⟨i / 2, 26, by decide, by first | (simp only [iA, dA, lA]; done) | (simp only [iA, dA, lA]; omega), rfl, by show 0 * n + 2 * (i / 2) + 1 = i; omega⟩
  by_cases h16 : K = 16
  · subst h16
    left
    have hi : i < 2 * n := hi
    rcases (by omega : i % 2 = 0 ∨ i % 2 = 1) with hp | hp
    · exact ⟨i / 2, 10, by decide, by first | (simp only [iA, dA, lA]; done) | (simp only [iA, dA, lA]; omega), rfl, by show 0 * n + 2 * (i / 2) + 0 = i; omega⟩
    · exact ⟨i / 2, 27, by decide, by first | (simp only [iA, dA, lA]; done) | (simp only [iA, dA, lA]; omega), rfl, by show 0 * n + 2 * (i / 2) + 1 = i; omega⟩
  by_cases h19 : K = 19
  · subst h19
    left
    have hi : i < 2 * n := hi
    rcases (by omega : i % 2 = 0 ∨ i % 2 = 1) with hp | hp
    · exact ⟨i / 2, 11, by decide, by first | (simp only [iA, dA, lA]; done) | (simp only [iA, dA, lA]; omega), rfl, by show 0 * n + 2 * (i / 2) + 0 = i; omega⟩
    · exact ⟨i / 2, 28, by decide, by first | (simp only [iA, dA, lA]; done) | (simp only [iA, dA, lA]; omega), rfl, by show 0 * n + 2 * (i / 2) + 1 = i; omega⟩
  by_cases h20 : K = 20
  · subst h20
    left
    have hi : i < 2 * n := hi
    rcases (by omega : i % 2 = 0 ∨ i % 2 = 1) with hp | hp
    · exact ⟨i / 2, 12, by decide, by first | (simp only [iA, dA, lA]; done) | (simp only [iA, dA, lA]; omega), rfl, by show 0 * n + 2 * (i / 2) + 0 = i; omega⟩
    · exact ⟨i / 2, 29, by decide, by first | (simp only [iA, dA, lA]; done) | (simp only [iA, dA, lA]; omega), rfl, by show 0 * n + 2 * (i / 2) + 1 = i; omega⟩
  by_cases h21 : K = 21
  · subst h21
    left
    have hi : i < 2 * n := hi
    rcases (by omega : i % 2 = 0 ∨ i % 2 = 1) with hp | hp
    · exact ⟨i / 2, 13, by decide, by first | (simp only [iA, dA, lA]; done) | (simp only [iA, dA, lA]; omega), rfl, by show 0 * n + 2 * (i / 2) + 0 = i; omega⟩
    · exact ⟨i / 2, 30, by decide, by first | (simp only [iA, dA, lA]; done) | (simp only [iA, dA, lA]; omega), rfl, by show 0 * n + 2 * (i / 2) + 1 = i; omega⟩
  by_cases h22 : K = 22
  · subst h22
    left
    have hi : i < 2 * n := hi
    rcases (by omega : i % 2 = 0 ∨ i % 2 = 1) with hp | hp
    · exact ⟨i / 2, 14, by decide, by first | (simp only [iA, dA, lA]; done) | (simp only [iA, dA, lA]; omega), rfl, by show 0 * n + 2 * (i / 2) + 0 = i; omega⟩
    · exact ⟨i / 2, 31, by decide, by first | (simp only [iA, dA, lA]; done) | (simp only [iA, dA, lA]; omega), rfl, by show 0 * n + 2 * (i / 2) + 1 = i; omega⟩
  by_cases h23 : K = 23
  · subst h23
    left
    have hi : i < 2 * n := hi
    rcases (by omega : i % 2 = 0 ∨ i % 2 = 1) with hp | hp
    · exact ⟨i / 2, 15, by decide, by first | (simp only [iA, dA, lA]; done) | (simp only [iA, dA, lA]; omega), rfl, by show 0 * n + 2 * (i / 2) + 0 = i; omega⟩
    · exact ⟨i / 2, 32, by decide, by first | (simp only [iA, dA, lA]; done) | (simp only [iA, dA, lA]; omega), rfl, by show 0 * n + 2 * (i / 2) + 1 = i; omega⟩
  by_cases h24 : K = 24
  · subst h24
    left
    have hi : i < 2 * n := hi
    rcases (by omega : i % 2 = 0 ∨ i % 2 = 1) with hp | hp
    · exact ⟨i / 2, 16, by decide, by first | (simp only [iA, dA, lA]; done) | (simp only [iA, dA, lA]; omega), rfl, by show 0 * n + 2 * (i / 2) + 0 = i; omega⟩
    · exact ⟨i / 2, 33, by decide, by first | (simp only [iA, dA, lA]; done) | (simp only [iA, dA, lA]; omega), rfl, by show 0 * n + 2 * (i / 2) + 1 = i; omega⟩
  by_cases h2 : K = 2
  · subst h2
    left
    have hi : i < 4 * n := hi
    rcases (by omega : i % 4 = 0 ∨ i % 4 = 1 ∨ i % 4 = 2 ∨ i % 4 = 3) with hp | hp | hp | hp
    · exact ⟨i / 4, 1, by decide, by first | (simp only [iA, dA, lA]; done) | (simp only [iA, dA, lA]; omega), rfl, by show 0 * n + 4 * (i / 4) + 0 = i; omega⟩
    · exact ⟨i / 4, 4, by decide, by first | (simp only [iA, dA, lA]; done) | (simp only [iA, dA, lA]; omega), rfl, by show 0 * n + 4 * (i / 4) + 1 = i; omega⟩
    · exact ⟨i / 4, 18, by decide, by first | (simp only [iA, dA, lA]; done) | (simp only [iA, dA, lA]; omega), rfl, by show 0 * n + 4 * (i / 4) + 2 = i; omega⟩
    · exact ⟨i / 4, 21, by decide, by first | (simp only [iA, dA, lA]; done) | (simp only [iA, dA, lA]; omega), rfl, by show 0 * n + 4 * (i / 4) + 3 = i; omega⟩
  by_cases h17 : K = 17
  · subst h17
    left
    have hi : i < 4 * n := hi
    rcases (by omega : i % 4 = 0 ∨ i % 4 = 1 ∨ i % 4 = 2 ∨ i % 4 = 3) with hp | hp | hp | hp
    · exact ⟨i / 4, 2, by decide, by first | (simp only [iA, dA, lA]; done) | (simp only [iA, dA, lA]; omega), rfl, by show 0 * n + 4 * (i / 4) + 0 = i; omega⟩
    · exact ⟨i / 4, 5, by decide, by first | (simp only [iA, dA, lA]; done) | (simp only [iA, dA, lA]; omega), rfl, by show 0 * n + 4 * (i / 4) + 1 = i; omega⟩
    · exact ⟨i / 4, 19, by decide, by first | (simp only [iA, dA, lA]; done) | (simp only [iA, dA, lA]; omega), rfl, by show 0 * n + 4 * (i / 4) + 2 = i; omega⟩
    · exact ⟨i / 4, 22, by decide, by first | (simp only [iA, dA, lA]; done) | (simp only [iA, dA, lA]; omega), rfl, by show 0 * n + 4 * (i / 4) + 3 = i; omega⟩
  by_cases h18 : K = 18
  · subst h18
    left
    have hi : i < 4 * n := hi
    rcases (by omega : i % 4 = 0 ∨ i % 4 = 1 ∨ i % 4 = 2 ∨ i % 4 = 3) with hp | hp | hp | hp
    · exact ⟨i / 4, 3, by decide, by first | (simp only [iA, dA, lA]; done) | (simp only [iA, dA, lA]; omega), rfl, by show 0 * n + 4 * (i / 4) + 0 = i; omega⟩
    · exact ⟨i / 4, 6, by decide, by first | (simp only [iA, dA, lA]; done) | (simp only [iA, dA, lA]; omega), rfl, by show 0 * n + 4 * (i / 4) + 1 = i; omega⟩
    · exact ⟨i / 4, 20, by decide, by first | (simp only [iA, dA, lA]; done) | (simp only [iA, dA, lA]; omega), rfl, by show 0 * n + 4 * (i / 4) + 2 = i; omega⟩
    · exact ⟨i / 4, 23, by decide, by first | (simp only [iA, dA, lA]; done) | (simp only [iA, dA, lA]; omega), rfl, by show 0 * n + 4 * (i / 4) + 3 = i; omega⟩
  by_cases h5 : K = 5
  · subst h5
    left
    have hi : i < 2 * n := hi
    rcases (by omega : i < n ∨ n ≤ i) with hp | hp
    · exact ⟨i, 35, by decide, by simp only [iA, dA, lA]; first | (rw [if_pos (by omega)]; done) | (rw [if_pos (by omega)]; omega), rfl, by show 0 * n + 1 * (i) + 0 = i; omega⟩
    · exact ⟨i - n, 58, by decide, by simp only [iA, dA, lA]; first | (rw [if_neg (by omega)]; done) | (rw [if_neg (by omega)]; omega), rfl, by show 1 * n + 1 * (i - n) + 0 = i; omega⟩
  by_cases h6 : K = 6
  · subst h6
    left
    have hi : i < 2 * n := hi
    rcases (by omega : i < n ∨ n ≤ i) with hp | hp
    · exact ⟨i, 36, by decide, by simp only [iA, dA, lA]; first | (rw [if_pos (by omega)]; done) | (rw [if_pos (by omega)]; omega), rfl, by show 0 * n + 1 * (i) + 0 = i; omega⟩
    · exact ⟨i - n, 59, by decide, by simp only [iA, dA, lA]; first | (rw [if_neg (by omega)]; done) | (rw [if_neg (by omega)]; omega), rfl, by show 1 * n + 1 * (i - n) + 0 = i; omega⟩
  by_cases h26 : K = 26
  · subst h26
    left
    have hi : i < 2 * n := hi
    rcases (by omega : i < n ∨ n ≤ i) with hp | hp
    · exact ⟨i, 37, by decide, by simp only [iA, dA, lA]; first | (rw [if_pos (by omega)]; done) | (rw [if_pos (by omega)]; omega), rfl, by show 0 * n + 1 * (i) + 0 = i; omega⟩
    · exact ⟨i - n, 60, by decide, by simp only [iA, dA, lA]; first | (rw [if_neg (by omega)]; done) | (rw [if_neg (by omega)]; omega), rfl, by show 1 * n + 1 * (i - n) + 0 = i; omega⟩
  by_cases h27 : K = 27
  · subst h27
    left
    have hi : i < 2 * n := hi
    rcases (by omega : i < n ∨ n ≤ i) with hp | hp
    · exact ⟨i, 38, by decide, by simp only [iA, dA, lA]; first | (rw [if_pos (by omega)]; done) | (rw [if_pos (by omega)]; omega), rfl, by show 0 * n + 1 * (i) + 0 = i; omega⟩
    · exact ⟨i - n, 61, by decide, by simp only [iA, dA, lA]; first | (rw [if_neg (by omega)]; done) | (rw [if_neg (by omega)]; omega), rfl, by show 1 * n + 1 * (i - n) + 0 = i; omega⟩
  by_cases h28 : K = 28
  · subst h28
    left
    have hi : i < 2 * n := hi
    rcases (by omega : i < n ∨ n ≤ i) with hp | hp
    · exact ⟨i, 39, by decide, by simp only [iA, dA, lA]; first | (rw [if_pos (by omega)]; done) | (rw [if_pos (by omega)]; omega), rfl, by show 0 * n + 1 * (i) + 0 = i; omega⟩
    · exact ⟨i - n, 62, by decide, by simp only [iA, dA, lA]; first | (rw [if_neg (by omega)]; done) | (rw [if_neg (by omega)]; omega), rfl, by show 1 * n + 1 * (i - n) + 0 = i; omega⟩
  by_cases h29 : K = 29
  · subst h29
    left
    have hi : i < 2 * n := hi
    rcases (by omega : i < n ∨ n ≤ i) with hp | hp
    · exact ⟨i, 40, by decide, by simp only [iA, dA, lA]; first | (rw [if_pos (by omega)]; done) | (rw [if_pos (by omega)]; omega), rfl, by show 0 * n + 1 * (i) + 0 = i; omega⟩
    · exact ⟨i - n, 63, by decide, by simp only [iA, dA, lA]; first | (rw [if_neg (by omega)]; done) | (rw [if_neg (by omega)]; omega), rfl, by show 1 * n + 1 * (i - n) + 0 = i; omega⟩
  by_cases h13 : K = 13
  · subst h13
    left
    have hi : i < 4 * n := hi
    rcases (by omega : i / 2 < n ∨ n ≤ i / 2) with hp | hp
    · rcases (by omega : i % 2 = 0 ∨ i % 2 = 1) with hq | hq
      · exact ⟨i / 2, 41, by decide, by simp only [iA, dA, lA]; first | (rw [if_pos (by omega)]; done) | (rw [if_pos (by omega)]; omega), rfl, by show 0 * n + 2 * (i / 2) + 0 = i; omega⟩
      · exact ⟨i / 2, 46, by decide, by simp only [iA, dA, lA]; first | (rw [if_pos (by omega)]; done) | (rw [if_pos (by omega)]; omega), rfl, by show 0 * n + 2 * (i / 2) + 1 = i; omega⟩
    · rcases (by omega : i % 2 = 0 ∨ i % 2 = 1) with hq | hq
      · exact ⟨i / 2 - n, 64, by decide, by simp only [iA, dA, lA]; first | (rw [if_neg (by omega)]; done) | (rw [if_neg (by omega)]; omega), rfl, by show 2 * n + 2 * (i / 2 - n) + 0 = i; omega⟩
      · exact ⟨i / 2 - n, 69, by decide, by simp only [iA, dA, lA]; first | (rw [if_neg (by omega)]; done) | (rw [if_neg (by omega)]; omega), rfl, by show 2 * n + 2 * (i / 2 - n) + 1 = i; omega⟩
  by_cases h39 : K = 39
  · subst h39
    left
    have hi : i < 4 * n := hi
    rcases (by omega : i / 2 < n ∨ n ≤ i / 2) with hp | hp
    · rcases (by omega : i % 2 = 0 ∨ i % 2 = 1) with hq | hq
      · exact ⟨i / 2, 42, by decide, by simp only [iA, dA, lA]; first | (rw [if_pos (by omega)]; done) | (rw [if_pos (by omega)]; omega), rfl, by show 0 * n + 2 * (i / 2) + 0 = i; omega⟩
      · exact ⟨i / 2, 47, by decide, by simp only [iA, dA, lA]; first | (rw [if_pos (by omega)]; done) | (rw [if_pos (by omega)]; omega), rfl, by show 0 * n + 2 * (i / 2) + 1 = i; omega⟩
    · rcases (by omega : i % 2 = 0 ∨ i % 2 = 1) with hq | hq
      · exact ⟨i / 2 - n, 65, by decide, by simp only [iA, dA, lA]; first | (rw [if_neg (by omega)]; done) | (rw [if_neg (by omega)]; omega), rfl, by show 2 * n + 2 * (i / 2 - n) + 0 = i; omega⟩
      · exact ⟨i / 2 - n, 70, by decide, by simp only [iA, dA, lA]; first | (rw [if_neg (by omega)]; done) | (rw [if_neg (by omega)]; omega), rfl, by show 2 * n + 2 * (i / 2 - n) + 1 = i; omega⟩
  by_cases h40 : K = 40
  · subst h40
    left
    have hi : i < 4 * n := hi
    rcases (by omega : i / 2 < n ∨ n ≤ i / 2) with hp | hp
    · rcases (by omega : i % 2 = 0 ∨ i % 2 = 1) with hq | hq
      · exact ⟨i / 2, 43, by decide, by simp only [iA, dA, lA]; first | (rw [if_pos (by omega)]; done) | (rw [if_pos (by omega)]; omega), rfl, by show 0 * n + 2 * (i / 2) + 0 = i; omega⟩
      · exact ⟨i / 2, 48, by decide, by simp only [iA, dA, lA]; first | (rw [if_pos (by omega)]; done) | (rw [if_pos (by omega)]; omega), rfl, by show 0 * n + 2 * (i / 2) + 1 = i; omega⟩
    · rcases (by omega : i % 2 = 0 ∨ i % 2 = 1) with hq | hq
      · exact ⟨i / 2 - n, 66, by decide, by simp only [iA, dA, lA]; first | (rw [if_neg (by omega)]; done) | (rw [if_neg (by omega)]; omega), rfl, by show 2 * n + 2 * (i / 2 - n) + 0 = i; omega⟩
      · exact ⟨i / 2 - n, 71, by decide, by simp only [iA, dA, lA]; first | (rw [if_neg (by omega)]; done) | (rw [if_neg (by omega)]; omega), rfl, by show 2 * n + 2 * (i / 2 - n) + 1 = i; omega⟩
  by_cases h41 : K = 41
  · subst h41
    left
    have hi : i < 4 * n := hi
    rcases (by omega : i / 2 < n ∨ n ≤ i / 2) with hp | hp
    · rcases (by omega : i % 2 = 0 ∨ i % 2 = 1) with hq | hq
      · exact ⟨i / 2, 44, by decide, by simp only [iA, dA, lA]; first | (rw [if_pos (by omega)]; done) | (rw [if_pos (by omega)]; omega), rfl, by show 0 * n + 2 * (i / 2) + 0 = i; omega⟩
      · exact ⟨i / 2, 49, by decide, by simp only [iA, dA, lA]; first | (rw [if_pos (by omega)]; done) | (rw [if_pos (by omega)]; omega), rfl, by show 0 * n + 2 * (i / 2) + 1 = i; omega⟩
    · rcases (by omega : i % 2 = 0 ∨ i % 2 = 1) with hq | hq
      · exact ⟨i / 2 - n, 67, by decide, by simp only [iA, dA, lA]; first | (rw [if_neg (by omega)]; done) | (rw [if_neg (by omega)]; omega), rfl, by show 2 * n + 2 * (i / 2 - n) + 0 = i; omega⟩
      · exact ⟨i / 2 - n, 72, by decide, by simp only [iA, dA, lA]; first | (rw [if_neg (by omega)]; done) | (rw [if_neg (by omega)]; omega), rfl, by show 2 * n + 2 * (i / 2 - n) + 1 = i; omega⟩
  by_cases h42 : K = 42
  · subst h42
    left
    have hi : i < 4 * n := hi
    rcases (by omega : i / 2 < n ∨ n ≤ i / 2) with hp | hp
    · rcases (by omega : i % 2 = 0 ∨ i % 2 = 1) with hq | hq
      · exact ⟨i / 2, 45, by decide, by simp only [iA, dA, lA]; first | (rw [if_pos (by omega)]; done) | (rw [if_pos (by omega)]; omega), rfl, by show 0 * n + 2 * (i / 2) + 0 = i; omega⟩
      · exact ⟨i / 2, 50, by decide, by simp only [iA, dA, lA]; first | (rw [if_pos (by omega)]; done) | (rw [if_pos (by omega)]; omega), rfl, by show 0 * n + 2 * (i / 2) + 1 = i; omega⟩
    · rcases (by omega : i % 2 = 0 ∨ i % 2 = 1) with hq | hq
      · exact ⟨i / 2 - n, 68, by decide, by simp only [iA, dA, lA]; first | (rw [if_neg (by omega)]; done) | (rw [if_neg (by omega)]; omega), rfl, by show 2 * n + 2 * (i / 2 - n) + 0 = i; omega⟩
      · exact ⟨i / 2 - n, 73, by decide, by simp only [iA, dA, lA]; first | (rw [if_neg (by omega)]; done) | (rw [if_neg (by omega)]; omega), rfl, by show 2 * n + 2 * (i / 2 - n) + 1 = i; omega⟩
  by_cases h4 : K = 4
  · subst h4
    left
    have hi : i < n := hi
    exact ⟨i, 34, by decide, by first | (simp only [iA, dA, lA]; done) | (simp only [iA, dA, lA]; omega), rfl, by show 0 * n + 1 * (i) + 0 = i; omega⟩
  by_cases h48 : K = 48
  · subst h48
    left
    have hi : i < n := hi
    exact ⟨i, 52, by decide, by first | (simp only [iA, dA, lA]; done) | (simp only [iA, dA, lA]; omega), rfl, by show 0 * n + 1 * (i) + 0 = i; omega⟩
  by_cases h30 : K = 30
  · subst h30
    left
    have hi : i < n := hi
    exact ⟨i, 53, by decide, by first | (simp only [iA, dA, lA]; done) | (simp only [iA, dA, lA]; omega), rfl, by show 0 * n + 1 * (i) + 0 = i; omega⟩
  by_cases h31 : K = 31
  · subst h31
    left
    have hi : i < n := hi
    exact ⟨i, 54, by decide, by first | (simp only [iA, dA, lA]; done) | (simp only [iA, dA, lA]; omega), rfl, by show 0 * n + 1 * (i) + 0 = i; omega⟩
  by_cases h32 : K = 32
  · subst h32
    left
    have hi : i < n := hi
    exact ⟨i, 55, by decide, by first | (simp only [iA, dA, lA]; done) | (simp only [iA, dA, lA]; omega), rfl, by show 0 * n + 1 * (i) + 0 = i; omega⟩
  by_cases h33 : K = 33
  · subst h33
    left
    have hi : i < n := hi
    exact ⟨i, 56, by decide, by first | (simp only [iA, dA, lA]; done) | (simp only [iA, dA, lA]; omega), rfl, by show 0 * n + 1 * (i) + 0 = i; omega⟩
  by_cases h10 : K = 10
  · subst h10
    left
    have hi : i < n := hi
    exact ⟨i, 57, by decide, by first | (simp only [iA, dA, lA]; done) | (simp only [iA, dA, lA]; omega), rfl, by show 0 * n + 1 * (i) + 0 = i; omega⟩
  by_cases h12 : K = 12
  · subst h12
    left
    have hi : i < 2 * n := hi
    rcases (by omega : i < n ∨ n ≤ i) with hp | hp
    · exact ⟨i, 51, by decide, by simp only [iA, dA, lA]; first | (rw [if_pos (by omega)]; done) | (rw [if_pos (by omega)]; omega), rfl, by show 0 * n + 1 * (i) + 0 = i; omega⟩
    · exact ⟨i - n, 74, by decide, by simp only [iA, dA, lA]; first | (rw [if_neg (by omega)]; done) | (rw [if_neg (by omega)]; omega), rfl, by show 1 * n + 1 * (i - n) + 0 = i; omega⟩
  by_cases h11 : K = 11
  · subst h11
    have hi : i < 1 := hi
    exact Or.inr (Or.inl ⟨rfl, by omega, rfl⟩)
  by_cases h55 : K = 55
  · subst h55
    have hi : i < 1 := hi
    exact Or.inr (Or.inr (Or.inl ⟨rfl, by omega, rfl⟩))
  by_cases h9 : K = 9
  · subst h9
    have hi : i < 1 := hi
    have ha : iA a e0 sz n 9 i = sz := rfl
    refine Or.inr (Or.inr (Or.inr ⟨by omega, by rw [ha]; omega, by rw [ha]; omega, ?_⟩))
    rw [ha]
    first | done | (rw [if_pos rfl])
  by_cases h34 : K = 34
  · subst h34
    have hi : i < 1 := hi
    have ha : iA a e0 sz n 34 i = sz + 1 := rfl
    refine Or.inr (Or.inr (Or.inr ⟨by omega, by rw [ha]; omega, by rw [ha]; omega, ?_⟩))
    rw [ha]
    first | done | (rw [if_neg (by omega)]; rw [if_pos rfl])
  by_cases h35 : K = 35
  · subst h35
    have hi : i < 1 := hi
    have ha : iA a e0 sz n 35 i = sz + 2 := rfl
    refine Or.inr (Or.inr (Or.inr ⟨by omega, by rw [ha]; omega, by rw [ha]; omega, ?_⟩))
    rw [ha]
    first | done | (rw [if_neg (by omega)]; rw [if_neg (by omega)]; rw [if_pos rfl])
  by_cases h36 : K = 36
  · subst h36
    have hi : i < 1 := hi
    have ha : iA a e0 sz n 36 i = sz + 3 := rfl
    refine Or.inr (Or.inr (Or.inr ⟨by omega, by rw [ha]; omega, by rw [ha]; omega, ?_⟩))
    rw [ha]
    first | done | (rw [if_neg (by omega)]; rw [if_neg (by omega)]; rw [if_neg (by omega)]; rw [if_pos rfl])
  by_cases h50 : K = 50
  · subst h50
    have hi : i < 1 := hi
    have ha : iA a e0 sz n 50 i = sz + 4 := rfl
    refine Or.inr (Or.inr (Or.inr ⟨by omega, by rw [ha]; omega, by rw [ha]; omega, ?_⟩))
    rw [ha]
    first | done | (rw [if_neg (by omega)]; rw [if_neg (by omega)]; rw [if_neg (by omega)]; rw [if_neg (by omega)]; rw [if_pos rfl])
  by_cases h51 : K = 51
  · subst h51
    have hi : i < 1 := hi
    have ha : iA a e0 sz n 51 i = sz + 5 := rfl
    refine Or.inr (Or.inr (Or.inr ⟨by omega, by rw [ha]; omega, by rw [ha]; omega, ?_⟩))
    rw [ha]
    first | done | (rw [if_neg (by omega)]; rw [if_neg (by omega)]; rw [if_neg (by omega)]; rw [if_neg (by omega)]; rw [if_neg (by omega)]; rw [if_pos rfl])
  by_cases h49 : K = 49
  · subst h49
    have hi : i < 1 := hi
    have ha : iA a e0 sz n 49 i = sz + 6 := rfl
    refine Or.inr (Or.inr (Or.inr ⟨by omega, by rw [ha]; omega, by rw [ha]; omega, ?_⟩))
    rw [ha]
    first | done | (rw [if_neg (by omega)]; rw [if_neg (by omega)]; rw [if_neg (by omega)]; rw [if_neg (by omega)]; rw [if_neg (by omega)]; rw [if_neg (by omega)]; rw [if_pos rfl])
  by_cases h52 : K = 52
  · subst h52
    have hi : i < 1 := hi
    have ha : iA a e0 sz n 52 i = sz + 7 := rfl
    refine Or.inr (Or.inr (Or.inr ⟨by omega, by rw [ha]; omega, by rw [ha]; omega, ?_⟩))
    rw [ha]
    first | done | (rw [if_neg (by omega)]; rw [if_neg (by omega)]; rw [if_neg (by omega)]; rw [if_neg (by omega)]; rw [if_neg (by omega)]; rw [if_neg (by omega)]; rw [if_neg (by omega)]; )
  exfalso
  have : cCt n K = 0 := by
    unfold cCt
    split <;> first | rfl | omega
  omega
theorem cAp_init {a e0 sz n : Nat} (hn : 2 ≤ n ∧ n ≤ 4) (ha : a < sz) (he : e0 < sz) (hae : a ≠ e0) : cAp (zI a e0 sz n) := by
  intro K i K' i' h1 h2 e
  have e' : iA a e0 sz n K i = iA a e0 sz n K' i' := e
  have big : ∀ K i, kB a e0 sz n K i → sz + 8 ≤ iA a e0 sz n K i := fun K i h => by
    obtain ⟨e1, k1, a1, a2, -⟩ := h
    omega
  rcases kB_of (a := a) (e0 := e0) (sz := sz) hn h1 with p | p | p | p <;> rcases kB_of (a := a) (e0 := e0) (sz := sz) hn h2 with q | q | q | q
  · exact kB_ap p q e'
  · have := big _ _ p; omega
  · have := big _ _ p; omega
  · have := big _ _ p; omega
  · have := big _ _ q; omega
  · exact ⟨p.1.trans q.1.symm, p.2.1.trans q.2.1.symm⟩
  · omega
  · omega
  · have := big _ _ q; omega
  · omega
  · exact ⟨p.1.trans q.1.symm, p.2.1.trans q.2.1.symm⟩
  · omega
  · have := big _ _ q; omega
  · omega
  · omega
  · refine ⟨?_, p.1.trans q.1.symm⟩
    rw [p.2.2.2, q.2.2.2, e']
theorem cSt_init {a e0 sz n : Nat} (hn : 2 ≤ n ∧ n ≤ 4) : cSt (zI a e0 sz n) := ⟨hn, fun K i hi => hi⟩
theorem cI_init {X : Int} (hX : 0 ≤ X) : cI X gI := by
  intro j i
  by_cases h1 : j = 192
  · subst h1; exact (show rg 10 10 (10 : Int32) from ⟨by decide, by decide⟩)
  by_cases h2 : j = 416
  · subst h2; exact (show rg 8 8 (8 : Int32) from ⟨by decide, by decide⟩)
  by_cases h3 : j = 133
  · subst h3; exact rg_any (1 : Int32)
  by_cases h4 : j = 385 ∨ j = 43 ∨ j = 1536 ∨ j = 1728
  · rcases h4 with e | e | e | e <;> subst e <;> exact rg_any (-1 : Int32)
  have e0 : gI j i = 0 := by
    unfold gI
    rw [if_neg h1, if_neg h2, if_neg h3, if_neg h4]
  rw [e0]
  have k0 : (0 : Int32).toInt = 0 := by decide
  refine ⟨?_, ?_⟩
  · rw [k0]
    unfold cLo
    split <;> first | omega | (exact absurd rfl h1) | (exact absurd rfl h2)
  · rw [k0]
    unfold cHi
    split <;> omega
theorem cJ_init {a e0 sz n : Nat} (hn : 2 ≤ n ∧ n ≤ 4) : cJ (zI a e0 sz n) gI := by
  have k0 : (0 : Int32).toInt = 0 := by decide
  have km : (-1 : Int32).toInt < 0 := by decide
  refine ⟨⟨fun i h => ?_, fun i h => ?_, fun i => ?_⟩, fun c hc => ?_, fun s hs => ?_, fun s hs k hk => ?_, ⟨⟨fun K i hi => ?_, fun c hc => ?_, rfl, rfl, fun x _ _ => rfl⟩, fun s hs => ?_⟩, fun i => ?_⟩
  · have h' : (0 : Int32).toInt = 1 := h
    rw [k0] at h'
    cases h'
  · have h' : (0 : Int32).toInt ≠ 0 := h
    exact absurd k0 h'
  · show (0 : Int32).toInt ≤ 4
    decide
  · have : c < 0 := hc
    omega
  · refine ⟨?_, ?_, fun k hk => ?_⟩
    · show 0 ≤ (0 : Int32).toInt
      decide
    · show (0 : Int32).toInt ≤ (0 : Int32).toInt
      decide
    · have h' : (k : Int) < (0 : Int32).toInt := hk
      rw [k0] at h'
      omega
  · have h' : (k : Int) < (0 : Int32).toInt := hk
    rw [k0] at h'
    omega
  · have hi' : i < cCt n K := hi
    refine ⟨?_, fun z => ?_, fun z => ?_⟩
    · rcases Nat.lt_or_ge K 56 with w | w
      · omega
      · have : cCt n K = 0 := by unfold cCt; split <;> first | rfl | omega
        omega
    · subst z
      have : i < 0 := hi'
      omega
    · subst z
      have : i < 2 * n := hi'
      omega
  · have : c < 0 := hc
    omega
  · refine ⟨Or.inl ⟨km, k0⟩, ?_⟩
    show 4 * ((0 : Nat) : Int) ≤ 13 * (0 : Int32).toInt
    decide
  · exact ⟨Or.inl km, Or.inl km, Or.inl km⟩
