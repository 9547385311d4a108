/-! what ties the class's numbers together: damages, receivers -/
def cJ (g : mSt) : Prop := (∀ i, (g 640 i).toInt = 1 → 0 ≤ (g 704 i).toInt ∧ (g 704 i).toInt ≤ 52) ∧ (∀ i, (g 225 i).toInt ≠ 0 → 0 ≤ (g 233 i).toInt ∧ (g 233 i).toInt ≤ 52)
def cjRows : List Nat := [640, 704, 225, 233]
theorem cJ_of {g g1 : mSt} (h : cJ g) (e : ∀ j, j ∈ cjRows → g1 j = g j) : cJ g1 := by
  have e1 := e 640 (by decide)
  have e2 := e 704 (by decide)
  have e3 := e 225 (by decide)
  have e4 := e 233 (by decide)
  unfold cJ at *
  rw [e1, e2, e3, e4]
  exact h
theorem cJ_up {g g1 : mSt} {j i : Nat} {v : Int32} (h : cJ g) (e : g1 = up2 g j i v) (hj : cjRows.elem j = false) : cJ g1 := by
  refine cJ_of h (fun k hk => ?_)
  have hne : k ≠ j := fun z => by rw [← z, List.elem_iff.mpr hk] at hj; cases hj
  rw [e, up2_of hne]
theorem cJ_fr {M : List Nat} {g g1 : mSt} (h : cJ g) (hF : mFr M g g1) (hM : M.all (fun j => !(cjRows.elem j)) = true) : cJ g1 := by
  refine cJ_of h (fun k hk => hF k (fun z => ?_))
  have := List.all_eq_true.mp hM k z
  rw [List.elem_iff.mpr hk] at this
  cases this
theorem cJ_dmg {g g1 g2 g3 : mSt} {i i2 : Nat} {k a o : Int32} (h : cJ g) (e1 : g1 = up2 g 640 i k) (e2 : g2 = up2 g1 672 i2 a) (e3 : g3 = up2 g2 704 i o) (hk : k.toInt = 1 → 0 ≤ o.toInt ∧ o.toInt ≤ 52) : cJ g3 := by
  obtain ⟨a1, b1⟩ := h
  have q : ∀ j, j ≠ 640 → j ≠ 672 → j ≠ 704 → g3 j = g j := fun j h1 h2 h3 => by rw [e3, up2_of h3, e2, up2_of h2, e1, up2_of h1]
  unfold cJ
  rw [q 225 (by decide) (by decide) (by decide), q 233 (by decide) (by decide) (by decide)]
  refine ⟨fun z hz => ?_, b1⟩
  have h12 : g3 640 z = up2 g 640 i k 640 z := by rw [e3, up2_o (by decide : (640 : Nat) ≠ 704), e2, up2_o (by decide : (640 : Nat) ≠ 672), e1]
  have h14 : g3 704 z = up2 g2 704 i o 704 z := by rw [e3]
  by_cases w : z = i
  · rw [h12, w, up2_i] at hz
    rw [h14, w, up2_i]
    exact hk hz
  · rw [h12, up2_n w] at hz
    rw [h14, up2_n w, e2, up2_o (by decide : (704 : Nat) ≠ 672), e1, up2_o (by decide : (704 : Nat) ≠ 640)]
    exact a1 z hz
theorem cJ_233 {g g1 : mSt} {i : Nat} {v : Int32} (h : cJ g) (e : g1 = up2 g 233 i v) (hv : (g 225 i).toInt ≠ 0 → 0 ≤ v.toInt ∧ v.toInt ≤ 52) : cJ g1 := by
  obtain ⟨a1, b1⟩ := h
  have q : ∀ j, j ≠ 233 → g1 j = g j := fun j hj => by rw [e, up2_of hj]
  unfold cJ
  rw [q 640 (by decide), q 704 (by decide), q 225 (by decide)]
  refine ⟨a1, fun k hk => ?_⟩
  by_cases z : k = i
  · subst z; rw [e, up2_i]; exact hv hk
  · rw [e, up2_n z]; exact b1 k hk
theorem cJ_225 {g g1 : mSt} {i : Nat} {v : Int32} (h : cJ g) (e : g1 = up2 g 225 i v) (hv : v.toInt = 0 ∨ (g 225 i).toInt ≠ 0) : cJ g1 := by
  obtain ⟨a1, b1⟩ := h
  have q : ∀ j, j ≠ 225 → g1 j = g j := fun j hj => by rw [e, up2_of hj]
  unfold cJ
  rw [q 640 (by decide), q 704 (by decide), q 233 (by decide)]
  refine ⟨a1, fun k hk => ?_⟩
  by_cases z : k = i
  · subst z
    rw [e, up2_i] at hk
    rcases hv with w | w
    · exact absurd w hk
    · exact b1 k w
  · rw [e, up2_n z] at hk; exact b1 k hk
theorem cJ_rs {g g1 g2 g3 : mSt} {i i2 j2 : Nat} {v w u : Int32} (h : cJ g) (e1 : g1 = up2 g 225 i v) (e2 : g2 = up2 g1 j2 i2 w) (hj : cjRows.elem j2 = false) (e3 : g3 = up2 g2 233 i u) (hu : 0 ≤ u.toInt ∧ u.toInt ≤ 52) : cJ g3 := by
  obtain ⟨a1, b1⟩ := h
  have hne : ∀ j, j ∈ cjRows → j ≠ j2 := fun j hm z => by rw [← z, List.elem_iff.mpr hm] at hj; cases hj
  have q : ∀ j, j ∈ cjRows → j ≠ 225 → j ≠ 233 → g3 j = g j := fun j hm h1 h2 => by rw [e3, up2_of h2, e2, up2_of (hne j hm), e1, up2_of h1]
  unfold cJ
  rw [q 640 (by decide) (by decide) (by decide), q 704 (by decide) (by decide) (by decide)]
  refine ⟨a1, fun k hk => ?_⟩
  by_cases z : k = i
  · rw [z, e3, up2_i]; exact hu
  · have h225 : g3 225 k = g 225 k := by rw [e3, up2_o (by decide : (225 : Nat) ≠ 233), e2, up2_of (hne 225 (by decide)), e1, up2_n z]
    have h233 : g3 233 k = g 233 k := by rw [e3, up2_n z, e2, up2_of (hne 233 (by decide)), e1, up2_o (by decide : (233 : Nat) ≠ 225)]
    rw [h225] at hk
    rw [h233]
    exact b1 k hk
theorem cJ_rp {g : mSt} {i : Nat} {v w : Int32} (h : cJ g) (e : v = g 233 i) (ew : w = g 225 i) (hw : w.toInt ≠ 0) : rg 0 52 v := by
  rw [e]
  exact h.2 i (by rw [← ew]; exact hw)
theorem cJ_ro {g : mSt} {i : Nat} {v w : Int32} (h : cJ g) (e : v = g 704 i) (ew : w = g 640 i) (hw : w.toInt = 1) : rg 0 52 v := by
  rw [e]
  exact h.1 i (by rw [← ew]; exact hw)
