/-! what ties the class's numbers together: damages, receivers -/
def cJ0 (g : mSt) : Prop := (∀ i, (g 640 i).toInt = 1 → 0 ≤ (g 704 i).toInt ∧ (g 704 i).toInt ≤ 52) ∧ (∀ i, (g 225 i).toInt ≠ 0 → 0 ≤ (g 233 i).toInt ∧ (g 233 i).toInt ≤ 52) ∧ ∀ i, (g 49 i).toInt ≤ 4
/-- a call that is there; a place of a list -/
def cD1 (Z : cZ) (g : mSt) (c : Nat) : Prop := (0 ≤ (g 32 c).toInt ∧ (g 32 c).toInt < 2 * (Z.n : Int)) ∧ ((g 43 c).toInt < 0 ∨ Z.al 1 (g 43 c).toInt.toNat) ∧ ((g 44 c).toInt < 0 ∨ ((g 44 c).toInt = (c : Int) ∧ Z.al 53 c ∧ ∀ k, k < 4 → Z.al 38 (4 * c + k))) ∧ ((g 45 c).toInt < 0 ∨ ((g 45 c).toInt = (c : Int) ∧ Z.al 37 c)) ∧ ((g 46 c).toInt < 0 ∨ ((g 46 c).toInt = 8 + (c : Int) ∧ Z.al 0 (8 + c) ∧ Z.al 16 (8 + c)))
def cD2 (Z : cZ) (g : mSt) (s : Nat) (x : Int32) : Prop := 0 ≤ x.toInt ∧ Z.al 1 x.toInt.toNat ∧ (g 32 x.toInt.toNat).toInt = (s : Int)
/-- a number that stands for a call, or for none -/
def cD4 (Z : cZ) (x : Int32) : Prop := x.toInt < 0 ∨ Z.al 1 x.toInt.toNat
/-- what was made, by kinds -/
def cWm (Z : cZ) : Prop := (∀ K i, Z.al K i → K ≤ 55 ∧ (K = 54 → i < 2 * Z.n) ∧ (K = 3 → i < 8)) ∧ (∀ c, Z.al 1 c → c < Z.w 2) ∧ Z.w 1 = 18 * Z.w 2 + Z.w 3 + (Z.w 10 + Z.w 11 + Z.w 12 + Z.w 13 + Z.w 14 + Z.w 15 + Z.w 16 + Z.w 17) ∧ Z.w 0 = Z.w 2 + Z.w 4 ∧ ∀ x, 10 + 2 * Z.n ≤ x → x ≤ 17 → Z.w x = 0
/-- a list's places: none yet, or its own array; what it has cost -/
def cD5 (Z : cZ) (g : mSt) : Prop := cWm Z ∧ ∀ s, s < 2 * Z.n → (((g 385 s).toInt < 0 ∧ (g 1729 s).toInt = 0) ∨ (0 ≤ (g 385 s).toInt ∧ Z.al 54 s ∧ 10 ≤ (g 1729 s).toInt ∧ (g 1729 s).toInt ≤ 10000000)) ∧ 4 * (Z.w (10 + s) : Int) ≤ 13 * (g 1729 s).toInt
def cD (Z : cZ) (g : mSt) : Prop := (∀ c, Z.al 1 c → cD1 Z g c) ∧ (∀ s, s < 2 * Z.n → 0 ≤ (g 386 s).toInt ∧ (g 386 s).toInt ≤ (g 1729 s).toInt ∧ ∀ k : Nat, (k : Int) < (g 386 s).toInt → cD2 Z g s (g 1728 (16777216 * s + k))) ∧ (∀ s, s < Z.n → ∀ k : Nat, (k : Int) < (g 135 s).toInt → cD2 Z g s (g 1536 (16777216 * s + k))) ∧ cD5 Z g ∧ ∀ i, cD4 Z (g 43 i) ∧ cD4 Z (g 1728 i) ∧ cD4 Z (g 1536 i)
def cJ (Z : cZ) (g : mSt) : Prop := cJ0 g ∧ cD Z g
def cjRows : List Nat := [640, 704, 225, 233, 49, 32, 43, 44, 45, 46, 385, 386, 1729, 1728, 135, 1536]
theorem cD_of {Z : cZ} {g g1 : mSt} (h : cD Z g) (e : ∀ j, j ∈ cjRows → g1 j = g j) : cD Z g1 := by
  have e1 := e 32 (by decide)
  have e2 := e 43 (by decide)
  have e3 := e 44 (by decide)
  have e4 := e 45 (by decide)
  have e5 := e 46 (by decide)
  have e6 := e 386 (by decide)
  have e11 := e 385 (by decide)
  have e7 := e 1729 (by decide)
  have e8 := e 1728 (by decide)
  have e9 := e 135 (by decide)
  have e10 := e 1536 (by decide)
  unfold cD cD1 cD2 cD5 at *
  rw [e1, e2, e3, e4, e5, e6, e7, e8, e9, e10, e11]
  exact h
theorem cJ0_of {g g1 : mSt} (h : cJ0 g) (e : ∀ j, j ∈ cjRows → g1 j = g j) : cJ0 g1 := by
  have e1 := e 640 (by decide)
  have e2 := e 704 (by decide)
  have e3 := e 225 (by decide)
  have e4 := e 233 (by decide)
  have e5 := e 49 (by decide)
  unfold cJ0 at *
  rw [e1, e2, e3, e4, e5]
  exact h
theorem cJ_of {Z : cZ} {g g1 : mSt} (h : cJ Z g) (e : ∀ j, j ∈ cjRows → g1 j = g j) : cJ Z g1 := ⟨cJ0_of h.1 e, cD_of h.2 e⟩
/-- rows of receivers and damages alone -/
theorem cD_fr {Z : cZ} {M : List Nat} {g g1 : mSt} (h : cD Z g) (hF : mFr M g g1) (hM : M.all (fun j => !(([32, 43, 44, 45, 46, 385, 386, 1729, 1728, 135, 1536] : List Nat).elem j)) = true) : cD Z g1 := by
  have q : ∀ j, j ∈ ([32, 43, 44, 45, 46, 385, 386, 1729, 1728, 135, 1536] : List Nat) → g1 j = g j := fun j hj => hF j (fun z => by
    have := List.all_eq_true.mp hM j z
    rw [List.elem_iff.mpr hj] at this
    cases this)
  have e1 := q 32 (by decide)
  have e2 := q 43 (by decide)
  have e3 := q 44 (by decide)
  have e4 := q 45 (by decide)
  have e5 := q 46 (by decide)
  have e6 := q 386 (by decide)
  have e11 := q 385 (by decide)
  have e7 := q 1729 (by decide)
  have e8 := q 1728 (by decide)
  have e9 := q 135 (by decide)
  have e10 := q 1536 (by decide)
  unfold cD cD1 cD2 cD5 at *
  rw [e1, e2, e3, e4, e5, e6, e7, e8, e9, e10, e11]
  exact h
theorem cJ_up {Z : cZ} {g g1 : mSt} {j i : Nat} {v : Int32} (h : cJ Z g) (e : g1 = up2 g j i v) (hj : cjRows.elem j = false) : cJ Z g1 := by
  refine cJ_of h (fun k hk => ?_)
  have hne : k ≠ j := fun z => by rw [← z, List.elem_iff.mpr hk] at hj; cases hj
  rw [e, up2_of hne]
theorem cJ_fr {Z : cZ} {M : List Nat} {g g1 : mSt} (h : cJ Z g) (hF : mFr M g g1) (hM : M.all (fun j => !(cjRows.elem j)) = true) : cJ Z g1 := by
  refine cJ_of h (fun k hk => hF k (fun z => ?_))
  have := List.all_eq_true.mp hM k z
  rw [List.elem_iff.mpr hk] at this
  cases this
theorem cJ0_dmg {g g1 g2 g3 : mSt} {i i2 : Nat} {k a o : Int32} (h : cJ0 g) (e1 : g1 = up2 g 640 i k) (e2 : g2 = up2 g1 672 i2 a) (e3 : g3 = up2 g2 704 i o) (hk : k.toInt = 1 → 0 ≤ o.toInt ∧ o.toInt ≤ 52) : cJ0 g3 := by
  obtain ⟨a1, b1⟩ := h
  have q : ∀ j, j ≠ 640 → j ≠ 672 → j ≠ 704 → g3 j = g j := fun j h1 h2 h3 => by rw [e3, up2_of h3, e2, up2_of h2, e1, up2_of h1]
  unfold cJ0
  rw [q 225 (by decide) (by decide) (by decide), q 233 (by decide) (by decide) (by decide), q 49 (by decide) (by decide) (by decide)]
  refine ⟨fun z hz => ?_, b1⟩
  have h12 : g3 640 z = up2 g 640 i k 640 z := by rw [e3, up2_o (by decide : (640 : Nat) ≠ 704), e2, up2_o (by decide : (640 : Nat) ≠ 672), e1]
  have h14 : g3 704 z = up2 g2 704 i o 704 z := by rw [e3]
  by_cases w : z = i
  · rw [h12, w, up2_i] at hz
    rw [h14, w, up2_i]
    exact hk hz
  · rw [h12, up2_n w] at hz
    rw [h14, up2_n w, e2, up2_o (by decide : (704 : Nat) ≠ 672), e1, up2_o (by decide : (704 : Nat) ≠ 640)]
    exact a1 z hz
theorem cJ0_233 {g g1 : mSt} {i : Nat} {v : Int32} (h : cJ0 g) (e : g1 = up2 g 233 i v) (hv : (g 225 i).toInt ≠ 0 → 0 ≤ v.toInt ∧ v.toInt ≤ 52) : cJ0 g1 := by
  obtain ⟨a1, b1⟩ := h
  have q : ∀ j, j ≠ 233 → g1 j = g j := fun j hj => by rw [e, up2_of hj]
  unfold cJ0
  rw [q 640 (by decide), q 704 (by decide), q 225 (by decide), q 49 (by decide)]
  refine ⟨a1, fun k hk => ?_, b1.2⟩
  by_cases z : k = i
  · subst z; rw [e, up2_i]; exact hv hk
  · rw [e, up2_n z]; exact b1.1 k hk
theorem cJ0_225 {g g1 : mSt} {i : Nat} {v : Int32} (h : cJ0 g) (e : g1 = up2 g 225 i v) (hv : v.toInt = 0 ∨ (g 225 i).toInt ≠ 0) : cJ0 g1 := by
  obtain ⟨a1, b1⟩ := h
  have q : ∀ j, j ≠ 225 → g1 j = g j := fun j hj => by rw [e, up2_of hj]
  unfold cJ0
  rw [q 640 (by decide), q 704 (by decide), q 233 (by decide), q 49 (by decide)]
  refine ⟨a1, fun k hk => ?_, b1.2⟩
  by_cases z : k = i
  · subst z
    rw [e, up2_i] at hk
    rcases hv with w | w
    · exact absurd w hk
    · exact b1.1 k w
  · rw [e, up2_n z] at hk; exact b1.1 k hk
theorem cJ0_rs {g g1 g2 g3 : mSt} {i i2 j2 : Nat} {v w u : Int32} (h : cJ0 g) (e1 : g1 = up2 g 225 i v) (e2 : g2 = up2 g1 j2 i2 w) (hj : cjRows.elem j2 = false) (e3 : g3 = up2 g2 233 i u) (hu : 0 ≤ u.toInt ∧ u.toInt ≤ 52) : cJ0 g3 := by
  obtain ⟨a1, b1⟩ := h
  have hne : ∀ j, j ∈ cjRows → j ≠ j2 := fun j hm z => by rw [← z, List.elem_iff.mpr hm] at hj; cases hj
  have q : ∀ j, j ∈ cjRows → j ≠ 225 → j ≠ 233 → g3 j = g j := fun j hm h1 h2 => by rw [e3, up2_of h2, e2, up2_of (hne j hm), e1, up2_of h1]
  unfold cJ0
  rw [q 640 (by decide) (by decide) (by decide), q 704 (by decide) (by decide) (by decide), q 49 (by decide) (by decide) (by decide)]
  refine ⟨a1, fun k hk => ?_, b1.2⟩
  by_cases z : k = i
  · rw [z, e3, up2_i]; exact hu
  · have h225 : g3 225 k = g 225 k := by rw [e3, up2_o (by decide : (225 : Nat) ≠ 233), e2, up2_of (hne 225 (by decide)), e1, up2_n z]
    have h233 : g3 233 k = g 233 k := by rw [e3, up2_n z, e2, up2_of (hne 233 (by decide)), e1, up2_o (by decide : (233 : Nat) ≠ 225)]
    rw [h225] at hk
    rw [h233]
    exact b1.1 k hk
theorem cJ0_rp {g : mSt} {i : Nat} {v w : Int32} (h : cJ0 g) (e : v = g 233 i) (ew : w = g 225 i) (hw : w.toInt ≠ 0) : rg 0 52 v := by
  rw [e]
  exact h.2.1 i (by rw [← ew]; exact hw)
theorem cJ0_ro {g : mSt} {i : Nat} {v w : Int32} (h : cJ0 g) (e : v = g 704 i) (ew : w = g 640 i) (hw : w.toInt = 1) : rg 0 52 v := by
  rw [e]
  exact h.1 i (by rw [← ew]; exact hw)
theorem cJ_dmg {Z : cZ} {g g1 g2 g3 : mSt} {i i2 : Nat} {k a o : Int32} (h : cJ Z g) (e1 : g1 = up2 g 640 i k) (e2 : g2 = up2 g1 672 i2 a) (e3 : g3 = up2 g2 704 i o) (hk : k.toInt = 1 → 0 ≤ o.toInt ∧ o.toInt ≤ 52) : cJ Z g3 :=
  ⟨cJ0_dmg h.1 e1 e2 e3 hk, cD_fr (M := [640, 672, 704]) h.2 (mFr.upE (mFr.upE (mFr.upE mFr.rf e1 rfl) e2 rfl) e3 rfl) rfl⟩
theorem cJ_233 {Z : cZ} {g g1 : mSt} {i : Nat} {v : Int32} (h : cJ Z g) (e : g1 = up2 g 233 i v) (hv : (g 225 i).toInt ≠ 0 → 0 ≤ v.toInt ∧ v.toInt ≤ 52) : cJ Z g1 := ⟨cJ0_233 h.1 e hv, cD_fr (M := [233]) h.2 (mFr.upE mFr.rf e rfl) rfl⟩
theorem cJ_225 {Z : cZ} {g g1 : mSt} {i : Nat} {v : Int32} (h : cJ Z g) (e : g1 = up2 g 225 i v) (hv : v.toInt = 0 ∨ (g 225 i).toInt ≠ 0) : cJ Z g1 := ⟨cJ0_225 h.1 e hv, cD_fr (M := [225]) h.2 (mFr.upE mFr.rf e rfl) rfl⟩
theorem cJ_rs {Z : cZ} {g g1 g2 g3 : mSt} {i i2 j2 : Nat} {v w u : Int32} (h : cJ Z g) (e1 : g1 = up2 g 225 i v) (e2 : g2 = up2 g1 j2 i2 w) (hj : cjRows.elem j2 = false) (e3 : g3 = up2 g2 233 i u) (hu : 0 ≤ u.toInt ∧ u.toInt ≤ 52) : cJ Z g3 := by
  refine ⟨cJ0_rs h.1 e1 e2 hj e3 hu, ?_⟩
  have q1 : cD Z g1 := cD_fr (M := [225]) h.2 (mFr.upE mFr.rf e1 rfl) rfl
  have q2 : cD Z g2 := cD_of q1 (fun k hk => by
    have hne : k ≠ j2 := fun z => by rw [← z, List.elem_iff.mpr hk] at hj; cases hj
    rw [e2, up2_of hne])
  exact cD_fr (M := [233]) q2 (mFr.upE mFr.rf e3 rfl) rfl
theorem cJ_rp {Z : cZ} {g : mSt} {i : Nat} {v w : Int32} (h : cJ Z g) (e : v = g 233 i) (ew : w = g 225 i) (hw : w.toInt ≠ 0) : rg 0 52 v := cJ0_rp h.1 e ew hw
theorem cJ_ro {Z : cZ} {g : mSt} {i : Nat} {v w : Int32} (h : cJ Z g) (e : v = g 704 i) (ew : w = g 640 i) (hw : w.toInt = 1) : rg 0 52 v := cJ0_ro h.1 e ew hw
theorem cJ0_q {g g1 : mSt} {j : Nat} (h : cJ0 g) (q : ∀ k, k ≠ j → g1 k = g k) (hj : (([640, 704, 225, 233, 49] : List Nat).elem j) = false) : cJ0 g1 := by
  have hne : ∀ k, k ∈ ([640, 704, 225, 233, 49] : List Nat) → k ≠ j := fun k hk z => by rw [← z, List.elem_iff.mpr hk] at hj; cases hj
  unfold cJ0 at *
  rw [q 640 (hne _ (by decide)), q 704 (hne _ (by decide)), q 225 (hne _ (by decide)), q 233 (hne _ (by decide)), q 49 (hne _ (by decide))]
  exact h
/-- a call's partner, frames, cells or assembler are let go -/
theorem cJ_n43 {Z : cZ} {g g1 : mSt} {c : Nat} {v : Int32} (h : cJ Z g) (e : g1 = up2 g 43 c v) (hv : v.toInt < 0) : cJ Z g1 := by
  have q : ∀ k, k ≠ 43 → g1 k = g k := fun k hk => by rw [e, up2_of hk]
  obtain ⟨h0, h1, h2, h3, h5, h4⟩ := h
  refine ⟨cJ0_q h0 q (by decide), fun c' hc' => ?_, ?_, ?_, by unfold cD5 at *; rw [q 385 (by decide), q 1729 (by decide)]; exact h5, fun i => ?_⟩
  · obtain ⟨a1, a2, a3, a4, a5⟩ := h1 c' hc'
    unfold cD1
    rw [q 32 (by decide), q 44 (by decide), q 45 (by decide), q 46 (by decide)]
    refine ⟨a1, ?_, a3, a4, a5⟩
    by_cases z : c' = c
    · left; rw [z, e, up2_i]; exact hv
    · rw [e, up2_n z]; exact a2
  · unfold cD2 at *
    rw [q 386 (by decide), q 1729 (by decide), q 1728 (by decide), q 32 (by decide)]
    exact h2
  · unfold cD2 at *
    rw [q 135 (by decide), q 1536 (by decide), q 32 (by decide)]
    exact h3
  · rw [q 1728 (by decide), q 1536 (by decide)]
    refine ⟨?_, (h4 i).2⟩
    by_cases z : i = c
    · left; rw [z, e, up2_i]; exact hv
    · rw [e, up2_n z]; exact (h4 i).1
theorem cJ_n44 {Z : cZ} {g g1 : mSt} {c : Nat} {v : Int32} (h : cJ Z g) (e : g1 = up2 g 44 c v) (hv : v.toInt < 0) : cJ Z g1 := by
  have q : ∀ k, k ≠ 44 → g1 k = g k := fun k hk => by rw [e, up2_of hk]
  obtain ⟨h0, h1, h2, h3, h5, h4⟩ := h
  refine ⟨cJ0_q h0 q (by decide), fun c' hc' => ?_, ?_, ?_, by unfold cD5 at *; rw [q 385 (by decide), q 1729 (by decide)]; exact h5, fun i => ?_⟩
  · obtain ⟨a1, a2, a3, a4, a5⟩ := h1 c' hc'
    unfold cD1
    rw [q 32 (by decide), q 43 (by decide), q 45 (by decide), q 46 (by decide)]
    refine ⟨a1, a2, ?_, a4, a5⟩
    by_cases z : c' = c
    · left; rw [z, e, up2_i]; exact hv
    · rw [e, up2_n z]; exact a3
  · unfold cD2 at *
    rw [q 386 (by decide), q 1729 (by decide), q 1728 (by decide), q 32 (by decide)]
    exact h2
  · unfold cD2 at *
    rw [q 135 (by decide), q 1536 (by decide), q 32 (by decide)]
    exact h3
  · rw [q 43 (by decide), q 1728 (by decide), q 1536 (by decide)]
    exact h4 i
theorem cJ_n45 {Z : cZ} {g g1 : mSt} {c : Nat} {v : Int32} (h : cJ Z g) (e : g1 = up2 g 45 c v) (hv : v.toInt < 0) : cJ Z g1 := by
  have q : ∀ k, k ≠ 45 → g1 k = g k := fun k hk => by rw [e, up2_of hk]
  obtain ⟨h0, h1, h2, h3, h5, h4⟩ := h
  refine ⟨cJ0_q h0 q (by decide), fun c' hc' => ?_, ?_, ?_, by unfold cD5 at *; rw [q 385 (by decide), q 1729 (by decide)]; exact h5, fun i => ?_⟩
  · obtain ⟨a1, a2, a3, a4, a5⟩ := h1 c' hc'
    unfold cD1
    rw [q 32 (by decide), q 43 (by decide), q 44 (by decide), q 46 (by decide)]
    refine ⟨a1, a2, a3, ?_, a5⟩
    by_cases z : c' = c
    · left; rw [z, e, up2_i]; exact hv
    · rw [e, up2_n z]; exact a4
  · unfold cD2 at *
    rw [q 386 (by decide), q 1729 (by decide), q 1728 (by decide), q 32 (by decide)]
    exact h2
  · unfold cD2 at *
    rw [q 135 (by decide), q 1536 (by decide), q 32 (by decide)]
    exact h3
  · rw [q 43 (by decide), q 1728 (by decide), q 1536 (by decide)]
    exact h4 i
theorem cJ_n46 {Z : cZ} {g g1 : mSt} {c : Nat} {v : Int32} (h : cJ Z g) (e : g1 = up2 g 46 c v) (hv : v.toInt < 0) : cJ Z g1 := by
  have q : ∀ k, k ≠ 46 → g1 k = g k := fun k hk => by rw [e, up2_of hk]
  obtain ⟨h0, h1, h2, h3, h5, h4⟩ := h
  refine ⟨cJ0_q h0 q (by decide), fun c' hc' => ?_, ?_, ?_, by unfold cD5 at *; rw [q 385 (by decide), q 1729 (by decide)]; exact h5, fun i => ?_⟩
  · obtain ⟨a1, a2, a3, a4, a5⟩ := h1 c' hc'
    unfold cD1
    rw [q 32 (by decide), q 43 (by decide), q 44 (by decide), q 45 (by decide)]
    refine ⟨a1, a2, a3, a4, ?_⟩
    by_cases z : c' = c
    · left; rw [z, e, up2_i]; exact hv
    · rw [e, up2_n z]; exact a5
  · unfold cD2 at *
    rw [q 386 (by decide), q 1729 (by decide), q 1728 (by decide), q 32 (by decide)]
    exact h2
  · unfold cD2 at *
    rw [q 135 (by decide), q 1536 (by decide), q 32 (by decide)]
    exact h3
  · rw [q 43 (by decide), q 1728 (by decide), q 1536 (by decide)]
    exact h4 i
/-- a list that has elements has an array of its own -/
theorem cJ_own {Z : cZ} {g : mSt} (h : cJ Z g) {s : Nat} (hs : s < 2 * Z.n) (h0 : 0 < (g 386 s).toInt) : 0 ≤ (g 385 s).toInt ∧ Z.al 54 s := by
  have h1 := (h.2.2.1 s hs).2.1
  rcases (h.2.2.2.2.1.2 s hs).1 with q | q
  · omega
  · exact ⟨q.1, q.2.1⟩
theorem cTo_own {Z : cZ} {x : Int32} {i : Nat} (h : 0 ≤ x.toInt) : cTo Z x 12 i 1 = some (Z.ad 54 i) := by
  show (if x.toInt < 0 then some (Z.ad 55 0) else some (Z.ad 54 i)) = _
  rw [if_neg (by omega)]
theorem cTo_emp {Z : cZ} {x : Int32} {i : Nat} (h : x.toInt < 0) : cTo Z x 12 i 1 = some (Z.ad 55 0) := by
  show (if x.toInt < 0 then some (Z.ad 55 0) else some (Z.ad 54 i)) = _
  rw [if_pos h]
/-- the cells of a frame that are gone -/
theorem cJ_49 {Z : cZ} {g g1 : mSt} {c : Nat} {v : Int32} (h : cJ Z g) (e : g1 = up2 g 49 c v) (hv : v.toInt ≤ 4) : cJ Z g1 := by
  have q : ∀ k, k ≠ 49 → g1 k = g k := fun k hk => by rw [e, up2_of hk]
  refine ⟨?_, cD_fr (M := [49]) h.2 (mFr.upE mFr.rf e rfl) rfl⟩
  have h0 := h.1
  unfold cJ0 at *
  rw [q 640 (by decide), q 704 (by decide), q 225 (by decide), q 233 (by decide)]
  refine ⟨h0.1, h0.2.1, fun i => ?_⟩
  by_cases z : i = c
  · rw [z, e, up2_i]; exact hv
  · rw [e, up2_n z]; exact h0.2.2 i
