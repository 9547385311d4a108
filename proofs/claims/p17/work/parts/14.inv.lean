/-! what ties numbers of the reference together -/
def jRows : List Nat := [12, 14, 21, 22, 32, 68, 72, 77, 85, 86, 87, 89]
def jO1 (g : mSt) (i : Nat) : Prop := ((g 86 i).toInt = 0 ∧ (g 87 i).toInt = 0) ∨ (1 ≤ (g 86 i).toInt ∧ (g 87 i).toInt < ((g 85 (4 * i)).toInt + 55) / 48)
def r13 (x : Int32) : Prop := 1 ≤ x.toInt ∧ x.toInt ≤ 3
def mJ (nn : Int) (E : List Int) (g : mSt) : Prop :=
  (∀ i, (g 12 i).toInt = 1 → 0 ≤ (g 14 i).toInt ∧ (g 14 i).toInt ≤ 52) ∧
  (∀ i, (g 22 i).toInt ≤ 52 ∧ ((g 21 i).toInt = 0 → (g 22 i).toInt ≤ 5)) ∧
  (∀ i, (g 32 i).toInt ≤ 4) ∧ (∀ i, (g 89 i).toInt ≤ 4) ∧ (∀ i, jO1 g i) ∧
  (∀ i : Nat, 40 * nn ≤ (i : Int) → (i : Int) ∉ E → (g 68 i).toInt ≠ 0 → r13 (g 72 i)) ∧
  (∀ i : Nat, 40 * nn ≤ (i : Int) → 1 ≤ (g 72 i).toInt → 0 ≤ (g 77 i).toInt → 40 * nn ≤ (g 77 i).toInt ∧ r13 (g 72 (g 77 i).toNatClampNeg))
theorem mJ_of {nn : Int} {E : List Int} {g g1 : mSt} (h : mJ nn E g) (e : ∀ j, j ∈ jRows → g1 j = g j) : mJ nn E g1 := by
  have e12 := e 12 (by decide)
  have e14 := e 14 (by decide)
  have e21 := e 21 (by decide)
  have e22 := e 22 (by decide)
  have e32 := e 32 (by decide)
  have e68 := e 68 (by decide)
  have e72 := e 72 (by decide)
  have e77 := e 77 (by decide)
  have e85 := e 85 (by decide)
  have e86 := e 86 (by decide)
  have e87 := e 87 (by decide)
  have e89 := e 89 (by decide)
  unfold mJ jO1 at *
  rw [e12, e14, e21, e22, e32, e68, e72, e77, e85, e86, e87, e89]
  exact h
theorem mJ_up {nn : Int} {E : List Int} {g g1 : mSt} {j i : Nat} {v : Int32} (h : mJ nn E g) (e : g1 = up2 g j i v) (hj : jRows.elem j = false) : mJ nn E g1 := by
  refine mJ_of h (fun k hk => ?_)
  have hne : k ≠ j := fun z => by rw [← z, List.elem_iff.mpr hk] at hj; cases hj
  rw [e, up2_of hne]
theorem mJ_fr {nn : Int} {E : List Int} {M : List Nat} {g g1 : mSt} (h : mJ nn E g) (hF : mFr M g g1) (hM : M.all (fun j => !(jRows.elem j)) = true) : mJ nn E g1 := by
  refine mJ_of h (fun k hk => hF k (fun z => ?_))
  have := List.all_eq_true.mp hM k z
  rw [List.elem_iff.mpr hk] at this
  cases this
/-- a call is over -/
theorem mJ_68z {nn : Int} {E : List Int} {g g1 : mSt} {i : Nat} (h : mJ nn E g) (e : g1 = up2 g 68 i 0) : mJ nn E g1 := by
  obtain ⟨a, b, c, d, o, t, u⟩ := h
  have q : ∀ j, j ≠ 68 → g1 j = g j := fun j hj => by rw [e, up2_of hj]
  unfold mJ jO1 at *
  rw [q 12 (by decide), q 14 (by decide), q 21 (by decide), q 22 (by decide), q 32 (by decide), q 72 (by decide), q 77 (by decide), q 85 (by decide), q 86 (by decide), q 87 (by decide), q 89 (by decide)]
  refine ⟨a, b, c, d, o, fun k hk hE hs => t k hk hE (fun z => hs ?_), u⟩
  rw [e]
  by_cases w : k = i
  · rw [w, up2_i]; rfl
  · rw [up2_n w]; exact z
/-- a call that is not over goes on -/
theorem mJ_68n {nn : Int} {E : List Int} {g g1 : mSt} {i : Nat} {v w : Int32} {a b : Int} (h : mJ nn E g) (e : g1 = up2 g 68 i v) (ew : w = g 68 i) (r : rg a b w) (ha : decide (1 ≤ a) = true) : mJ nn E g1 := by
  have ha := of_decide_eq_true ha
  obtain ⟨a1, b1, c1, d1, o, t, u⟩ := h
  have q : ∀ j, j ≠ 68 → g1 j = g j := fun j hj => by rw [e, up2_of hj]
  unfold mJ jO1 at *
  rw [q 12 (by decide), q 14 (by decide), q 21 (by decide), q 22 (by decide), q 32 (by decide), q 72 (by decide), q 77 (by decide), q 85 (by decide), q 86 (by decide), q 87 (by decide), q 89 (by decide)]
  refine ⟨a1, b1, c1, d1, o, fun k hk hE hs => ?_, u⟩
  by_cases z : k = i
  · refine t k hk hE ?_
    rw [z, ← ew]
    have r1 : a ≤ w.toInt := r.1
    omega
  · refine t k hk hE ?_
    rw [e, up2_n z] at hs
    exact hs
theorem mJ_77n {nn : Int} {E : List Int} {g g1 : mSt} {i : Nat} {v : Int32} {a b : Int} (h : mJ nn E g) (e : g1 = up2 g 77 i v) (r : rg a b v) (hb : decide (b < 0) = true) : mJ nn E g1 := by
  have hb := of_decide_eq_true hb
  obtain ⟨a1, b1, c1, d1, o, t, u⟩ := h
  have q : ∀ j, j ≠ 77 → g1 j = g j := fun j hj => by rw [e, up2_of hj]
  unfold mJ jO1 at *
  rw [q 12 (by decide), q 14 (by decide), q 21 (by decide), q 22 (by decide), q 32 (by decide), q 68 (by decide), q 72 (by decide), q 85 (by decide), q 86 (by decide), q 87 (by decide), q 89 (by decide)]
  refine ⟨a1, b1, c1, d1, o, t, fun k hk hr hp => ?_⟩
  by_cases z : k = i
  · rw [z, e, up2_i] at hp
    have r2 : v.toInt ≤ b := r.2
    omega
  · rw [e, up2_n z] at hp ⊢
    exact u k hk hr hp
theorem mJ_89 {nn : Int} {E : List Int} {g g1 : mSt} {i : Nat} {v : Int32} {a b : Int} (h : mJ nn E g) (e : g1 = up2 g 89 i v) (r : rg a b v) (hb : decide (b ≤ 4) = true) : mJ nn E g1 := by
  have hb := of_decide_eq_true hb
  obtain ⟨a1, b1, c1, d1, o, t, u⟩ := h
  have q : ∀ j, j ≠ 89 → g1 j = g j := fun j hj => by rw [e, up2_of hj]
  unfold mJ jO1 at *
  rw [q 12 (by decide), q 14 (by decide), q 21 (by decide), q 22 (by decide), q 32 (by decide), q 68 (by decide), q 72 (by decide), q 77 (by decide), q 85 (by decide), q 86 (by decide), q 87 (by decide)]
  refine ⟨a1, b1, c1, fun k => ?_, o, t, u⟩
  by_cases z : k = i
  · rw [z, e, up2_i]; exact Int.le_trans r.2 hb
  · rw [e, up2_n z]; exact d1 k
/-- a call's frames are gone -/
theorem mJ_drop {nn : Int} {E : List Int} {g g1 g2 : mSt} {i : Nat} (h : mJ nn E g) (e1 : g1 = up2 g 86 i 0) (e2 : g2 = up2 g1 87 i 0) : mJ nn E g2 := by
  obtain ⟨a1, b1, c1, d1, o, t, u⟩ := h
  have q : ∀ j, j ≠ 86 → j ≠ 87 → g2 j = g j := fun j hj hk => by rw [e2, up2_of hk, e1, up2_of hj]
  unfold mJ at *
  rw [q 12 (by decide) (by decide), q 14 (by decide) (by decide), q 21 (by decide) (by decide), q 22 (by decide) (by decide), q 32 (by decide) (by decide), q 68 (by decide) (by decide), q 72 (by decide) (by decide), q 77 (by decide) (by decide), q 89 (by decide) (by decide)]
  refine ⟨a1, b1, c1, d1, fun k => ?_, t, u⟩
  unfold jO1
  rw [q 85 (by decide) (by decide)]
  by_cases z : k = i
  · left
    rw [z, e2, up2_i, up2_o (by decide), e1, up2_i]
    exact ⟨by decide, by decide⟩
  · have w := o k
    unfold jO1 at w
    rw [e2, up2_o (by decide : (86 : Nat) ≠ 87), up2_n z, e1, up2_n z, up2_o (by decide : (87 : Nat) ≠ 86)]
    exact w
theorem mJ_hunt {nn : Int} {E : List Int} {g g1 g2 : mSt} {i : Nat} {v : Int32} (h : mJ nn E g) (e1 : g1 = up2 g 21 i v) (e2 : g2 = up2 g1 22 i 0) : mJ nn E g2 := by
  obtain ⟨a1, b1, c1, d1, o, t, u⟩ := h
  have q : ∀ j, j ≠ 21 → j ≠ 22 → g2 j = g j := fun j hj hk => by rw [e2, up2_of hk, e1, up2_of hj]
  unfold mJ jO1 at *
  rw [q 12 (by decide) (by decide), q 14 (by decide) (by decide), q 32 (by decide) (by decide), q 68 (by decide) (by decide), q 72 (by decide) (by decide), q 77 (by decide) (by decide), q 85 (by decide) (by decide), q 86 (by decide) (by decide), q 87 (by decide) (by decide), q 89 (by decide) (by decide)]
  refine ⟨a1, fun k => ?_, c1, d1, o, t, u⟩
  by_cases z : k = i
  · rw [z, e2, up2_i]
    exact ⟨by decide, fun _ => by decide⟩
  · have w := b1 k
    rw [e2, up2_n z, up2_o (by decide : (21 : Nat) ≠ 22), e1, up2_n z, up2_o (by decide : (22 : Nat) ≠ 21)]
    exact w
theorem mJ_21n {nn : Int} {E : List Int} {g g1 : mSt} {i : Nat} {v : Int32} {a b : Int} (h : mJ nn E g) (e : g1 = up2 g 21 i v) (r : rg a b v) (ha : decide (1 ≤ a) = true) : mJ nn E g1 := by
  have ha := of_decide_eq_true ha
  obtain ⟨a1, b1, c1, d1, o, t, u⟩ := h
  have q : ∀ j, j ≠ 21 → g1 j = g j := fun j hj => by rw [e, up2_of hj]
  unfold mJ jO1 at *
  rw [q 12 (by decide), q 14 (by decide), q 22 (by decide), q 32 (by decide), q 68 (by decide), q 72 (by decide), q 77 (by decide), q 85 (by decide), q 86 (by decide), q 87 (by decide), q 89 (by decide)]
  refine ⟨a1, fun k => ⟨(b1 k).1, fun hk => ?_⟩, c1, d1, o, t, u⟩
  by_cases z : k = i
  · rw [z, e, up2_i] at hk
    have r1 : a ≤ v.toInt := r.1
    omega
  · rw [e, up2_n z] at hk
    exact (b1 k).2 hk
theorem mJ_dmg {nn : Int} {E : List Int} {g g1 g2 g3 : mSt} {i i2 : Nat} {k a o : Int32} (h : mJ nn E g) (e1 : g1 = up2 g 12 i k) (e2 : g2 = up2 g1 13 i2 a) (e3 : g3 = up2 g2 14 i o) (hk : k.toInt = 1 → 0 ≤ o.toInt ∧ o.toInt ≤ 52) : mJ nn E g3 := by
  obtain ⟨a1, b1, c1, d1, oo, t, u⟩ := h
  have q : ∀ j, j ≠ 12 → j ≠ 13 → j ≠ 14 → g3 j = g j := fun j h1 h2 h3 => by rw [e3, up2_of h3, e2, up2_of h2, e1, up2_of h1]
  unfold mJ jO1 at *
  rw [q 21 (by decide) (by decide) (by decide), q 22 (by decide) (by decide) (by decide), q 32 (by decide) (by decide) (by decide), q 68 (by decide) (by decide) (by decide), q 72 (by decide) (by decide) (by decide), q 77 (by decide) (by decide) (by decide), q 85 (by decide) (by decide) (by decide), q 86 (by decide) (by decide) (by decide), q 87 (by decide) (by decide) (by decide), q 89 (by decide) (by decide) (by decide)]
  refine ⟨fun z hz => ?_, b1, c1, d1, oo, t, u⟩
  have h12 : g3 12 z = up2 g 12 i k 12 z := by rw [e3, up2_o (by decide : (12 : Nat) ≠ 14), e2, up2_o (by decide : (12 : Nat) ≠ 13), e1]
  have h14 : g3 14 z = up2 g2 14 i o 14 z := by rw [e3]
  by_cases w : z = i
  · rw [h12, w, up2_i] at hz
    rw [h14, w, up2_i]
    exact hk hz
  · rw [h12, up2_n w] at hz
    rw [h14, up2_n w, e2, up2_o (by decide : (14 : Nat) ≠ 13), e1, up2_o (by decide : (14 : Nat) ≠ 12)]
    exact a1 z hz
/-- the other call of a pair goes on with it -/
theorem mJ_68p {nn : Int} {E : List Int} {g g1 : mSt} {c p v w : Int32} {a b : Int} (h : mJ nn [] g) (e : g1 = up2 g 68 p.toNatClampNeg v) (hc : 40 * nn ≤ c.toInt) (ew : w = g 68 c.toNatClampNeg) (rw_ : rg a b w) (ha : decide (1 ≤ a) = true) (ep : p = g 77 c.toNatClampNeg) (hp : 0 ≤ p.toInt) (hnn : 2 ≤ nn ∧ nn ≤ 4) : mJ nn [] g1 := by
  have ha := of_decide_eq_true ha
  obtain ⟨a1, b1, c1, d1, o, t, u⟩ := h
  have q : ∀ j, j ≠ 68 → g1 j = g j := fun j hj => by rw [e, up2_of hj]
  have hcn : ((c.toNatClampNeg : Nat) : Int) = c.toInt := by show ((c.toInt.toNat : Nat) : Int) = c.toInt; omega
  have r1 : a ≤ w.toInt := rw_.1
  have hr : 1 ≤ (g 72 c.toNatClampNeg).toInt := (t c.toNatClampNeg (by omega) (by simp) (by rw [← ew]; omega)).1
  have hu := u c.toNatClampNeg (by omega) hr (by rw [← ep]; exact hp)
  rw [← ep] at hu
  unfold mJ jO1 at *
  rw [q 12 (by decide), q 14 (by decide), q 21 (by decide), q 22 (by decide), q 32 (by decide), q 72 (by decide), q 77 (by decide), q 85 (by decide), q 86 (by decide), q 87 (by decide), q 89 (by decide)]
  refine ⟨a1, b1, c1, d1, o, fun k hk hE hs => ?_, u⟩
  by_cases z : k = p.toNatClampNeg
  · rw [z]; exact hu.2
  · rw [e, up2_n z] at hs
    exact t k hk hE hs
/-- a new call: its rate isn't told yet -/
theorem mJ_new {nn : Int} {E : List Int} {g g1 : mSt} {c v : Int32} (h : mJ nn E g) (e : g1 = up2 g 68 c.toNatClampNeg v) (hc : 0 ≤ c.toInt) : mJ nn (c.toInt :: E) g1 := by
  obtain ⟨a1, b1, c1, d1, o, t, u⟩ := h
  have q : ∀ j, j ≠ 68 → g1 j = g j := fun j hj => by rw [e, up2_of hj]
  unfold mJ jO1 at *
  rw [q 12 (by decide), q 14 (by decide), q 21 (by decide), q 22 (by decide), q 32 (by decide), q 72 (by decide), q 77 (by decide), q 85 (by decide), q 86 (by decide), q 87 (by decide), q 89 (by decide)]
  refine ⟨a1, b1, c1, d1, o, fun k hk hE hs => ?_, u⟩
  have hne : k ≠ c.toNatClampNeg := fun z => hE (by
    have z2 : k = c.toInt.toNat := z
    have z3 : (k : Int) = c.toInt := by omega
    rw [z3]; exact List.mem_cons_self)
  rw [e, up2_n hne] at hs
  exact t k hk (fun z => hE (List.mem_cons_of_mem _ z)) hs
/-- an end's new call needs no rate -/
theorem mJ_end {nn : Int} {E : List Int} {g : mSt} {c : Int32} (h : mJ nn (c.toInt :: E) g) (hc : c.toInt < 40 * nn) : mJ nn E g := by
  obtain ⟨a1, b1, c1, d1, o, t, u⟩ := h
  refine ⟨a1, b1, c1, d1, o, fun k hk hE hs => t k hk (fun z => ?_) hs, u⟩
  rcases List.mem_cons.mp z with q | q
  · omega
  · exact hE q
theorem mJ_72e {nn : Int} {E : List Int} {g g1 : mSt} {c v : Int32} (h : mJ nn E g) (e : g1 = up2 g 72 c.toNatClampNeg v) (h0 : 0 ≤ c.toInt) (hc : c.toInt < 40 * nn) : mJ nn E g1 := by
  obtain ⟨a1, b1, c1, d1, o, t, u⟩ := h
  have q : ∀ j, j ≠ 72 → g1 j = g j := fun j hj => by rw [e, up2_of hj]
  have hcn : ((c.toNatClampNeg : Nat) : Int) = c.toInt := by show ((c.toInt.toNat : Nat) : Int) = c.toInt; omega
  have q72 : ∀ k : Nat, 40 * nn ≤ (k : Int) → g1 72 k = g 72 k := fun k hk => by rw [e, up2_n (fun z => by rw [z] at hk; omega)]
  unfold mJ jO1 at *
  rw [q 12 (by decide), q 14 (by decide), q 21 (by decide), q 22 (by decide), q 32 (by decide), q 68 (by decide), q 77 (by decide), q 85 (by decide), q 86 (by decide), q 87 (by decide), q 89 (by decide)]
  refine ⟨a1, b1, c1, d1, o, fun k hk hE hs => ?_, fun k hk hr hp => ?_⟩
  · rw [q72 k hk]; exact t k hk hE hs
  · rw [q72 k hk] at hr
    have w := u k hk hr hp
    refine ⟨w.1, ?_⟩
    rw [q72 _ (by show 40 * nn ≤ (((g 77 k).toInt.toNat : Nat) : Int); omega)]
    exact w.2
/-- a rate of one or more is told -/
theorem mJ_72s {nn : Int} {E : List Int} {g g1 : mSt} {c v : Int32} {a b : Int} (h : mJ nn E g) (h0 : 0 ≤ c.toInt) (e : g1 = up2 g 72 c.toNatClampNeg v) (r : rg a b v) (ha : decide (1 ≤ a ∧ b ≤ 3) = true) (hn : 40 * nn ≤ c.toInt → (g 77 c.toNatClampNeg).toInt < 0 ∨ 1 ≤ (g 72 c.toNatClampNeg).toInt) : mJ nn E g1 := by
  have ha := of_decide_eq_true ha
  have r1 : a ≤ v.toInt := r.1
  have r2 : v.toInt ≤ b := r.2
  obtain ⟨a1, b1, c1, d1, o, t, u⟩ := h
  have q : ∀ j, j ≠ 72 → g1 j = g j := fun j hj => by rw [e, up2_of hj]
  have up : ∀ k : Nat, r13 (g 72 k) → r13 (g1 72 k) := fun k hk => by
    rw [e]
    by_cases z : k = c.toNatClampNeg
    · rw [z, up2_i]; exact ⟨by omega, by omega⟩
    · rw [up2_n z]; exact hk
  unfold mJ jO1 at *
  rw [q 12 (by decide), q 14 (by decide), q 21 (by decide), q 22 (by decide), q 32 (by decide), q 68 (by decide), q 77 (by decide), q 85 (by decide), q 86 (by decide), q 87 (by decide), q 89 (by decide)]
  refine ⟨a1, b1, c1, d1, o, fun k hk hE hs => up k (t k hk hE hs), fun k hk hr hp => ?_⟩
  by_cases z : k = c.toNatClampNeg
  · have z2 : k = c.toInt.toNat := z
    rcases hn (by omega) with w | w
    · rw [z] at hp; omega
    · have y := u k hk (by rw [z]; exact w) hp
      exact ⟨y.1, up _ y.2⟩
  · rw [e, up2_n z] at hr
    have y := u k hk hr hp
    exact ⟨y.1, up _ y.2⟩
theorem mJ_told {nn : Int} {E : List Int} {g : mSt} {c : Int32} (h : mJ nn (c.toInt :: E) g) (h0 : 0 ≤ c.toInt) (hr : r13 (g 72 c.toNatClampNeg)) : mJ nn E g := by
  obtain ⟨a1, b1, c1, d1, o, t, u⟩ := h
  refine ⟨a1, b1, c1, d1, o, fun k hk hE hs => ?_, u⟩
  by_cases z : (k : Int) = c.toInt
  · have z2 : k = c.toNatClampNeg := by show k = c.toInt.toNat; omega
    rw [z2]; exact hr
  · refine t k hk (fun q => ?_) hs
    rcases List.mem_cons.mp q with w | w
    · exact z w
    · exact hE w
/-- frames that wait: the first one's cells begin anew -/
theorem mJ_87z {nn : Int} {E : List Int} {g g1 : mSt} {i : Nat} (h : mJ nn E g) (hr : ∀ k, 0 ≤ (g 85 k).toInt) (e : g1 = up2 g 87 i 0) : mJ nn E g1 := by
  obtain ⟨a1, b1, c1, d1, o, t, u⟩ := h
  have q : ∀ j, j ≠ 87 → g1 j = g j := fun j hj => by rw [e, up2_of hj]
  unfold mJ at *
  rw [q 12 (by decide), q 14 (by decide), q 21 (by decide), q 22 (by decide), q 32 (by decide), q 68 (by decide), q 72 (by decide), q 77 (by decide), q 89 (by decide)]
  refine ⟨a1, b1, c1, d1, fun k => ?_, t, u⟩
  have w := o k
  unfold jO1 at *
  rw [q 85 (by decide), q 86 (by decide)]
  have hr4 := hr (4 * k)
  have z0 : (0 : Int32).toInt = 0 := by decide
  by_cases z : k = i
  · rw [z, e, up2_i, z0]
    rw [z] at w hr4
    rcases w with w | w
    · exact Or.inl ⟨w.1, rfl⟩
    · exact Or.inr ⟨w.1, by omega⟩
  · rw [e, up2_n z]; exact w
theorem mJ_86 {nn : Int} {E : List Int} {g g1 : mSt} {i : Nat} {v : Int32} (h : mJ nn E g) (hr : ∀ k, 0 ≤ (g 85 k).toInt) (e : g1 = up2 g 86 i v) (hv : 0 ≤ v.toInt) (hz : (g 87 i).toInt = 0 ∨ (1 ≤ v.toInt ∧ 1 ≤ (g 86 i).toInt)) : mJ nn E g1 := by
  obtain ⟨a1, b1, c1, d1, o, t, u⟩ := h
  have q : ∀ j, j ≠ 86 → g1 j = g j := fun j hj => by rw [e, up2_of hj]
  unfold mJ at *
  rw [q 12 (by decide), q 14 (by decide), q 21 (by decide), q 22 (by decide), q 32 (by decide), q 68 (by decide), q 72 (by decide), q 77 (by decide), q 89 (by decide)]
  refine ⟨a1, b1, c1, d1, fun k => ?_, t, u⟩
  have w := o k
  unfold jO1 at *
  rw [q 85 (by decide), q 87 (by decide)]
  have hr4 := hr (4 * k)
  by_cases z : k = i
  · subst z
    rw [e, up2_i]
    rcases hz with hz | hz
    · by_cases y : v.toInt = 0
      · exact Or.inl ⟨y, hz⟩
      · exact Or.inr ⟨by omega, by omega⟩
    · rcases w with w | w
      · omega
      · exact Or.inr ⟨hz.1, w.2⟩
  · rw [e, up2_n z]; exact w
theorem mJ_85 {nn : Int} {E : List Int} {g g1 : mSt} {i : Nat} {v : Int32} (h : mJ nn E g) (e : g1 = up2 g 85 i v) (hv : 0 ≤ v.toInt) (hz : ∀ k, 4 * k = i → (g 87 k).toInt = 0) : mJ nn E g1 := by
  obtain ⟨a1, b1, c1, d1, o, t, u⟩ := h
  have q : ∀ j, j ≠ 85 → g1 j = g j := fun j hj => by rw [e, up2_of hj]
  unfold mJ at *
  rw [q 12 (by decide), q 14 (by decide), q 21 (by decide), q 22 (by decide), q 32 (by decide), q 68 (by decide), q 72 (by decide), q 77 (by decide), q 89 (by decide)]
  refine ⟨a1, b1, c1, d1, fun k => ?_, t, u⟩
  have w := o k
  unfold jO1 at *
  rw [q 86 (by decide), q 87 (by decide)]
  by_cases z : 4 * k = i
  · have y := hz k z
    rw [e, z, up2_i]
    rcases w with w | w
    · exact Or.inl w
    · exact Or.inr ⟨w.1, by omega⟩
  · rw [e, up2_n z]; exact w
theorem jO_zero {nn : Int} {E : List Int} {g : mSt} {i : Nat} (h : mJ nn E g) (hm : (g 86 i).toInt = 0) : (g 87 i).toInt = 0 := by
  have w := h.2.2.2.2.1 i
  unfold jO1 at w
  omega
theorem mJ_r89 {nn : Int} {E : List Int} {g : mSt} {i : Nat} {v : Int32} {a b : Int} (h : mJ nn E g) (e : v = g 89 i) (r : rg a b v) : rg a 4 v := ⟨r.1, by rw [e]; exact h.2.2.2.1 i⟩
theorem mJ_r32 {nn : Int} {E : List Int} {g : mSt} {i : Nat} {v : Int32} {a b : Int} (h : mJ nn E g) (e : v = g 32 i) (r : rg a b v) : rg a 4 v := ⟨r.1, by rw [e]; exact h.2.2.1 i⟩
theorem mJ_32 {nn : Int} {E : List Int} {g g1 : mSt} {i : Nat} {v : Int32} {a b : Int} (h : mJ nn E g) (e : g1 = up2 g 32 i v) (r : rg a b v) (hb : decide (b ≤ 4) = true) : mJ nn E g1 := by
  have hb := of_decide_eq_true hb
  obtain ⟨a1, b1, c1, d1, o, t, u⟩ := h
  have q : ∀ j, j ≠ 32 → g1 j = g j := fun j hj => by rw [e, up2_of hj]
  unfold mJ jO1 at *
  rw [q 12 (by decide), q 14 (by decide), q 21 (by decide), q 22 (by decide), q 68 (by decide), q 72 (by decide), q 77 (by decide), q 85 (by decide), q 86 (by decide), q 87 (by decide), q 89 (by decide)]
  refine ⟨a1, b1, fun k => ?_, d1, o, t, u⟩
  by_cases z : k = i
  · rw [z, e, up2_i]; exact Int.le_trans r.2 hb
  · rw [e, up2_n z]; exact c1 k
theorem up2_up2 {g g1 g2 : mSt} {j i : Nat} {v w : Int32} (e1 : g1 = up2 g j i v) (e2 : g2 = up2 g1 j i w) : g2 = up2 g j i w := by
  rw [e2, e1]
  funext a b
  unfold up2
  by_cases q : a = j ∧ b = i
  · rw [if_pos q, if_pos q]
  · rw [if_neg q, if_neg q, if_neg q]
/-- rates say that a place is over -/
theorem some_over {nn s : Int} {g gc : mSt} {r rate v : Int32} (h : mJ nn [] gc) (e68 : gc 68 = g 68) (e72 : gc 72 = g 72) (hs : nn ≤ s) (hw : (∀ i : Nat, 40 * s ≤ (i : Int) → (i : Int) < 40 * s + 40 → (g 68 i).toInt ≠ 0 ∧ r13 (g 72 i)) → 40 ≤ r.toInt ∧ r.toInt ≤ 120) (e : v = r + rate) (hv : v.toInt ≤ 3) (hr : 1 ≤ rate.toInt ∧ rate.toInt ≤ 3) : ∃ i : Nat, 40 * s ≤ (i : Int) ∧ (i : Int) < 40 * s + 40 ∧ (gc 68 i).toInt = 0 := by
  refine Classical.byContradiction (fun hn => ?_)
  have w := hw (fun i h1 h2 => by
    have z : (gc 68 i).toInt ≠ 0 := fun q => hn ⟨i, h1, h2, q⟩
    refine ⟨by rw [← e68]; exact z, ?_⟩
    rw [← e72]
    exact h.2.2.2.2.2.1 i (by omega) (by simp) z)
  have q := ti_add (x := r) (y := rate) (by omega) (by omega)
  rw [← e] at q
  omega
/-- a pair is told -/
theorem mJ_77s {nn : Int} {E : List Int} {g g1 : mSt} {i : Nat} {v : Int32} (h : mJ nn E g) (e : g1 = up2 g 77 i v) (hv : 40 * nn ≤ v.toInt) (hr : r13 (g 72 v.toNatClampNeg)) : mJ nn E g1 := by
  obtain ⟨a1, b1, c1, d1, o, t, u⟩ := h
  have q : ∀ j, j ≠ 77 → g1 j = g j := fun j hj => by rw [e, up2_of hj]
  unfold mJ jO1 at *
  rw [q 12 (by decide), q 14 (by decide), q 21 (by decide), q 22 (by decide), q 32 (by decide), q 68 (by decide), q 72 (by decide), q 85 (by decide), q 86 (by decide), q 87 (by decide), q 89 (by decide)]
  refine ⟨a1, b1, c1, d1, o, t, fun k hk hr2 hp => ?_⟩
  by_cases z : k = i
  · rw [z, e, up2_i]; exact ⟨hv, hr⟩
  · rw [e, up2_n z] at hp ⊢
    exact u k hk hr2 hp
theorem mJ_22 {nn : Int} {E : List Int} {g g1 : mSt} {i : Nat} {v : Int32} {a b : Int} (h : mJ nn E g) (e : g1 = up2 g 22 i v) (r : rg a b v) (hb : decide (b ≤ 52) = true) (hz : (g 21 i).toInt = 0 → v.toInt ≤ 5) : mJ nn E g1 := by
  have hb := of_decide_eq_true hb
  obtain ⟨a1, b1, c1, d1, o, t, u⟩ := h
  have q : ∀ j, j ≠ 22 → g1 j = g j := fun j hj => by rw [e, up2_of hj]
  unfold mJ jO1 at *
  rw [q 12 (by decide), q 14 (by decide), q 21 (by decide), q 32 (by decide), q 68 (by decide), q 72 (by decide), q 77 (by decide), q 85 (by decide), q 86 (by decide), q 87 (by decide), q 89 (by decide)]
  refine ⟨a1, fun k => ?_, c1, d1, o, t, u⟩
  by_cases z : k = i
  · rw [z, e, up2_i]; exact ⟨Int.le_trans r.2 hb, hz⟩
  · rw [e, up2_n z]; exact b1 k
theorem mJ_r22 {nn : Int} {E : List Int} {g : mSt} {i : Nat} {v w : Int32} {a b : Int} (h : mJ nn E g) (e : v = g 22 i) (r : rg a b v) (ew : w = g 21 i) (hw : w.toInt = 0) : rg a 5 v := ⟨r.1, by rw [e]; exact (h.2.1 i).2 (by rw [← ew]; exact hw)⟩
theorem mJ_r22b {nn : Int} {E : List Int} {g : mSt} {i : Nat} {v : Int32} {a b : Int} (h : mJ nn E g) (e : v = g 22 i) (r : rg a b v) : rg a 52 v := ⟨r.1, by rw [e]; exact (h.2.1 i).1⟩
/-- a cell of the first frame is out -/
theorem mJ_87 {nn : Int} {E : List Int} {g g1 : mSt} {i : Nat} {v : Int32} (h : mJ nn E g) (e : g1 = up2 g 87 i v) (hm : 1 ≤ (g 86 i).toInt) (hv : v.toInt < ((g 85 (4 * i)).toInt + 55) / 48) : mJ nn E g1 := by
  obtain ⟨a1, b1, c1, d1, o, t, u⟩ := h
  have q : ∀ j, j ≠ 87 → g1 j = g j := fun j hj => by rw [e, up2_of hj]
  unfold mJ at *
  rw [q 12 (by decide), q 14 (by decide), q 21 (by decide), q 22 (by decide), q 32 (by decide), q 68 (by decide), q 72 (by decide), q 77 (by decide), q 89 (by decide)]
  refine ⟨a1, b1, c1, d1, fun k => ?_, t, u⟩
  have w := o k
  unfold jO1 at *
  rw [q 85 (by decide), q 86 (by decide)]
  by_cases z : k = i
  · subst z
    rw [e, up2_i]
    exact Or.inr ⟨hm, hv⟩
  · rw [e, up2_n z]; exact w
theorem jO_lt {nn : Int} {E : List Int} {g : mSt} {i j : Nat} {s c m : Int32} (h : mJ nn E g) (hj : j = 4 * i) (es : s = g 85 j) (ec : c = g 87 i) (em : m = g 86 i) (hm : 1 ≤ m.toInt) : c.toInt < (s.toInt + 55) / 48 := by
  have w := h.2.2.2.2.1 i
  unfold jO1 at w
  subst hj
  rw [← es, ← ec, ← em] at w
  omega
