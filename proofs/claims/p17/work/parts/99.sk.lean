/-! a link's tick, counted: a: not found, d: not known, m: the mode (true: S) -/
theorem AR.lS {n f w : Nat} {t : Int} {Z0 Z : cZ} {g0 g : mSt} {bK bS : Prop} (h : AR n f t Z0 g0 bK bS w 0 0 Z g) (hw : w ≤ 4) (hb : ¬ bK) : XI n t Z g + 16 * (occ g (n + f) : Int) ≤ XI n t Z0 g0 + 16 * (occ g0 (n + f) : Int) + 64 := by
  obtain ⟨_, _, ⟨kK, kS, d1, d2, d3, d4⟩, _⟩ := h
  have : kK = 0 := by
    rcases Nat.eq_zero_or_pos kK with z | z
    · exact z
    · exact absurd (d2.1 z) hb
  omega
theorem AR.lK {n f w : Nat} {t : Int} {Z0 Z : cZ} {g0 g : mSt} {bK bS : Prop} (h : AR n f t Z0 g0 bK bS w 0 0 Z g) (h3 : opL g0 (n + f) ≤ 3) (hb : ¬ bS) : XI n t Z g + 32 * (osp g (n + f) : Int) ≤ XI n t Z0 g0 + 32 * (osp g0 (n + f) : Int) + 48 := by
  obtain ⟨_, _, ⟨kK, kS, d1, d2, d3, d4⟩, _⟩ := h
  have : kS = 0 := by
    rcases Nat.eq_zero_or_pos kS with z | z
    · exact z
    · exact absurd (d2.2 z) hb
  omega
theorem AR.lC {n f w : Nat} {t : Int} {Z0 Z : cZ} {g0 g : mSt} {bK bS : Prop} (h : AR n f t Z0 g0 bK bS w 0 0 Z g) (hw : w ≤ 4) : XI n t Z g ≤ XI n t Z0 g0 + 384 := by
  obtain ⟨_, _, ⟨kK, kS, d1, d2, d3, d4⟩, _⟩ := h
  have := @occ_8 g0 (n + f)
  omega
def lkT (m : Bool) (a : Nat) (g : mSt) (i : Nat) : Int := if a = 0 ∧ m = true then 16 * (occ g i : Int) else 32 * (osp g i : Int)
theorem lkT_b {m : Bool} {a : Nat} {g : mSt} {i : Nat} : 0 ≤ lkT m a g i ∧ lkT m a g i ≤ 256 := by
  unfold lkT
  have h1 := @occ_8 g i
  have h2 := @osp_8 g i
  split <;> omega
theorem alt0 {m : Bool} {p : List (Option Bool)} (h : altN m p = 0) : some (!m) ∉ p ∧ altL m p = m := by
  refine ⟨fun z => by have := altN_pos z; omega, ?_⟩
  induction p with
  | nil => rfl
  | cons x p ih =>
    cases x with
    | none => exact ih h
    | some b =>
      have h' : altN b p + (if m = b then 0 else 1) = 0 := h
      by_cases e : m = b
      · subst e
        rw [if_pos rfl] at h'
        exact ih h'
      · rw [if_neg e] at h'
        omega
/-- a clean tick -/
theorem lk_clean {n f w a d : Nat} {t : Int} {m : Bool} {l : List (Int32 × List Int32)} {Z0 Z : cZ} {g0 g : mSt} (ha : a = 0 ↔ AG g0 (2 * f)) (hd : d = 0 ↔ GP g0 (2 * f)) (ha1 : a ≤ 1) (hw : w ≤ 4) (h3 : opL g0 (n + f) ≤ 3) (h : AR n f t Z0 g0 (¬ GP g0 (2 * f) ∨ ¬ AG g0 (2 * f) ∨ some false ∈ lt4 l) (¬ GP g0 (2 * f) ∨ (AG g0 (2 * f) ∧ some true ∈ lt4 l)) w 0 0 Z g) (hA : GP g0 (2 * f) → AG g0 (2 * f) → AG g (2 * f)) : ∃ a', (a' = 0 ↔ AG g (2 * f)) ∧ a' ≤ 1 ∧ XI n t Z g + lkT (altL m (lt4 l)) a' g (n + f) + 300 * (a' : Int) ≤ XI n t Z0 g0 + lkT m a g0 (n + f) + 300 * (a : Int) + 1200 * (d : Int) + 1200 * (altN m (lt4 l) : Int) + 64 := by
  obtain ⟨a', ha', h1'⟩ : ∃ a', (a' = 0 ↔ AG g (2 * f)) ∧ a' ≤ 1 := by
    by_cases z : AG g (2 * f)
    · exact ⟨0, ⟨fun _ => z, fun _ => rfl⟩, by omega⟩
    · exact ⟨1, ⟨fun w => absurd w (by omega), fun w => absurd w z⟩, by omega⟩
  refine ⟨a', ha', h1', ?_⟩
  have hc := h.lC hw
  have b0 := @lkT_b m a g0 (n + f)
  have b1 := @lkT_b (altL m (lt4 l)) a' g (n + f)
  by_cases hcr : d = 0 ∧ altN m (lt4 l) = 0
  · obtain ⟨d0, n0⟩ := hcr
    obtain ⟨q1, q2⟩ := alt0 n0
    rw [q2]
    have gp := hd.mp d0
    have o8 := @occ_8 g (n + f)
    by_cases a0 : a = 0
    · have ag := ha.mp a0
      have a0' : a' = 0 := ha'.mpr (hA gp ag)
      cases m with
      | true =>
        have := h.lS hw (fun z => by
          rcases z with z | z | z
          · exact z gp
          · exact z ag
          · exact q1 z)
        unfold lkT
        rw [if_pos ⟨a0', rfl⟩, if_pos ⟨a0, rfl⟩]
        omega
      | false =>
        have := h.lK h3 (fun z => by
          rcases z with z | z
          · exact z gp
          · exact q1 z.2)
        unfold lkT
        rw [if_neg (fun z => absurd z.2 (by decide)), if_neg (fun z => absurd z.2 (by decide))]
        omega
    · have nag : ¬ AG g0 (2 * f) := fun z => a0 (ha.mpr z)
      have := h.lK h3 (fun z => by
        rcases z with z | z
        · exact z gp
        · exact nag z.1)
      unfold lkT
      rw [if_neg (c := a = 0 ∧ m = true) (fun z => a0 z.1)]
      split <;> omega
  · have : 1 ≤ d ∨ 1 ≤ altN m (lt4 l) := by omega
    omega
/-- any tick -/
theorem lk_any {n f w a d : Nat} {t : Int} {m m' : Bool} {Z0 Z : cZ} {g0 g : mSt} {bK bS : Prop} (hw : w ≤ 4) (h : AR n f t Z0 g0 bK bS w 0 0 Z g) : ∃ a' d' : Nat, (a' = 0 ↔ AG g (2 * f)) ∧ (d' = 0 ↔ GP g (2 * f)) ∧ a' ≤ 1 ∧ d' ≤ 1 ∧ XI n t Z g + lkT m' a' g (n + f) + 300 * (a' : Int) + 1200 * (d' : Int) ≤ XI n t Z0 g0 + lkT m a g0 (n + f) + 300 * (a : Int) + 1200 * (d : Int) + 2140 := by
  obtain ⟨a', ha', h1'⟩ : ∃ a', (a' = 0 ↔ AG g (2 * f)) ∧ a' ≤ 1 := by
    by_cases z : AG g (2 * f)
    · exact ⟨0, ⟨fun _ => z, fun _ => rfl⟩, by omega⟩
    · exact ⟨1, ⟨fun w => absurd w (by omega), fun w => absurd w z⟩, by omega⟩
  obtain ⟨d', hd', h2'⟩ : ∃ d', (d' = 0 ↔ GP g (2 * f)) ∧ d' ≤ 1 := by
    by_cases z : GP g (2 * f)
    · exact ⟨0, ⟨fun _ => z, fun _ => rfl⟩, by omega⟩
    · exact ⟨1, ⟨fun w => absurd w (by omega), fun w => absurd w z⟩, by omega⟩
  refine ⟨a', d', ha', hd', h1', h2', ?_⟩
  have hc := h.lC hw
  have b0 := @lkT_b m a g0 (n + f)
  have b1 := @lkT_b m' a' g (n + f)
  omega
