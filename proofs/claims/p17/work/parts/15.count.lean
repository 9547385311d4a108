/-! counting in a window of a row -/
def cW (p : Nat → Bool) : Nat → Nat
  | 0 => 0
  | n + 1 => cW p n + (if p n = true then 1 else 0)
theorem cW_le (p : Nat → Bool) : ∀ n, cW p n ≤ n := by
  intro n
  induction n with
  | zero => exact Nat.le_refl _
  | succ n ih => unfold cW; split <;> omega
theorem cW_mono {p q : Nat → Bool} : ∀ n, (∀ i, i < n → q i = true → p i = true) → cW q n ≤ cW p n := by
  intro n
  induction n with
  | zero => intro _; exact Nat.le_refl _
  | succ n ih =>
    intro h
    have h1 := ih (fun i hi => h i (by omega))
    have h2 := h n (by omega)
    unfold cW
    by_cases a : q n = true
    · rw [if_pos a, if_pos (h2 a)]; omega
    · rw [if_neg a]; split <;> omega
theorem cW_lt {p q : Nat → Bool} : ∀ n, (∀ i, i < n → q i = true → p i = true) → (∃ i, i < n ∧ p i = true ∧ q i = false) → cW q n < cW p n := by
  intro n
  induction n with
  | zero => intro _ ⟨i, hi, _⟩; omega
  | succ n ih =>
    intro h ⟨i, hi, h1, h2⟩
    unfold cW
    by_cases e : i = n
    · subst e
      have m := cW_mono i (fun j hj => h j (by omega))
      rw [if_pos h1, if_neg (by rw [h2]; decide)]
      omega
    · have s := ih (fun j hj => h j (by omega)) ⟨i, by omega, h1, h2⟩
      have h3 := h n (by omega)
      by_cases a : q n = true
      · rw [if_pos a, if_pos (h3 a)]; omega
      · rw [if_neg a]; split <;> omega
/-- how many of a side's forty have a channel of v or more -/
def cGe (g : mSt) (b v : Int) : Nat := cW (fun i => decide (v ≤ (g 71 (b.toNat + i)).toInt)) 40
theorem cGe_le (g : mSt) (b v : Int) : cGe g b v ≤ 40 := cW_le _ 40
theorem cGe_lt {g : mSt} {b v v' : Int} {r : Int32} (hb : 0 ≤ b) (h1 : b ≤ r.toInt) (h2 : r.toInt < b + 40) (h : (g 71 r.toNatClampNeg).toInt = v) (hv : v' = v + 1) : cGe g b v' < cGe g b v := by
  subst hv
  unfold cGe
  have hr : r.toNatClampNeg = r.toInt.toNat := rfl
  refine cW_lt 40 (fun i _ q => ?_) ⟨(r.toInt - b).toNat, by omega, ?_, ?_⟩
  · have q := of_decide_eq_true q
    exact decide_eq_true (by omega)
  · have e : b.toNat + (r.toInt - b).toNat = r.toNatClampNeg := by rw [hr]; omega
    rw [e, h]; exact decide_eq_true (by omega)
  · have e : b.toNat + (r.toInt - b).toNat = r.toNatClampNeg := by rw [hr]; omega
    rw [e, h]; exact decide_eq_false (by omega)
/-- how many of a side's eight are ahead -/
def cA (g : mSt) (s : Int) : Nat := cW (fun i => decide ((g 67 ((8 * s).toNat + i)).toInt = 1)) 8
theorem cA_le (g : mSt) (s : Int) : cA g s ≤ 8 := cW_le _ 8
theorem cA_fr {g g1 : mSt} {s : Int} (e : g1 67 = g 67) : cA g1 s = cA g s := by unfold cA; rw [e]
theorem cA_lt {g : mSt} {s : Int} {r : Int32} (hs : 0 ≤ s) (h1 : 8 * s ≤ r.toInt ∧ r.toInt < 8 * s + 8) (h : (g 67 r.toNatClampNeg).toInt = 1) : cA (up2 g 67 r.toNatClampNeg 0) s < cA g s := by
  unfold cA
  have hr : r.toNatClampNeg = r.toInt.toNat := rfl
  have e : (8 * s).toNat + (r.toInt - 8 * s).toNat = r.toNatClampNeg := by rw [hr]; omega
  refine cW_lt 8 (fun i _ q => ?_) ⟨(r.toInt - 8 * s).toNat, by omega, ?_, ?_⟩
  · have q := of_decide_eq_true q
    by_cases z : (8 * s).toNat + i = r.toNatClampNeg
    · rw [z, up2_i] at q; exact absurd q (by decide)
    · rw [up2_n z] at q; exact decide_eq_true q
  · rw [e]; exact decide_eq_true h
  · rw [e, up2_i]; decide
