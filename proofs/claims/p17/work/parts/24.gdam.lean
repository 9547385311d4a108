/-! the damages of a direction: how many cells there are till each of them -/
/-- a cell is put: those of this cell go, the others are one nearer -/
def dStep (D : List Int32) : List Int32 := D.filterMap fun v => if v = 0 then none else some (v - 1)
def dIt : Nat → List Int32 → List Int32
  | 0, D => D
  | k + 1, D => dStep (dIt k D)
theorem dIt_add {a b : Nat} {D : List Int32} : dIt b (dIt a D) = dIt (a + b) D := by
  induction b with
  | zero => rfl
  | succ b ih =>
    show dStep (dIt b (dIt a D)) = dStep (dIt (a + b) D)
    rw [ih]
/-- a row that is packed in place: I of its places are seen, L of them kept -/
def cpI (ff : Int32 → Option Int32) (f0 f1 : Nat → Int32) (L I : Nat) : Prop := (List.range L).map f1 = ((List.range I).map f0).filterMap ff ∧ ∀ k, I ≤ k → f1 k = f0 k
theorem cpI.z {ff : Int32 → Option Int32} {f : Nat → Int32} : cpI ff f f 0 0 := ⟨rfl, fun _ _ => rfl⟩
theorem cpI.keep {ff : Int32 → Option Int32} {f0 f1 f2 : Nat → Int32} {L I : Nat} {w : Int32} (h : cpI ff f0 f1 L I) (hL : L ≤ I) (hw : ff (f1 I) = some w) (h2 : f2 L = w) (h3 : ∀ k, k ≠ L → f2 k = f1 k) : cpI ff f0 f2 (L + 1) (I + 1) := by
  refine ⟨?_, fun k hk => by rw [h3 k (by omega)]; exact h.2 k (by omega)⟩
  have e : (List.range L).map f2 = (List.range L).map f1 := List.map_congr_left (fun k hk => h3 k (by have := List.mem_range.mp hk; omega))
  rw [h.2 I (Nat.le_refl _)] at hw
  have a : (List.range (L + 1)).map f2 = (List.range L).map f2 ++ [f2 L] := by rw [List.range_succ, List.map_append]; rfl
  have b : (List.range (I + 1)).map f0 = (List.range I).map f0 ++ [f0 I] := by rw [List.range_succ, List.map_append]; rfl
  have c : [f0 I].filterMap ff = [w] := by simp [hw]
  rw [a, b, List.filterMap_append, c, ← h.1, e, h2]
theorem cpI.drop {ff : Int32 → Option Int32} {f0 f1 : Nat → Int32} {L I : Nat} (h : cpI ff f0 f1 L I) (hw : ff (f1 I) = none) : cpI ff f0 f1 L (I + 1) := by
  refine ⟨?_, fun k hk => h.2 k (by omega)⟩
  rw [h.2 I (Nat.le_refl _)] at hw
  have b : (List.range (I + 1)).map f0 = (List.range I).map f0 ++ [f0 I] := by rw [List.range_succ, List.map_append]; rfl
  have c : [f0 I].filterMap ff = [] := by simp [hw]
  rw [b, List.filterMap_append, c, List.append_nil, h.1]
theorem cpI.eq {ff : Int32 → Option Int32} {f0 f1 f2 : Nat → Int32} {L I : Nat} (h : cpI ff f0 f1 L I) (e : ∀ k, f2 k = f1 k) : cpI ff f0 f2 L I := by
  have : f2 = f1 := funext e
  rw [this]
  exact h
theorem ntc (x : Int32) : x.toNatClampNeg = x.toInt.toNat := rfl
/-- tick and the damages -/
def tkD (n : Int) (p1 : Int32) (D D1 : Nat → List Int32) : Prop := (1 ≤ p1.toInt ∧ p1.toInt ≤ 50 → ∀ q : Nat, D1 q = if (q : Int) < 2 * n then dIt (4 * p1.toInt.toNat) (D q) else D q) ∧ (¬ (1 ≤ p1.toInt ∧ p1.toInt ≤ 50) → ∀ q, D1 q = D q)
theorem tkD_eq {n : Int} {p1 : Int32} {D D1 D' D1' : Nat → List Int32} (h : tkD n p1 D D1) (k : tkD n p1 D' D1') (e : ∀ q, D q = D' q) : ∀ q, D1 q = D1' q := fun q => by
  by_cases w : 1 ≤ p1.toInt ∧ p1.toInt ≤ 50
  · rw [h.1 w q, k.1 w q, e q]
  · rw [h.2 w q, k.2 w q, e q]
/-- so many ticks are over, and of this tick the cells of the directions below d are put -/
def tkP (n : Nat) (k d : Nat) (D D1 : Nat → List Int32) : Prop := ∀ q, D1 q = if q < 2 * n then dIt (4 * k + (if q < d then 4 else 0)) (D q) else D q
/-- damage's answers -/
def badD (n : Int) (p1 p2 p3 p4 p5 : Int32) : Prop := ¬ (0 ≤ p1.toInt ∧ p1.toInt < 2 * n) ∨ p2.toInt < 0 ∨ 2 < p2.toInt ∨ p3.toInt < 0 ∨ 999 < p3.toInt ∨ (p2.toInt = 1 ∧ (p4.toInt < 0 ∨ 52 < p4.toInt ∨ p5.toInt < 1 ∨ 255 < p5.toInt))
def dmA (n : Int) (p1 p2 p3 p4 p5 : Int32) (D D1 : Nat → List Int32) (r : Int32) : Prop := (badD n p1 p2 p3 p4 p5 → r = -1 ∧ ∀ q, D1 q = D q) ∧ (¬ badD n p1 p2 p3 p4 p5 → ((D p1.toInt.toNat).length = 8 → r = -3 ∧ ∀ q, D1 q = D q) ∧ ((D p1.toInt.toNat).length ≠ 8 → r.toInt = ((D p1.toInt.toNat).length : Int) + 1 ∧ D1 p1.toInt.toNat = D p1.toInt.toNat ++ [p3] ∧ ∀ q, q ≠ p1.toInt.toNat → D1 q = D q))
theorem dmA_eq {n : Int} {p1 p2 p3 p4 p5 r r' : Int32} {D D1 D' D1' : Nat → List Int32} (h : dmA n p1 p2 p3 p4 p5 D D1 r) (k : dmA n p1 p2 p3 p4 p5 D' D1' r') (e : ∀ q, D q = D' q) : r = r' ∧ ∀ q, D1 q = D1' q := by
  by_cases w : badD n p1 p2 p3 p4 p5
  · obtain ⟨a, b⟩ := h.1 w
    obtain ⟨a', b'⟩ := k.1 w
    exact ⟨by rw [a, a'], fun q => by rw [b, b', e]⟩
  · have h := h.2 w
    have k := k.2 w
    rw [← e] at k
    by_cases l : (D p1.toInt.toNat).length = 8
    · obtain ⟨a, b⟩ := h.1 l
      obtain ⟨a', b'⟩ := k.1 l
      exact ⟨by rw [a, a'], fun q => by rw [b, b', e]⟩
    · obtain ⟨a, b, c⟩ := h.2 l
      obtain ⟨a', b', c'⟩ := k.2 l
      refine ⟨Int32.toInt_inj.mp (by rw [a, a']), fun q => ?_⟩
      by_cases z : q = p1.toInt.toNat
      · rw [z, b, b']
      · rw [c q z, c' q z, e]
