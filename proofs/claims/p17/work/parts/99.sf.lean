/-! the receiver from one tick to the next -/
def GP (g : mSt) (q : Nat) : Prop := ∃ C, gC C ∧ ((g 225 q).toInt ≠ 0 → tiW C g q (53 - (g 233 q).toInt.toNat))
def AG (g : mSt) (q : Nat) : Prop := (g 225 q).toInt ≠ 0 ∧ (g 233 q).toInt = 0
/-- what is always so of a receiver and its assembler -/
def RB (B : Nat) (g : mSt) (q : Nat) : Prop := (0 ≤ (g 233 q).toInt ∧ (g 233 q).toInt ≤ (B : Int) ∧ ((g 225 q).toInt ≠ 0 → (g 233 q).toInt ≤ 52)) ∧ oct (g 232 q) ∧ OA g q ∧ OPl g q
def idC (x : Nat) : Int32 := if x < 3 then 0 else if x = 3 then 1 else if x = 4 then 82 else 106
theorem idC_good : gC idC := by
  refine ⟨⟨⟨rfl, rfl, rfl⟩, Or.inl ⟨rfl, rfl, fun j _ => ?_⟩⟩, fun z _ => ?_⟩
  · unfold idC
    rw [if_neg (by omega), if_neg (by omega), if_neg (by omega)]
  · unfold idC oct
    split
    · decide
    · split
      · decide
      · split <;> decide
theorem hw_ext {E E1 : Nat → Int32} {s k : Nat} (h : ∀ j, j < k → E1 (s + j) = E (s + j)) : hw E1 s k = hw E s k := by
  induction k with
  | zero => rfl
  | succ k ih =>
    show hw E1 s k * 256 + n8 (E1 (s + k)) = hw E s k * 256 + n8 (E (s + k))
    rw [ih (fun j hj => h j (by omega)), h k (by omega)]
theorem hw_shift {E E1 : Nat → Int32} {s s1 k : Nat} (h : ∀ j, j < k → E1 (s1 + j) = E (s + j)) : hw E1 s1 k = hw E s k := by
  induction k with
  | zero => rfl
  | succ k ih =>
    show hw E1 s1 k * 256 + n8 (E1 (s1 + k)) = hw E s k * 256 + n8 (E (s + k))
    rw [ih (fun j hj => h j (by omega)), h k (by omega)]
theorem tiW_sh {E E1 : Nat → Int32} {g : mSt} {q s s1 : Nat} (hm : s1 % 53 = s % 53) (h : ∀ j, j < (g 233 q).toInt.toNat → E1 (s1 + j) = E (s + j)) (t : tiW E g q s) : tiW E1 g q s1 := by
  obtain ⟨a, b⟩ := t
  refine ⟨fun c d => ?_, fun c d => ⟨fun m => ?_, fun j hj => ?_⟩⟩
  · rw [hw_shift h]
    exact a c (by omega)
  · obtain ⟨w, w1, w2, w3⟩ := (b c d).1 (by omega)
    refine ⟨w, ?_, ?_, w3⟩
    · rw [hw_shift (fun j hj => h j (by omega))]
      exact w1
    · rw [h 4 (by omega)]
      exact w2
  · rw [(b c d).2 j hj, show s1 + 5 + j = s1 + (5 + j) by omega, h (5 + j) (by omega)]
    congr 1
    omega
def mkE (C : Nat → Int32) (g : mSt) (q : Nat) : Nat → Int32 := fun z => if z < 53 then C z else g 608 (8192 * q + (z - 53))
theorem mkE_w {C : Nat → Int32} {g : mSt} {q x : Nat} : mkE C g q (53 + x) = g 608 (8192 * q + x) := by
  unfold mkE
  rw [if_neg (by omega)]
  congr 1
  omega
theorem RV_start {al na : Prop} {B q onW : Nat} {cw gp : Prop} {C : Nat → Int32} {g : mSt} (hb : RB B g q) (hC : gp → (g 225 q).toInt ≠ 0 → tiW C g q (53 - (g 233 q).toInt.toNat)) (ha : al → AG g q) (hna : na → ¬ AG g q) (hw : (g 101 q).toInt = (onW : Int)) : RV al na B (fun s => cw ∧ (53 ≤ s ∨ gp)) (mkE C g q) q onW 53 0 g := by
  obtain ⟨⟨b1, b2, b3⟩, b4, b5, b6⟩ := hb
  refine ⟨⟨⟨⟨b1, by omega, b3⟩, b4, fun n0 hk => ?_⟩, ⟨by omega, fun n0 => by have := b3 n0; omega⟩, fun z => ?_, fun z => ?_⟩, ⟨b5, b6⟩, fun x hx => mkE_w.symm, hw⟩
  · have h52 := b3 n0
    by_cases e : (g 233 q).toInt.toNat = 0
    · refine ⟨fun _ _ => ?_, fun z => by exfalso; omega⟩
      rw [e]
      exact Nat.mod_one _
    · have hgp : gp := by
        rcases hk.2 with z | z
        · omega
        · exact z
      refine tiW_sh (E := C) rfl (fun j hj => ?_) (hC hgp n0)
      unfold mkE
      rw [if_pos (by omega)]
  · obtain ⟨z1, z2⟩ := ha z
    refine ⟨z1, ?_, ?_⟩
    · rw [z2]
      rfl
    · rw [z2]
      exact Nat.le_refl _
  · have := hna z
    unfold AG at this
    by_cases n0 : (g 225 q).toInt = 0
    · exact Or.inl n0
    · right
      left
      have h52 := b3 n0
      have : (g 233 q).toInt ≠ 0 := fun w => this ⟨n0, w⟩
      omega
theorem RV_end {al na : Prop} {B q w : Nat} {kn : Nat → Prop} {E : Nat → Int32} {g : mSt} (h : RV al na B kn E q 212 265 w g) : RB (B + 265) g q ∧ ((∀ s, 53 ≤ s → kn s) → gC (clE E 4) → GP g q) ∧ (al → AG g q) := by
  obtain ⟨⟨⟨⟨t1, t2, t3⟩, t4, t5⟩, _, ha, _⟩, ⟨o1, o2⟩, _⟩ := h
  refine ⟨⟨⟨t1, t2, t3⟩, t4, o1, o2⟩, fun hk hC => ⟨clE E 4, hC, fun n0 => ?_⟩, fun z => ?_⟩
  · have h52 := t3 n0
    refine tiW_sh (E := E) (s := 265 - (g 233 q).toInt.toNat) (by omega) (fun j hj => ?_) (t5 n0 (hk _ (by omega)))
    unfold clE
    congr 1
    omega
  · obtain ⟨z1, z2, z3⟩ := ha z
    have := t3 z1
    exact ⟨z1, by omega⟩
