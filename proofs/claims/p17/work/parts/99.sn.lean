/-! a header's code is an octet -/
def b8 (x : Int32) : Prop := ∀ b, 8 ≤ b → x.toBitVec.getLsbD b = false
theorem oct_b8 {x : Int32} (h : b8 x) : oct x := by
  have l : x.toBitVec.toNat < 2 ^ 8 := Nat.lt_pow_two_of_testBit _ (fun i hi => h i hi)
  have h1 : x.toInt = x.toBitVec.toInt := rfl
  rw [BitVec.toInt_eq_toNat_cond] at h1
  unfold oct
  split at h1 <;> omega
theorem b8_oct {x : Int32} (h : oct x) : b8 x := fun b hb => by
  have l := (oct_nat h).1
  show x.toBitVec.toNat.testBit b = false
  exact Nat.testBit_lt_two_pow (Nat.lt_of_lt_of_le l (show 2 ^ 8 ≤ 2 ^ b from Nat.pow_le_pow_right (by decide) hb))
theorem b8_xor {x y : Int32} (h : b8 x) (k : b8 y) : b8 (x ^^^ y) := fun b hb => by
  show (x.toBitVec ^^^ y.toBitVec).getLsbD b = false
  rw [BitVec.getLsbD_xor, h b hb, k b hb]
  rfl
theorem oct_xor {x y : Int32} (h : oct x) (k : oct y) : oct (x ^^^ y) := oct_b8 (b8_xor (b8_oct h) (b8_oct k))
theorem b8_and {x : Int32} : b8 (x &&& 255) := fun b hb => by
  show (x.toBitVec &&& 255#32).getLsbD b = false
  have e : (255#32).getLsbD b = false := b8_oct (x := 255) ⟨by decide, by decide⟩ b hb
  rw [BitVec.getLsbD_and, e, Bool.and_false]
theorem oct_T (j : Nat) : oct (hc_T j) := by
  unfold hc_T
  by_cases h : j < 16
  · rcases (by omega : j = 0 ∨ j = 1 ∨ j = 2 ∨ j = 3 ∨ j = 4 ∨ j = 5 ∨ j = 6 ∨ j = 7 ∨ j = 8 ∨ j = 9 ∨ j = 10 ∨ j = 11 ∨ j = 12 ∨ j = 13 ∨ j = 14 ∨ j = 15) with e | e | e | e | e | e | e | e | e | e | e | e | e | e | e | e <;> subst e <;> exact ⟨by decide, by decide⟩
  · rw [List.getD_eq_getElem?_getD, List.getElem?_eq_none (by show 16 ≤ j; omega)]
    exact ⟨by decide, by decide⟩
theorem oct_run {o : Int32} : ∀ (n : Nat) (r : Int32), oct r → oct (hc_run o n r)
  | 0, _, h => h
  | n + 1, r, _ => oct_run n _ (oct_b8 (b8_xor b8_and (b8_oct (oct_T _))))
theorem oct_hc (x : Int32) : oct (hc x) := oct_xor (oct_run 8 0 ⟨by decide, by decide⟩) ⟨by decide, by decide⟩
