/-! words of a unit that came, exactly -/
def wd (g : mSt) (q a : Nat) : Int32 := (((g 512 (8192 * q + a) <<< ((24 : Int32) &&& 31)) ||| (g 512 (8192 * q + (a + 1)) <<< ((16 : Int32) &&& 31))) ||| (g 512 (8192 * q + (a + 2)) <<< ((8 : Int32) &&& 31))) ||| g 512 (8192 * q + (a + 3))
theorem s_wordX {Z : cZ} {q1 : Nat} {p2 : Int32} {g : mSt} {Φ : Int32 → mSt → Prop} (h : ∀ r, (0 ≤ p2.toInt → p2.toInt + 4 ≤ 240 → r = wd g q1 p2.toInt.toNat) → Φ r g) : wp_kwordAt_16 Z q1 p2 g Φ := by
  refine ⟨fun c => h _ (fun z => by exfalso; omega), fun c v4 e4 _ t4 => ⟨fun c4 v9 e9 _ v10 e10 _ v11 e11 _ t11 v13 e13 _ v14 e14 _ v15 e15 _ v16 e16 _ t16 v18 e18 _ v19 e19 _ v20 e20 _ v21 e21 _ t21 v23 e23 _ v24 e24 _ => h _ (fun _ _ => ?_), fun c4 => h _ (fun _ z => by exfalso; omega)⟩⟩
  unfold wd
  rw [e24, e20, e15, e10, e14, e19, e9, e13, e18, e23, nat_cl, nat_cl, nat_cl, nat_cl, show v11.toInt.toNat = p2.toInt.toNat + 1 by omega, show v16.toInt.toNat = p2.toInt.toNat + 2 by omega, show v21.toInt.toNat = p2.toInt.toNat + 3 by omega]
/-- four octets make a word, and the first of them is its first -/
theorem wd_top {a b c d : Int32} (ha : oct a) (hb : oct b) (hc : oct c) (hd : oct d) : ((((((a <<< ((24 : Int32) &&& 31)) ||| (b <<< ((16 : Int32) &&& 31))) ||| (c <<< ((8 : Int32) &&& 31))) ||| d).toUInt32 >>> ((24 : Int32).toUInt32 &&& Int32.toUInt32 31)).toInt32) = a := by
  have t : ∀ x : Int32, oct x → x.toBitVec.toNat < 256 := fun x hx => by
    have h1 : x.toInt = x.toBitVec.toInt := rfl
    rw [BitVec.toInt_eq_toNat_cond] at h1
    have h2 := hx.1
    have h3 := hx.2
    split at h1 <;> omega
  have e24 : ((24 : Int32) &&& 31).toBitVec.smod 32 = 24#32 := by decide
  have e16 : ((16 : Int32) &&& 31).toBitVec.smod 32 = 16#32 := by decide
  have e8 : ((8 : Int32) &&& 31).toBitVec.smod 32 = 8#32 := by decide
  have e2 : ((24 : Int32).toUInt32 &&& Int32.toUInt32 31).toBitVec % 32 = 24#32 := by decide
  have hA := t a ha
  have hB := t b hb
  have hC := t c hc
  have hD := t d hd
  apply Int32.toBitVec_inj.mp
  show (((((a <<< ((24 : Int32) &&& 31)) ||| (b <<< ((16 : Int32) &&& 31))) ||| (c <<< ((8 : Int32) &&& 31))) ||| d).toUInt32 >>> ((24 : Int32).toUInt32 &&& Int32.toUInt32 31)).toBitVec = _
  rw [UInt32.toBitVec_shiftRight, e2]
  show (((((a <<< ((24 : Int32) &&& 31)).toBitVec ||| (b <<< ((16 : Int32) &&& 31)).toBitVec) ||| (c <<< ((8 : Int32) &&& 31)).toBitVec) ||| d.toBitVec) >>> (24#32)) = _
  rw [Int32.toBitVec_shiftLeft, Int32.toBitVec_shiftLeft, Int32.toBitVec_shiftLeft, e24, e16, e8]
  apply BitVec.eq_of_getLsbD_eq
  intro i hi
  have z : ∀ (x : Int32), x.toBitVec.toNat < 256 → ∀ k, 8 ≤ k → x.toBitVec.getLsbD k = false := fun x hx k hk => by
    rw [BitVec.getLsbD, Nat.testBit_lt_two_pow]
    exact Nat.lt_of_lt_of_le hx (show 2 ^ 8 ≤ 2 ^ k from Nat.pow_le_pow_right (by decide) hk)
  show ((((a.toBitVec <<< 24 ||| b.toBitVec <<< 16) ||| c.toBitVec <<< 8) ||| d.toBitVec) >>> 24).getLsbD i = _
  rw [BitVec.getLsbD_ushiftRight, BitVec.getLsbD_or, BitVec.getLsbD_or, BitVec.getLsbD_or, BitVec.getLsbD_shiftLeft, BitVec.getLsbD_shiftLeft, BitVec.getLsbD_shiftLeft, z b hB (24 + i - 16) (by omega), z c hC (24 + i - 8) (by omega), z d hD (24 + i) (by omega), show 24 + i - 24 = i by omega]
  by_cases h8 : i < 8
  · have : decide (24 + i < 32) = true := decide_eq_true (by omega)
    have h2 : decide (24 + i < 24) = false := decide_eq_false (by omega)
    rw [this, h2]
    simp
  · rw [z a hA i (by omega)]
    simp
