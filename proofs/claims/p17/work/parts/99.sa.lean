/-! what a window of good cells may be -/
def plc (C : Nat → Int32) : List Int32 := (List.range 48).map fun j => C (5 + j)
def gC (C : Nat → Int32) : Prop := ((C 0 = 0 ∧ C 1 = 0 ∧ C 2 = 0) ∧ ((C 3 = 1 ∧ C 4 = 82 ∧ ∀ j, j < 48 → C (5 + j) = 106) ∨ (((C 3 = 80 ∧ C 4 = 226) ∨ (C 3 = 82 ∧ C 4 = 236)) ∧ okC (plc C)))) ∧ ∀ z, z < 53 → oct (C z)
theorem plc_at {C : Nat → Int32} {j : Nat} (h : j < 48) : (plc C)[j]? = some (C (5 + j)) := get48 h
theorem tiI {x : Int32} {n : Int32} (h : x.toInt = n.toInt) : x = n := Int32.toInt_inj.mp h
/-- no SETUP at the offset 4 either -/
theorem no_sp4 {p : List Int32} (h : okC p) (a : p[4]? = some 9) (b : p[12]? = some 10) (c : p[16]? = some 1) (d : p[23]? = some 8) : False := by
  rcases h with ⟨h, _⟩ | ⟨E, h, _⟩
  · have := h 23 (by omega) (by omega)
    rw [d] at this
    exact absurd (Option.some.inj this) (by decide)
  · have n9 : ∀ i, i < 11 → i ≠ E → p[4 * i]? ≠ some 9 := fun i hi he => okT_ne (h i hi he) (by decide) 1 (by decide) (by decide) (by decide)
    have n10 : ∀ i, i < 11 → i ≠ E → p[4 * i]? ≠ some 10 := fun i hi he => okT_ne (h i hi he) (by decide) 0 (by decide) (by decide) (by decide)
    by_cases e : E = 1
    · exact n10 3 (by omega) (by omega) b
    · exact n9 1 (by omega) (by omega) a
theorem hc_1 : hc 1 = 82 := by decide
theorem hc_80 : hc 80 = 226 := by decide
theorem hc_82 : hc 82 = 236 := by decide
def bitA (h : Int32) (b : Nat) : Bool := h.toBitVec.getLsbD b
/-- a head of the messages' channel has no bit where its channel has none -/
theorem ch5_bt {h : Int32} (k : ch5 h) {b : Nat} (hb : b = 5 ∨ (7 ≤ b ∧ b ≤ 27)) : bitA h b = false := by
  obtain ⟨k1, k2⟩ := k
  have e1 : ((h.toUInt32 >>> ((20 : Int32).toUInt32 &&& Int32.toUInt32 31)).toInt32 &&& (255 : Int32)).toBitVec = (h.toBitVec >>> 20) &&& 255#32 := by
    have e : ((20 : Int32).toUInt32 &&& Int32.toUInt32 31).toBitVec % 32 = 20#32 := by decide
    show (h.toUInt32 >>> ((20 : Int32).toUInt32 &&& Int32.toUInt32 31)).toBitVec &&& 255#32 = _
    rw [UInt32.toBitVec_shiftRight, e]
    rfl
  have e2 : ((h.toUInt32 >>> ((4 : Int32).toUInt32 &&& Int32.toUInt32 31)).toInt32 &&& (65535 : Int32)).toBitVec = (h.toBitVec >>> 4) &&& 65535#32 := by
    have e : ((4 : Int32).toUInt32 &&& Int32.toUInt32 31).toBitVec % 32 = 4#32 := by decide
    show (h.toUInt32 >>> ((4 : Int32).toUInt32 &&& Int32.toUInt32 31)).toBitVec &&& 65535#32 = _
    rw [UInt32.toBitVec_shiftRight, e]
    rfl
  have z1 : (h.toBitVec >>> 20) &&& 255#32 = 0#32 := by
    rw [← e1, tiI (n := 0) k1]
    rfl
  have z2 : (h.toBitVec >>> 4) &&& 65535#32 = 5#32 := by
    rw [← e2, tiI (n := 5) k2]
    rfl
  by_cases w : 20 ≤ b
  · have := congrArg (fun x => x.getLsbD (b - 20)) z1
    simp only [BitVec.getLsbD_and, BitVec.getLsbD_ushiftRight] at this
    rw [show 20 + (b - 20) = b by omega] at this
    have m : (255#32).getLsbD (b - 20) = true := by
      rcases (by omega : b - 20 = 0 ∨ b - 20 = 1 ∨ b - 20 = 2 ∨ b - 20 = 3 ∨ b - 20 = 4 ∨ b - 20 = 5 ∨ b - 20 = 6 ∨ b - 20 = 7) with e | e | e | e | e | e | e | e <;> rw [e] <;> decide
    rw [m, Bool.and_true] at this
    unfold bitA
    rw [this]
    simp
  · have := congrArg (fun x => x.getLsbD (b - 4)) z2
    simp only [BitVec.getLsbD_and, BitVec.getLsbD_ushiftRight] at this
    rw [show 4 + (b - 4) = b by omega] at this
    have m : (65535#32).getLsbD (b - 4) = true ∧ (5#32).getLsbD (b - 4) = false := by
      rcases (by omega : b - 4 = 1 ∨ b - 4 = 3 ∨ b - 4 = 4 ∨ b - 4 = 5 ∨ b - 4 = 6 ∨ b - 4 = 7 ∨ b - 4 = 8 ∨ b - 4 = 9 ∨ b - 4 = 10 ∨ b - 4 = 11 ∨ b - 4 = 12 ∨ b - 4 = 13 ∨ b - 4 = 14 ∨ b - 4 = 15) with e | e | e | e | e | e | e | e | e | e | e | e | e | e <;> rw [e] <;> decide
    rw [m.1, m.2, Bool.and_true] at this
    exact this
/-- one bit put right leaves one of two -/
theorem two_bt {w h : Int32} {a b : Nat} (hab : a ≠ b) (ha : bitA w a = true) (hb : bitA w b = true) (hh : h = w ∨ ∃ k : Int32, (0 ≤ k.toInt ∧ k.toInt ≤ 31) ∧ h = w ^^^ ((1 : Int32) <<< (k &&& 31))) : bitA h a = true ∨ bitA h b = true := by
  rcases hh with e | ⟨k, hk, e⟩
  · rw [e]
    exact Or.inl ha
  · have x : ∀ c, bitA h c = (bitA w c ^^ bitA ((1 : Int32) <<< (k &&& 31)) c) := fun c => by
      rw [e]
      show (w.toBitVec ^^^ ((1 : Int32) <<< (k &&& 31)).toBitVec).getLsbD c = _
      rw [BitVec.getLsbD_xor]
      rfl
    have one : bitA ((1 : Int32) <<< (k &&& 31)) a = false ∨ bitA ((1 : Int32) <<< (k &&& 31)) b = false := by
      unfold bitA
      rw [Int32.toBitVec_shiftLeft]
      show (1#32 <<< ((k &&& 31).toBitVec.smod 32)).getLsbD a = false ∨ _
      generalize (k &&& 31).toBitVec.smod 32 = s
      have t : ∀ c, (1#32 <<< s).getLsbD c = true → c = s.toNat := fun c hc => by
        rw [BitVec.shiftLeft_eq', BitVec.getLsbD_shiftLeft] at hc
        simp at hc
        omega
      by_cases h1 : (1#32 <<< s).getLsbD a = true
      · right
        cases h2 : (1#32 <<< s).getLsbD b with
        | false => exact h2
        | true => exact absurd ((t a h1).trans (t b h2).symm) hab
      · left
        exact Bool.eq_false_iff.mpr h1
    rcases one with z | z
    · left
      rw [x a, ha, z]
      rfl
    · right
      rw [x b, hb, z]
      rfl
theorem bitA_n8 {w : Int32} {b : Nat} : bitA w b = (n8 w).testBit b := rfl
theorem bt_mul {a p b : Nat} (h : p < 256) (hb : 8 ≤ b) : (a * 256 + p).testBit b = a.testBit (b - 8) := by
  have := Nat.testBit_two_pow_mul_add a (b := p) (i := 8) (by omega) b
  rw [if_neg (by omega)] at this
  rw [← this]
  congr 1
  omega
theorem n8_c : n8 0 = 0 ∧ n8 1 = 1 ∧ n8 80 = 80 ∧ n8 82 = 82 ∧ n8 226 = 226 ∧ n8 236 = 236 := by decide
/-- windows that begin at the second to fourth octet of a message's cell aren't of its channel -/
theorem no_hd {C : Nat → Int32} {E : Nat → Int32} {s o : Nat} {h : Int32} (hC : (C 0 = 0 ∧ C 1 = 0 ∧ C 2 = 0) ∧ ((C 3 = 80 ∧ C 4 = 226) ∨ (C 3 = 82 ∧ C 4 = 236))) (hoct : ∀ z, z < 53 → oct (C z)) (hE : ∀ j, j < 5 → E (s + j) = C (o + j)) (ho : o = 1 ∨ o = 2 ∨ o = 3) (hd : hdw E s h) : ¬ ch5 h := by
  intro k
  obtain ⟨w, hw4, _, hh⟩ := hd
  obtain ⟨⟨c0, c1, c2⟩, c34⟩ := hC
  have e4 : hw E s 4 = ((n8 (C (o + 0)) * 256 + n8 (C (o + 1))) * 256 + n8 (C (o + 2))) * 256 + n8 (C (o + 3)) := by
    show (((0 * 256 + n8 (E (s + 0))) * 256 + n8 (E (s + 1))) * 256 + n8 (E (s + 2))) * 256 + n8 (E (s + 3)) = _
    rw [hE 0 (by omega), hE 1 (by omega), hE 2 (by omega), hE 3 (by omega), Nat.zero_mul, Nat.zero_add]
  have fin : ∀ a b, a ≠ b → (a = 5 ∨ (7 ≤ a ∧ a ≤ 27)) → (b = 5 ∨ (7 ≤ b ∧ b ≤ 27)) → (n8 w).testBit a = true → (n8 w).testBit b = true → False := fun a b hab ha hb ta tb => by
    rcases two_bt hab (bitA_n8.trans ta) (bitA_n8.trans tb) hh with z | z
    · rw [ch5_bt k ha] at z
      exact absurd z (by decide)
    · rw [ch5_bt k hb] at z
      exact absurd z (by decide)
  obtain ⟨d0, _, d80, d82, d226, d236⟩ := n8_c
  rcases ho with e | e | e
  · subst e
    rw [show C (1 + 0) = 0 from c1, show C (1 + 1) = 0 from c2, d0] at e4
    rcases c34 with ⟨x, y⟩ | ⟨x, y⟩
    · rw [show C (1 + 2) = 80 from x, show C (1 + 3) = 226 from y, d80, d226] at e4
      exact fin 12 14 (by decide) (by decide) (by decide) (by rw [hw4, e4]; decide) (by rw [hw4, e4]; decide)
    · rw [show C (1 + 2) = 82 from x, show C (1 + 3) = 236 from y, d82, d236] at e4
      exact fin 12 14 (by decide) (by decide) (by decide) (by rw [hw4, e4]; decide) (by rw [hw4, e4]; decide)
  · subst e
    have l5 := n8_oct (hoct 5 (by omega))
    rw [show C (2 + 0) = 0 from c2, d0] at e4
    rcases c34 with ⟨x, y⟩ | ⟨x, y⟩
    · rw [show C (2 + 1) = 80 from x, show C (2 + 2) = 226 from y, d80, d226] at e4
      exact fin 20 22 (by decide) (by decide) (by decide) (by rw [hw4, e4, bt_mul l5 (by decide)]; decide) (by rw [hw4, e4, bt_mul l5 (by decide)]; decide)
    · rw [show C (2 + 1) = 82 from x, show C (2 + 2) = 236 from y, d82, d236] at e4
      exact fin 20 22 (by decide) (by decide) (by decide) (by rw [hw4, e4, bt_mul l5 (by decide)]; decide) (by rw [hw4, e4, bt_mul l5 (by decide)]; decide)
  · subst e
    have l5 := n8_oct (hoct 5 (by omega))
    have l6 := n8_oct (hoct 6 (by omega))
    rcases c34 with ⟨x, y⟩ | ⟨x, y⟩
    · rw [show C (3 + 0) = 80 from x, show C (3 + 1) = 226 from y, d80, d226] at e4
      exact fin 21 22 (by decide) (by decide) (by decide) (by rw [hw4, e4, bt_mul l6 (by decide), bt_mul l5 (by decide)]; decide) (by rw [hw4, e4, bt_mul l6 (by decide), bt_mul l5 (by decide)]; decide)
    · rw [show C (3 + 0) = 82 from x, show C (3 + 1) = 236 from y, d82, d236] at e4
      exact fin 21 22 (by decide) (by decide) (by decide) (by rw [hw4, e4, bt_mul l6 (by decide), bt_mul l5 (by decide)]; decide) (by rw [hw4, e4, bt_mul l6 (by decide), bt_mul l5 (by decide)]; decide)
/-- no SETUP in a window that isn't a cell's place -/
theorem no_S {C D : Nat → Int32} {E : Nat → Int32} {s o : Nat} {h : Int32} {W : Nat → Int32} (hC : gC C) (hD : gC D) (ho : 1 ≤ o ∧ o ≤ 52) (hE : ∀ j, j < 5 → o + j < 53 → E (s + j) = C (o + j)) (hW : ∀ j, j < 48 → W j = if o + 5 + j < 53 then C (o + 5 + j) else D (o + 5 + j - 53)) (hd : o ≤ 3 → hdw E s h) (k : ch5 h) (su : suB W) (h19 : (W 19).toInt = 8) (h43 : (W 43).toInt = 23) : False := by
  obtain ⟨⟨s0, s1, s5, s6⟩, ⟨s8, s9, s10, s12⟩, s14, s15, s17⟩ := su
  obtain ⟨⟨⟨d0, d1, d2⟩, dd⟩, _⟩ := hD
  have d3 : (D 3).toInt = 1 ∨ (D 3).toInt = 80 ∨ (D 3).toInt = 82 := by
    rcases dd with ⟨x, _⟩ | ⟨⟨x, _⟩ | ⟨x, _⟩, _⟩ <;> rw [x]
    · exact Or.inl rfl
    · exact Or.inr (Or.inl rfl)
    · exact Or.inr (Or.inr rfl)
  have d4 : (D 4).toInt = 82 ∨ (D 4).toInt = 226 ∨ (D 4).toInt = 236 := by
    rcases dd with ⟨_, x, _⟩ | ⟨⟨_, x⟩ | ⟨_, x⟩, _⟩ <;> rw [x]
    · exact Or.inl rfl
    · exact Or.inr (Or.inl rfl)
    · exact Or.inr (Or.inr rfl)
  have z0 : (D 0).toInt = 0 ∧ (D 1).toInt = 0 ∧ (D 2).toInt = 0 := by
    rw [d0, d1, d2]
    exact ⟨rfl, rfl, rfl⟩
  have nx : ∀ j x, j < 48 → o + 5 + j = 53 + x → (W j).toInt = (D x).toInt := fun j x hj e => by
    rw [hW j hj, if_neg (by omega), show o + 5 + j - 53 = x by omega]
  have cr : ∀ j, o + 5 + j < 53 → W j = C (5 + (o + j)) := fun j hj => by
    rw [hW j (by omega), if_pos hj]
    congr 1
    omega
  by_cases h29 : 29 ≤ o
  · rcases (by omega : o = 29 ∨ o = 30 ∨ o = 31 ∨ o = 32 ∨ o = 33 ∨ o = 34 ∨ o = 35 ∨ o = 36 ∨ o = 37 ∨ o = 38 ∨ o = 39 ∨ o = 40 ∨ o = 41 ∨ o = 42 ∨ o = 43 ∨ o = 44 ∨ o = 45 ∨ o = 46 ∨ o = 47 ∨ o = 48 ∨ o = 49 ∨ o = 50 ∨ o = 51 ∨ o = 52) with e | e | e | e | e | e | e | e | e | e | e | e | e | e | e | e | e | e | e | e | e | e | e | e
    · have := nx 19 0 (by omega) (by omega); omega
    · have := nx 19 1 (by omega) (by omega); omega
    · have := nx 19 2 (by omega) (by omega); omega
    · have := nx 17 1 (by omega) (by omega); omega
    · have := nx 15 0 (by omega) (by omega); omega
    · have := nx 14 0 (by omega) (by omega); omega
    · have := nx 14 1 (by omega) (by omega); omega
    · have := nx 12 0 (by omega) (by omega); omega
    · have := nx 12 1 (by omega) (by omega); omega
    · have := nx 10 0 (by omega) (by omega); omega
    · have := nx 9 0 (by omega) (by omega); omega
    · have := nx 8 0 (by omega) (by omega); omega
    · have := nx 8 1 (by omega) (by omega); omega
    · have := nx 6 0 (by omega) (by omega); omega
    · have := nx 5 0 (by omega) (by omega); omega
    · have := nx 5 1 (by omega) (by omega); omega
    · have := nx 5 2 (by omega) (by omega); omega
    · have := nx 5 3 (by omega) (by omega); omega
    · have := nx 1 0 (by omega) (by omega); omega
    · have := nx 0 0 (by omega) (by omega); omega
    · have := nx 0 1 (by omega) (by omega); omega
    · have := nx 0 2 (by omega) (by omega); omega
    · have := nx 0 3 (by omega) (by omega); omega
    · have := nx 0 4 (by omega) (by omega); omega
  · obtain ⟨⟨cz, cc⟩, coct⟩ := hC
    rcases cc with ⟨_, _, idle⟩ | ⟨c34, hok⟩
    · have := cr 0 (by omega)
      rw [idle (o + 0) (by omega)] at this
      rw [this] at s0
      exact absurd s0 (by decide)
    · by_cases h3 : o ≤ 3
      · exact no_hd ⟨cz, c34⟩ coct (fun j hj => hE j hj (by omega)) (by omega) (hd h3) k
      · have at' : ∀ j (v : Int32), o + 5 + j < 53 → (W j).toInt = v.toInt → (plc C)[o + j]? = some v := fun j v hj e => by
          rw [plc_at (by omega), ← cr j hj]
          exact congrArg some (tiI e)
        by_cases h4 : o = 4
        · subst h4
          exact no_sp4 hok (at' 0 9 (by omega) s0) (at' 8 10 (by omega) s8) (at' 12 1 (by omega) s12) (at' 19 8 (by omega) h19)
        · by_cases h7 : o ≤ 7
          · have := nx 43 (o - 5) (by omega) (by omega)
            rcases (by omega : o - 5 = 0 ∨ o - 5 = 1 ∨ o - 5 = 2) with e | e | e <;> rw [e] at this <;> omega
          · exact no_spre hok o (by omega) (by omega) ⟨⟨at' 0 9 (by omega) s0, at' 1 3 (by omega) s1, at' 5 5 (by omega) s5, at' 6 128 (by omega) s6⟩, ⟨at' 8 10 (by omega) s8, at' 9 112 (by omega) s9, at' 10 128 (by omega) s10, at' 12 1 (by omega) s12⟩, at' 14 89 (by omega) s14, at' 15 128 (by omega) s15, at' 19 8 (by omega) h19⟩
