/-! the unit that a direction is told, as a list of octets -/
def uLn (g : mSt) (d : Nat) : Nat := (g 111 d).toInt.toNat
def uL (g : mSt) (d : Nat) : List Int32 := (List.range (uLn g d)).map fun j => g 768 (8192 * d + j)
def by8 (v a : Int32) : Int32 := (v.toUInt32 >>> (a.toUInt32 &&& Int32.toUInt32 31)).toInt32 &&& 255
def w4 (v : Int32) : List Int32 := [by8 v 24, by8 v 16, by8 v 8, by8 v 0]
theorem uL_len {g : mSt} {d : Nat} : (uL g d).length = uLn g d := by
  unfold uL
  rw [List.length_map, List.length_range]
theorem uL_push {g g1 g2 : mSt} {d : Nat} {x v z : Int32} (hz : z = g 111 d) (h0 : 0 ≤ z.toInt) (e1 : g1 = up2 g 768 (8192 * d + z.toNatClampNeg) x) (hv : v.toInt = z.toInt + 1) (e2 : g2 = up2 g1 111 d v) : uLn g2 d = uLn g d + 1 ∧ uL g2 d = uL g d ++ [x] := by
  have hn : uLn g d = z.toInt.toNat := by
    unfold uLn
    rw [hz]
  have hn2 : uLn g2 d = uLn g d + 1 := by
    rw [hn]
    unfold uLn
    rw [e2, up2_i, hv]
    omega
  refine ⟨hn2, ?_⟩
  unfold uL
  rw [hn2, List.range_succ, List.map_append, List.map_cons, List.map_nil]
  congr 1
  · refine List.map_congr_left (fun i hi => ?_)
    have hi := List.mem_range.mp hi
    rw [e2, up2_o (by decide), e1, up2_n (by rw [nat_cl]; omega)]
  · rw [e2, up2_o (by decide), e1, hn, nat_cl, up2_i]
theorem s_word {Z : cZ} {d : Nat} {p1 : Int32} {g : mSt} {Φ : Int32 → mSt → Prop} (hn : uLn g d ≤ 196) (h : ∀ g1, uL g1 d = uL g d ++ w4 p1 → Φ 0 g1) : wp_kword Z d p1 g Φ := by
  refine ⟨fun a g2 => ∃ m : Nat, m ≤ 4 ∧ a.toInt = 24 - 8 * (m : Int) ∧ uLn g2 d = uLn g d + m ∧ uL g2 d = uL g d ++ (w4 p1).take m, fun a g2 _ _ ra hP z ez rz => ?_, ⟨0, by decide, by decide, rfl, by rw [List.take_zero, List.append_nil]⟩⟩
  obtain ⟨m, hm, ha, hl, hu⟩ := hP
  have hz : uLn g2 d = z.toInt.toNat := by
    unfold uLn
    rw [ez]
  have rz : 0 ≤ z.toInt ∧ z.toInt ≤ 200 := rz
  refine ⟨fun g3 => uL g3 d = uL g d ++ w4 p1, fun g3 _ _ h3 => h g3 h3, fun c => ?_, fun c => ⟨fun c2 => ?_, fun c2 v13 e13 _ v14 e14 _ g15 e15 v17 e17 _ t17 g18 e18 v19 e19 _ t19 => ?_⟩⟩
  · have h4 : m = 4 := by omega
    show uL g2 d = _
    rw [hu, h4]
    rfl
  · exfalso
    omega
  · obtain ⟨k1, k2⟩ := uL_push ez rz.1 e15 t17 e18
    have hm4 : m < 4 := by omega
    have hb : v14 = by8 p1 a := by rw [e14, e13]; rfl
    refine ⟨m + 1, by omega, by omega, by omega, ?_⟩
    rw [k2, hu, List.append_assoc, hb]
    congr 1
    rcases (by omega : m = 0 ∨ m = 1 ∨ m = 2 ∨ m = 3) with q | q | q | q
    · subst q
      have : a = 24 := Int32.toInt_inj.mp (by rw [ha]; decide)
      rw [this]
      rfl
    · subst q
      have : a = 16 := Int32.toInt_inj.mp (by rw [ha]; decide)
      rw [this]
      rfl
    · subst q
      have : a = 8 := Int32.toInt_inj.mp (by rw [ha]; decide)
      rw [this]
      rfl
    · subst q
      have : a = 0 := Int32.toInt_inj.mp (by rw [ha]; decide)
      rw [this]
      rfl
theorem s_row {Z : cZ} {d q1 : Nat} {p2 p3 : Int32} {g : mSt} {Φ : Int32 → mSt → Prop} (h2 : 0 ≤ p2.toInt) (h3 : 0 ≤ p3.toInt) (h4 : p2.toInt + p3.toInt ≤ 480) (hn : (uLn g d : Int) + p3.toInt ≤ 200) (h : ∀ g1, uL g1 d = uL g d ++ ((List.range p3.toInt.toNat).map fun j => g 1248 (8192 * q1 + (p2.toInt.toNat + j))) → Φ 0 g1) : wp_krow_39 Z d q1 p2 p3 g Φ := by
  refine ⟨fun _ => trivial, fun _ => ⟨fun _ => trivial, fun _ v3 e3 r3 t3 => ⟨fun c => ?_, fun c v7 e7 r7 v8 e8 r8 t8 => ⟨fun c8 g13 e13 g15 e15 => ?_, fun c8 => ?_⟩⟩⟩⟩
  · exfalso
    omega
  · have r7 : 0 ≤ v7.toInt ∧ v7.toInt ≤ 200 := r7
    have hl : uLn g d = v7.toInt.toNat := by
      unfold uLn
      rw [e7]
    have hl1 : uLn g15 d = uLn g d + p3.toInt.toNat := by
      rw [hl]
      unfold uLn
      rw [e15, up2_i, t8]
      omega
    refine h g15 ?_
    unfold uL
    rw [hl1, List.range_add, List.map_append, List.map_map]
    congr 1
    · refine List.map_congr_left (fun i hi => ?_)
      have hi := List.mem_range.mp hi
      rw [e15, up2_o (by decide), e13, cCpy_x (by rw [nat_cl, nat_cl]; omega)]
    · refine List.map_congr_left (fun i hi => ?_)
      have hi := List.mem_range.mp hi
      show g15 768 (8192 * d + (uLn g d + i)) = _
      rw [e15, up2_o (by decide), e13, cCpy_y (by rw [nat_cl, nat_cl]; omega)]
      congr 1
      rw [nat_cl, nat_cl]
      omega
  · exfalso
    have : uLn g d = v7.toInt.toNat := by
      unfold uLn
      rw [e7]
    have r7 : 0 ≤ v7.toInt ∧ v7.toInt ≤ 200 := r7
    omega
theorem s_cellsFor {Z : cZ} {p1 : Int32} {g : mSt} {Φ : Int32 → mSt → Prop} (h : ∀ r : Int32, r.toInt = (p1.toInt + 55) / 48 → Φ r g) : wp_kcellsFor Z p1 g Φ := by
  intro v1 e1 r1 t1 v3 e3 r3 t3 v5 e5 r5 t5 v7 e7 r7 t7
  exact h v7 (by omega)
theorem s_fill {Z : cZ} {q1 : Nat} {p2 p3 p4 : Int32} {g : mSt} {Φ : Int32 → mSt → Prop} (h2 : 0 ≤ p2.toInt) (h3 : p2.toInt ≤ p3.toInt) (h4 : p3.toInt ≤ 240) (h : ∀ g1, (∀ j : Nat, p2.toInt ≤ (j : Int) → (j : Int) < p3.toInt → g1 768 (8192 * q1 + j) = p4) → (∀ i, (∀ j : Nat, p2.toInt ≤ (j : Int) → (j : Int) < p3.toInt → i ≠ 8192 * q1 + j) → g1 768 i = g 768 i) → Φ 0 g1) : wp_kfill_24 Z q1 p2 p3 p4 g Φ := by
  have k240 : (240 : Int32).toInt = 240 := by decide
  refine ⟨fun c => ⟨fun c1 => ⟨fun c2 hpo => ?_, fun _ => trivial⟩, fun _ => trivial⟩, fun _ => trivial⟩
  refine ⟨fun a g4 => p2.toInt ≤ a.toInt ∧ a.toInt ≤ p3.toInt ∧ (∀ j : Nat, p2.toInt ≤ (j : Int) → (j : Int) < a.toInt → g4 768 (8192 * q1 + j) = p4) ∧ (∀ i, (∀ j : Nat, p2.toInt ≤ (j : Int) → (j : Int) < a.toInt → i ≠ 8192 * q1 + j) → g4 768 i = g 768 i), fun a g4 _ _ ra hP => ⟨fun c3 => ?_, fun c3 g8 e8 v9 e9 r9 t9 => ?_⟩, ⟨Int.le_refl _, h3, fun j a b => absurd a (by omega), fun _ _ => rfl⟩⟩
  · obtain ⟨a1, a2, a3, a4⟩ := hP
    have e : a.toInt = p3.toInt := by omega
    rw [e] at a3 a4
    exact h g4 a3 a4
  · obtain ⟨a1, a2, a3, a4⟩ := hP
    refine ⟨by omega, by omega, fun j hj1 hj2 => ?_, fun i hi => ?_⟩
    · by_cases hj : (j : Int) = a.toInt
      · have : 8192 * q1 + j = 8192 * q1 + a.toNatClampNeg := by rw [nat_cl]; omega
        rw [e8, this, up2_i]
      · rw [e8, up2_n (by rw [nat_cl]; omega)]
        exact a3 j hj1 (by omega)
    · have hne : i ≠ 8192 * q1 + a.toNatClampNeg := by
        have := hi a.toInt.toNat (by omega) (by omega)
        rw [nat_cl]
        exact this
      rw [e8, up2_n hne]
      exact a4 i (fun j hj1 hj2 => hi j hj1 (by omega))
