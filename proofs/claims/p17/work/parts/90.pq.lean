/-! queues of cells, in their order -/
theorem nat_cl (x : Int32) : x.toNatClampNeg = x.toInt.toNat := rfl
theorem cCpy_x {g : mSt} {j1 a j2 b n k : Nat} (h : ¬ (b ≤ k ∧ k < b + n)) : cCpy g j1 a j2 b n j2 k = g j2 k := if_neg (fun q => h q.2)
theorem cCpy_y {g : mSt} {j1 a j2 b n k : Nat} (h : b ≤ k ∧ k < b + n) : cCpy g j1 a j2 b n j2 k = g j1 (a + (k - b)) := if_pos ⟨rfl, h⟩
theorem cCpy_r {g : mSt} {j1 a j2 b n j k : Nat} (h : j ≠ j2) : cCpy g j1 a j2 b n j k = g j k := if_neg (fun q => h q.1)
def qPl (g : mSt) (q k : Nat) : Nat := ((g 66 q).toInt.toNat + k) % 40
def qSz (g : mSt) (q : Nat) : Nat := (g 67 q).toInt.toNat
def qC (g : mSt) (q k : Nat) : Int32 × List Int32 := (g 576 (8192 * q + qPl g q k), (List.range 48).map fun j => g 544 (8192 * q + (48 * qPl g q k + j)))
def qL (g : mSt) (q : Nat) : List (Int32 × List Int32) := (List.range (qSz g q)).map (qC g q)
theorem qL_len {g : mSt} {q : Nat} : (qL g q).length = qSz g q := by
  unfold qL
  rw [List.length_map, List.length_range]
theorem qL_ext {g g1 : mSt} {q q1 : Nat} (h : qSz g1 q1 = qSz g q) (k : ∀ i, i < qSz g q → qC g1 q1 i = qC g q i) : qL g1 q1 = qL g q := by
  unfold qL
  rw [h]
  exact List.map_congr_left (fun i hi => k i (List.mem_range.mp hi))
theorem qL_add {g g1 : mSt} {q : Nat} {c : Int32 × List Int32} (h : qSz g1 q = qSz g q + 1) (k : ∀ i, i < qSz g q → qC g1 q i = qC g q i) (e : qC g1 q (qSz g q) = c) : qL g1 q = qL g q ++ [c] := by
  unfold qL
  rw [h, List.range_succ, List.map_append, List.map_congr_left (fun i hi => k i (List.mem_range.mp hi)), List.map_cons, List.map_nil, e]
theorem qL_take {g g1 : mSt} {q : Nat} (h : qSz g q = qSz g1 q + 1) (k : ∀ i, i < qSz g1 q → qC g1 q i = qC g q (i + 1)) : qL g q = qC g q 0 :: qL g1 q := by
  unfold qL
  rw [h, List.range_succ_eq_map, List.map_cons, List.map_map]
  congr 1
  exact (List.map_congr_left (fun i hi => k i (List.mem_range.mp hi))).symm
/-- a cell's octets out of a row of octets -/
def oc48 (g : mSt) (j a : Nat) : List Int32 := (List.range 48).map fun i => g j (a + i)
theorem qPl_eq {g g1 : mSt} {q k : Nat} (h : g1 66 q = g 66 q) : qPl g1 q k = qPl g q k := by
  unfold qPl
  rw [h]
theorem map48 {f f1 : Nat → Int32} (h : ∀ j, j < 48 → f1 j = f j) : (List.range 48).map f1 = (List.range 48).map f := List.map_congr_left (fun i hi => h i (List.mem_range.mp hi))
theorem cell_ext {a a1 : Int32} {f f1 : Nat → Int32} (h : a1 = a) (k : ∀ j, j < 48 → f1 j = f j) : (a1, (List.range 48).map f1) = (a, (List.range 48).map f) := by rw [h, map48 k]
theorem k48 : (48 : Int32).toNatClampNeg = 48 := by decide
/-- a cell behind the others -/
theorem s_qadd {Z : cZ} {i0 q2 : Nat} {p1 p3 : Int32} {g : mSt} {Φ : Int32 → mSt → Prop} (hp : 0 ≤ p3.toInt ∧ p3.toInt + 48 ≤ 240) (h0 : qSz g i0 = 40 → Φ 0 g) (h1 : ∀ g1, qSz g i0 < 40 → qL g1 i0 = qL g i0 ++ [(p1, oc48 g 768 (8192 * q2 + p3.toInt.toNat))] → Φ 1 g1) : wp_kqadd_24 Z i0 p1 q2 p3 g Φ := by
  intro v1 e1 r1
  have hs : qSz g i0 = v1.toInt.toNat := by
    unfold qSz
    rw [e1]
  have r1 : 0 ≤ v1.toInt ∧ v1.toInt ≤ 40 := r1
  refine ⟨fun c => h0 (by omega), fun c => ⟨fun _ => trivial, fun _ v6 e6 r6 t6 => ⟨fun c6 v11 e11 r11 v13 e13 r13 t13 v14 e14 r14 t14 g17 e17 v19 e19 r19 t19 g21 e21 v23 e23 r23 t23 g25 e25 => ?_, fun c6 => ?_⟩⟩⟩
  · have r11 : 0 ≤ v11.toInt ∧ v11.toInt ≤ 39 := r11
    have r14 : 0 ≤ v14.toInt ∧ v14.toInt ≤ 39 := r14
    have hf : (g 66 i0).toInt = v11.toInt := by rw [e11]
    have a66 : g25 66 i0 = g 66 i0 := by rw [e25, up2_o (by decide), e21, cCpy_r (by decide), e17, up2_o (by decide)]
    have hpl : ∀ k, qPl g25 i0 k = (v11.toInt.toNat + k) % 40 := fun k => by
      rw [qPl_eq a66]
      unfold qPl
      rw [hf]
    have hpg : ∀ k, qPl g i0 k = (v11.toInt.toNat + k) % 40 := fun k => by
      unfold qPl
      rw [hf]
    have hs1 : qSz g25 i0 = qSz g i0 + 1 := by
      unfold qSz
      rw [e25, up2_i, t23, ← e1]
      omega
    refine h1 g25 (by omega) (qL_add hs1 (fun k hk => ?_) ?_)
    · unfold qC
      rw [hpl, hpg]
      refine cell_ext ?_ (fun j hj => ?_)
      · rw [e25, up2_o (by decide), e21, cCpy_r (by decide), e17, up2_n (by rw [nat_cl]; omega)]
      · rw [e25, up2_o (by decide), e21, cCpy_x (by rw [nat_cl, k48]; omega), e17, up2_o (by decide)]
    · unfold qC
      have hp2 : qPl g25 i0 (qSz g i0) = v14.toInt.toNat := by
        rw [hpl]
        omega
      unfold oc48
      rw [hp2]
      refine cell_ext ?_ (fun j hj => ?_)
      · rw [e25, up2_o (by decide), e21, cCpy_r (by decide), e17, nat_cl, up2_i]
      · rw [e25, up2_o (by decide), e21, cCpy_y (by rw [nat_cl, k48]; omega), e17, up2_o (by decide)]
        congr 1
        rw [nat_cl, nat_cl]
        omega
  · exfalso
    omega
/-- the first cell goes to the wire -/
theorem s_qtake {Z : cZ} {i0 q1 : Nat} {p2 : Int32} {g : mSt} {Φ : Int32 → mSt → Prop} (hp : 0 ≤ p2.toInt ∧ p2.toInt + 48 ≤ 212) (h0 : qSz g i0 = 0 → Φ 1 g) (h1 : ∀ g1 hd oc, qL g i0 = (hd, oc) :: qL g1 i0 → oc48 g1 608 (8192 * q1 + p2.toInt.toNat) = oc → (∀ i, i < 8192 * q1 + p2.toInt.toNat ∨ 8192 * q1 + p2.toInt.toNat + 48 ≤ i → g1 608 i = g 608 i) → Φ hd g1) : wp_kqtake Z i0 q1 p2 g Φ := by
  intro v1 e1 r1
  have hs : qSz g i0 = v1.toInt.toNat := by
    unfold qSz
    rw [e1]
  have r1 : 0 ≤ v1.toInt ∧ v1.toInt ≤ 40 := r1
  refine ⟨fun c => h0 (by omega), fun c => ⟨fun _ => trivial, fun _ v6 e6 r6 t6 => ⟨fun c6 v11 e11 r11 v13 e13 r13 t13 g15 e15 v17 e17 r17 t17 v19 e19 r19 t19 g21 e21 v23 e23 r23 t23 g25 e25 v27 e27 r27 => ?_, fun c6 => ?_⟩⟩⟩
  · have r11 : 0 ≤ v11.toInt ∧ v11.toInt ≤ 39 := r11
    have hf : (g 66 i0).toInt = v11.toInt := by rw [e11]
    have hf1 : (g25 66 i0).toInt = v19.toInt := by rw [e25, up2_o (by decide), e21, up2_i]
    have hpl : ∀ k, qPl g25 i0 k = qPl g i0 (k + 1) := fun k => by
      unfold qPl
      rw [hf, hf1]
      omega
    have hp0 : qPl g i0 0 = v11.toInt.toNat := by
      unfold qPl
      rw [hf]
      omega
    have hs1 : qSz g i0 = qSz g25 i0 + 1 := by
      have : qSz g25 i0 = v23.toInt.toNat := by
        unfold qSz
        rw [e25, up2_i]
      omega
    have e576 : ∀ i, g25 576 i = g 576 i := fun i => by rw [e25, up2_o (by decide), e21, up2_o (by decide), e15, cCpy_r (by decide)]
    have e544 : ∀ i, g25 544 i = g 544 i := fun i => by rw [e25, up2_o (by decide), e21, up2_o (by decide), e15, cCpy_r (by decide)]
    have e608 : ∀ i, g25 608 i = g15 608 i := fun i => by rw [e25, up2_o (by decide), e21, up2_o (by decide)]
    have hq := qL_take (g := g) (g1 := g25) (q := i0) hs1 (fun k hk => by
      unfold qC
      rw [hpl]
      exact cell_ext (e576 _) (fun j _ => e544 _))
    have hv : v27 = (qC g i0 0).1 := by
      rw [e27, e576]
      unfold qC
      rw [hp0, nat_cl]
    rw [hv]
    refine h1 g25 _ (qC g i0 0).2 hq ?_ (fun i hi => ?_)
    · unfold qC oc48
      rw [hp0]
      show List.map _ _ = List.map _ _
      refine map48 fun j hj => ?_
      rw [e608, e15, cCpy_y (by rw [nat_cl, k48]; omega)]
      congr 1
      rw [nat_cl, nat_cl]
      omega
    · rw [e608, e15, cCpy_x (by rw [nat_cl, k48]; omega)]
  · exfalso
    omega
