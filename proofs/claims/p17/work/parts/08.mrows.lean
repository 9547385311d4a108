/-! INTERVALS: what is known of a number -/
def rg (a b : Int) (v : Int32) : Prop := a ≤ v.toInt ∧ v.toInt ≤ b
theorem rg_w {a b c d : Int} {v : Int32} (r : rg a b v) (h : (decide (c ≤ a) && decide (b ≤ d)) = true) : rg c d v := by
  rw [Bool.and_eq_true] at h
  exact ⟨Int.le_trans (of_decide_eq_true h.1) r.1, Int.le_trans r.2 (of_decide_eq_true h.2)⟩
theorem rg_any (v : Int32) : rg (-2147483648) 2147483647 v := by
  have h1 := Int32.le_toInt v
  have h2 := Int32.toInt_lt v
  exact ⟨by omega, by omega⟩
theorem ti_add {x y : Int32} (h1 : -2147483648 ≤ x.toInt + y.toInt) (h2 : x.toInt + y.toInt ≤ 2147483647) : (x + y).toInt = x.toInt + y.toInt := by
  rw [Int32.toInt_add, Int.bmod_def]; omega
theorem ti_sub {x y : Int32} (h1 : -2147483648 ≤ x.toInt - y.toInt) (h2 : x.toInt - y.toInt ≤ 2147483647) : (x - y).toInt = x.toInt - y.toInt := by
  rw [Int32.toInt_sub, Int.bmod_def]; omega
theorem ti_mul {x y : Int32} (h1 : -2147483648 ≤ x.toInt * y.toInt) (h2 : x.toInt * y.toInt ≤ 2147483647) : (x * y).toInt = x.toInt * y.toInt := by
  rw [Int32.toInt_mul, Int.bmod_def]; omega
theorem rg_add {x y v : Int32} {a b c d : Int} (e : v = x + y) (r1 : rg a b x) (r2 : rg c d y) (h : (decide (-2147483648 ≤ a + c) && decide (b + d ≤ 2147483647)) = true) : rg (a + c) (b + d) v ∧ v.toInt = x.toInt + y.toInt := by
  rw [Bool.and_eq_true] at h
  have h1 := of_decide_eq_true h.1
  have h2 := of_decide_eq_true h.2
  have r1 : a ≤ x.toInt ∧ x.toInt ≤ b := r1
  have r2 : c ≤ y.toInt ∧ y.toInt ≤ d := r2
  have q := ti_add (x := x) (y := y) (by omega) (by omega)
  rw [e]
  exact ⟨⟨by omega, by omega⟩, q⟩
theorem rg_sub {x y v : Int32} {a b c d : Int} (e : v = x - y) (r1 : rg a b x) (r2 : rg c d y) (h : (decide (-2147483648 ≤ a - d) && decide (b - c ≤ 2147483647)) = true) : rg (a - d) (b - c) v ∧ v.toInt = x.toInt - y.toInt := by
  rw [Bool.and_eq_true] at h
  have h1 := of_decide_eq_true h.1
  have h2 := of_decide_eq_true h.2
  have r1 : a ≤ x.toInt ∧ x.toInt ≤ b := r1
  have r2 : c ≤ y.toInt ∧ y.toInt ≤ d := r2
  have q := ti_sub (x := x) (y := y) (by omega) (by omega)
  rw [e]
  exact ⟨⟨by omega, by omega⟩, q⟩
/-- times a constant that isn't below 0 -/
theorem rg_mul {x y v : Int32} {a b k : Int} (e : v = x * y) (r1 : rg a b x) (r2 : rg k k y) (h : (decide (0 ≤ k) && (decide (-2147483648 ≤ a * k) && decide (b * k ≤ 2147483647))) = true) : rg (a * k) (b * k) v ∧ v.toInt = x.toInt * k := by
  rw [Bool.and_eq_true, Bool.and_eq_true] at h
  have h0 := of_decide_eq_true h.1
  have h1 := of_decide_eq_true h.2.1
  have h2 := of_decide_eq_true h.2.2
  have hy : y.toInt = k := Int.le_antisymm r2.2 r2.1
  have q1 : a * k ≤ x.toInt * k := Int.mul_le_mul_of_nonneg_right r1.1 h0
  have q2 : x.toInt * k ≤ b * k := Int.mul_le_mul_of_nonneg_right r1.2 h0
  have q := ti_mul (x := x) (y := y) (by rw [hy]; omega) (by rw [hy]; omega)
  rw [hy] at q
  rw [e]
  exact ⟨⟨by omega, by omega⟩, q⟩
theorem rg_mulL {x y v : Int32} {a b k : Int} (e : v = y * x) (r2 : rg k k y) (r1 : rg a b x) (h : (decide (0 ≤ k) && (decide (-2147483648 ≤ a * k) && decide (b * k ≤ 2147483647))) = true) : rg (a * k) (b * k) v ∧ v.toInt = x.toInt * k := rg_mul (e.trans (Int32.mul_comm y x)) r1 r2 h
theorem ti_div {x y : Int32} {k : Int} (hx : 0 ≤ x.toInt) (hk : 0 < k) (hy : y.toInt = k) : (x / y).toInt = x.toInt / k := by
  have h2 := Int32.toInt_lt x
  rw [Int32.toInt_div, hy, Int.tdiv_eq_ediv_of_nonneg hx]
  have q1 : 0 ≤ x.toInt / k := Int.ediv_nonneg hx (Int.le_of_lt hk)
  have q2 : x.toInt / k ≤ x.toInt := Int.ediv_le_self k hx
  rw [Int.bmod_def]; omega
theorem rg_div {x y v : Int32} {a b k : Int} (e : v = x / y) (r1 : rg a b x) (r2 : rg k k y) (h : (decide (0 < k) && decide (0 ≤ a)) = true) : rg (a / k) (b / k) v ∧ v.toInt = x.toInt / k := by
  rw [Bool.and_eq_true] at h
  have h0 := of_decide_eq_true h.1
  have h1 := of_decide_eq_true h.2
  have hy : y.toInt = k := Int.le_antisymm r2.2 r2.1
  have q := ti_div (x := x) (Int.le_trans h1 r1.1) h0 hy
  rw [e]
  exact ⟨⟨by rw [q]; exact Int.ediv_le_ediv h0 r1.1, by rw [q]; exact Int.ediv_le_ediv h0 r1.2⟩, q⟩
theorem rg_rem {x y v : Int32} {a b k : Int} (e : v = x - x / y * y) (r1 : rg a b x) (r2 : rg k k y) (h : (decide (0 < k) && decide (0 ≤ a)) = true) : rg 0 (k - 1) v ∧ v.toInt = x.toInt % k := by
  rw [Bool.and_eq_true] at h
  have h0 := of_decide_eq_true h.1
  have h1 := of_decide_eq_true h.2
  have hy : y.toInt = k := Int.le_antisymm r2.2 r2.1
  have hx : 0 ≤ x.toInt := Int.le_trans h1 r1.1
  have h2 := Int32.toInt_lt x
  have q := ti_div (x := x) hx h0 hy
  have d1 : 0 ≤ x.toInt / k := Int.ediv_nonneg hx (Int.le_of_lt h0)
  have d2 : x.toInt / k * k ≤ x.toInt := Int.ediv_mul_le x.toInt (by omega)
  have d3 : 0 ≤ x.toInt / k * k := Int.mul_nonneg d1 (Int.le_of_lt h0)
  have q2 := ti_mul (x := x / y) (y := y) (by rw [q, hy]; omega) (by rw [q, hy]; omega)
  rw [q, hy] at q2
  have q3 := ti_sub (x := x) (y := x / y * y) (by rw [q2]; omega) (by rw [q2]; omega)
  rw [q2] at q3
  have q4 : x.toInt - x.toInt / k * k = x.toInt % k := by rw [Int.emod_def, Int.mul_comm]
  rw [q4] at q3
  have m1 := Int.emod_nonneg x.toInt (b := k) (by omega)
  have m2 := Int.emod_lt_of_pos x.toInt h0
  rw [e]
  exact ⟨⟨by omega, by omega⟩, q3⟩
theorem rg_and {x y v : Int32} (e : v = x &&& y) (k : Nat) (m : Int) (hm : y.toBitVec.toNat = 2 ^ k - 1) (h : (decide (k ≤ 30) && decide (m = 2 ^ k - 1)) = true) : rg 0 m v := by
  rw [Bool.and_eq_true] at h
  have hk := of_decide_eq_true h.1
  have h1 := of_decide_eq_true h.2
  rw [e, pk_and x k hm]
  have p : 0 < 2 ^ k := Nat.pow_pos (by decide)
  have hl := Nat.mod_lt x.toBitVec.toNat p
  have h30 : 2 ^ k ≤ 2 ^ 30 := Nat.pow_le_pow_right (by decide) hk
  have q := nI_toInt (n := x.toBitVec.toNat % 2 ^ k) (by omega)
  have q2 : ((x.toBitVec.toNat % 2 ^ k : Nat) : Int) < ((2 ^ k : Nat) : Int) := by exact_mod_cast hl
  have q3 : ((2 ^ k : Nat) : Int) = 2 ^ k := by push_cast; rfl
  exact ⟨by rw [q]; exact Int.natCast_nonneg _, by rw [q, h1]; omega⟩
theorem rg_lt {x y : Int32} {a b c d : Int} (h : x < y) (r1 : rg a b x) (r2 : rg c d y) : rg a (min b (d - 1)) x ∧ rg (max c (a + 1)) d y := by
  have h := Int32.lt_iff_toInt_lt.mp h
  have r1 : a ≤ x.toInt ∧ x.toInt ≤ b := r1
  have r2 : c ≤ y.toInt ∧ y.toInt ≤ d := r2
  exact ⟨⟨r1.1, by omega⟩, ⟨by omega, r2.2⟩⟩
theorem rg_le {x y : Int32} {a b c d : Int} (h : x ≤ y) (r1 : rg a b x) (r2 : rg c d y) : rg a (min b d) x ∧ rg (max c a) d y := by
  have h := Int32.le_iff_toInt_le.mp h
  have r1 : a ≤ x.toInt ∧ x.toInt ≤ b := r1
  have r2 : c ≤ y.toInt ∧ y.toInt ≤ d := r2
  exact ⟨⟨r1.1, by omega⟩, ⟨by omega, r2.2⟩⟩
theorem rg_nlt {x y : Int32} (h : ¬ x < y) : y ≤ x := Int32.not_lt.mp h
theorem rg_nle {x y : Int32} (h : ¬ x ≤ y) : y < x := Int32.not_le.mp h
theorem rg_eq {x y : Int32} {a b c d : Int} (h : x = y) (r1 : rg a b x) (r2 : rg c d y) : rg (max a c) (min b d) x ∧ rg (max a c) (min b d) y := by
  subst h
  have r1 : a ≤ x.toInt ∧ x.toInt ≤ b := r1
  have r2 : c ≤ x.toInt ∧ x.toInt ≤ d := r2
  exact ⟨⟨by omega, by omega⟩, ⟨by omega, by omega⟩⟩
/-- not the one end of its range -/
theorem rg_neH {x y : Int32} {a b : Int} (h : ¬ x = y) (r1 : rg a b x) (r2 : rg b b y) : rg a (b - 1) x := by
  have r1 : a ≤ x.toInt ∧ x.toInt ≤ b := r1
  have r2 : b ≤ y.toInt ∧ y.toInt ≤ b := r2
  exact ⟨r1.1, by
    by_cases q : x.toInt = b
    · exact absurd (Int32.toInt_inj.mp (q.trans (Int.le_antisymm r2.1 r2.2))) h
    · omega⟩
theorem rg_neL {x y : Int32} {a b : Int} (h : ¬ x = y) (r1 : rg a b x) (r2 : rg a a y) : rg (a + 1) b x := by
  have r1 : a ≤ x.toInt ∧ x.toInt ≤ b := r1
  have r2 : a ≤ y.toInt ∧ y.toInt ≤ a := r2
  exact ⟨by
    by_cases q : x.toInt = a
    · exact absurd (Int32.toInt_inj.mp (q.trans (Int.le_antisymm r2.1 r2.2))) h
    · omega, r1.2⟩
theorem rg_dead {x : Int32} {a b : Int} (r : rg a b x) (h : decide (b < a) = true) : False := by
  have h := of_decide_eq_true h
  have r : a ≤ x.toInt ∧ x.toInt ≤ b := r
  omega
theorem rg_in {x : Int32} {a b : Int} {N : Nat} (r : rg a b x) (h : (decide (0 ≤ a) && decide (b < (N : Int))) = true) : vp_in x N := by
  rw [Bool.and_eq_true] at h
  have h0 := of_decide_eq_true h.1
  have h1 := of_decide_eq_true h.2
  exact vp_in_iff.mpr ⟨Int.le_trans h0 r.1, Int.lt_of_le_of_lt r.2 h1⟩
