/-! the world behind the constructor -/
def dA (sz d : Nat) : Nat := sz + 8 + 75 * (d / 2) + 17 * (d % 2)
def lA (sz n s : Nat) : Nat := if s < n then sz + 8 + 75 * s + 35 else sz + 8 + 75 * (s - n) + 58
def iA (a e0 sz n K i : Nat) : Nat := match K with
  | 0 => dA sz i + 9
  | 2 => dA sz (i / 2) + 1 + 3 * (i % 2)
  | 3 => dA sz i
  | 4 => sz + 8 + 75 * i + 34
  | 5 => lA sz n i
  | 6 => lA sz n i + 1
  | 7 => dA sz i + 7
  | 9 => sz
  | 10 => sz + 8 + 75 * i + 57
  | 11 => a
  | 12 => (if i < n then sz + 8 + 75 * i + 51 else sz + 8 + 75 * (i - n) + 74)
  | 13 => lA sz n (i / 2) + 6 + 5 * (i % 2)
  | 16 => dA sz i + 10
  | 17 => dA sz (i / 2) + 2 + 3 * (i % 2)
  | 18 => dA sz (i / 2) + 3 + 3 * (i % 2)
  | 19 => dA sz i + 11
  | 20 => dA sz i + 12
  | 21 => dA sz i + 13
  | 22 => dA sz i + 14
  | 23 => dA sz i + 15
  | 24 => dA sz i + 16
  | 25 => dA sz i + 8
  | 26 => lA sz n i + 2
  | 27 => lA sz n i + 3
  | 28 => lA sz n i + 4
  | 29 => lA sz n i + 5
  | 30 => sz + 8 + 75 * i + 53
  | 31 => sz + 8 + 75 * i + 54
  | 32 => sz + 8 + 75 * i + 55
  | 33 => sz + 8 + 75 * i + 56
  | 34 => sz + 1
  | 35 => sz + 2
  | 36 => sz + 3
  | 39 => lA sz n (i / 2) + 7 + 5 * (i % 2)
  | 40 => lA sz n (i / 2) + 8 + 5 * (i % 2)
  | 41 => lA sz n (i / 2) + 9 + 5 * (i % 2)
  | 42 => lA sz n (i / 2) + 10 + 5 * (i % 2)
  | 48 => sz + 8 + 75 * i + 52
  | 49 => sz + 6
  | 50 => sz + 4
  | 51 => sz + 5
  | 52 => sz + 7
  | _ => e0
def zI (a e0 sz n : Nat) : cZ := (iA a e0 sz n, fun K i => i < cCt n K, n, fun _ => 0)
def gI : mSt := fun j _ => if j = 192 then 10 else if j = 416 then 8 else if j = 133 then 1 else if j = 385 ∨ j = 43 ∨ j = 1536 ∨ j = 1728 then -1 else 0
theorem r613 {G : cG} {U : State} (hK : cK G U) {a : Nat} {V : Nat → Value} {H : Heap} (h : rOb G a 6 V H) : t_OB a (G.1 13) 7 (G.2.1 13) H V := by
  obtain ⟨cell, q1, q2, q3, q4⟩ := h
  obtain ⟨hS, hfc, -⟩ := hK.1 6 rfl
  obtain ⟨hS2, hfc2, -⟩ := hK.1 13 rfl
  have e1 : G.1 13 = G.1 6 := Option.some.inj (hfc2.symm.trans hfc)
  refine ⟨cell, q1, by rw [e1]; exact q2, q3, fun f hf => ?_⟩
  obtain ⟨c1, k1, i1, d1, g1, g2⟩ := hS f hf
  obtain ⟨c2, k2, i2, d2, g3, g4⟩ := hS2 f hf
  have : d1 = d2 := by
    have := g1.symm.trans g3
    simp only [Option.some.injEq, Prod.mk.injEq] at this
    exact this.2.2.2
  rw [← g4, ← this, g2]
  exact q4 f hf
theorem r_dir {G : cG} {e0 a sz n : Nat} {V : Nat → Value} {s : State} {H : Heap} (h : rFa G e0 a sz n n V s H) (d : Nat) (hd : d < 2 * n) : rDi G (dA sz d) (dA sz d + 1) H := by
  have hE := h.2.2.2.2.2.2.2.2.2.2.1 (d / 2) (by omega)
  unfold dA
  rcases (by omega : d % 2 = 0 ∨ d % 2 = 1) with e | e <;> rw [e]
  · exact hE.1
  · exact hE.2.1
theorem r_lin {G : cG} {e0 a sz n : Nat} {V : Nat → Value} {s : State} {H : Heap} (h : rFa G e0 a sz n n V s H) (k : Nat) (hk : k < 2 * n) : rLi G (dA sz (cOut n k)) (lA sz n k) (lA sz n k + 1) H := by
  unfold lA cOut
  by_cases hkn : k < n
  · have hE := (h.2.2.2.2.2.2.2.2.2.2.1 k hkn).2.2.1
    rw [if_pos hkn, if_pos hkn, show dA sz (2 * k) = sz + 8 + 75 * k by unfold dA; omega]
    exact hE
  · have hE := (h.2.2.2.2.2.2.2.2.2.2.1 (k - n) (by omega)).2.2.2.2.1
    rw [if_neg hkn, if_neg hkn, show dA sz (2 * (k - n) + 1) = sz + 8 + 75 * (k - n) + 17 by unfold dA; omega]
    exact hE
theorem r_msg {G : cG} {e0 a sz n : Nat} {V : Nat → Value} {s : State} {H : Heap} (h : rFa G e0 a sz n n V s H) (k : Nat) (hk : k < 4 * n) : rMs G 8 (lA sz n (k / 2) + 6 + 5 * (k % 2)) (lA sz n (k / 2) + 7 + 5 * (k % 2)) H := by
  have hL := r_lin h (k / 2) (by omega)
  rcases (by omega : k % 2 = 0 ∨ k % 2 = 1) with e | e <;> rw [e]
  · exact hL.2.2.1
  · exact hL.2.2.2
theorem r_que {G : cG} {e0 a sz n : Nat} {V : Nat → Value} {s : State} {H : Heap} (h : rFa G e0 a sz n n V s H) (k : Nat) (hk : k < 4 * n) : rQu G (dA sz (k / 2) + 1 + 3 * (k % 2)) (dA sz (k / 2) + 2 + 3 * (k % 2)) H := by
  have hL := r_dir h (k / 2) (by omega)
  rcases (by omega : k % 2 = 0 ∨ k % 2 = 1) with e | e <;> rw [e]
  · exact hL.2.1
  · exact hL.2.2.1
set_option maxHeartbeats 8000000 in
set_option maxRecDepth 100000 in
theorem cH_init {G : cG} {U : State} (hK : cK G U) {e0 a sz n : Nat} {s : State} {H : Heap} (hn : 2 ≤ n ∧ n ≤ 4) (h : rFa G e0 a sz n n (vFa sz n) s H) (hem : ∃ c0 : Cell, H[e0]? = some c0) : cH G (zI a e0 sz n) gI H := by
  intro K i hal
  refine ⟨fun n55 => ?_, fun h55 => by
    subst h55
    have hi : i < 1 := hal
    refine ⟨by omega, ?_⟩
    show ∃ c0 : Cell, H[e0]? = some c0
    exact hem⟩
  have hi : i < cCt n K := hal
  have hd := r_dir h
  have hl := r_lin h
  have hm := r_msg h
  have hq := r_que h
  have hE := h.2.2.2.2.2.2.2.2.2.2.1
  have hlt : K < 56 := by
    rcases Nat.lt_or_ge K 56 with z | z
    · exact z
    · have : cCt n K = 0 := by unfold cCt; split <;> first | rfl | omega
      omega
  have ho : K < 16 ∨ (16 ≤ K ∧ K < 48) ∨ 48 ≤ K := by omega
  by_cases h3 : K = 3
  · subst h3
    have hi : i < 2 * n := hi
    unfold cC
    rw [if_pos (by decide)]
    show t_OB (dA sz i) _ _ _ _ _
    refine ((hd i hi).1).to (fun f hf => ?_)
    have hf2 : f < 16 := hf
    rcases (by omega : f = 0 ∨ f = 1 ∨ f = 2 ∨ f = 3 ∨ f = 4 ∨ f = 5 ∨ f = 6 ∨ f = 7 ∨ f = 8 ∨ f = 9 ∨ f = 10 ∨ f = 11 ∨ f = 12 ∨ f = 13 ∨ f = 14 ∨ f = 15) with e | e | e | e | e | e | e | e | e | e | e | e | e | e | e | e <;> subst e
    · show Value.ref (dA sz i + 1) = Value.ref (dA sz ((2 * i) / 2) + 1 + 3 * ((2 * i) % 2))
      exact congrArg Value.ref (show ((dA sz i + 1 : Nat)) = dA sz ((2 * i) / 2) + 1 + 3 * ((2 * i) % 2) from (by first | rfl | (split <;> omega) | (simp only [dA, lA, cOut]; done) | (simp only [dA, lA, cOut]; omega) | (simp only [dA, lA, cOut]; split <;> omega) | (simp only [dA, lA, cOut]; split <;> split <;> omega)))
    · show Value.ref (dA sz i + 1 + 3) = Value.ref (dA sz ((2 * i + 1) / 2) + 1 + 3 * ((2 * i + 1) % 2))
      exact congrArg Value.ref (show ((dA sz i + 1 + 3 : Nat)) = dA sz ((2 * i + 1) / 2) + 1 + 3 * ((2 * i + 1) % 2) from (by first | rfl | (split <;> omega) | (simp only [dA, lA, cOut]; done) | (simp only [dA, lA, cOut]; omega) | (simp only [dA, lA, cOut]; split <;> omega) | (simp only [dA, lA, cOut]; split <;> split <;> omega)))
    · show Value.ref (dA sz i + 1 + 6) = Value.ref (dA sz i + 7)
      exact congrArg Value.ref (show ((dA sz i + 1 + 6 : Nat)) = dA sz i + 7 from (by first | rfl | (split <;> omega) | (simp only [dA, lA, cOut]; done) | (simp only [dA, lA, cOut]; omega) | (simp only [dA, lA, cOut]; split <;> omega) | (simp only [dA, lA, cOut]; split <;> split <;> omega)))
    · show Value.ref (dA sz i + 1 + 8) = Value.ref (dA sz i + 9)
      exact congrArg Value.ref (show ((dA sz i + 1 + 8 : Nat)) = dA sz i + 9 from (by first | rfl | (split <;> omega) | (simp only [dA, lA, cOut]; done) | (simp only [dA, lA, cOut]; omega) | (simp only [dA, lA, cOut]; split <;> omega) | (simp only [dA, lA, cOut]; split <;> split <;> omega)))
    · show Value.ref (dA sz i + 1 + 10) = Value.ref (dA sz i + 11)
      exact congrArg Value.ref (show ((dA sz i + 1 + 10 : Nat)) = dA sz i + 11 from (by first | rfl | (split <;> omega) | (simp only [dA, lA, cOut]; done) | (simp only [dA, lA, cOut]; omega) | (simp only [dA, lA, cOut]; split <;> omega) | (simp only [dA, lA, cOut]; split <;> split <;> omega)))
    · rfl
    · show Value.ref (dA sz i + 1 + 11) = Value.ref (dA sz i + 12)
      exact congrArg Value.ref (show ((dA sz i + 1 + 11 : Nat)) = dA sz i + 12 from (by first | rfl | (split <;> omega) | (simp only [dA, lA, cOut]; done) | (simp only [dA, lA, cOut]; omega) | (simp only [dA, lA, cOut]; split <;> omega) | (simp only [dA, lA, cOut]; split <;> split <;> omega)))
    · show Value.ref (dA sz i + 1 + 12) = Value.ref (dA sz i + 13)
      exact congrArg Value.ref (show ((dA sz i + 1 + 12 : Nat)) = dA sz i + 13 from (by first | rfl | (split <;> omega) | (simp only [dA, lA, cOut]; done) | (simp only [dA, lA, cOut]; omega) | (simp only [dA, lA, cOut]; split <;> omega) | (simp only [dA, lA, cOut]; split <;> split <;> omega)))
    · show Value.ref (dA sz i + 1 + 13) = Value.ref (dA sz i + 14)
      exact congrArg Value.ref (show ((dA sz i + 1 + 13 : Nat)) = dA sz i + 14 from (by first | rfl | (split <;> omega) | (simp only [dA, lA, cOut]; done) | (simp only [dA, lA, cOut]; omega) | (simp only [dA, lA, cOut]; split <;> omega) | (simp only [dA, lA, cOut]; split <;> split <;> omega)))
    · show Value.ref (dA sz i + 1 + 14) = Value.ref (dA sz i + 15)
      exact congrArg Value.ref (show ((dA sz i + 1 + 14 : Nat)) = dA sz i + 15 from (by first | rfl | (split <;> omega) | (simp only [dA, lA, cOut]; done) | (simp only [dA, lA, cOut]; omega) | (simp only [dA, lA, cOut]; split <;> omega) | (simp only [dA, lA, cOut]; split <;> split <;> omega)))
    · rfl
    · rfl
    · rfl
    · rfl
    · show Value.ref (dA sz i + 1 + 15) = Value.ref (dA sz i + 16)
      exact congrArg Value.ref (show ((dA sz i + 1 + 15 : Nat)) = dA sz i + 16 from (by first | rfl | (split <;> omega) | (simp only [dA, lA, cOut]; done) | (simp only [dA, lA, cOut]; omega) | (simp only [dA, lA, cOut]; split <;> omega) | (simp only [dA, lA, cOut]; split <;> split <;> omega)))
    · rfl
  by_cases h2 : K = 2
  · subst h2
    have hi : i < 4 * n := hi
    unfold cC
    rw [if_pos (by decide)]
    show t_OB (dA sz (i / 2) + 1 + 3 * (i % 2)) _ _ _ _ _
    refine ((hq i hi).1).to (fun f hf => ?_)
    have hf2 : f < 4 := hf
    rcases (by omega : f = 0 ∨ f = 1 ∨ f = 2 ∨ f = 3) with e | e | e | e <;> subst e
    · show Value.ref (dA sz (i / 2) + 2 + 3 * (i % 2)) = Value.ref (dA sz (i / 2) + 2 + 3 * (i % 2))
      exact congrArg Value.ref (show ((dA sz (i / 2) + 2 + 3 * (i % 2) : Nat)) = dA sz (i / 2) + 2 + 3 * (i % 2) from (by first | rfl | (split <;> omega) | (simp only [dA, lA, cOut]; done) | (simp only [dA, lA, cOut]; omega) | (simp only [dA, lA, cOut]; split <;> omega) | (simp only [dA, lA, cOut]; split <;> split <;> omega)))
    · show Value.ref (dA sz (i / 2) + 2 + 3 * (i % 2) + 1) = Value.ref (dA sz (i / 2) + 3 + 3 * (i % 2))
      exact congrArg Value.ref (show ((dA sz (i / 2) + 2 + 3 * (i % 2) + 1 : Nat)) = dA sz (i / 2) + 3 + 3 * (i % 2) from (by first | rfl | (split <;> omega) | (simp only [dA, lA, cOut]; done) | (simp only [dA, lA, cOut]; omega) | (simp only [dA, lA, cOut]; split <;> omega) | (simp only [dA, lA, cOut]; split <;> split <;> omega)))
    · rfl
    · rfl
  by_cases h7 : K = 7
  · subst h7
    have hi : i < 2 * n := hi
    unfold cC
    rw [if_pos (by decide)]
    show t_OB (dA sz i + 7) _ _ _ _ _
    refine ((hd i hi).2.2.2.1.1).to (fun f hf => ?_)
    have hf2 : f < 12 := hf
    rcases (by omega : f = 0 ∨ f = 1 ∨ f = 2 ∨ f = 3 ∨ f = 4 ∨ f = 5 ∨ f = 6 ∨ f = 7 ∨ f = 8 ∨ f = 9 ∨ f = 10 ∨ f = 11) with e | e | e | e | e | e | e | e | e | e | e | e <;> subst e
    · show Value.ref (dA sz i + 1 + 7) = Value.ref (dA sz i + 8)
      exact congrArg Value.ref (show ((dA sz i + 1 + 7 : Nat)) = dA sz i + 8 from (by first | rfl | (split <;> omega) | (simp only [dA, lA, cOut]; done) | (simp only [dA, lA, cOut]; omega) | (simp only [dA, lA, cOut]; split <;> omega) | (simp only [dA, lA, cOut]; split <;> split <;> omega)))
    · rfl
    · rfl
    · rfl
    · rfl
    · rfl
    · rfl
    · rfl
    · rfl
    · rfl
    · rfl
    · rfl
  by_cases h0 : K = 0
  · subst h0
    have hi : i < 2 * n := hi
    unfold cC
    rw [if_pos (by decide)]
    show t_OB (dA sz i + 9) _ _ _ _ _
    refine ((hd i hi).2.2.2.2.1.1).to (fun f hf => ?_)
    have hf2 : f < 3 := hf
    rcases (by omega : f = 0 ∨ f = 1 ∨ f = 2) with e | e | e <;> subst e
    · show Value.ref (dA sz i + 1 + 9) = Value.ref (dA sz i + 10)
      exact congrArg Value.ref (show ((dA sz i + 1 + 9 : Nat)) = dA sz i + 10 from (by first | rfl | (split <;> omega) | (simp only [dA, lA, cOut]; done) | (simp only [dA, lA, cOut]; omega) | (simp only [dA, lA, cOut]; split <;> omega) | (simp only [dA, lA, cOut]; split <;> split <;> omega)))
    · rfl
    · rfl
  by_cases h5 : K = 5
  · subst h5
    have hi : i < 2 * n := hi
    unfold cC
    rw [if_pos (by decide)]
    show t_OB (lA sz n i) _ _ _ _ _
    refine ((hl i hi).1).to (fun f hf => ?_)
    have hf2 : f < 21 := hf
    rcases (by omega : f = 0 ∨ f = 1 ∨ f = 2 ∨ f = 3 ∨ f = 4 ∨ f = 5 ∨ f = 6 ∨ f = 7 ∨ f = 8 ∨ f = 9 ∨ f = 10 ∨ f = 11 ∨ f = 12 ∨ f = 13 ∨ f = 14 ∨ f = 15 ∨ f = 16 ∨ f = 17 ∨ f = 18 ∨ f = 19 ∨ f = 20) with e | e | e | e | e | e | e | e | e | e | e | e | e | e | e | e | e | e | e | e | e <;> subst e
    · show Value.ref (dA sz (cOut n i)) = Value.ref (dA sz (cOut n i))
      exact congrArg Value.ref (show ((dA sz (cOut n i) : Nat)) = dA sz (cOut n i) from (by first | rfl | (split <;> omega) | (simp only [dA, lA, cOut]; done) | (simp only [dA, lA, cOut]; omega) | (simp only [dA, lA, cOut]; split <;> omega) | (simp only [dA, lA, cOut]; split <;> split <;> omega)))
    · show Value.ref (lA sz n i + 1) = Value.ref (lA sz n i + 1)
      exact congrArg Value.ref (show ((lA sz n i + 1 : Nat)) = lA sz n i + 1 from (by first | rfl | (split <;> omega) | (simp only [dA, lA, cOut]; done) | (simp only [dA, lA, cOut]; omega) | (simp only [dA, lA, cOut]; split <;> omega) | (simp only [dA, lA, cOut]; split <;> split <;> omega)))
    · show Value.ref (lA sz n i + 1 + 5) = Value.ref (lA sz n ((2 * i) / 2) + 6 + 5 * ((2 * i) % 2))
      exact congrArg Value.ref (show ((lA sz n i + 1 + 5 : Nat)) = lA sz n ((2 * i) / 2) + 6 + 5 * ((2 * i) % 2) from (by first | rfl | (split <;> omega) | (simp only [dA, lA, cOut]; done) | (simp only [dA, lA, cOut]; omega) | (simp only [dA, lA, cOut]; split <;> omega) | (simp only [dA, lA, cOut]; split <;> split <;> omega)))
    · show Value.ref (lA sz n i + 1 + 10) = Value.ref (lA sz n ((2 * i + 1) / 2) + 6 + 5 * ((2 * i + 1) % 2))
      exact congrArg Value.ref (show ((lA sz n i + 1 + 10 : Nat)) = lA sz n ((2 * i + 1) / 2) + 6 + 5 * ((2 * i + 1) % 2) from (by first | rfl | (split <;> omega) | (simp only [dA, lA, cOut]; done) | (simp only [dA, lA, cOut]; omega) | (simp only [dA, lA, cOut]; split <;> omega) | (simp only [dA, lA, cOut]; split <;> split <;> omega)))
    · rfl
    · rfl
    · rfl
    · rfl
    · rfl
    · rfl
    · rfl
    · rfl
    · rfl
    · rfl
    · rfl
    · rfl
    · rfl
    · rfl
    · rfl
    · rfl
    · rfl
  by_cases h6 : K = 6
  · subst h6
    have hi : i < 2 * n := hi
    unfold cC
    rw [if_pos (by decide)]
    show t_OB (lA sz n i + 1) _ _ _ _ _
    refine ((hl i hi).2.1.1).to (fun f hf => ?_)
    have hf2 : f < 7 := hf
    rcases (by omega : f = 0 ∨ f = 1 ∨ f = 2 ∨ f = 3 ∨ f = 4 ∨ f = 5 ∨ f = 6) with e | e | e | e | e | e | e <;> subst e
    · rfl
    · show Value.ref (lA sz n i + 1 + 1) = Value.ref (lA sz n i + 2)
      exact congrArg Value.ref (show ((lA sz n i + 1 + 1 : Nat)) = lA sz n i + 2 from (by first | rfl | (split <;> omega) | (simp only [dA, lA, cOut]; done) | (simp only [dA, lA, cOut]; omega) | (simp only [dA, lA, cOut]; split <;> omega) | (simp only [dA, lA, cOut]; split <;> split <;> omega)))
    · show Value.ref (lA sz n i + 1 + 1 + 1) = Value.ref (lA sz n i + 3)
      exact congrArg Value.ref (show ((lA sz n i + 1 + 1 + 1 : Nat)) = lA sz n i + 3 from (by first | rfl | (split <;> omega) | (simp only [dA, lA, cOut]; done) | (simp only [dA, lA, cOut]; omega) | (simp only [dA, lA, cOut]; split <;> omega) | (simp only [dA, lA, cOut]; split <;> split <;> omega)))
    · show Value.ref (lA sz n i + 1 + 1 + 2) = Value.ref (lA sz n i + 4)
      exact congrArg Value.ref (show ((lA sz n i + 1 + 1 + 2 : Nat)) = lA sz n i + 4 from (by first | rfl | (split <;> omega) | (simp only [dA, lA, cOut]; done) | (simp only [dA, lA, cOut]; omega) | (simp only [dA, lA, cOut]; split <;> omega) | (simp only [dA, lA, cOut]; split <;> split <;> omega)))
    · show Value.ref (lA sz n i + 1 + 1 + 3) = Value.ref (lA sz n i + 5)
      exact congrArg Value.ref (show ((lA sz n i + 1 + 1 + 3 : Nat)) = lA sz n i + 5 from (by first | rfl | (split <;> omega) | (simp only [dA, lA, cOut]; done) | (simp only [dA, lA, cOut]; omega) | (simp only [dA, lA, cOut]; split <;> omega) | (simp only [dA, lA, cOut]; split <;> split <;> omega)))
    · rfl
    · rfl
  by_cases h13 : K = 13
  · subst h13
    have hi : i < 4 * n := hi
    unfold cC
    rw [if_pos (by decide)]
    show t_OB (lA sz n (i / 2) + 6 + 5 * (i % 2)) _ _ _ _ _
    refine (r613 hK (hm i hi).1).to (fun f hf => ?_)
    have hf2 : f < 7 := hf
    rcases (by omega : f = 0 ∨ f = 1 ∨ f = 2 ∨ f = 3 ∨ f = 4 ∨ f = 5 ∨ f = 6) with e | e | e | e | e | e | e <;> subst e
    · rfl
    · show Value.ref (lA sz n (i / 2) + 7 + 5 * (i % 2)) = Value.ref (lA sz n (i / 2) + 7 + 5 * (i % 2))
      exact congrArg Value.ref (show ((lA sz n (i / 2) + 7 + 5 * (i % 2) : Nat)) = lA sz n (i / 2) + 7 + 5 * (i % 2) from (by first | rfl | (split <;> omega) | (simp only [dA, lA, cOut]; done) | (simp only [dA, lA, cOut]; omega) | (simp only [dA, lA, cOut]; split <;> omega) | (simp only [dA, lA, cOut]; split <;> split <;> omega)))
    · show Value.ref (lA sz n (i / 2) + 7 + 5 * (i % 2) + 1) = Value.ref (lA sz n (i / 2) + 8 + 5 * (i % 2))
      exact congrArg Value.ref (show ((lA sz n (i / 2) + 7 + 5 * (i % 2) + 1 : Nat)) = lA sz n (i / 2) + 8 + 5 * (i % 2) from (by first | rfl | (split <;> omega) | (simp only [dA, lA, cOut]; done) | (simp only [dA, lA, cOut]; omega) | (simp only [dA, lA, cOut]; split <;> omega) | (simp only [dA, lA, cOut]; split <;> split <;> omega)))
    · show Value.ref (lA sz n (i / 2) + 7 + 5 * (i % 2) + 2) = Value.ref (lA sz n (i / 2) + 9 + 5 * (i % 2))
      exact congrArg Value.ref (show ((lA sz n (i / 2) + 7 + 5 * (i % 2) + 2 : Nat)) = lA sz n (i / 2) + 9 + 5 * (i % 2) from (by first | rfl | (split <;> omega) | (simp only [dA, lA, cOut]; done) | (simp only [dA, lA, cOut]; omega) | (simp only [dA, lA, cOut]; split <;> omega) | (simp only [dA, lA, cOut]; split <;> split <;> omega)))
    · show Value.ref (lA sz n (i / 2) + 7 + 5 * (i % 2) + 3) = Value.ref (lA sz n (i / 2) + 10 + 5 * (i % 2))
      exact congrArg Value.ref (show ((lA sz n (i / 2) + 7 + 5 * (i % 2) + 3 : Nat)) = lA sz n (i / 2) + 10 + 5 * (i % 2) from (by first | rfl | (split <;> omega) | (simp only [dA, lA, cOut]; done) | (simp only [dA, lA, cOut]; omega) | (simp only [dA, lA, cOut]; split <;> omega) | (simp only [dA, lA, cOut]; split <;> split <;> omega)))
    · rfl
    · rfl
  by_cases h4 : K = 4
  · subst h4
    have hi : i < n := hi
    unfold cC
    rw [if_pos (by decide)]
    show t_OB (sz + 8 + 75 * i + 34) _ _ _ _ _
    refine ((hE i hi).2.2.2.1.1).to (fun f hf => ?_)
    have hf2 : f < 13 := hf
    rcases (by omega : f = 0 ∨ f = 1 ∨ f = 2 ∨ f = 3 ∨ f = 4 ∨ f = 5 ∨ f = 6 ∨ f = 7 ∨ f = 8 ∨ f = 9 ∨ f = 10 ∨ f = 11 ∨ f = 12) with e | e | e | e | e | e | e | e | e | e | e | e | e <;> subst e
    · rfl
    · show Value.ref (sz + 8 + 75 * i + 35) = Value.ref (lA sz n i)
      exact congrArg Value.ref (show ((sz + 8 + 75 * i + 35 : Nat)) = lA sz n i from (by first | rfl | (split <;> omega) | (simp only [dA, lA, cOut]; done) | (simp only [dA, lA, cOut]; omega) | (simp only [dA, lA, cOut]; split <;> omega) | (simp only [dA, lA, cOut]; split <;> split <;> omega)))
    · show Value.ref (sz + 8 + 75 * i + 51) = Value.ref ((if i < n then sz + 8 + 75 * i + 51 else sz + 8 + 75 * (i - n) + 74))
      exact congrArg Value.ref (show ((sz + 8 + 75 * i + 51 : Nat)) = (if i < n then sz + 8 + 75 * i + 51 else sz + 8 + 75 * (i - n) + 74) from (by first | rfl | (split <;> omega) | (simp only [dA, lA, cOut]; done) | (simp only [dA, lA, cOut]; omega) | (simp only [dA, lA, cOut]; split <;> omega) | (simp only [dA, lA, cOut]; split <;> split <;> omega)))
    · rfl
    · rfl
    · rfl
    · show Value.ref (sz + 8 + 75 * i + 51 + 1) = Value.ref (sz + 8 + 75 * i + 52)
      exact congrArg Value.ref (show ((sz + 8 + 75 * i + 51 + 1 : Nat)) = sz + 8 + 75 * i + 52 from (by first | rfl | (split <;> omega) | (simp only [dA, lA, cOut]; done) | (simp only [dA, lA, cOut]; omega) | (simp only [dA, lA, cOut]; split <;> omega) | (simp only [dA, lA, cOut]; split <;> split <;> omega)))
    · rfl
    · rfl
    · show Value.ref (sz + 8 + 75 * i + 51 + 2) = Value.ref (sz + 8 + 75 * i + 53)
      exact congrArg Value.ref (show ((sz + 8 + 75 * i + 51 + 2 : Nat)) = sz + 8 + 75 * i + 53 from (by first | rfl | (split <;> omega) | (simp only [dA, lA, cOut]; done) | (simp only [dA, lA, cOut]; omega) | (simp only [dA, lA, cOut]; split <;> omega) | (simp only [dA, lA, cOut]; split <;> split <;> omega)))
    · show Value.ref (sz + 8 + 75 * i + 51 + 3) = Value.ref (sz + 8 + 75 * i + 54)
      exact congrArg Value.ref (show ((sz + 8 + 75 * i + 51 + 3 : Nat)) = sz + 8 + 75 * i + 54 from (by first | rfl | (split <;> omega) | (simp only [dA, lA, cOut]; done) | (simp only [dA, lA, cOut]; omega) | (simp only [dA, lA, cOut]; split <;> omega) | (simp only [dA, lA, cOut]; split <;> split <;> omega)))
    · show Value.ref (sz + 8 + 75 * i + 51 + 4) = Value.ref (sz + 8 + 75 * i + 55)
      exact congrArg Value.ref (show ((sz + 8 + 75 * i + 51 + 4 : Nat)) = sz + 8 + 75 * i + 55 from (by first | rfl | (split <;> omega) | (simp only [dA, lA, cOut]; done) | (simp only [dA, lA, cOut]; omega) | (simp only [dA, lA, cOut]; split <;> omega) | (simp only [dA, lA, cOut]; split <;> split <;> omega)))
    · show Value.ref (sz + 8 + 75 * i + 51 + 5) = Value.ref (sz + 8 + 75 * i + 56)
      exact congrArg Value.ref (show ((sz + 8 + 75 * i + 51 + 5 : Nat)) = sz + 8 + 75 * i + 56 from (by first | rfl | (split <;> omega) | (simp only [dA, lA, cOut]; done) | (simp only [dA, lA, cOut]; omega) | (simp only [dA, lA, cOut]; split <;> omega) | (simp only [dA, lA, cOut]; split <;> split <;> omega)))
  by_cases h10 : K = 10
  · subst h10
    have hi : i < n := hi
    unfold cC
    rw [if_pos (by decide)]
    show t_OB (sz + 8 + 75 * i + 57) _ _ _ _ _
    refine ((hE i hi).2.2.2.2.2.1).to (fun f hf => ?_)
    have hf2 : f < 5 := hf
    rcases (by omega : f = 0 ∨ f = 1 ∨ f = 2 ∨ f = 3 ∨ f = 4) with e | e | e | e | e <;> subst e
    · rfl
    · show Value.ref (sz + 8 + 75 * i + 58) = Value.ref (lA sz n (n + i))
      exact congrArg Value.ref (show ((sz + 8 + 75 * i + 58 : Nat)) = lA sz n (n + i) from (by first | rfl | (split <;> omega) | (simp only [dA, lA, cOut]; done) | (simp only [dA, lA, cOut]; omega) | (simp only [dA, lA, cOut]; split <;> omega) | (simp only [dA, lA, cOut]; split <;> split <;> omega)))
    · show Value.ref (sz + 8 + 75 * i + 74) = Value.ref ((if (n + i) < n then sz + 8 + 75 * (n + i) + 51 else sz + 8 + 75 * ((n + i) - n) + 74))
      exact congrArg Value.ref (show ((sz + 8 + 75 * i + 74 : Nat)) = (if (n + i) < n then sz + 8 + 75 * (n + i) + 51 else sz + 8 + 75 * ((n + i) - n) + 74) from (by first | rfl | (split <;> omega) | (simp only [dA, lA, cOut]; done) | (simp only [dA, lA, cOut]; omega) | (simp only [dA, lA, cOut]; split <;> omega) | (simp only [dA, lA, cOut]; split <;> split <;> omega)))
    · rfl
    · show Value.ref (sz + 6) = Value.ref (sz + 6)
      exact congrArg Value.ref (show ((sz + 6 : Nat)) = sz + 6 from (by first | rfl | (split <;> omega) | (simp only [dA, lA, cOut]; done) | (simp only [dA, lA, cOut]; omega) | (simp only [dA, lA, cOut]; split <;> omega) | (simp only [dA, lA, cOut]; split <;> split <;> omega)))
  by_cases h9 : K = 9
  · subst h9
    have hi : i < 1 := hi
    unfold cC
    rw [if_pos (by decide)]
    show t_OB sz _ _ _ _ _
    refine (h.2.2.1).to (fun f hf => ?_)
    have hf2 : f < 9 := hf
    rcases (by omega : f = 0 ∨ f = 1 ∨ f = 2 ∨ f = 3 ∨ f = 4 ∨ f = 5 ∨ f = 6 ∨ f = 7 ∨ f = 8) with e | e | e | e | e | e | e | e | e <;> subst e
    · rfl
    · rfl
    · rfl
    · rfl
    · rfl
    · rfl
    · rfl
    · rfl
    · rfl
  by_cases h11 : K = 11
  · subst h11
    have hi : i < 1 := hi
    unfold cC
    rw [if_pos (by decide)]
    show t_OB a _ _ _ _ _
    refine (h.2.1).to (fun f hf => ?_)
    have hf2 : f < 12 := hf
    rcases (by omega : f = 0 ∨ f = 1 ∨ f = 2 ∨ f = 3 ∨ f = 4 ∨ f = 5 ∨ f = 6 ∨ f = 7 ∨ f = 8 ∨ f = 9 ∨ f = 10 ∨ f = 11) with e | e | e | e | e | e | e | e | e | e | e | e <;> subst e
    · rfl
    · show Value.ref (sz + 4) = Value.ref (sz + 4)
      exact congrArg Value.ref (show ((sz + 4 : Nat)) = sz + 4 from (by first | rfl | (split <;> omega) | (simp only [dA, lA, cOut]; done) | (simp only [dA, lA, cOut]; omega) | (simp only [dA, lA, cOut]; split <;> omega) | (simp only [dA, lA, cOut]; split <;> split <;> omega)))
    · show Value.ref (sz + 5) = Value.ref (sz + 5)
      exact congrArg Value.ref (show ((sz + 5 : Nat)) = sz + 5 from (by first | rfl | (split <;> omega) | (simp only [dA, lA, cOut]; done) | (simp only [dA, lA, cOut]; omega) | (simp only [dA, lA, cOut]; split <;> omega) | (simp only [dA, lA, cOut]; split <;> split <;> omega)))
    · show Value.ref (sz + 6) = Value.ref (sz + 6)
      exact congrArg Value.ref (show ((sz + 6 : Nat)) = sz + 6 from (by first | rfl | (split <;> omega) | (simp only [dA, lA, cOut]; done) | (simp only [dA, lA, cOut]; omega) | (simp only [dA, lA, cOut]; split <;> omega) | (simp only [dA, lA, cOut]; split <;> split <;> omega)))
    · show Value.ref (sz + 7) = Value.ref (sz + 7)
      exact congrArg Value.ref (show ((sz + 7 : Nat)) = sz + 7 from (by first | rfl | (split <;> omega) | (simp only [dA, lA, cOut]; done) | (simp only [dA, lA, cOut]; omega) | (simp only [dA, lA, cOut]; split <;> omega) | (simp only [dA, lA, cOut]; split <;> split <;> omega)))
    · show Value.ref (sz) = Value.ref (sz)
      exact congrArg Value.ref (show ((sz : Nat)) = sz from (by first | rfl | (split <;> omega) | (simp only [dA, lA, cOut]; done) | (simp only [dA, lA, cOut]; omega) | (simp only [dA, lA, cOut]; split <;> omega) | (simp only [dA, lA, cOut]; split <;> split <;> omega)))
    · show Value.ref (sz + 1) = Value.ref (sz + 1)
      exact congrArg Value.ref (show ((sz + 1 : Nat)) = sz + 1 from (by first | rfl | (split <;> omega) | (simp only [dA, lA, cOut]; done) | (simp only [dA, lA, cOut]; omega) | (simp only [dA, lA, cOut]; split <;> omega) | (simp only [dA, lA, cOut]; split <;> split <;> omega)))
    · show Value.ref (sz + 2) = Value.ref (sz + 2)
      exact congrArg Value.ref (show ((sz + 2 : Nat)) = sz + 2 from (by first | rfl | (split <;> omega) | (simp only [dA, lA, cOut]; done) | (simp only [dA, lA, cOut]; omega) | (simp only [dA, lA, cOut]; split <;> omega) | (simp only [dA, lA, cOut]; split <;> split <;> omega)))
    · show Value.ref (sz + 3) = Value.ref (sz + 3)
      exact congrArg Value.ref (show ((sz + 3 : Nat)) = sz + 3 from (by first | rfl | (split <;> omega) | (simp only [dA, lA, cOut]; done) | (simp only [dA, lA, cOut]; omega) | (simp only [dA, lA, cOut]; split <;> omega) | (simp only [dA, lA, cOut]; split <;> split <;> omega)))
    · rfl
    · rfl
    · rfl
  by_cases h12 : K = 12
  · subst h12
    have hi : i < 2 * n := hi
    unfold cC
    rw [if_pos (by decide)]
    show t_OB (if i < n then sz + 8 + 75 * i + 51 else sz + 8 + 75 * (i - n) + 74) _ _ _ _ _
    have hLs : rLs G e0 (if i < n then sz + 8 + 75 * i + 51 else sz + 8 + 75 * (i - n) + 74) H := by
      by_cases hin : i < n
      · rw [if_pos hin]; exact (hE i hin).2.2.2.1.2.1
      · rw [if_neg hin]; exact (hE (i - n) (by omega)).2.2.2.2.2.2
    refine (hLs).to (fun f hf => ?_)
    have hf2 : f < 3 := hf
    rcases (by omega : f = 0 ∨ f = 1 ∨ f = 2) with e | e | e <;> subst e
    · rfl
    · rfl
    · rfl
  by_cases h17 : K = 17
  · subst h17
    have hi : i < 4 * n := hi
    unfold cC
    rw [if_neg (by decide), if_pos (by decide)]
    show H[dA sz (i / 2) + 2 + 3 * (i % 2)]? = _
    have hf := (hq i hi).2.1
    first
      | exact hf
      | (refine Eq.trans (congrArg (fun x => H[x]?) (show _ = _ from ?_)) hf; first | rfl | (simp only [dA, lA]; done) | (simp only [dA, lA]; omega))
  by_cases h18 : K = 18
  · subst h18
    have hi : i < 4 * n := hi
    unfold cC
    rw [if_neg (by decide), if_pos (by decide)]
    show H[dA sz (i / 2) + 3 + 3 * (i % 2)]? = _
    have hf := (hq i hi).2.2
    first
      | exact hf
      | (refine Eq.trans (congrArg (fun x => H[x]?) (show _ = _ from ?_)) hf; first | rfl | (simp only [dA, lA]; done) | (simp only [dA, lA]; omega))
  by_cases h25 : K = 25
  · subst h25
    have hi : i < 2 * n := hi
    unfold cC
    rw [if_neg (by decide), if_pos (by decide)]
    show H[dA sz i + 8]? = _
    have hf := (hd i hi).2.2.2.1.2
    first
      | exact hf
      | (refine Eq.trans (congrArg (fun x => H[x]?) (show _ = _ from ?_)) hf; first | rfl | (simp only [dA, lA]; done) | (simp only [dA, lA]; omega))
  by_cases h16 : K = 16
  · subst h16
    have hi : i < 2 * n := hi
    unfold cC
    rw [if_neg (by decide), if_pos (by decide)]
    show H[dA sz i + 10]? = _
    have hf := (hd i hi).2.2.2.2.1.2
    first
      | exact hf
      | (refine Eq.trans (congrArg (fun x => H[x]?) (show _ = _ from ?_)) hf; first | rfl | (simp only [dA, lA]; done) | (simp only [dA, lA]; omega))
  by_cases h19 : K = 19
  · subst h19
    have hi : i < 2 * n := hi
    unfold cC
    rw [if_neg (by decide), if_pos (by decide)]
    show H[dA sz i + 11]? = _
    have hf := (hd i hi).2.2.2.2.2.1
    first
      | exact hf
      | (refine Eq.trans (congrArg (fun x => H[x]?) (show _ = _ from ?_)) hf; first | rfl | (simp only [dA, lA]; done) | (simp only [dA, lA]; omega))
  by_cases h20 : K = 20
  · subst h20
    have hi : i < 2 * n := hi
    unfold cC
    rw [if_neg (by decide), if_pos (by decide)]
    show H[dA sz i + 12]? = _
    have hf := (hd i hi).2.2.2.2.2.2.1
    first
      | exact hf
      | (refine Eq.trans (congrArg (fun x => H[x]?) (show _ = _ from ?_)) hf; first | rfl | (simp only [dA, lA]; done) | (simp only [dA, lA]; omega))
  by_cases h21 : K = 21
  · subst h21
    have hi : i < 2 * n := hi
    unfold cC
    rw [if_neg (by decide), if_pos (by decide)]
    show H[dA sz i + 13]? = _
    have hf := (hd i hi).2.2.2.2.2.2.2.1
    first
      | exact hf
      | (refine Eq.trans (congrArg (fun x => H[x]?) (show _ = _ from ?_)) hf; first | rfl | (simp only [dA, lA]; done) | (simp only [dA, lA]; omega))
  by_cases h22 : K = 22
  · subst h22
    have hi : i < 2 * n := hi
    unfold cC
    rw [if_neg (by decide), if_pos (by decide)]
    show H[dA sz i + 14]? = _
    have hf := (hd i hi).2.2.2.2.2.2.2.2.1
    first
      | exact hf
      | (refine Eq.trans (congrArg (fun x => H[x]?) (show _ = _ from ?_)) hf; first | rfl | (simp only [dA, lA]; done) | (simp only [dA, lA]; omega))
  by_cases h23 : K = 23
  · subst h23
    have hi : i < 2 * n := hi
    unfold cC
    rw [if_neg (by decide), if_pos (by decide)]
    show H[dA sz i + 15]? = _
    have hf := (hd i hi).2.2.2.2.2.2.2.2.2.1
    first
      | exact hf
      | (refine Eq.trans (congrArg (fun x => H[x]?) (show _ = _ from ?_)) hf; first | rfl | (simp only [dA, lA]; done) | (simp only [dA, lA]; omega))
  by_cases h24 : K = 24
  · subst h24
    have hi : i < 2 * n := hi
    unfold cC
    rw [if_neg (by decide), if_pos (by decide)]
    show H[dA sz i + 16]? = _
    have hf := (hd i hi).2.2.2.2.2.2.2.2.2.2
    first
      | exact hf
      | (refine Eq.trans (congrArg (fun x => H[x]?) (show _ = _ from ?_)) hf; first | rfl | (simp only [dA, lA]; done) | (simp only [dA, lA]; omega))
  by_cases h26 : K = 26
  · subst h26
    have hi : i < 2 * n := hi
    unfold cC
    rw [if_neg (by decide), if_pos (by decide)]
    show H[lA sz n i + 2]? = _
    have hf := (hl i hi).2.1.2.1
    first
      | exact hf
      | (refine Eq.trans (congrArg (fun x => H[x]?) (show _ = _ from ?_)) hf; first | rfl | (simp only [dA, lA]; done) | (simp only [dA, lA]; omega))
  by_cases h27 : K = 27
  · subst h27
    have hi : i < 2 * n := hi
    unfold cC
    rw [if_neg (by decide), if_pos (by decide)]
    show H[lA sz n i + 3]? = _
    have hf := (hl i hi).2.1.2.2.1
    first
      | exact hf
      | (refine Eq.trans (congrArg (fun x => H[x]?) (show _ = _ from ?_)) hf; first | rfl | (simp only [dA, lA]; done) | (simp only [dA, lA]; omega))
  by_cases h28 : K = 28
  · subst h28
    have hi : i < 2 * n := hi
    unfold cC
    rw [if_neg (by decide), if_pos (by decide)]
    show H[lA sz n i + 4]? = _
    have hf := (hl i hi).2.1.2.2.2.1
    first
      | exact hf
      | (refine Eq.trans (congrArg (fun x => H[x]?) (show _ = _ from ?_)) hf; first | rfl | (simp only [dA, lA]; done) | (simp only [dA, lA]; omega))
  by_cases h29 : K = 29
  · subst h29
    have hi : i < 2 * n := hi
    unfold cC
    rw [if_neg (by decide), if_pos (by decide)]
    show H[lA sz n i + 5]? = _
    have hf := (hl i hi).2.1.2.2.2.2
    first
      | exact hf
      | (refine Eq.trans (congrArg (fun x => H[x]?) (show _ = _ from ?_)) hf; first | rfl | (simp only [dA, lA]; done) | (simp only [dA, lA]; omega))
  by_cases h39 : K = 39
  · subst h39
    have hi : i < 4 * n := hi
    unfold cC
    rw [if_neg (by decide), if_pos (by decide)]
    show H[lA sz n (i / 2) + 7 + 5 * (i % 2)]? = _
    have hf := (hm i hi).2.1
    first
      | exact hf
      | (refine Eq.trans (congrArg (fun x => H[x]?) (show _ = _ from ?_)) hf; first | rfl | (simp only [dA, lA]; done) | (simp only [dA, lA]; omega))
  by_cases h40 : K = 40
  · subst h40
    have hi : i < 4 * n := hi
    unfold cC
    rw [if_neg (by decide), if_pos (by decide)]
    show H[lA sz n (i / 2) + 8 + 5 * (i % 2)]? = _
    have hf := (hm i hi).2.2.1
    first
      | exact hf
      | (refine Eq.trans (congrArg (fun x => H[x]?) (show _ = _ from ?_)) hf; first | rfl | (simp only [dA, lA]; done) | (simp only [dA, lA]; omega))
  by_cases h41 : K = 41
  · subst h41
    have hi : i < 4 * n := hi
    unfold cC
    rw [if_neg (by decide), if_pos (by decide)]
    show H[lA sz n (i / 2) + 9 + 5 * (i % 2)]? = _
    have hf := (hm i hi).2.2.2.1
    first
      | exact hf
      | (refine Eq.trans (congrArg (fun x => H[x]?) (show _ = _ from ?_)) hf; first | rfl | (simp only [dA, lA]; done) | (simp only [dA, lA]; omega))
  by_cases h42 : K = 42
  · subst h42
    have hi : i < 4 * n := hi
    unfold cC
    rw [if_neg (by decide), if_pos (by decide)]
    show H[lA sz n (i / 2) + 10 + 5 * (i % 2)]? = _
    have hf := (hm i hi).2.2.2.2
    first
      | exact hf
      | (refine Eq.trans (congrArg (fun x => H[x]?) (show _ = _ from ?_)) hf; first | rfl | (simp only [dA, lA]; done) | (simp only [dA, lA]; omega))
  by_cases h30 : K = 30
  · subst h30
    have hi : i < n := hi
    unfold cC
    rw [if_neg (by decide), if_pos (by decide)]
    show H[sz + 8 + 75 * i + 53]? = _
    have hf := (hE i hi).2.2.2.1.2.2.2.1
    first
      | exact hf
      | (refine Eq.trans (congrArg (fun x => H[x]?) (show _ = _ from ?_)) hf; first | rfl | (simp only [dA, lA]; done) | (simp only [dA, lA]; omega))
  by_cases h31 : K = 31
  · subst h31
    have hi : i < n := hi
    unfold cC
    rw [if_neg (by decide), if_pos (by decide)]
    show H[sz + 8 + 75 * i + 54]? = _
    have hf := (hE i hi).2.2.2.1.2.2.2.2.1
    first
      | exact hf
      | (refine Eq.trans (congrArg (fun x => H[x]?) (show _ = _ from ?_)) hf; first | rfl | (simp only [dA, lA]; done) | (simp only [dA, lA]; omega))
  by_cases h32 : K = 32
  · subst h32
    have hi : i < n := hi
    unfold cC
    rw [if_neg (by decide), if_pos (by decide)]
    show H[sz + 8 + 75 * i + 55]? = _
    have hf := (hE i hi).2.2.2.1.2.2.2.2.2.1
    first
      | exact hf
      | (refine Eq.trans (congrArg (fun x => H[x]?) (show _ = _ from ?_)) hf; first | rfl | (simp only [dA, lA]; done) | (simp only [dA, lA]; omega))
  by_cases h33 : K = 33
  · subst h33
    have hi : i < n := hi
    unfold cC
    rw [if_neg (by decide), if_pos (by decide)]
    show H[sz + 8 + 75 * i + 56]? = _
    have hf := (hE i hi).2.2.2.1.2.2.2.2.2.2
    first
      | exact hf
      | (refine Eq.trans (congrArg (fun x => H[x]?) (show _ = _ from ?_)) hf; first | rfl | (simp only [dA, lA]; done) | (simp only [dA, lA]; omega))
  by_cases h34 : K = 34
  · subst h34
    have hi : i < 1 := hi
    unfold cC
    rw [if_neg (by decide), if_pos (by decide)]
    show H[sz + 1]? = _
    have hf := h.2.2.2.1
    first
      | exact hf
      | (refine Eq.trans (congrArg (fun x => H[x]?) (show _ = _ from ?_)) hf; first | rfl | (simp only [dA, lA]; done) | (simp only [dA, lA]; omega))
  by_cases h35 : K = 35
  · subst h35
    have hi : i < 1 := hi
    unfold cC
    rw [if_neg (by decide), if_pos (by decide)]
    show H[sz + 2]? = _
    have hf := h.2.2.2.2.1
    first
      | exact hf
      | (refine Eq.trans (congrArg (fun x => H[x]?) (show _ = _ from ?_)) hf; first | rfl | (simp only [dA, lA]; done) | (simp only [dA, lA]; omega))
  by_cases h36 : K = 36
  · subst h36
    have hi : i < 1 := hi
    unfold cC
    rw [if_neg (by decide), if_pos (by decide)]
    show H[sz + 3]? = _
    have hf := h.2.2.2.2.2.1
    first
      | exact hf
      | (refine Eq.trans (congrArg (fun x => H[x]?) (show _ = _ from ?_)) hf; first | rfl | (simp only [dA, lA]; done) | (simp only [dA, lA]; omega))
  by_cases h48 : K = 48
  · subst h48
    have hi : i < n := hi
    unfold cC
    rw [if_neg (by decide), if_neg (by decide)]
    show H[sz + 8 + 75 * i + 52]? = _
    have hf := (hE i hi).2.2.2.1.2.2.1
    exact hf
  by_cases h50 : K = 50
  · subst h50
    have hi : i < 1 := hi
    unfold cC
    rw [if_neg (by decide), if_neg (by decide)]
    show H[sz + 4]? = _
    have hf := h.2.2.2.2.2.2.1
    refine Eq.trans (show H[_]? = _ from hf) ?_
    show _ = some (vp_cell (G.2.2.2.2 50) (2 * n, .inr (.inr (.inr (.inr (fun k => some (dA sz k)))))))
    rw [vp_cell_q]
    refine congrArg some (arrV_cg (fun k hk => congrArg va_rf ?_))
    unfold fW
    exact if_pos (by omega)
  by_cases h51 : K = 51
  · subst h51
    have hi : i < 1 := hi
    unfold cC
    rw [if_neg (by decide), if_neg (by decide)]
    show H[sz + 5]? = _
    have hf := h.2.2.2.2.2.2.2.1
    refine Eq.trans (show H[_]? = _ from hf) ?_
    show _ = some (vp_cell (G.2.2.2.2 51) (n, .inr (.inr (.inr (.inr (fun k => some (sz + 8 + 75 * k + 34)))))))
    rw [vp_cell_q]
    refine congrArg some (arrV_cg (fun k hk => congrArg va_rf ?_))
    unfold fE
    exact if_pos (by omega)
  by_cases h49 : K = 49
  · subst h49
    have hi : i < 1 := hi
    unfold cC
    rw [if_neg (by decide), if_neg (by decide)]
    show H[sz + 6]? = _
    have hf := h.2.2.2.2.2.2.2.2.1
    refine Eq.trans (show H[_]? = _ from hf) ?_
    show _ = some (vp_cell (G.2.2.2.2 49) (n, .inr (.inr (.inr (.inr (fun k => some (sz + 8 + 75 * k + 57)))))))
    rw [vp_cell_q]
    refine congrArg some (arrV_cg (fun k hk => congrArg va_rf ?_))
    unfold fS
    exact if_pos (by omega)
  by_cases h52 : K = 52
  · subst h52
    have hi : i < 1 := hi
    unfold cC
    rw [if_neg (by decide), if_neg (by decide)]
    show H[sz + 7]? = _
    have hf := h.2.2.2.2.2.2.2.2.2.1
    refine Eq.trans (show H[_]? = _ from hf) ?_
    show _ = some (vp_cell (G.2.2.2.2 52) (2 * n, .inr (.inr (.inr (.inr (fun k => some (cSd (zI a e0 sz n) k)))))))
    rw [vp_cell_q]
    refine congrArg some (arrV_cg (fun k hk => congrArg va_rf ?_))
    unfold fA
    by_cases hk1 : k < n
    · rw [if_pos hk1]
      unfold cSd
      rw [show (zI a e0 sz n).n = n from rfl, if_pos hk1]
      rfl
    · rw [if_neg hk1, if_pos (by omega)]
      unfold cSd
      rw [show (zI a e0 sz n).n = n from rfl, if_neg hk1]
      rfl
  by_cases h55 : K = 55
  · exact absurd h55 n55
  exfalso
  have : cCt n K = 0 := by
    unfold cCt
    split <;> first | rfl | omega
  omega
