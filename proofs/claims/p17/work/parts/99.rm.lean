/-! how many places ahead are filled -/
def occ (g : mSt) (i : Nat) : Nat := (List.range 8).countP (fun k => decide ((ahd g i k).toInt ≠ 0))
def oc19 (g : mSt) (i : Nat) : Nat := (List.range 8).countP (fun k => decide ((ahd g i k).toInt = 19))
theorem cP_p1 {N c : Nat} {p q : Nat → Bool} (h : ∀ k, k < N → k ≠ c → q k = p k) : (List.range N).countP q ≤ (List.range N).countP p + 1 := by
  induction N with
  | zero => exact Nat.zero_le _
  | succ N ih =>
    rw [List.range_succ, List.countP_append, List.countP_append, List.countP_singleton, List.countP_singleton]
    by_cases hN : N = c
    · have e : (List.range N).countP q = (List.range N).countP p := List.countP_congr (fun k hk => by
        have hk := List.mem_range.mp hk
        rw [h k (by omega) (by omega)])
      rw [e]
      split <;> split <;> omega
    · rw [h N (by omega) hN]
      have := ih (fun k hk hne => h k (by omega) hne)
      omega
theorem occ_aS {g g1 : mSt} {i : Nat} (h : aS g g1 i) : occ g1 i ≤ occ g i ∧ oc19 g1 i ≤ oc19 g i := by
  refine ⟨List.countP_mono_left (fun k hk => ?_), List.countP_mono_left (fun k hk => ?_)⟩
  · intro z
    have z := of_decide_eq_true z
    rcases h.1 k (List.mem_range.mp hk) with q | q
    · rw [q] at z
      exact decide_eq_true z
    · rw [q] at z
      exact absurd rfl z
  · intro z
    have z := of_decide_eq_true z
    rcases h.1 k (List.mem_range.mp hk) with q | q
    · rw [q] at z
      exact decide_eq_true z
    · rw [q] at z
      exact absurd z (by decide)
theorem occ_aD {g g1 : mSt} {i : Nat} {n : Int32} (h : aD g g1 i n) : occ g1 i ≤ occ g i + 1 ∧ (n.toInt ≠ 19 → oc19 g1 i ≤ oc19 g i) := by
  obtain ⟨_, p, hp, hn, ho⟩ := h
  refine ⟨cP_p1 (c := p) (fun k hk hne => by rw [ho k hk hne]), fun h19 => List.countP_mono_left (fun k hk => ?_)⟩
  intro z
  have z := of_decide_eq_true z
  by_cases hkp : k = p
  · subst hkp
    rw [hn] at z
    exact absurd z h19
  · rw [ho k (List.mem_range.mp hk) hkp] at z
    exact decide_eq_true z
/-- a message is taken: its place ahead is free -/
theorem a_take {Z : cZ} {i q1 : Nat} {g : mSt} {Φ : Int32 → mSt → Prop} (h0 : Φ 0 g) (h : ∀ (r : Int32) g1, 1 ≤ r.toInt → (∃ p, p < 8 ∧ ahd g i p = r ∧ ahd g1 i p = 0 ∧ ∀ k, k < 8 → k ≠ p → ahd g1 i k = ahd g i k) → (g1 170 i).toInt = (g 170 i).toInt + 1 → Φ r g1) : wp_ktakeNext Z i q1 g Φ := by
  intro v1 e1 r1 v2 e2 r2 t2 v6 e6 _
  refine ⟨fun _ => h0, fun c1 => ⟨fun _ v12 e12 _ t12 g14 e14 => ?_, fun _ => trivial⟩⟩
  have r2 : 0 ≤ v2.toInt ∧ v2.toInt ≤ 7 := r2
  refine ⟨fun z => by exfalso; omega, fun _ => ⟨fun z => by exfalso; omega, fun _ g9 e9 g11 e11 _ v17 _ _ t17 g20 e20 v21 _ _ v23 _ _ g24 e24 => h _ _ c1 ⟨v2.toInt.toNat, by omega, ?_, ?_, fun k hk hne => ?_⟩ ?_⟩⟩
  · rw [e6, nat_cl]
    rfl
  · unfold ahd
    rw [e24, up2_o (by decide), e20, up2_o (by decide), e11, up2_o (by decide), e9, ← nat_cl, up2_i]
  · unfold ahd
    rw [e24, up2_o (by decide), e20, up2_o (by decide), e11, up2_o (by decide), e9, up2_n (by rw [nat_cl]; omega), e14, cCpy_r (by decide)]
  · rw [e24, up2_o (by decide), e20, up2_i, t17, e1]
theorem occ_take {g g1 : mSt} {i : Nat} {r : Int32} (hr : 1 ≤ r.toInt) (h : ∃ p, p < 8 ∧ ahd g i p = r ∧ ahd g1 i p = 0 ∧ ∀ k, k < 8 → k ≠ p → ahd g1 i k = ahd g i k) : occ g1 i + 1 ≤ occ g i ∧ oc19 g1 i ≤ oc19 g i ∧ (r.toInt = 19 → oc19 g1 i + 1 ≤ oc19 g i) := by
  obtain ⟨p, hp, e1, e2, ho⟩ := h
  have q8 : ∀ f : Int32 → Bool, f 0 = false → f r = true → (List.range 8).countP (fun k => f (ahd g1 i k)) + 1 ≤ (List.range 8).countP (fun k => f (ahd g i k)) := by
    intro f f0 fr
    have e : (List.range 8).countP (fun k => f (ahd g1 i k)) = (List.range 8).countP (fun k => if k = p then false else f (ahd g i k)) := List.countP_congr (fun k hk => by
      by_cases c : k = p
      · subst c
        rw [e2, f0, if_pos rfl]
      · rw [ho k (List.mem_range.mp hk) c, if_neg c])
    rw [e]
    exact cP_lt (c := p) (fun k hk => if_neg hk) (if_pos rfl) (by rw [e1]; exact fr) hp
  refine ⟨q8 (fun x => decide (x.toInt ≠ 0)) (by decide) (decide_eq_true (by omega)), List.countP_mono_left (fun k hk => ?_), fun z => q8 (fun x => decide (x.toInt = 19)) (by decide) (decide_eq_true z)⟩
  intro z
  have z := of_decide_eq_true z
  by_cases c : k = p
  · subst c
    rw [e2] at z
    exact absurd z (by decide)
  · rw [ho k (List.mem_range.mp hk) c] at z
    exact decide_eq_true z
