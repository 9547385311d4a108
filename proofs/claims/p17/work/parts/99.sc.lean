/-! what the switch's side of a link may change while it takes a tick's octets -/
def anyR : List Nat := [108, 109, 136, 288, 289, 290, 291, 292, 293, 294, 295, 296, 421, 422, 928, 960, 992, 1024, 1056, 1088, 1312, 1344]
def ownA (n f N : Nat) (g : mSt) (j k : Nat) : Prop := own2 n N g j k ∨ j ∈ anyR ∨ (164 ≤ j ∧ j ≤ 180 ∧ k = n + f) ∨ (j = 197 ∧ k = n + f) ∨ ((j = 1248 ∨ j = 1280) ∧ k / 8192 / 2 = n + f) ∨ (j = 67 ∧ 2 ≤ k % 4) ∨ ((j = 544 ∨ j = 576) ∧ 2 ≤ k / 8192 % 4) ∨ (j = 111 ∧ k % 2 = 1) ∨ (j = 768 ∧ k / 8192 % 2 = 1) ∨ (225 ≤ j ∧ j ≤ 235 ∧ k = 2 * f) ∨ ((j = 800 ∨ j = 512) ∧ k / 8192 = 2 * f) ∨ (j < 3 ∧ k = 2 * f)
def FA (n f N : Nat) (g0 g : mSt) : Prop := ∀ j k, ¬ ownA n f N g0 j k → g j k = g0 j k
theorem FA.rf {n f N : Nat} {g : mSt} : FA n f N g g := fun _ _ _ => rfl
theorem FA.tr {n f N N1 : Nat} {g0 g g1 : mSt} (h : FA n f N g0 g) (hN : N ≤ N1) (k : FA n f N1 g g1) : FA n f N g0 g1 := fun j x q => by
  rw [k j x (fun z => q ?_)]
  · exact h j x q
  · rcases z with z | z
    · left
      unfold own2 ownS at z ⊢
      rcases z with (⟨z1, z2⟩ | z) | z
      · by_cases hx : x < N
        · left
          left
          refine ⟨z1, ?_⟩
          rw [← h 32 x (fun w => ?_)]
          · exact z2
          · unfold ownA own2 ownS at w
            have : (32 : Nat) ∉ cRows := by decide
            have : (32 : Nat) ∉ anyR := by decide
            rcases w with (w | w) | w | w
            · rcases w with ⟨w, _⟩ | w
              · contradiction
              · omega
            · omega
            · contradiction
            · omega
        · have := cRows_r z1
          exact Or.inr (Or.inl ⟨by omega, by omega, by omega⟩)
      · exact Or.inl (Or.inr z)
      · refine Or.inr ?_
        omega
    · exact Or.inr z
theorem FA.sst {n f N M d : Nat} {t : Int} {g g1 : mSt} (h : sst n M t g g1 d) : FA n f N g g1 := fun j k q => h.1 j k (fun z => q (Or.inl (Or.inl z)))
theorem FA.prS {n f f' N : Nat} {t : Int} {g g1 : mSt} (h : prS n N t g g1 f') : FA n f N g g1 := fun j k q => h.1 j k (fun z => q (Or.inl z))
theorem no_any {j : Nat} {n f N : Nat} {g : mSt} {k : Nat} (q : ¬ ownA n f N g j k) : j ∉ anyR := fun z => q (Or.inr (Or.inl z))
theorem FA.fi {n f N : Nat} {S : List (Nat × Nat × Nat)} {g g1 : mSt} (h : mFi S g g1) (hS : ∀ j k, ¬ ownA n f N g j k → mOut S j k) : FA n f N g g1 := fun j k q => h.out (hS j k q)
theorem oA_any {n f N j k : Nat} {g : mSt} (h : j ∈ anyR) : ownA n f N g j k := Or.inr (Or.inl h)
theorem oA_l {n f N j k : Nat} {g : mSt} (h : 164 ≤ j ∧ j ≤ 180) (e : k / 1 = n + f) : ownA n f N g j k := Or.inr (Or.inr (Or.inl ⟨h.1, h.2, by rw [← e, Nat.div_one]⟩))
theorem oA_197 {n f N k : Nat} {g : mSt} (e : k / 1 = n + f) : ownA n f N g 197 k := Or.inr (Or.inr (Or.inr (Or.inl ⟨rfl, by rw [← e, Nat.div_one]⟩)))
theorem oA_a {n f N j k : Nat} {g : mSt} (h : j = 1248 ∨ j = 1280) (e : k / 8192 = 2 * (n + f) ∨ k / 8192 = 2 * (n + f) + 1) : ownA n f N g j k := Or.inr (Or.inr (Or.inr (Or.inr (Or.inl ⟨h, by rcases e with e | e <;> rw [e] <;> omega⟩))))
theorem oA_67 {n f N k : Nat} {g : mSt} (e : k / 1 = 2 * (2 * f + 1)) : ownA n f N g 67 k := Or.inr (Or.inr (Or.inr (Or.inr (Or.inr (Or.inl ⟨rfl, by rw [Nat.div_one] at e; omega⟩)))))
theorem oA_q {n f N j k : Nat} {g : mSt} (h : j = 544 ∨ j = 576) (e : k / 8192 = 2 * (2 * f + 1)) : ownA n f N g j k := Or.inr (Or.inr (Or.inr (Or.inr (Or.inr (Or.inr (Or.inl ⟨h, by rw [e]; omega⟩))))))
theorem oA_111 {n f N k : Nat} {g : mSt} (e : k / 1 = 2 * f + 1) : ownA n f N g 111 k := Or.inr (Or.inr (Or.inr (Or.inr (Or.inr (Or.inr (Or.inr (Or.inl ⟨rfl, by rw [Nat.div_one] at e; omega⟩)))))))
theorem oA_768 {n f N k : Nat} {g : mSt} (e : k / 8192 = 2 * f + 1) : ownA n f N g 768 k := Or.inr (Or.inr (Or.inr (Or.inr (Or.inr (Or.inr (Or.inr (Or.inr (Or.inl ⟨rfl, by rw [e]; omega⟩))))))))
theorem oA_r {n f N j k : Nat} {g : mSt} (h : 225 ≤ j ∧ j ≤ 235) (e : k / 1 = 2 * f) : ownA n f N g j k := Or.inr (Or.inr (Or.inr (Or.inr (Or.inr (Or.inr (Or.inr (Or.inr (Or.inr (Or.inl ⟨h.1, h.2, by rw [← e, Nat.div_one]⟩)))))))))
theorem oA_p {n f N j k : Nat} {g : mSt} (h : j = 800 ∨ j = 512) (e : k / 8192 = 2 * f) : ownA n f N g j k := Or.inr (Or.inr (Or.inr (Or.inr (Or.inr (Or.inr (Or.inr (Or.inr (Or.inr (Or.inr (Or.inl ⟨h, e⟩))))))))))
theorem oA_198 {n f N k : Nat} {g : mSt} (e : k / 1 = n + f) : ownA n f N g 198 k := Or.inl (Or.inl (Or.inr (Or.inl ⟨rfl, by rw [Nat.div_one] at e; omega⟩)))
theorem oA_83 {n f N j k : Nat} {g : mSt} (h : j = 832 ∨ j = 864) (e : k / 8192 = n + f) : ownA n f N g j k := Or.inl (Or.inl (Or.inr (Or.inr ⟨h, by rw [e]; omega⟩)))
theorem mOut_all {S : List (Nat × Nat × Nat)} {j i : Nat} (h : ∀ t ∈ S, t.1 = j → t.2.2 ≠ 0 ∧ i / t.2.2 ≠ t.2.1) : mOut S j i := by
  induction S with
  | nil => trivial
  | cons t S ih => exact ⟨h t (List.mem_cons_self ..), ih (fun u hu => h u (List.mem_cons_of_mem _ hu))⟩
set_option maxHeartbeats 2000000 in
theorem FA_unit {Z : cZ} {f N q : Nat} {p2 p3 : Int32} {g g1 : mSt} (h : mFi (im_kunitCame Z (Z.n + f) q p2 p3) g g1) : FA Z.n f N g g1 := FA.fi h (fun j k w => by
  have c : cOut Z.n (Z.n + f) = 2 * f + 1 := by
    unfold cOut
    rw [if_neg (by omega)]
    omega
  refine mOut_all (fun t ht e => ?_)
  subst e
  simp only [im_kunitCame, c, List.mem_cons, List.not_mem_nil, or_false] at ht
  rcases ht with ht | ht | ht | ht | ht | ht | ht | ht | ht | ht | ht | ht | ht | ht | ht | ht | ht | ht | ht | ht | ht | ht | ht | ht | ht | ht | ht | ht | ht | ht | ht | ht | ht
  all_goals
    subst ht
    refine ⟨by simp, fun z => w ?_⟩
    dsimp only at z ⊢
    first
      | exact oA_any (by decide)
      | exact oA_l (by decide) z
      | exact oA_197 z
      | exact oA_a (by decide) (Or.inl z)
      | exact oA_a (by decide) (Or.inr z)
      | exact oA_67 z
      | exact oA_q (by decide) z
      | exact oA_111 z
      | exact oA_768 z
      | exact oA_r (by decide) z
      | exact oA_p (by decide) z
      | exact oA_198 z
      | exact oA_83 (by decide) z)
set_option maxHeartbeats 2000000 in
theorem FA_ask {Z : cZ} {f N : Nat} {p1 p2 p3 : Int32} {g g1 : mSt} (h : mFi (im_kask Z (Z.n + f) p1 p2 p3) g g1) : FA Z.n f N g g1 := FA.fi h (fun j k w => by
  have c : cOut Z.n (Z.n + f) = 2 * f + 1 := by
    unfold cOut
    rw [if_neg (by omega)]
    omega
  refine mOut_all (fun t ht e => ?_)
  subst e
  simp only [im_kask, c, List.mem_cons, List.not_mem_nil, or_false] at ht
  rcases ht with ht | ht | ht | ht | ht | ht | ht | ht | ht | ht | ht
  all_goals
    subst ht
    refine ⟨by simp, fun z => w ?_⟩
    dsimp only at z ⊢
    first
      | exact oA_any (by decide)
      | exact oA_l (by decide) z
      | exact oA_197 z
      | exact oA_a (by decide) (Or.inl z)
      | exact oA_a (by decide) (Or.inr z)
      | exact oA_67 z
      | exact oA_q (by decide) z
      | exact oA_111 z
      | exact oA_768 z
      | exact oA_r (by decide) z
      | exact oA_p (by decide) z
      | exact oA_198 z
      | exact oA_83 (by decide) z)
set_option maxHeartbeats 2000000 in
theorem FA_tk {Z : cZ} {f N : Nat} {g g1 : mSt} (h : mFi (im_ktakeNext Z (Z.n + f) 0) g g1) : FA Z.n f N g g1 := FA.fi h (fun j k w => by
  refine mOut_all (fun t ht e => ?_)
  subst e
  simp only [im_ktakeNext, List.mem_cons, List.not_mem_nil, or_false] at ht
  rcases ht with ht | ht | ht | ht | ht
  all_goals
    subst ht
    refine ⟨by simp, fun z => w ?_⟩
    dsimp only at z ⊢
    first
      | exact oA_any (by decide)
      | exact oA_l (by decide) z
      | exact oA_197 z
      | exact oA_a (by decide) (Or.inl z)
      | exact oA_a (by decide) (Or.inr z)
      | exact oA_67 z
      | exact oA_q (by decide) z
      | exact oA_111 z
      | exact oA_768 z
      | exact oA_r (by decide) z
      | exact oA_p (by decide) z
      | exact oA_198 z
      | exact oA_83 (by decide) z)
set_option maxHeartbeats 2000000 in
theorem FA_rd {Z : cZ} {n f N : Nat} {p2 p3 : Int32} {g g1 : mSt} (h : mFi (im_ksread Z 0 0 p2 p3) g g1) : FA n f N g g1 := FA.fi h (fun j k w => by
  refine mOut_all (fun t ht e => ?_)
  subst e
  simp only [im_ksread, List.mem_cons, List.not_mem_nil, or_false] at ht
  rcases ht with ht | ht | ht | ht | ht | ht | ht | ht | ht
  all_goals
    subst ht
    refine ⟨by simp, fun z => w ?_⟩
    dsimp only at z ⊢
    first
      | exact oA_any (by decide)
      | exact oA_l (by decide) z
      | exact oA_197 z
      | exact oA_a (by decide) (Or.inl z)
      | exact oA_a (by decide) (Or.inr z)
      | exact oA_67 z
      | exact oA_q (by decide) z
      | exact oA_111 z
      | exact oA_768 z
      | exact oA_r (by decide) z
      | exact oA_p (by decide) z
      | exact oA_198 z
      | exact oA_83 (by decide) z)
set_option maxHeartbeats 2000000 in
theorem FA_take {Z : cZ} {n f N : Nat} {p2 p3 : Int32} {g g1 : mSt} (h : mFi (im_ktake Z (2 * f) (2 * f) p2 p3) g g1) : FA n f N g g1 := FA.fi h (fun j k w => by
  refine mOut_all (fun t ht e => ?_)
  subst e
  simp only [im_ktake, List.mem_cons, List.not_mem_nil, or_false] at ht
  rcases ht with ht | ht | ht | ht | ht | ht | ht | ht | ht | ht | ht | ht
  all_goals
    subst ht
    refine ⟨by simp, fun z => w ?_⟩
    dsimp only at z ⊢
    first
      | exact oA_any (by decide)
      | exact oA_l (by decide) z
      | exact oA_197 z
      | exact oA_a (by decide) (Or.inl z)
      | exact oA_a (by decide) (Or.inr z)
      | exact oA_67 z
      | exact oA_q (by decide) z
      | exact oA_111 z
      | exact oA_768 z
      | exact oA_r (by decide) z
      | exact oA_p (by decide) z
      | exact oA_198 z
      | exact oA_83 (by decide) z)
theorem FA_cell {n f N : Nat} {r : Int32} {g g1 : mSt} (h : ceR g g1 (2 * f) r) : FA n f N g g1 := fun j k w => by
  obtain ⟨⟨h1, h2, h3⟩, h4, _⟩ := h
  have c : ¬ ((j = 67 ∧ 2 ≤ k % 4) ∨ ((j = 544 ∨ j = 576) ∧ 2 ≤ k / 8192 % 4) ∨ (j = 111 ∧ k % 2 = 1) ∨ (j = 768 ∧ k / 8192 % 2 = 1) ∨ (225 ≤ j ∧ j ≤ 235 ∧ k = 2 * f) ∨ ((j = 800 ∨ j = 512) ∧ k / 8192 = 2 * f) ∨ (j < 3 ∧ k = 2 * f)) := fun z => w (Or.inr (Or.inr (Or.inr (Or.inr (Or.inr z)))))
  by_cases e0 : j ∈ [1, 2, 67, 108, 109, 512, 544, 576]
  · simp only [List.mem_cons, List.not_mem_nil, or_false] at e0
    rcases e0 with e | e | e | e | e | e | e | e
    · subst e
      exact (h2 k (by omega)).1
    · subst e
      exact (h2 k (by omega)).2
    · subst e
      exact h4.1 k (by omega)
    · subst e
      exact absurd (Or.inr (Or.inl (by decide))) w
    · subst e
      exact absurd (Or.inr (Or.inl (by decide))) w
    · subst e
      exact h3 k (by omega)
    · subst e
      exact (h4.2 k (by omega)).1
    · subst e
      exact (h4.2 k (by omega)).2
  · rw [h1 j e0]
