/-! what an end's side may change -/
def ownB (e N : Nat) (b : Bool) (g : mSt) (j k : Nat) : Prop := own4 e N g j k ∨ j ∈ anyR ∨ (164 ≤ j ∧ j ≤ 180 ∧ k = e) ∨ (j = 197 ∧ k = e) ∨ ((j = 1248 ∨ j = 1280) ∧ k / 8192 / 2 = e) ∨ (j = 67 ∧ k = 2 * (2 * e)) ∨ ((j = 544 ∨ j = 576) ∧ k / 8192 = 2 * (2 * e)) ∨ (j = 111 ∧ k = 2 * e) ∨ (j = 768 ∧ k / 8192 = 2 * e) ∨ (225 ≤ j ∧ j ≤ 235 ∧ k = 2 * e + 1) ∨ (j = 800 ∧ k / 8192 = 2 * e + 1) ∨ (j = 512 ∧ (k / 8192 = 2 * e + 1 ∨ 8 ≤ k / 8192)) ∨ (j < 3 ∧ (k = 2 * e + 1 ∨ 8 ≤ k)) ∨ ((46 ≤ j ∧ j ≤ 49) ∧ (g 32 k).toInt = (e : Int)) ∨ (b = true ∧ ((j = 67 ∧ k = 2 * (2 * e) + 1) ∨ ((j = 544 ∨ j = 576) ∧ k / 8192 = 2 * (2 * e) + 1)))
def fB (e N : Nat) (b : Bool) (g : mSt) (N1 : Nat) (g1 : mSt) : Prop := N ≤ N1 ∧ (∀ j k, ¬ ownB e N b g j k → g1 j k = g j k) ∧ (∀ c, N ≤ c → c < N1 → (g1 32 c).toInt = (e : Int)) ∧ (∀ c, N1 ≤ c → g1 32 c = g 32 c ∧ g1 43 c = g 43 c) ∧ ((g 135 e).toInt ≤ 40 → (g1 135 e).toInt ≤ 40)
theorem ownB_no {e N : Nat} {b : Bool} {g : mSt} {j k : Nat} (hj : j = 32 ∨ j = 43) (hk : k < N) : ¬ ownB e N b g j k := fun z => by
  unfold ownB own4 ownE at z
  have n1 : (32 : Nat) ∉ cRows := by decide
  have n2 : (43 : Nat) ∉ cRows := by decide
  have n3 : (32 : Nat) ∉ anyR := by decide
  have n4 : (43 : Nat) ∉ anyR := by decide
  rcases hj with hj | hj
  · subst hj
    rcases z with ((⟨z, _⟩ | z) | z) | z | z
    · exact n1 z
    · omega
    · omega
    · exact n3 z
    · rcases z with z | z | z | z | z | z | z | z | z | z | z | z | z <;> omega
  · subst hj
    rcases z with ((⟨z, _⟩ | z) | z) | z | z
    · exact n2 z
    · omega
    · omega
    · exact n4 z
    · rcases z with z | z | z | z | z | z | z | z | z | z | z | z | z <;> omega
theorem fB.c32 {e N N1 c : Nat} {b : Bool} {g g1 : mSt} (h : fB e N b g N1 g1) (hc : c < N) : g1 32 c = g 32 c ∧ g1 43 c = g 43 c := ⟨h.2.1 32 c (ownB_no (Or.inl rfl) hc), h.2.1 43 c (ownB_no (Or.inr rfl) hc)⟩
theorem fB.tr {e N N1 N2 : Nat} {b : Bool} {g g1 g2 : mSt} (h : fB e N b g N1 g1) (k : fB e N1 b g1 N2 g2) : fB e N b g N2 g2 := by
  refine ⟨Nat.le_trans h.1 k.1, fun j x hn => ?_, fun c h1 h2 => ?_, fun c hc => ?_, fun z => k.2.2.2.2 (h.2.2.2.2 z)⟩
  · rw [k.2.1 j x (fun z => hn ?_)]
    · exact h.2.1 j x hn
    · rcases z with ((⟨z1, z2⟩ | z) | z | z) | z | z
      · have zr := cRows_b z1
        by_cases w : x < N
        · rw [(h.c32 w).1] at z2
          exact Or.inl (Or.inl (Or.inl ⟨z1, z2⟩))
        · exact Or.inl (Or.inr (Or.inl ⟨by omega, by omega, by omega⟩))
      · exact Or.inl (Or.inl (Or.inr z))
      · exact Or.inl (Or.inr (Or.inl ⟨z.1, z.2.1, Nat.le_trans h.1 z.2.2⟩))
      · exact Or.inl (Or.inr (Or.inr z))
      · exact Or.inr (Or.inl z)
      · rcases z with z | z | z | z | z | z | z | z | z | z | z | z | z
        · exact Or.inr (Or.inr (Or.inl z))
        · exact Or.inr (Or.inr (Or.inr (Or.inl z)))
        · exact Or.inr (Or.inr (Or.inr (Or.inr (Or.inl z))))
        · exact Or.inr (Or.inr (Or.inr (Or.inr (Or.inr (Or.inl z)))))
        · exact Or.inr (Or.inr (Or.inr (Or.inr (Or.inr (Or.inr (Or.inl z))))))
        · exact Or.inr (Or.inr (Or.inr (Or.inr (Or.inr (Or.inr (Or.inr (Or.inl z)))))))
        · exact Or.inr (Or.inr (Or.inr (Or.inr (Or.inr (Or.inr (Or.inr (Or.inr (Or.inl z))))))))
        · exact Or.inr (Or.inr (Or.inr (Or.inr (Or.inr (Or.inr (Or.inr (Or.inr (Or.inr (Or.inl z)))))))))
        · exact Or.inr (Or.inr (Or.inr (Or.inr (Or.inr (Or.inr (Or.inr (Or.inr (Or.inr (Or.inr (Or.inl z))))))))))
        · exact Or.inr (Or.inr (Or.inr (Or.inr (Or.inr (Or.inr (Or.inr (Or.inr (Or.inr (Or.inr (Or.inr (Or.inl z)))))))))))
        · exact Or.inr (Or.inr (Or.inr (Or.inr (Or.inr (Or.inr (Or.inr (Or.inr (Or.inr (Or.inr (Or.inr (Or.inr (Or.inl z))))))))))))
        · by_cases w : x < N
          · rw [(h.c32 w).1] at z
            exact Or.inr (Or.inr (Or.inr (Or.inr (Or.inr (Or.inr (Or.inr (Or.inr (Or.inr (Or.inr (Or.inr (Or.inr (Or.inr (Or.inl z)))))))))))))
          · exact Or.inl (Or.inr (Or.inl ⟨by omega, by omega, by omega⟩))
        · exact Or.inr (Or.inr (Or.inr (Or.inr (Or.inr (Or.inr (Or.inr (Or.inr (Or.inr (Or.inr (Or.inr (Or.inr (Or.inr (Or.inr z)))))))))))))
  · by_cases w : c < N1
    · rw [(k.c32 w).1]
      exact h.2.2.1 c h1 w
    · exact k.2.2.1 c (by omega) h2
  · have a := k.2.2.2.1 c hc
    have b := h.2.2.2.1 c (Nat.le_trans k.1 hc)
    exact ⟨a.1.trans b.1, a.2.trans b.2⟩
theorem f4.fB {e N N1 : Nat} {b : Bool} {g g1 : mSt} (h : f4 e N g N1 g1) : fB e N b g N1 g1 := ⟨h.1, fun j k hn => h.2.1 j k (fun z => hn (Or.inl z)), h.2.2⟩
theorem fB.same {e N : Nat} {b : Bool} {g g1 : mSt} (h : ∀ j k, ¬ ownB e N b g j k → g1 j k = g j k) (h32 : g1 32 = g 32) (h43 : g1 43 = g 43) (h135 : g1 135 = g 135) : fB e N b g N g1 := ⟨Nat.le_refl _, h, fun c h1 h2 => by exfalso; omega, fun c _ => ⟨by rw [h32], by rw [h43]⟩, fun z => by rw [h135]; exact z⟩
theorem fB.fi {e N : Nat} {b : Bool} {S : List (Nat × Nat × Nat)} {M : List Nat} {g g1 : mSt} (h : mFi S g g1) (hM : mFr M g g1) (hm : 32 ∉ M ∧ 43 ∉ M ∧ 135 ∉ M) (hS : ∀ j k, ¬ ownB e N b g j k → mOut S j k) : fB e N b g N g1 := fB.same (fun j k q => h.out (hS j k q)) (hM 32 hm.1) (hM 43 hm.2.1) (hM 135 hm.2.2)
theorem fB.rf {e N : Nat} {b : Bool} {g : mSt} : fB e N b g N g := fB.same (fun _ _ _ => rfl) rfl rfl rfl
theorem fB.up {e N : Nat} {b : Bool} {g g1 : mSt} {j x : Nat} {v : Int32} (e1 : g1 = up2 g j x v) (h : j ∈ anyR) : fB e N b g N g1 := by
  have n1 : j ≠ 32 := fun z => by rw [z] at h; exact absurd h (by decide)
  have n2 : j ≠ 43 := fun z => by rw [z] at h; exact absurd h (by decide)
  have n3 : j ≠ 135 := fun z => by rw [z] at h; exact absurd h (by decide)
  exact fB.same (fun a k q => by rw [e1, up2_of (fun z => q (Or.inr (Or.inl (by rw [z]; exact h))))]) (by rw [e1, up2_of (Ne.symm n1)]) (by rw [e1, up2_of (Ne.symm n2)]) (by rw [e1, up2_of (Ne.symm n3)])
theorem oB_any {e N : Nat} {b : Bool} {g : mSt} {j k : Nat} (h : j ∈ anyR) : ownB e N b g j k := Or.inr (Or.inl h)
theorem oB_l {e N : Nat} {b : Bool} {g : mSt} {j k : Nat} (h : 164 ≤ j ∧ j ≤ 180) (z : k / 1 = e) : ownB e N b g j k := Or.inr (Or.inr (Or.inl ⟨h.1, h.2, by rw [Nat.div_one] at z; exact z⟩))
theorem oB_197 {e N : Nat} {b : Bool} {g : mSt} {k : Nat} (z : k / 1 = e) : ownB e N b g 197 k := Or.inr (Or.inr (Or.inr (Or.inl ⟨rfl, by rw [Nat.div_one] at z; exact z⟩)))
theorem oB_a {e N : Nat} {b : Bool} {g : mSt} {j k : Nat} (h : j = 1248 ∨ j = 1280) (z : k / 8192 = 2 * e ∨ k / 8192 = 2 * e + 1) : ownB e N b g j k := Or.inr (Or.inr (Or.inr (Or.inr (Or.inl ⟨h, by rcases z with z | z <;> rw [z] <;> omega⟩))))
theorem oB_67 {e N : Nat} {b : Bool} {g : mSt} {k : Nat} (z : k / 1 = 2 * (2 * e)) : ownB e N b g 67 k := Or.inr (Or.inr (Or.inr (Or.inr (Or.inr (Or.inl ⟨rfl, by rw [Nat.div_one] at z; exact z⟩)))))
theorem oB_q {e N : Nat} {b : Bool} {g : mSt} {j k : Nat} (h : j = 544 ∨ j = 576) (z : k / 8192 = 2 * (2 * e)) : ownB e N b g j k := Or.inr (Or.inr (Or.inr (Or.inr (Or.inr (Or.inr (Or.inl ⟨h, z⟩))))))
theorem oB_111 {e N : Nat} {b : Bool} {g : mSt} {k : Nat} (z : k / 1 = 2 * e) : ownB e N b g 111 k := Or.inr (Or.inr (Or.inr (Or.inr (Or.inr (Or.inr (Or.inr (Or.inl ⟨rfl, by rw [Nat.div_one] at z; exact z⟩)))))))
theorem oB_768 {e N : Nat} {b : Bool} {g : mSt} {k : Nat} (z : k / 8192 = 2 * e) : ownB e N b g 768 k := Or.inr (Or.inr (Or.inr (Or.inr (Or.inr (Or.inr (Or.inr (Or.inr (Or.inl ⟨rfl, z⟩))))))))
theorem oB_r {e N : Nat} {b : Bool} {g : mSt} {j k : Nat} (h : 225 ≤ j ∧ j ≤ 235) (z : k / 1 = 2 * e + 1) : ownB e N b g j k := Or.inr (Or.inr (Or.inr (Or.inr (Or.inr (Or.inr (Or.inr (Or.inr (Or.inr (Or.inl ⟨h.1, h.2, by rw [Nat.div_one] at z; exact z⟩)))))))))
theorem oB_800 {e N : Nat} {b : Bool} {g : mSt} {k : Nat} (z : k / 8192 = 2 * e + 1) : ownB e N b g 800 k := Or.inr (Or.inr (Or.inr (Or.inr (Or.inr (Or.inr (Or.inr (Or.inr (Or.inr (Or.inr (Or.inl ⟨rfl, z⟩))))))))))
theorem oB_512 {e N : Nat} {b : Bool} {g : mSt} {k : Nat} (z : k / 8192 = 2 * e + 1) : ownB e N b g 512 k := Or.inr (Or.inr (Or.inr (Or.inr (Or.inr (Or.inr (Or.inr (Or.inr (Or.inr (Or.inr (Or.inr (Or.inl ⟨rfl, Or.inl z⟩)))))))))))
theorem oB_512c {e N : Nat} {b : Bool} {g : mSt} {k : Nat} {c : Nat} (z : k / 8192 = 8 + c) : ownB e N b g 512 k := Or.inr (Or.inr (Or.inr (Or.inr (Or.inr (Or.inr (Or.inr (Or.inr (Or.inr (Or.inr (Or.inr (Or.inl ⟨rfl, Or.inr (by rw [z]; exact Nat.le_add_right 8 c)⟩)))))))))))
theorem oB_3 {e N : Nat} {b : Bool} {g : mSt} {j k : Nat} (h : j < 3) (z : k / 1 = 2 * e + 1) : ownB e N b g j k := Or.inr (Or.inr (Or.inr (Or.inr (Or.inr (Or.inr (Or.inr (Or.inr (Or.inr (Or.inr (Or.inr (Or.inr (Or.inl ⟨h, Or.inl (by rw [Nat.div_one] at z; exact z)⟩))))))))))))
theorem oB_3c {e N : Nat} {b : Bool} {g : mSt} {j k : Nat} {c : Nat} (h : j < 3) (z : k / 1 = 8 + c) : ownB e N b g j k := Or.inr (Or.inr (Or.inr (Or.inr (Or.inr (Or.inr (Or.inr (Or.inr (Or.inr (Or.inr (Or.inr (Or.inr (Or.inl ⟨h, Or.inr (by rw [Nat.div_one] at z; rw [z]; exact Nat.le_add_right 8 c)⟩))))))))))))
theorem oB_46 {e N : Nat} {b : Bool} {g : mSt} {j k : Nat} {c : Nat} (h : 46 ≤ j ∧ j ≤ 49) (hc : (g 32 c).toInt = (e : Int)) (z : k / 1 = c) : ownB e N b g j k := Or.inr (Or.inr (Or.inr (Or.inr (Or.inr (Or.inr (Or.inr (Or.inr (Or.inr (Or.inr (Or.inr (Or.inr (Or.inr (Or.inl ⟨h, by rw [Nat.div_one] at z; rw [z]; exact hc⟩)))))))))))))
theorem oB_198 {e N : Nat} {b : Bool} {g : mSt} {k : Nat} (z : k / 1 = e) : ownB e N b g 198 k := Or.inl (Or.inl (Or.inr (Or.inl ⟨rfl, by rw [Nat.div_one] at z; exact z⟩)))
theorem oB_83 {e N : Nat} {b : Bool} {g : mSt} {j k : Nat} (h : j = 832 ∨ j = 864) (z : k / 8192 = e) : ownB e N b g j k := Or.inl (Or.inl (Or.inr (Or.inr ⟨h, z⟩)))
theorem oB_d {e N : Nat} {b : Bool} {g : mSt} {j k : Nat} (hb : b = true) (h : j = 544 ∨ j = 576) (z : k / 8192 = 2 * (2 * e) + 1) : ownB e N b g j k := Or.inr (Or.inr (Or.inr (Or.inr (Or.inr (Or.inr (Or.inr (Or.inr (Or.inr (Or.inr (Or.inr (Or.inr (Or.inr (Or.inr (⟨hb, Or.inr ⟨h, z⟩⟩))))))))))))))
theorem oB_d67 {e N : Nat} {b : Bool} {g : mSt} {k : Nat} (hb : b = true) (z : k / 1 = 2 * (2 * e) + 1) : ownB e N b g 67 k := Or.inr (Or.inr (Or.inr (Or.inr (Or.inr (Or.inr (Or.inr (Or.inr (Or.inr (Or.inr (Or.inr (Or.inr (Or.inr (Or.inr (⟨hb, Or.inl ⟨rfl, by rw [Nat.div_one] at z; exact z⟩⟩))))))))))))))
set_option maxHeartbeats 2000000 in
theorem fB_unit {Z : cZ} {e N : Nat} {b : Bool} {q : Nat} {p2 p3 : Int32} {g g1 : mSt} (he : e < Z.n) (h : mFi (im_kunitCame Z e q p2 p3) g g1) (hM : mFr [67, 108, 111, 164, 165, 166, 167, 168, 169, 170, 171, 172, 174, 175, 178, 179, 180, 197, 198, 421, 422, 544, 576, 768, 864, 928, 1248, 1280, 1344] g g1) : fB e N b g N g1 := fB.fi h hM (by decide) (fun j k w => by
  have c : cOut Z.n e = 2 * e := if_pos he
  refine mOut_all (fun t ht e0 => ?_)
  subst e0
  simp only [im_kunitCame, c, List.mem_cons, List.not_mem_nil, or_false] at ht
  rcases ht with ht | ht | ht | ht | ht | ht | ht | ht | ht | ht | ht | ht | ht | ht | ht | ht | ht | ht | ht | ht | ht | ht | ht | ht | ht | ht | ht | ht | ht | ht | ht | ht | ht
  all_goals
    subst ht
    refine ⟨by simp, fun z => w ?_⟩
    dsimp only at z ⊢
    first
      | exact oB_any (by decide)
      | exact oB_l (by decide) z
      | exact oB_197 z
      | exact oB_a (by decide) (Or.inl z)
      | exact oB_a (by decide) (Or.inr z)
      | exact oB_67 z
      | exact oB_q (by decide) z
      | exact oB_111 z
      | exact oB_768 z
      | exact oB_r (by decide) z
      | exact oB_800 z
      | exact oB_512 z
      | exact oB_3 (by decide) z
      | exact oB_198 z
      | exact oB_83 (by decide) z)
set_option maxHeartbeats 2000000 in
theorem fB_ask {Z : cZ} {e N : Nat} {b : Bool} {p1 p2 p3 : Int32} {g g1 : mSt} (he : e < Z.n) (h : mFi (im_kask Z e p1 p2 p3) g g1) (hM : mFr [67, 108, 111, 164, 173, 176, 177, 178, 544, 576, 768] g g1) : fB e N b g N g1 := fB.fi h hM (by decide) (fun j k w => by
  have c : cOut Z.n e = 2 * e := if_pos he
  refine mOut_all (fun t ht e0 => ?_)
  subst e0
  simp only [im_kask, c, List.mem_cons, List.not_mem_nil, or_false] at ht
  rcases ht with ht | ht | ht | ht | ht | ht | ht | ht | ht | ht | ht
  all_goals
    subst ht
    refine ⟨by simp, fun z => w ?_⟩
    dsimp only at z ⊢
    first
      | exact oB_any (by decide)
      | exact oB_l (by decide) z
      | exact oB_197 z
      | exact oB_a (by decide) (Or.inl z)
      | exact oB_a (by decide) (Or.inr z)
      | exact oB_67 z
      | exact oB_q (by decide) z
      | exact oB_111 z
      | exact oB_768 z
      | exact oB_r (by decide) z
      | exact oB_800 z
      | exact oB_512 z
      | exact oB_3 (by decide) z
      | exact oB_198 z
      | exact oB_83 (by decide) z)
set_option maxHeartbeats 2000000 in
theorem fB_timers {Z : cZ} {e N : Nat} {b : Bool} {p1 : Int32} {g g1 : mSt} (he : e < Z.n) (h : mFi (im_ktimers Z e p1) g g1) (hM : mFr [67, 108, 111, 164, 165, 166, 167, 168, 169, 170, 171, 172, 177, 178, 179, 197, 198, 421, 422, 544, 576, 768, 864, 928, 1280, 1344] g g1) : fB e N b g N g1 := fB.fi h hM (by decide) (fun j k w => by
  have c : cOut Z.n e = 2 * e := if_pos he
  refine mOut_all (fun t ht e0 => ?_)
  subst e0
  simp only [im_ktimers, c, List.mem_cons, List.not_mem_nil, or_false] at ht
  rcases ht with ht | ht | ht | ht | ht | ht | ht | ht | ht | ht | ht | ht | ht | ht | ht | ht | ht | ht | ht | ht | ht | ht | ht | ht | ht | ht | ht | ht | ht | ht
  all_goals
    subst ht
    refine ⟨by simp, fun z => w ?_⟩
    dsimp only at z ⊢
    first
      | exact oB_any (by decide)
      | exact oB_l (by decide) z
      | exact oB_197 z
      | exact oB_a (by decide) (Or.inl z)
      | exact oB_a (by decide) (Or.inr z)
      | exact oB_67 z
      | exact oB_q (by decide) z
      | exact oB_111 z
      | exact oB_768 z
      | exact oB_r (by decide) z
      | exact oB_800 z
      | exact oB_512 z
      | exact oB_3 (by decide) z
      | exact oB_198 z
      | exact oB_83 (by decide) z)
set_option maxHeartbeats 2000000 in
theorem fB_turn {Z : cZ} {e N : Nat} {b : Bool} {p1 : Int32} {g g1 : mSt} (he : e < Z.n) (h : mFi (im_kturn Z e p1) g g1) (hM : mFr [67, 108, 111, 164, 165, 168, 173, 176, 177, 178, 179, 197, 198, 544, 576, 768, 1248, 1280, 1312, 1344] g g1) : fB e N b g N g1 := fB.fi h hM (by decide) (fun j k w => by
  have c : cOut Z.n e = 2 * e := if_pos he
  refine mOut_all (fun t ht e0 => ?_)
  subst e0
  simp only [im_kturn, c, List.mem_cons, List.not_mem_nil, or_false] at ht
  rcases ht with ht | ht | ht | ht | ht | ht | ht | ht | ht | ht | ht | ht | ht | ht | ht | ht | ht | ht | ht | ht
  all_goals
    subst ht
    refine ⟨by simp, fun z => w ?_⟩
    dsimp only at z ⊢
    first
      | exact oB_any (by decide)
      | exact oB_l (by decide) z
      | exact oB_197 z
      | exact oB_a (by decide) (Or.inl z)
      | exact oB_a (by decide) (Or.inr z)
      | exact oB_67 z
      | exact oB_q (by decide) z
      | exact oB_111 z
      | exact oB_768 z
      | exact oB_r (by decide) z
      | exact oB_800 z
      | exact oB_512 z
      | exact oB_3 (by decide) z
      | exact oB_198 z
      | exact oB_83 (by decide) z)
set_option maxHeartbeats 2000000 in
theorem fB_tk {Z : cZ} {e N : Nat} {b : Bool} {g g1 : mSt} (h : mFi (im_ktakeNext Z e 0) g g1) (hM : mFr [170, 171, 1088, 1280, 1344] g g1) : fB e N b g N g1 := fB.fi h hM (by decide) (fun j k w => by
  refine mOut_all (fun t ht e0 => ?_)
  subst e0
  simp only [im_ktakeNext, List.mem_cons, List.not_mem_nil, or_false] at ht
  rcases ht with ht | ht | ht | ht | ht
  all_goals
    subst ht
    refine ⟨by simp, fun z => w ?_⟩
    dsimp only at z ⊢
    first
      | exact oB_any (by decide)
      | exact oB_l (by decide) z
      | exact oB_197 z
      | exact oB_a (by decide) (Or.inl z)
      | exact oB_a (by decide) (Or.inr z)
      | exact oB_67 z
      | exact oB_q (by decide) z
      | exact oB_111 z
      | exact oB_768 z
      | exact oB_r (by decide) z
      | exact oB_800 z
      | exact oB_512 z
      | exact oB_3 (by decide) z
      | exact oB_198 z
      | exact oB_83 (by decide) z)
set_option maxHeartbeats 2000000 in
theorem fB_rd {Z : cZ} {e N : Nat} {b : Bool} {p2 p3 : Int32} {g g1 : mSt} (h : mFi (im_ksread Z 0 0 p2 p3) g g1) (hM : mFr [288, 289, 290, 291, 292, 293, 294, 295, 296] g g1) : fB e N b g N g1 := fB.fi h hM (by decide) (fun j k w => by
  refine mOut_all (fun t ht e0 => ?_)
  subst e0
  simp only [im_ksread, List.mem_cons, List.not_mem_nil, or_false] at ht
  rcases ht with ht | ht | ht | ht | ht | ht | ht | ht | ht
  all_goals
    subst ht
    refine ⟨by simp, fun z => w ?_⟩
    dsimp only at z ⊢
    first
      | exact oB_any (by decide)
      | exact oB_l (by decide) z
      | exact oB_197 z
      | exact oB_a (by decide) (Or.inl z)
      | exact oB_a (by decide) (Or.inr z)
      | exact oB_67 z
      | exact oB_q (by decide) z
      | exact oB_111 z
      | exact oB_768 z
      | exact oB_r (by decide) z
      | exact oB_800 z
      | exact oB_512 z
      | exact oB_3 (by decide) z
      | exact oB_198 z
      | exact oB_83 (by decide) z)
set_option maxHeartbeats 2000000 in
theorem fB_take {Z : cZ} {e N : Nat} {b : Bool} {p2 p3 : Int32} {g g1 : mSt} (h : mFi (im_ktake Z (2 * e + 1) (2 * e + 1) p2 p3) g g1) (hM : mFr [225, 226, 227, 228, 229, 230, 231, 232, 233, 234, 235, 800] g g1) : fB e N b g N g1 := fB.fi h hM (by decide) (fun j k w => by
  refine mOut_all (fun t ht e0 => ?_)
  subst e0
  simp only [im_ktake, List.mem_cons, List.not_mem_nil, or_false] at ht
  rcases ht with ht | ht | ht | ht | ht | ht | ht | ht | ht | ht | ht | ht
  all_goals
    subst ht
    refine ⟨by simp, fun z => w ?_⟩
    dsimp only at z ⊢
    first
      | exact oB_any (by decide)
      | exact oB_l (by decide) z
      | exact oB_197 z
      | exact oB_a (by decide) (Or.inl z)
      | exact oB_a (by decide) (Or.inr z)
      | exact oB_67 z
      | exact oB_q (by decide) z
      | exact oB_111 z
      | exact oB_768 z
      | exact oB_r (by decide) z
      | exact oB_800 z
      | exact oB_512 z
      | exact oB_3 (by decide) z
      | exact oB_198 z
      | exact oB_83 (by decide) z)
set_option maxHeartbeats 2000000 in
theorem fB_asm {Z : cZ} {e N : Nat} {b : Bool} {p2 : Int32} {g g1 : mSt} (h : mFi (im_kasmAdd Z (2 * e + 1) (2 * e + 1) p2) g g1) (hM : mFr [1, 2, 512] g g1) : fB e N b g N g1 := fB.fi h hM (by decide) (fun j k w => by
  refine mOut_all (fun t ht e0 => ?_)
  subst e0
  simp only [im_kasmAdd, List.mem_cons, List.not_mem_nil, or_false] at ht
  rcases ht with ht | ht | ht
  all_goals
    subst ht
    refine ⟨by simp, fun z => w ?_⟩
    dsimp only at z ⊢
    first
      | exact oB_any (by decide)
      | exact oB_l (by decide) z
      | exact oB_197 z
      | exact oB_a (by decide) (Or.inl z)
      | exact oB_a (by decide) (Or.inr z)
      | exact oB_67 z
      | exact oB_q (by decide) z
      | exact oB_111 z
      | exact oB_768 z
      | exact oB_r (by decide) z
      | exact oB_800 z
      | exact oB_512 z
      | exact oB_3 (by decide) z
      | exact oB_198 z
      | exact oB_83 (by decide) z)
set_option maxHeartbeats 2000000 in
theorem fB_edata {Z : cZ} {e N : Nat} {b : Bool} {c q2 : Nat} {p3 p4 : Int32} {g g1 : mSt} (hc : (g 32 c).toInt = (e : Int)) (h : mFi (im_kedataCame e c q2 p3 p4) g g1) (hM : mFr [0, 1, 2, 46, 136, 512, 960, 992, 1024, 1056] g g1) : fB e N b g N g1 := fB.fi h hM (by decide) (fun j k w => by
  refine mOut_all (fun t ht e0 => ?_)
  subst e0
  simp only [im_kedataCame, List.mem_cons, List.not_mem_nil, or_false] at ht
  rcases ht with ht | ht | ht | ht | ht | ht | ht | ht | ht | ht
  all_goals
    subst ht
    refine ⟨by simp, fun z => w ?_⟩
    dsimp only at z ⊢
    first
      | exact oB_3c (c := c) (by decide) z
      | exact oB_512c (c := c) z
      | exact oB_46 (by decide) hc z
      | exact oB_any (by decide)
      | exact oB_l (by decide) z
      | exact oB_197 z
      | exact oB_a (by decide) (Or.inl z)
      | exact oB_a (by decide) (Or.inr z)
      | exact oB_67 z
      | exact oB_q (by decide) z
      | exact oB_111 z
      | exact oB_768 z
      | exact oB_r (by decide) z
      | exact oB_800 z
      | exact oB_512 z
      | exact oB_3 (by decide) z
      | exact oB_198 z
      | exact oB_83 (by decide) z)
set_option maxHeartbeats 2000000 in
theorem fB_csend {Z : cZ} {e N : Nat} {c : Nat} {g g1 : mSt} (hc : (g 32 c).toInt = (e : Int)) (h : mFi (im_kcsendCells Z c (2 * e)) g g1) (hM : mFr [47, 48, 49, 67, 108, 544, 576] g g1) : fB e N true g N g1 := fB.fi h hM (by decide) (fun j k w => by
  refine mOut_all (fun t ht e0 => ?_)
  subst e0
  simp only [im_kcsendCells, List.mem_cons, List.not_mem_nil, or_false] at ht
  rcases ht with ht | ht | ht | ht | ht | ht | ht
  all_goals
    subst ht
    refine ⟨by simp, fun z => w ?_⟩
    dsimp only at z ⊢
    first
      | exact oB_46 (by decide) hc z
      | exact oB_d rfl (by decide) z
      | exact oB_d67 rfl z
      | exact oB_any (by decide)
      | exact oB_l (by decide) z
      | exact oB_197 z
      | exact oB_a (by decide) (Or.inl z)
      | exact oB_a (by decide) (Or.inr z)
      | exact oB_67 z
      | exact oB_q (by decide) z
      | exact oB_111 z
      | exact oB_768 z
      | exact oB_r (by decide) z
      | exact oB_800 z
      | exact oB_512 z
      | exact oB_3 (by decide) z
      | exact oB_198 z
      | exact oB_83 (by decide) z)
