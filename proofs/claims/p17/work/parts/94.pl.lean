/-! the line: what its small methods do -/
/-- a place that none of the items covers -/
def mOut : List (Nat × Nat × Nat) → Nat → Nat → Prop
  | [], _, _ => True
  | t :: S, j, i => (t.1 = j → t.2.2 ≠ 0 ∧ i / t.2.2 ≠ t.2.1) ∧ mOut S j i
theorem mFi.out {S : List (Nat × Nat × Nat)} {g g1 : mSt} {j i : Nat} (h : mFi S g g1) (k : mOut S j i) : g1 j i = g j i := by
  refine h j i ?_
  rintro ⟨t, ht, e, c⟩
  clear h
  induction S with
  | nil => cases ht
  | cons u S ih =>
    rcases List.mem_cons.mp ht with w | w
    · subst w
      have := k.1 e
      omega
    · exact ih k.2 w
theorem qL_fr {M : List Nat} {g g1 : mSt} (h : mFr M g g1) (k : (66 ∉ M ∧ 67 ∉ M) ∧ (544 ∉ M ∧ 576 ∉ M)) (q : Nat) : qL g1 q = qL g q := by
  refine qL_ext ?_ (fun i _ => ?_)
  · unfold qSz
    rw [h 67 k.1.2]
  · unfold qC qPl
    rw [h 66 k.1.1, h 544 k.2.1, h 576 k.2.2]
theorem uLn_fr {M : List Nat} {g g1 : mSt} (h : mFr M g g1) (k : 111 ∉ M) (d : Nat) : uLn g1 d = uLn g d := by
  unfold uLn
  rw [h 111 k]
theorem uL_fr {M : List Nat} {g g1 : mSt} (h : mFr M g g1) (k : 111 ∉ M ∧ 768 ∉ M) (d : Nat) : uL g1 d = uL g d := by
  unfold uL
  rw [uLn_fr h k.1, h 768 k.2]
theorem uL_nil {g : mSt} {d : Nat} (h : uLn g d = 0) : uL g d = [] := by
  unfold uL
  rw [h]
  rfl
/-- the lengths of the messages that wait, in their order -/
def wtP (g : mSt) (i k : Nat) : Nat := ((g 197 i).toInt.toNat + k) % 10
def wtL (g : mSt) (i : Nat) : List Int32 := (List.range (g 198 i).toInt.toNat).map fun k => g 864 (8192 * i + wtP g i k)
theorem wtL_fr {M : List Nat} {g g1 : mSt} (h : mFr M g g1) (k : 197 ∉ M ∧ 198 ∉ M ∧ 864 ∉ M) (i : Nat) : wtL g1 i = wtL g i := by
  unfold wtL wtP
  rw [h 197 k.1, h 198 k.2.1, h 864 k.2.2]
/-- lengths of what was sent, of what came ahead -/
def snt (g : mSt) (i k : Nat) : Int32 := g 1280 (8192 * (2 * i) + k)
def ahd (g : mSt) (i k : Nat) : Int32 := g 1280 (8192 * (2 * i + 1) + k)
theorem s_clearAll13 {Z : cZ} {i0 : Nat} {g : mSt} {Φ : Int32 → mSt → Prop} (h : ∀ g1, (∀ k, k < 8 → g1 1280 (8192 * i0 + k) = 0) → Φ 0 g1) : wp_kclearAll_13 Z i0 g Φ := by
  intro g1 e1 g2 e2
  refine ⟨fun a g4 => ∀ k : Nat, (k : Int) < a.toInt → g4 1280 (8192 * i0 + k) = 0, fun a g4 _ _ ra hP => ⟨fun c => h g4 (fun k hk => hP k (by omega)), fun c g10 e10 g12 e12 v13 e13 r13 t13 => fun k hk => ?_⟩, fun k hk => ?_⟩
  · have ra : 0 ≤ a.toInt ∧ a.toInt ≤ 8 := ra
    rw [e12, up2_o (by decide), e10]
    by_cases hk2 : (k : Int) = a.toInt
    · rw [show 8192 * i0 + k = 8192 * i0 + a.toNatClampNeg by rw [nat_cl]; omega, up2_i]
    · rw [up2_n (by rw [nat_cl]; omega)]
      exact hP k (by omega)
  · have : (0 : Int32).toInt = 0 := by decide
    omega
theorem s_anew {Z : cZ} {i0 : Nat} {p1 : Int32} {g : mSt} {Φ : Int32 → mSt → Prop} (h : ∀ g1, (∀ k, k < 8 → snt g1 i0 k = 0 ∧ ahd g1 i0 k = 0) → g1 170 i0 = 0 ∧ g1 171 i0 = 0 → Φ 0 g1) : wp_kanew Z i0 p1 g Φ := by
  intro g1 e1 g2 e2 g3 e3 g4 e4 g5 e5 g6 e6 g7 e7 g8 e8
  refine s_clearAll13 (fun g10 h10 hpo => s_clearAll13 (fun g12 h12 hpo2 => h g12 (fun k hk => ⟨?_, h12 k hk⟩) ?_))
  · show g12 1280 (8192 * (2 * i0) + k) = 0
    have : g12 1280 (8192 * (2 * i0) + k) = g10 1280 (8192 * (2 * i0) + k) := by
      exact hpo2.1.out (by simp [mOut, im_kclearAll_13]; omega)
    rw [this]
    exact h10 k hk
  · constructor
    · rw [hpo2.2.1 170 (by decide), hpo.2.1 170 (by decide), e8, up2_o (by decide), e7, up2_o (by decide), e6, up2_i]
    · rw [hpo2.2.1 171 (by decide), hpo.2.1 171 (by decide), e8, up2_o (by decide), e7, up2_i]
theorem s_becomeReady {Z : cZ} {i0 : Nat} {p1 : Int32} {g : mSt} {Φ : Int32 → mSt → Prop} (h : ∀ g1, (∀ k, k < 8 → snt g1 i0 k = 0 ∧ ahd g1 i0 k = 0) → g1 164 i0 = 2 → g1 170 i0 = 0 ∧ g1 171 i0 = 0 → Φ 0 g1) : wp_kbecomeReady Z i0 p1 g Φ := by
  refine s_anew (fun g1 h1 h170 hpo g2 e2 g3 e3 g4 e4 => ?_)
  have hr : g4 1280 = g1 1280 := by rw [e4, up2_of (by decide), e3, up2_of (by decide), e2, up2_of (by decide)]
  refine h g4 (fun k hk => ?_) ?_ ?_
  · unfold snt ahd
    rw [hr]
    exact h1 k hk
  · rw [e4, up2_o (by decide), e3, up2_o (by decide), e2, up2_i]
  · constructor
    · rw [e4, up2_o (by decide), e3, up2_o (by decide), e2, up2_o (by decide), h170.1]
    · rw [e4, up2_o (by decide), e3, up2_o (by decide), e2, up2_o (by decide), h170.2]
theorem s_clearAll6 {Z : cZ} {i0 : Nat} {g : mSt} {Φ : Int32 → mSt → Prop} (h : ∀ g1, g1 198 i0 = 0 → Φ 0 g1) : wp_kclearAll_6 Z i0 g Φ := by
  intro g1 e1 g2 e2
  refine ⟨fun _ g4 => g4 198 i0 = 0, fun a g4 _ _ ra hP => ⟨fun c => h g4 hP, fun c g10 e10 g12 e12 v13 e13 r13 t13 => ?_⟩, ?_⟩
  · show g12 198 i0 = 0
    rw [e12, up2_o (by decide), e10, up2_o (by decide)]
    exact hP
  · show g2 198 i0 = 0
    rw [e2, up2_i]
theorem s_cut {Z : cZ} {i0 : Nat} {g : mSt} {Φ : Int32 → mSt → Prop} (h : ∀ g1, (∀ k, k < 8 → snt g1 i0 k = 0 ∧ ahd g1 i0 k = 0) → g1 164 i0 = 0 → wtL g1 i0 = [] → g1 170 i0 = 0 ∧ g1 171 i0 = 0 → Φ 0 g1) : wp_kcut Z i0 g Φ := by
  intro g1 e1 v2 e2 _ v3 e3 _ g4 e4
  refine s_clearAll6 (fun g6 h6 hpo6 => s_anew (fun g7 h7 h170 hpo7 => h g7 h7 ?_ ?_ h170))
  · rw [hpo7.2.1 164 (by decide), hpo6.2.1 164 (by decide), e4, up2_o (by decide), e1, up2_i]
  · unfold wtL
    rw [hpo7.2.1 198 (by decide), h6]
    rfl
