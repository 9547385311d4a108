/-! an end's calls: those that can still ask -/
theorem cP_le {N c : Nat} {p q : Nat → Bool} (h : ∀ k, k ≠ c → q k = p k) (hc : q c = false) : (List.range N).countP q ≤ (List.range N).countP p := by
  induction N with
  | zero => exact Nat.le_refl _
  | succ N ih =>
    rw [List.range_succ, List.countP_append, List.countP_append, List.countP_singleton, List.countP_singleton]
    by_cases hN : N = c
    · subst hN
      rw [hc]
      have : (if false = true then 1 else 0) = 0 := rfl
      omega
    · rw [h N hN]
      omega
theorem cP_lt {N c : Nat} {p q : Nat → Bool} (h : ∀ k, k ≠ c → q k = p k) (hc : q c = false) (hp : p c = true) (hN : c < N) : (List.range N).countP q + 1 ≤ (List.range N).countP p := by
  induction N with
  | zero => omega
  | succ N ih =>
    rw [List.range_succ, List.countP_append, List.countP_append, List.countP_singleton, List.countP_singleton]
    by_cases hc2 : N = c
    · subst hc2
      rw [hc, hp]
      have := cP_le (N := N) h hc
      have e1 : (if false = true then 1 else 0) = 0 := rfl
      have e2 : (if true = true then 1 else 0) = 1 := rfl
      omega
    · rw [h N hc2]
      have := ih (by omega)
      omega
def omP (g : mSt) (e c : Nat) : Bool := decide ((g 32 c).toInt = (e : Int) ∧ (g 36 c).toInt = 1 ∧ (g 42 c).toInt = 0)
def om (N : Nat) (g : mSt) (e : Nat) : Nat := (List.range N).countP (omP g e)
def cRows : List Nat := [36, 37, 40, 41, 42, 44, 45, 46, 48]
def ownE (e : Nat) (g : mSt) (j k : Nat) : Prop := (j ∈ cRows ∧ (g 32 k).toInt = (e : Int)) ∨ (j = 198 ∧ k = e) ∨ ((j = 832 ∨ j = 864) ∧ k / 8192 = e)
/-- whether a call may still get an assembler; cells of frames that may still go out -/
def asW (g : mSt) (c : Nat) : Nat := if (g 36 c).toInt ≠ 0 ∧ (g 36 c).toInt ≠ 11 ∧ ((g 36 c).toInt = 10 → (g 46 c).toInt < 0) then 1 else 0
def dW (g : mSt) (c : Nat) : Nat := (5 * (g 48 c).toInt - (if (g 48 c).toInt = 0 then 0 else ((g 49 c).toInt.toNat : Int))).toNat
theorem asW_le (g : mSt) (c : Nat) : asW g c ≤ 1 := by
  unfold asW
  split <;> omega
theorem asW_eq {g g1 : mSt} {c : Nat} (h : g1 36 c = g 36 c) (k : g1 46 c = g 46 c) : asW g1 c = asW g c := by
  unfold asW
  rw [h, k]
theorem dW_eq {g g1 : mSt} {c : Nat} (h : g1 48 c = g 48 c) (k : g1 49 c = g 49 c) : dW g1 c = dW g c := by
  unfold dW
  rw [h, k]
theorem dW_0 {g : mSt} {c : Nat} (h : g 48 c = 0) : dW g c = 0 := by
  unfold dW
  rw [h]
  rfl
/-- a step of an end's calls -/
def cst (N M e : Nat) (g g1 : mSt) : Prop := g1 32 = g 32 ∧ (∀ j k, ¬ ownE e g j k → g1 j k = g j k) ∧ n19 (wtL g1 e) + om N g1 e ≤ n19 (wtL g e) + om N g e ∧ ((∀ x ∈ wtL g e, x.toInt ≤ 19) → ∀ x ∈ wtL g1 e, x.toInt ≤ 19) ∧ (O8 g e → O8 g1 e) ∧ (∀ c, c < M → asW g1 c ≤ asW g c) ∧ ∀ c, dW g1 c ≤ dW g c
theorem cst.rf {N M e : Nat} {g : mSt} : cst N M e g g := ⟨rfl, fun _ _ _ => rfl, Nat.le_refl _, id, id, fun _ _ => Nat.le_refl _, fun _ => Nat.le_refl _⟩
theorem cst.tr {N M e : Nat} {g g1 g2 : mSt} (h : cst N M e g g1) (k : cst N M e g1 g2) : cst N M e g g2 := by
  refine ⟨k.1.trans h.1, fun a b q => (k.2.1 a b (fun z => q ?_)).trans (h.2.1 a b q), Nat.le_trans k.2.2.1 h.2.2.1, fun q => k.2.2.2.1 (h.2.2.2.1 q), fun q => k.2.2.2.2.1 (h.2.2.2.2.1 q), fun c hc => Nat.le_trans (k.2.2.2.2.2.1 c hc) (h.2.2.2.2.2.1 c hc), fun c => Nat.le_trans (k.2.2.2.2.2.2 c) (h.2.2.2.2.2.2 c)⟩
  unfold ownE at z ⊢
  rw [h.1] at z
  exact z
theorem om_eq {N e : Nat} {g g1 : mSt} (h : ∀ c, g1 32 c = g 32 c ∧ g1 36 c = g 36 c ∧ g1 42 c = g 42 c) : om N g1 e = om N g e := by
  unfold om
  congr 1
  funext c
  unfold omP
  rw [(h c).1, (h c).2.1, (h c).2.2]
/-- a call's numbers that don't count -/
theorem cst.up {N M e : Nat} {g g1 : mSt} {j c : Nat} {v : Int32} (hc : (g 32 c).toInt = (e : Int)) (hj : j ∈ cRows) (h36 : j ≠ 36) (h42 : j ≠ 42) (h46 : j ≠ 46 ∧ j ≠ 48) (e1 : g1 = up2 g j c v) : cst N M e g g1 := by
  have hj3 : j ≠ 49 := by
    simp only [cRows, List.mem_cons, List.not_mem_nil, or_false] at hj
    omega
  have hj2 : j ≠ 32 ∧ j ≠ 197 ∧ j ≠ 198 ∧ j ≠ 864 ∧ j ≠ 832 := by
    simp only [cRows, List.mem_cons, List.not_mem_nil, or_false] at hj
    omega
  have hw : wtL g1 e = wtL g e := wtL_fr (M := [j]) (fun a ha => by rw [e1, up2_of (by simpa using ha)]) ⟨by simp; omega, by simp; omega, by simp; omega⟩ e
  refine ⟨by rw [e1, up2_of (Ne.symm hj2.1)], fun a b q => ?_, ?_, fun q => by rw [hw]; exact q, fun q => q.fr (by rw [e1, up2_of (Ne.symm hj2.2.2.2.2)]), fun c _ => Nat.le_of_eq (asW_eq (by rw [e1, up2_o (Ne.symm h36)]) (by rw [e1, up2_o (Ne.symm h46.1)])), fun c => Nat.le_of_eq (dW_eq (by rw [e1, up2_o (Ne.symm h46.2)]) (by rw [e1, up2_o (Ne.symm hj3)]))⟩
  · rw [e1]
    refine if_neg (fun z => q (Or.inl ?_))
    rw [z.1, z.2]
    exact ⟨hj, hc⟩
  · rw [hw, om_eq (fun c => by rw [e1, up2_o (Ne.symm hj2.1), up2_o (Ne.symm h36), up2_o (Ne.symm h42)]; exact ⟨rfl, rfl, rfl⟩)]
    exact Nat.le_refl _
theorem s_enterE {Z : cZ} {N M e c : Nat} {p1 p2 : Int32} {g g0 : mSt} {Φ : Int32 → mSt → Prop} (hs : cst N M e g0 g) (hc : (g 32 c).toInt = (e : Int)) (hp : p1.toInt ≠ 1) (hA : p1.toInt = 0 ∨ p1.toInt = 11 ∨ asW g c = 1 ∨ M ≤ c) (h : ∀ g1, cst N M e g0 g1 → Φ 0 g1) : wp_kenter Z c p1 p2 g Φ := by
  intro g1 e1 g2 e2 g3 e3
  have k3 : mFr [36, 41, 42] g g3 := fun a ha => by
    simp only [List.mem_cons, List.not_mem_nil, or_false, not_or] at ha
    rw [e3, up2_of ha.2.2, e2, up2_of ha.2.1, e1, up2_of ha.1]
  have a36 : g3 36 c = p1 := by rw [e3, up2_o (by decide), e2, up2_o (by decide), e1, up2_i]
  have n3 : ∀ j k, k ≠ c → g3 j k = g j k := fun j k hk => by
    rw [e3]
    refine Eq.trans (if_neg (fun z => hk z.2)) ?_
    rw [e2]
    refine Eq.trans (if_neg (fun z => hk z.2)) ?_
    rw [e1]
    exact if_neg (fun z => hk z.2)
  have key : ∀ gF, mFr [36, 41, 42, 44, 45, 46, 48] g gF → (∀ j k, k ≠ c → gF j k = g j k) → gF 36 c = p1 → dW gF c ≤ dW g c → cst N M e g gF := fun gF kF nF aF dF => by
    have hw : wtL gF e = wtL g e := wtL_fr kF ⟨by decide, by decide, by decide⟩ e
    refine ⟨kF 32 (by decide), fun a b q => ?_, ?_, fun q => by rw [hw]; exact q, fun q => q.fr (kF 832 (by decide)), fun k hk => ?_, fun k => ?_⟩
    · by_cases hb : b = c
      · subst hb
        have ha : a ∉ [36, 41, 42, 44, 45, 46, 48] := fun z => q (Or.inl ⟨by
          simp only [List.mem_cons, List.not_mem_nil, or_false] at z
          rcases z with z | z | z | z | z | z | z <;> subst z <;> decide, hc⟩)
        rw [kF a ha]
      · exact nF a b hb
    · rw [hw]
      refine Nat.add_le_add_left (cP_le (c := c) (fun k hk => ?_) ?_) _
      · unfold omP
        rw [kF 32 (by decide), nF 36 k hk, nF 42 k hk]
      · unfold omP
        rw [aF]
        exact decide_eq_false (fun z => hp z.2.1)
    · by_cases hb : k = c
      · subst hb
        rcases hA with z | z | z | z
        · unfold asW
          rw [aF, if_neg (fun w => w.1 z)]
          exact Nat.zero_le _
        · unfold asW
          rw [aF, if_neg (fun w => w.2.1 z)]
          exact Nat.zero_le _
        · rw [z]
          exact asW_le _ _
        · omega
      · exact Nat.le_of_eq (asW_eq (nF 36 k hb) (nF 46 k hb))
    · by_cases hb : k = c
      · subst hb
        exact dF
      · exact Nat.le_of_eq (dW_eq (nF 48 k hb) (nF 49 k hb))
  refine ⟨fun _ => h _ (hs.tr (key g3 (fun a ha => k3 a (fun z => ha (by
    simp only [List.mem_cons, List.not_mem_nil, or_false] at z ⊢
    omega))) n3 a36 (Nat.le_of_eq (dW_eq (by rw [k3 48 (by decide)]) (by rw [k3 49 (by decide)]))))), fun _ g6 e6 g8 e8 g10 e10 g12 e12 => h _ (hs.tr (key g12 (fun a ha => ?_) (fun j k hk => ?_) ?_ ?_))⟩
  · simp only [List.mem_cons, List.not_mem_nil, or_false, not_or] at ha
    rw [e12, up2_of (by omega), e10, up2_of (by omega), e8, up2_of (by omega), e6, up2_of (by omega), k3 a (by simp only [List.mem_cons, List.not_mem_nil, or_false, not_or]; omega)]
  · rw [e12]
    refine Eq.trans (if_neg (fun z => hk z.2)) ?_
    rw [e10]
    refine Eq.trans (if_neg (fun z => hk z.2)) ?_
    rw [e8]
    refine Eq.trans (if_neg (fun z => hk z.2)) ?_
    rw [e6]
    exact Eq.trans (if_neg (fun z => hk z.2)) (n3 j k hk)
  · rw [e12, up2_o (by decide), e10, up2_o (by decide), e8, up2_o (by decide), e6, up2_o (by decide), a36]
  · rw [dW_0 (by rw [e12, up2_i])]
    exact Nat.zero_le _
/-- something said by the end, not a SETUP -/
theorem cst.said {R : List Nat} {S : List (Nat × Nat × Nat)} {N M e n : Nat} {g g1 : mSt} (hS : ∀ j k, ¬ ((j = 198 ∧ k = e) ∨ ((j = 832 ∨ j = 864) ∧ k / 8192 = e)) → mOut S j k) (k : mFi S g g1) (kf : mFr R g g1) (hM : ((32 ∉ R ∧ 36 ∉ R) ∧ 42 ∉ R) ∧ 46 ∉ R ∧ 48 ∉ R ∧ 49 ∉ R) (hs : said g g1 e n) (hn : n < 19) : cst N M e g g1 := by
  refine ⟨kf 32 hM.1.1.1, fun a b q => k.out (hS a b (fun z => q (Or.inr z))), ?_, fun q x hx => ?_, hs.2, fun c _ => Nat.le_of_eq (asW_eq (by rw [kf 36 hM.1.1.2]) (by rw [kf 46 hM.2.1])), fun c => Nat.le_of_eq (dW_eq (by rw [kf 48 hM.2.2.1]) (by rw [kf 49 hM.2.2.2]))⟩
  · rw [om_eq (fun c => ⟨by rw [kf 32 hM.1.1.1], by rw [kf 36 hM.1.1.2], by rw [kf 42 hM.1.2]⟩)]
    rcases hs.1 with w | ⟨y, hy, w⟩
    · rw [w]
      exact Nat.le_refl _
    · rw [w]
      unfold n19
      rw [List.countP_append, List.countP_singleton, if_neg (by rw [decide_eq_true_eq]; omega)]
      exact Nat.le_refl _
  · rcases hs.1 with w | ⟨y, hy, w⟩
    · rw [w] at hx
      exact q x hx
    · rw [w] at hx
      rcases List.mem_append.mp hx with z | z
      · exact q x z
      · rw [List.mem_singleton.mp z]
        omega
theorem mo_say {e : Nat} (j k : Nat) (h : ¬ ((j = 198 ∧ k = e) ∨ ((j = 832 ∨ j = 864) ∧ k / 8192 = e))) : mOut [(198, e, 1), (832, e, 8192), (864, e, 8192)] j k := by
  refine ⟨fun z => ⟨by show 1 ≠ 0; decide, fun w => h (Or.inl ⟨z.symm, ?_⟩)⟩, fun z => ⟨by show 8192 ≠ 0; decide, fun w => h (Or.inr ⟨Or.inl z.symm, w⟩)⟩, fun z => ⟨by show 8192 ≠ 0; decide, fun w => h (Or.inr ⟨Or.inr z.symm, w⟩)⟩, trivial⟩
  have w : k / 1 = e := w
  rw [Nat.div_one] at w
  exact w
