/-! what a method does, as a formula over what comes behind it: the rows that take such a formula apart -/
/-- a formula that is kept from omega's eyes -/
def wfP (p : Prop) : Prop := p
theorem wfP_a {α : Type} {P : α → Prop} (h : wfP (∀ x, P x)) (x : α) : wfP (P x) := h x
theorem wfP_i {p q : Prop} (h : wfP (p → q)) (k : p) : wfP q := h k
theorem wfP_l {p q : Prop} (h : wfP (p ∧ q)) : wfP p := And.left h
theorem wfP_r {p q : Prop} (h : wfP (p ∧ q)) : wfP q := And.right h
theorem wfP_ex {α : Type} {A B : α → Prop} (h : wfP (∃ P, A P ∧ B P)) : ∃ P, wfP (A P) ∧ wfP (B P) := h
theorem rg_i {n : Int} {v : Int32} (h : rg n n v) : v.toInt = n := Int.le_antisymm h.2 h.1
theorem i_lt {a b : Int32} {A B : Int} (h : a < b) (ka : a.toInt = A) (kb : b.toInt = B) : A < B := by
  have := Int32.lt_iff_toInt_lt.mp h
  omega
theorem i_le {a b : Int32} {A B : Int} (h : a ≤ b) (ka : a.toInt = A) (kb : b.toInt = B) : A ≤ B := by
  have := Int32.le_iff_toInt_le.mp h
  omega
theorem i_eq {a b : Int32} {A B : Int} (h : a = b) (ka : a.toInt = A) (kb : b.toInt = B) : A = B := by
  have := congrArg Int32.toInt h
  omega
theorem i_ne {a b : Int32} {A B : Int} (h : ¬ a = b) (ka : a.toInt = A) (kb : b.toInt = B) : A ≠ B := by
  intro q
  exact h (Int32.toInt_inj.mp (by omega))
theorem w_iadd {v x y A B : Int} (h : v = x + y) (ka : x = A) (kb : y = B) : v = A + B := by omega
theorem w_isub {v x y A B : Int} (h : v = x - y) (ka : x = A) (kb : y = B) : v = A - B := by omega
theorem w_min {v x y A B : Int} (h : v ≤ x ∧ v ≤ y ∧ (v = x ∨ v = y)) (ka : x = A) (kb : y = B) : v ≤ A ∧ v ≤ B ∧ (v = A ∨ v = B) := by omega
theorem w_max {v x y A B : Int} (h : x ≤ v ∧ y ≤ v ∧ (v = x ∨ v = y)) (ka : x = A) (kb : y = B) : A ≤ v ∧ B ≤ v ∧ (v = A ∨ v = B) := by omega
/-! which places may change: items of a row, an instance, a stride (0: any index of the row) -/
def mIn (S : List (Nat × Nat × Nat)) (j i : Nat) : Prop := ∃ t ∈ S, t.1 = j ∧ (t.2.2 = 0 ∨ i / t.2.2 = t.2.1)
def mFi (S : List (Nat × Nat × Nat)) (g g1 : mSt) : Prop := ∀ j i, ¬ mIn S j i → g1 j i = g j i
def mSub (S' S : List (Nat × Nat × Nat)) : Prop := ∀ j i, mIn S' j i → mIn S j i
def mAny (M : List Nat) (S : List (Nat × Nat × Nat)) : Prop := ∀ j, j ∈ M → ∀ i, mIn S j i
theorem mIn_at {S : List (Nat × Nat × Nat)} {j a n i : Nat} (p : Nat) (h : S[p]? = some (j, a, n)) (c : n = 0 ∨ i / n = a) : mIn S j i := ⟨_, List.mem_of_getElem? h, rfl, c⟩
theorem mFi.rf {S : List (Nat × Nat × Nat)} {g : mSt} : mFi S g g := fun _ _ _ => rfl
theorem mFi.tr {S : List (Nat × Nat × Nat)} {g g1 g2 : mSt} (h : mFi S g g1) (k : mFi S g1 g2) : mFi S g g2 := fun j i q => (k j i q).trans (h j i q)
theorem mFi.up {S : List (Nat × Nat × Nat)} {g g1 g2 : mSt} {j i : Nat} {v : Int32} (h : mFi S g g1) (e : g2 = up2 g1 j i v) (k : mIn S j i) : mFi S g g2 := by
  intro a b q
  subst e
  refine Eq.trans (if_neg ?_) (h a b q)
  rintro ⟨rfl, rfl⟩
  exact q k
theorem mIx {inst : Nat} {i : Int32} {a b : Int} (r : rg a b i) (h : decide (b < 8192) = true) : (8192 * inst + i.toNatClampNeg) / 8192 = inst := by
  have h := of_decide_eq_true h
  have h2 := r.2
  have : i.toNatClampNeg = i.toInt.toNat := rfl
  omega
theorem mIx2 {inst N : Nat} {i : Int32} (h0 : 0 ≤ i.toInt) (h1 : i.toInt < (N : Int)) (h2 : (N : Int) ≤ 16777216) : (16777216 * inst + i.toNatClampNeg) / 16777216 = inst := by
  have : i.toNatClampNeg = i.toInt.toNat := rfl
  omega
theorem mFi.cpy {S : List (Nat × Nat × Nat)} {g g1 g2 : mSt} {j1 A j2 d : Nat} {dp n : Int32} {L : Nat} (h : mFi S g g1) (e : g2 = cCpy g1 j1 A j2 (8192 * d + dp.toNatClampNeg) n.toNatClampNeg) (p : Nat) (hp : S[p]? = some (j2, d, 8192)) (h2 : 0 ≤ dp.toInt) (h5 : dp.toInt + n.toInt ≤ (L : Int)) (h3 : 0 ≤ n.toInt) (hL : L ≤ 8192) : mFi S g g2 := by
  intro a b q
  subst e
  refine Eq.trans (if_neg ?_) (h a b q)
  rintro ⟨rfl, q1, q2⟩
  have e1 : dp.toNatClampNeg = dp.toInt.toNat := rfl
  have e2 : n.toNatClampNeg = n.toInt.toNat := rfl
  exact q (mIn_at p hp (Or.inr (by omega)))
theorem mFi.cpyA {S : List (Nat × Nat × Nat)} {g g1 g2 : mSt} {j1 A j2 B n : Nat} (h : mFi S g g1) (e : g2 = cCpy g1 j1 A j2 B n) (p : Nat) (hp : S[p]? = some (j2, 0, 0)) : mFi S g g2 := by
  intro a b q
  subst e
  refine Eq.trans (if_neg ?_) (h a b q)
  rintro ⟨rfl, q1, q2⟩
  exact q (mIn_at p hp (Or.inl rfl))
theorem mFi.sub {S S' : List (Nat × Nat × Nat)} {g g1 g2 : mSt} (h : mFi S g g1) (k : mFi S' g1 g2) (s : mSub S' S) : mFi S g g2 := fun j i q => (k j i (fun z => q (s j i z))).trans (h j i q)
theorem mSub_nil {S : List (Nat × Nat × Nat)} : mSub [] S := by
  rintro j i ⟨t, ht, _⟩
  cases ht
theorem mSub_eq {S S' : List (Nat × Nat × Nat)} {t : Nat × Nat × Nat} (p : Nat) (h : S[p]? = some t) (k : mSub S' S) : mSub (t :: S') S := by
  rintro j i ⟨u, hu, e, c⟩
  rcases List.mem_cons.mp hu with w | w
  · subst w
    exact ⟨_, List.mem_of_getElem? h, e, c⟩
  · exact k j i ⟨u, w, e, c⟩
theorem mSub_any {S S' : List (Nat × Nat × Nat)} {j0 a n : Nat} (p : Nat) (h : S[p]? = some (j0, 0, 0)) (k : mSub S' S) : mSub ((j0, a, n) :: S') S := by
  rintro j i ⟨u, hu, e, c⟩
  rcases List.mem_cons.mp hu with w | w
  · subst w
    subst e
    exact mIn_at p h (Or.inl rfl)
  · exact k j i ⟨u, w, e, c⟩
theorem mAny_nil {S : List (Nat × Nat × Nat)} : mAny [] S := fun j h => by cases h
theorem mAny_cons {S : List (Nat × Nat × Nat)} {M : List Nat} {j0 : Nat} (p : Nat) (h : S[p]? = some (j0, 0, 0)) (k : mAny M S) : mAny (j0 :: M) S := by
  intro j hj i
  rcases List.mem_cons.mp hj with w | w
  · subst w
    exact mIn_at p h (Or.inl rfl)
  · exact k j w i
theorem mFi.rows {S : List (Nat × Nat × Nat)} {M : List Nat} {g g1 g2 : mSt} (h : mFi S g g1) (k : mFr M g1 g2) (s : mAny M S) : mFi S g g2 := by
  intro j i q
  have hj : j ∉ M := fun z => q (s j z i)
  rw [k j hj]
  exact h j i q
