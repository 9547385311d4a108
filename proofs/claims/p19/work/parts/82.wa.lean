/-! formulas: what holds at every end holds; two formulas of one method together -/
theorem wand {a b a1 b1 a2 b2 : Prop} (f : a1 → a2 → a) (k : b1 → b2 → b) (hA : a1 ∧ b1) (hB : a2 ∧ b2) : a ∧ b := ⟨f hA.1 hB.1, k hA.2 hB.2⟩
theorem wall {α : Sort _} {A B C : α → Prop} (f : ∀ x, A x → B x → C x) (hA : ∀ x, A x) (hB : ∀ x, B x) : ∀ x, C x := fun x => f x (hA x) (hB x)
theorem wimp {p q a b c : Prop} (f : a → b → c) (hA : p → a) (hB : q → b) : p ∧ q → c := fun h => f (hA h.1) (hB h.2)
theorem wex1 {α : Type} {F G H : (α → Prop) → Prop} (f : ∀ P Q, F P → G Q → H (fun a => P a ∧ Q a)) (hA : ∃ P, F P) (hB : ∃ P, G P) : ∃ P, H P := by
  obtain ⟨P, hA⟩ := hA
  obtain ⟨Q, hB⟩ := hB
  exact ⟨_, f P Q hA hB⟩
theorem wex2 {α β : Type} {F G H : (α → β → Prop) → Prop} (f : ∀ P Q, F P → G Q → H (fun a b => P a b ∧ Q a b)) (hA : ∃ P, F P) (hB : ∃ P, G P) : ∃ P, H P := by
  obtain ⟨P, hA⟩ := hA
  obtain ⟨Q, hB⟩ := hB
  exact ⟨_, f P Q hA hB⟩
theorem wex3 {α β γ : Type} {F G H : (α → β → γ → Prop) → Prop} (f : ∀ P Q, F P → G Q → H (fun a b c => P a b c ∧ Q a b c)) (hA : ∃ P, F P) (hB : ∃ P, G P) : ∃ P, H P := by
  obtain ⟨P, hA⟩ := hA
  obtain ⟨Q, hB⟩ := hB
  exact ⟨_, f P Q hA hB⟩
theorem wex4 {α β γ δ : Type} {F G H : (α → β → γ → δ → Prop) → Prop} (f : ∀ P Q, F P → G Q → H (fun a b c d => P a b c d ∧ Q a b c d)) (hA : ∃ P, F P) (hB : ∃ P, G P) : ∃ P, H P := by
  obtain ⟨P, hA⟩ := hA
  obtain ⟨Q, hB⟩ := hB
  exact ⟨_, f P Q hA hB⟩

set_option maxHeartbeats 4000000 in
set_option maxRecDepth 100000 in
theorem wt_kbegin {Z : cZ} {i0 : Nat} {p1 : Int32} {p2 : Int32} {p3 : Int32} {p4 : Int32} {g : mSt} {Φ : Int32 → mSt → Prop} (h : ∀ r g1, Φ r g1) : wp_kbegin Z i0 p1 p2 p3 p4 g Φ := by
  unfold wp_kbegin
  repeat' first
    | exact trivial
    | exact h _ _
    | refine ⟨fun _ => True, ?_⟩
    | refine ⟨fun _ _ => True, ?_⟩
    | refine ⟨?_, ?_⟩
    | intro _

set_option maxHeartbeats 4000000 in
set_option maxRecDepth 100000 in
theorem wc_kbegin {Z : cZ} {i0 : Nat} {p1 : Int32} {p2 : Int32} {p3 : Int32} {p4 : Int32} {g : mSt} {Φ Ψ Χ : Int32 → mSt → Prop} (hX : ∀ r g1, Φ r g1 → Ψ r g1 → Χ r g1) (hA : wp_kbegin Z i0 p1 p2 p3 p4 g Φ) (hB : wp_kbegin Z i0 p1 p2 p3 p4 g Ψ) : wp_kbegin Z i0 p1 p2 p3 p4 g Χ := by
  unfold wp_kbegin at hA hB ⊢
  repeat' first
    | exact trivial
    | exact hX _ _ hA hB
    | exact ⟨hA, hB⟩
    | exact hA
    | refine wex1 (fun P Q hA hB => ?_) hA hB
    | refine wex2 (fun P Q hA hB => ?_) hA hB
    | refine wand (fun hA hB => ?_) (fun hA hB => ?_) hA hB
    | refine wall (fun x hA hB => ?_) hA hB
    | refine wimp (fun hA hB => ?_) hA hB

set_option maxHeartbeats 4000000 in
set_option maxRecDepth 100000 in
theorem wt_kmelement {Z : cZ} {i0 : Nat} {p1 : Int32} {p2 : Int32} {p3 : Int32} {g : mSt} {Φ : Int32 → mSt → Prop} (h : ∀ r g1, Φ r g1) : wp_kmelement Z i0 p1 p2 p3 g Φ := by
  unfold wp_kmelement
  repeat' first
    | exact trivial
    | exact h _ _
    | refine ⟨fun _ => True, ?_⟩
    | refine ⟨fun _ _ => True, ?_⟩
    | refine ⟨?_, ?_⟩
    | intro _

set_option maxHeartbeats 4000000 in
set_option maxRecDepth 100000 in
theorem wc_kmelement {Z : cZ} {i0 : Nat} {p1 : Int32} {p2 : Int32} {p3 : Int32} {g : mSt} {Φ Ψ Χ : Int32 → mSt → Prop} (hX : ∀ r g1, Φ r g1 → Ψ r g1 → Χ r g1) (hA : wp_kmelement Z i0 p1 p2 p3 g Φ) (hB : wp_kmelement Z i0 p1 p2 p3 g Ψ) : wp_kmelement Z i0 p1 p2 p3 g Χ := by
  unfold wp_kmelement at hA hB ⊢
  repeat' first
    | exact trivial
    | exact hX _ _ hA hB
    | exact ⟨hA, hB⟩
    | exact hA
    | refine wex1 (fun P Q hA hB => ?_) hA hB
    | refine wex2 (fun P Q hA hB => ?_) hA hB
    | refine wand (fun hA hB => ?_) (fun hA hB => ?_) hA hB
    | refine wall (fun x hA hB => ?_) hA hB
    | refine wimp (fun hA hB => ?_) hA hB

set_option maxHeartbeats 4000000 in
set_option maxRecDepth 100000 in
theorem wt_ksayCause_10 {Z : cZ} {i0 : Nat} {p1 : Int32} {p2 : Int32} {p3 : Int32} {p4 : Int32} {g : mSt} {Φ : Int32 → mSt → Prop} (h : ∀ r g1, Φ r g1) : wp_ksayCause_10 Z i0 p1 p2 p3 p4 g Φ := by
  unfold wp_ksayCause_10
  repeat' first
    | exact trivial
    | exact h _ _
    | refine wt_kbegin (fun _ _ => ?_)
    | refine wt_kmelement (fun _ _ => ?_)
    | refine ⟨fun _ => True, ?_⟩
    | refine ⟨?_, ?_⟩
    | intro _

set_option maxHeartbeats 4000000 in
set_option maxRecDepth 100000 in
theorem wc_ksayCause_10 {Z : cZ} {i0 : Nat} {p1 : Int32} {p2 : Int32} {p3 : Int32} {p4 : Int32} {g : mSt} {Φ Ψ Χ : Int32 → mSt → Prop} (hX : ∀ r g1, Φ r g1 → Ψ r g1 → Χ r g1) (hA : wp_ksayCause_10 Z i0 p1 p2 p3 p4 g Φ) (hB : wp_ksayCause_10 Z i0 p1 p2 p3 p4 g Ψ) : wp_ksayCause_10 Z i0 p1 p2 p3 p4 g Χ := by
  unfold wp_ksayCause_10 at hA hB ⊢
  repeat' first
    | exact trivial
    | exact hX _ _ hA hB
    | exact ⟨hA, hB⟩
    | exact hA
    | refine wc_kbegin (fun _ _ hA hB => ?_) hA hB
    | refine wc_kmelement (fun _ _ hA hB => ?_) hA hB
    | refine wex1 (fun P Q hA hB => ?_) hA hB
    | refine wand (fun hA hB => ?_) (fun hA hB => ?_) hA hB
    | refine wall (fun x hA hB => ?_) hA hB
    | refine wimp (fun hA hB => ?_) hA hB

set_option maxHeartbeats 4000000 in
set_option maxRecDepth 100000 in
theorem wt_ksayPlain_10 {Z : cZ} {i0 : Nat} {p1 : Int32} {q2 : Nat} {g : mSt} {Φ : Int32 → mSt → Prop} (h : ∀ r g1, Φ r g1) : wp_ksayPlain_10 Z i0 p1 q2 g Φ := by
  unfold wp_ksayPlain_10
  repeat' first
    | exact trivial
    | exact h _ _
    | refine wt_kbegin (fun _ _ => ?_)
    | refine ⟨?_, ?_⟩
    | intro _

set_option maxHeartbeats 4000000 in
set_option maxRecDepth 100000 in
theorem wc_ksayPlain_10 {Z : cZ} {i0 : Nat} {p1 : Int32} {q2 : Nat} {g : mSt} {Φ Ψ Χ : Int32 → mSt → Prop} (hX : ∀ r g1, Φ r g1 → Ψ r g1 → Χ r g1) (hA : wp_ksayPlain_10 Z i0 p1 q2 g Φ) (hB : wp_ksayPlain_10 Z i0 p1 q2 g Ψ) : wp_ksayPlain_10 Z i0 p1 q2 g Χ := by
  unfold wp_ksayPlain_10 at hA hB ⊢
  repeat' first
    | exact trivial
    | exact hX _ _ hA hB
    | exact ⟨hA, hB⟩
    | exact hA
    | refine wc_kbegin (fun _ _ hA hB => ?_) hA hB
    | refine wand (fun hA hB => ?_) (fun hA hB => ?_) hA hB
    | refine wall (fun x hA hB => ?_) hA hB
    | refine wimp (fun hA hB => ?_) hA hB

set_option maxHeartbeats 4000000 in
set_option maxRecDepth 100000 in
theorem wt_ksaySetup_10 {Z : cZ} {i0 : Nat} {q1 : Nat} {g : mSt} {Φ : Int32 → mSt → Prop} (h : ∀ r g1, Φ r g1) : wp_ksaySetup_10 Z i0 q1 g Φ := by
  unfold wp_ksaySetup_10
  repeat' first
    | exact trivial
    | exact h _ _
    | refine wt_kbegin (fun _ _ => ?_)
    | refine wt_kmelement (fun _ _ => ?_)
    | refine ⟨fun _ => True, ?_⟩
    | refine ⟨?_, ?_⟩
    | intro _

set_option maxHeartbeats 4000000 in
set_option maxRecDepth 100000 in
theorem wc_ksaySetup_10 {Z : cZ} {i0 : Nat} {q1 : Nat} {g : mSt} {Φ Ψ Χ : Int32 → mSt → Prop} (hX : ∀ r g1, Φ r g1 → Ψ r g1 → Χ r g1) (hA : wp_ksaySetup_10 Z i0 q1 g Φ) (hB : wp_ksaySetup_10 Z i0 q1 g Ψ) : wp_ksaySetup_10 Z i0 q1 g Χ := by
  unfold wp_ksaySetup_10 at hA hB ⊢
  repeat' first
    | exact trivial
    | exact hX _ _ hA hB
    | exact ⟨hA, hB⟩
    | exact hA
    | refine wc_kbegin (fun _ _ hA hB => ?_) hA hB
    | refine wc_kmelement (fun _ _ hA hB => ?_) hA hB
    | refine wex1 (fun P Q hA hB => ?_) hA hB
    | refine wand (fun hA hB => ?_) (fun hA hB => ?_) hA hB
    | refine wall (fun x hA hB => ?_) hA hB
    | refine wimp (fun hA hB => ?_) hA hB

set_option maxHeartbeats 4000000 in
set_option maxRecDepth 100000 in
theorem wt_ksayProceeding {Z : cZ} {i0 : Nat} {q1 : Nat} {g : mSt} {Φ : Int32 → mSt → Prop} (h : ∀ r g1, Φ r g1) : wp_ksayProceeding Z i0 q1 g Φ := by
  unfold wp_ksayProceeding
  repeat' first
    | exact trivial
    | exact h _ _
    | refine wt_kbegin (fun _ _ => ?_)
    | refine wt_kmelement (fun _ _ => ?_)
    | refine ⟨fun _ => True, ?_⟩
    | refine ⟨?_, ?_⟩
    | intro _

set_option maxHeartbeats 4000000 in
set_option maxRecDepth 100000 in
theorem wc_ksayProceeding {Z : cZ} {i0 : Nat} {q1 : Nat} {g : mSt} {Φ Ψ Χ : Int32 → mSt → Prop} (hX : ∀ r g1, Φ r g1 → Ψ r g1 → Χ r g1) (hA : wp_ksayProceeding Z i0 q1 g Φ) (hB : wp_ksayProceeding Z i0 q1 g Ψ) : wp_ksayProceeding Z i0 q1 g Χ := by
  unfold wp_ksayProceeding at hA hB ⊢
  repeat' first
    | exact trivial
    | exact hX _ _ hA hB
    | exact ⟨hA, hB⟩
    | exact hA
    | refine wc_kbegin (fun _ _ hA hB => ?_) hA hB
    | refine wc_kmelement (fun _ _ hA hB => ?_) hA hB
    | refine wex1 (fun P Q hA hB => ?_) hA hB
    | refine wand (fun hA hB => ?_) (fun hA hB => ?_) hA hB
    | refine wall (fun x hA hB => ?_) hA hB
    | refine wimp (fun hA hB => ?_) hA hB

