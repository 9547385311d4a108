/-! formulas: what holds at every end holds; two formulas of one method together -/
theorem wand {a b a1 b1 a2 b2 : Prop} (f : a1 → a2 → a) (k : b1 → b2 → b) (hA : a1 ∧ b1) (hB : a2 ∧ b2) : a ∧ b := ⟨f hA.1 hB.1, k hA.2 hB.2⟩
theorem wall {α : Sort _} {A B C : α → Prop} (f : ∀ x, A x → B x → C x) (hA : ∀ x, A x) (hB : ∀ x, B x) : ∀ x, C x := fun x => f x (hA x) (hB x)
theorem wimp {p q a b c : Prop} (f : a → b → c) (hA : p → a) (hB : q → b) : p ∧ q → c := fun h => f (hA h.1) (hB h.2)
theorem wex1 {α : Type} {F G H : (α → Prop) → Prop} (f : ∀ P Q, F P → G Q → H (fun a => P a ∧ Q a)) (hA : ∃ P, F P) (hB : ∃ P, G P) : ∃ P, H P := by
  obtain ⟨P, hA⟩ := hA
  obtain ⟨Q, hB⟩ := hB
  exact ⟨_, f P Q hA hB⟩
theorem wex2 {α β : Type} {F G H : (α → β → Prop) → Prop} (f : ∀ P Q, F P → G Q → H (fun a b => P a b ∧ Q a b)) (hA : ∃ P, F P) (hB : ∃ P, G P) : ∃ P, H P := by
  obtain ⟨P, hA⟩ := hA
  obtain ⟨Q, hB⟩ := hB
  exact ⟨_, f P Q hA hB⟩
theorem wex3 {α β γ : Type} {F G H : (α → β → γ → Prop) → Prop} (f : ∀ P Q, F P → G Q → H (fun a b c => P a b c ∧ Q a b c)) (hA : ∃ P, F P) (hB : ∃ P, G P) : ∃ P, H P := by
  obtain ⟨P, hA⟩ := hA
  obtain ⟨Q, hB⟩ := hB
  exact ⟨_, f P Q hA hB⟩
theorem wex4 {α β γ δ : Type} {F G H : (α → β → γ → δ → Prop) → Prop} (f : ∀ P Q, F P → G Q → H (fun a b c d => P a b c d ∧ Q a b c d)) (hA : ∃ P, F P) (hB : ∃ P, G P) : ∃ P, H P := by
  obtain ⟨P, hA⟩ := hA
  obtain ⟨Q, hB⟩ := hB
  exact ⟨_, f P Q hA hB⟩

set_option maxHeartbeats 4000000 in
set_option maxRecDepth 100000 in
theorem wt_kcellsFor {Z : cZ} {p1 : Int32} {g : mSt} {Φ : Int32 → mSt → Prop} (h : ∀ r g1, Φ r g1) : wp_kcellsFor Z p1 g Φ := by
  unfold wp_kcellsFor
  repeat' first
    | with_reducible exact trivial
    | with_reducible exact h _ _
    | with_reducible refine And.intro ?_ ?_
    | intro _

set_option maxHeartbeats 4000000 in
set_option maxRecDepth 100000 in
theorem wc_kcellsFor {Z : cZ} {p1 : Int32} {g : mSt} {Φ Ψ Χ : Int32 → mSt → Prop} (hX : ∀ r g1, Φ r g1 → Ψ r g1 → Χ r g1) (hA : wp_kcellsFor Z p1 g Φ) (hB : wp_kcellsFor Z p1 g Ψ) : wp_kcellsFor Z p1 g Χ := by
  unfold wp_kcellsFor at hA hB ⊢
  repeat' first
    | with_reducible exact trivial
    | with_reducible exact hX _ _ hA hB
    | with_reducible exact ⟨hA, hB⟩
    | with_reducible exact hA
    | with_reducible refine wand (fun hA hB => ?_) (fun hA hB => ?_) hA hB
    | with_reducible refine wall (fun x hA hB => ?_) hA hB
    | with_reducible refine wimp (fun hA hB => ?_) hA hB

set_option maxHeartbeats 4000000 in
set_option maxRecDepth 100000 in
theorem wt_krangeCheck {Z : cZ} {p1 : Int32} {p2 : Int32} {p3 : Int32} {g : mSt} {Φ : Int32 → mSt → Prop} (h : ∀ r g1, Φ r g1) : wp_krangeCheck Z p1 p2 p3 g Φ := by
  unfold wp_krangeCheck
  repeat' first
    | with_reducible exact trivial
    | with_reducible exact h _ _
    | with_reducible refine And.intro ?_ ?_
    | intro _

set_option maxHeartbeats 4000000 in
set_option maxRecDepth 100000 in
theorem wc_krangeCheck {Z : cZ} {p1 : Int32} {p2 : Int32} {p3 : Int32} {g : mSt} {Φ Ψ Χ : Int32 → mSt → Prop} (hX : ∀ r g1, Φ r g1 → Ψ r g1 → Χ r g1) (hA : wp_krangeCheck Z p1 p2 p3 g Φ) (hB : wp_krangeCheck Z p1 p2 p3 g Ψ) : wp_krangeCheck Z p1 p2 p3 g Χ := by
  unfold wp_krangeCheck at hA hB ⊢
  repeat' first
    | with_reducible exact trivial
    | with_reducible exact hX _ _ hA hB
    | with_reducible exact ⟨hA, hB⟩
    | with_reducible exact hA
    | with_reducible refine wand (fun hA hB => ?_) (fun hA hB => ?_) hA hB
    | with_reducible refine wall (fun x hA hB => ?_) hA hB
    | with_reducible refine wimp (fun hA hB => ?_) hA hB

set_option maxHeartbeats 4000000 in
set_option maxRecDepth 100000 in
theorem wt_kcrcOf_16 {Z : cZ} {q1 : Nat} {p2 : Int32} {g : mSt} {Φ : Int32 → mSt → Prop} (h : ∀ r g1, Φ r g1) : wp_kcrcOf_16 Z q1 p2 g Φ := by
  unfold wp_kcrcOf_16
  repeat' first
    | with_reducible exact trivial
    | with_reducible exact h _ _
    | refine ⟨fun _ => True, ?_⟩
    | refine ⟨fun _ _ => True, ?_⟩
    | refine ⟨fun _ _ _ => True, ?_⟩
    | with_reducible refine And.intro ?_ ?_
    | intro _

set_option maxHeartbeats 4000000 in
set_option maxRecDepth 100000 in
theorem wc_kcrcOf_16 {Z : cZ} {q1 : Nat} {p2 : Int32} {g : mSt} {Φ Ψ Χ : Int32 → mSt → Prop} (hX : ∀ r g1, Φ r g1 → Ψ r g1 → Χ r g1) (hA : wp_kcrcOf_16 Z q1 p2 g Φ) (hB : wp_kcrcOf_16 Z q1 p2 g Ψ) : wp_kcrcOf_16 Z q1 p2 g Χ := by
  unfold wp_kcrcOf_16 at hA hB ⊢
  repeat' first
    | with_reducible exact trivial
    | with_reducible exact hX _ _ hA hB
    | with_reducible exact ⟨hA, hB⟩
    | with_reducible exact hA
    | with_reducible refine wex1 (fun P Q hA hB => ?_) hA hB
    | with_reducible refine wex2 (fun P Q hA hB => ?_) hA hB
    | with_reducible refine wex3 (fun P Q hA hB => ?_) hA hB
    | with_reducible refine wand (fun hA hB => ?_) (fun hA hB => ?_) hA hB
    | with_reducible refine wall (fun x hA hB => ?_) hA hB
    | with_reducible refine wimp (fun hA hB => ?_) hA hB

set_option maxHeartbeats 4000000 in
set_option maxRecDepth 100000 in
theorem wt_kcrcOf_24 {Z : cZ} {q1 : Nat} {p2 : Int32} {g : mSt} {Φ : Int32 → mSt → Prop} (h : ∀ r g1, Φ r g1) : wp_kcrcOf_24 Z q1 p2 g Φ := by
  unfold wp_kcrcOf_24
  repeat' first
    | with_reducible exact trivial
    | with_reducible exact h _ _
    | refine ⟨fun _ => True, ?_⟩
    | refine ⟨fun _ _ => True, ?_⟩
    | refine ⟨fun _ _ _ => True, ?_⟩
    | with_reducible refine And.intro ?_ ?_
    | intro _

set_option maxHeartbeats 4000000 in
set_option maxRecDepth 100000 in
theorem wc_kcrcOf_24 {Z : cZ} {q1 : Nat} {p2 : Int32} {g : mSt} {Φ Ψ Χ : Int32 → mSt → Prop} (hX : ∀ r g1, Φ r g1 → Ψ r g1 → Χ r g1) (hA : wp_kcrcOf_24 Z q1 p2 g Φ) (hB : wp_kcrcOf_24 Z q1 p2 g Ψ) : wp_kcrcOf_24 Z q1 p2 g Χ := by
  unfold wp_kcrcOf_24 at hA hB ⊢
  repeat' first
    | with_reducible exact trivial
    | with_reducible exact hX _ _ hA hB
    | with_reducible exact ⟨hA, hB⟩
    | with_reducible exact hA
    | with_reducible refine wex1 (fun P Q hA hB => ?_) hA hB
    | with_reducible refine wex2 (fun P Q hA hB => ?_) hA hB
    | with_reducible refine wex3 (fun P Q hA hB => ?_) hA hB
    | with_reducible refine wand (fun hA hB => ?_) (fun hA hB => ?_) hA hB
    | with_reducible refine wall (fun x hA hB => ?_) hA hB
    | with_reducible refine wimp (fun hA hB => ?_) hA hB

set_option maxHeartbeats 4000000 in
set_option maxRecDepth 100000 in
theorem wt_kwordAt_16 {Z : cZ} {q1 : Nat} {p2 : Int32} {g : mSt} {Φ : Int32 → mSt → Prop} (h : ∀ r g1, Φ r g1) : wp_kwordAt_16 Z q1 p2 g Φ := by
  unfold wp_kwordAt_16
  repeat' first
    | with_reducible exact trivial
    | with_reducible exact h _ _
    | with_reducible refine And.intro ?_ ?_
    | intro _

set_option maxHeartbeats 4000000 in
set_option maxRecDepth 100000 in
theorem wc_kwordAt_16 {Z : cZ} {q1 : Nat} {p2 : Int32} {g : mSt} {Φ Ψ Χ : Int32 → mSt → Prop} (hX : ∀ r g1, Φ r g1 → Ψ r g1 → Χ r g1) (hA : wp_kwordAt_16 Z q1 p2 g Φ) (hB : wp_kwordAt_16 Z q1 p2 g Ψ) : wp_kwordAt_16 Z q1 p2 g Χ := by
  unfold wp_kwordAt_16 at hA hB ⊢
  repeat' first
    | with_reducible exact trivial
    | with_reducible exact hX _ _ hA hB
    | with_reducible exact ⟨hA, hB⟩
    | with_reducible exact hA
    | with_reducible refine wand (fun hA hB => ?_) (fun hA hB => ?_) hA hB
    | with_reducible refine wall (fun x hA hB => ?_) hA hB
    | with_reducible refine wimp (fun hA hB => ?_) hA hB

set_option maxHeartbeats 4000000 in
set_option maxRecDepth 100000 in
theorem wt_kwordAt_34 {Z : cZ} {q1 : Nat} {p2 : Int32} {g : mSt} {Φ : Int32 → mSt → Prop} (h : ∀ r g1, Φ r g1) : wp_kwordAt_34 Z q1 p2 g Φ := by
  unfold wp_kwordAt_34
  repeat' first
    | with_reducible exact trivial
    | with_reducible exact h _ _
    | with_reducible refine And.intro ?_ ?_
    | intro _

set_option maxHeartbeats 4000000 in
set_option maxRecDepth 100000 in
theorem wc_kwordAt_34 {Z : cZ} {q1 : Nat} {p2 : Int32} {g : mSt} {Φ Ψ Χ : Int32 → mSt → Prop} (hX : ∀ r g1, Φ r g1 → Ψ r g1 → Χ r g1) (hA : wp_kwordAt_34 Z q1 p2 g Φ) (hB : wp_kwordAt_34 Z q1 p2 g Ψ) : wp_kwordAt_34 Z q1 p2 g Χ := by
  unfold wp_kwordAt_34 at hA hB ⊢
  repeat' first
    | with_reducible exact trivial
    | with_reducible exact hX _ _ hA hB
    | with_reducible exact ⟨hA, hB⟩
    | with_reducible exact hA
    | with_reducible refine wand (fun hA hB => ?_) (fun hA hB => ?_) hA hB
    | with_reducible refine wall (fun x hA hB => ?_) hA hB
    | with_reducible refine wimp (fun hA hB => ?_) hA hB

set_option maxHeartbeats 4000000 in
set_option maxRecDepth 100000 in
theorem wt_kfill_19 {Z : cZ} {q1 : Nat} {p2 : Int32} {p3 : Int32} {p4 : Int32} {g : mSt} {Φ : Int32 → mSt → Prop} (h : ∀ r g1, Φ r g1) : wp_kfill_19 Z q1 p2 p3 p4 g Φ := by
  unfold wp_kfill_19
  repeat' first
    | with_reducible exact trivial
    | with_reducible exact h _ _
    | with_reducible refine wt_krangeCheck (fun _ _ => ?_)
    | refine ⟨fun _ => True, ?_⟩
    | refine ⟨fun _ _ => True, ?_⟩
    | with_reducible refine And.intro ?_ ?_
    | intro _

set_option maxHeartbeats 4000000 in
set_option maxRecDepth 100000 in
theorem wc_kfill_19 {Z : cZ} {q1 : Nat} {p2 : Int32} {p3 : Int32} {p4 : Int32} {g : mSt} {Φ Ψ Χ : Int32 → mSt → Prop} (hX : ∀ r g1, Φ r g1 → Ψ r g1 → Χ r g1) (hA : wp_kfill_19 Z q1 p2 p3 p4 g Φ) (hB : wp_kfill_19 Z q1 p2 p3 p4 g Ψ) : wp_kfill_19 Z q1 p2 p3 p4 g Χ := by
  unfold wp_kfill_19 at hA hB ⊢
  repeat' first
    | with_reducible exact trivial
    | with_reducible exact hX _ _ hA hB
    | with_reducible exact ⟨hA, hB⟩
    | with_reducible exact hA
    | with_reducible refine wc_krangeCheck (fun _ _ hA hB => ?_) hA hB
    | with_reducible refine wex1 (fun P Q hA hB => ?_) hA hB
    | with_reducible refine wex2 (fun P Q hA hB => ?_) hA hB
    | with_reducible refine wand (fun hA hB => ?_) (fun hA hB => ?_) hA hB
    | with_reducible refine wall (fun x hA hB => ?_) hA hB
    | with_reducible refine wimp (fun hA hB => ?_) hA hB

set_option maxHeartbeats 4000000 in
set_option maxRecDepth 100000 in
theorem wt_kfill_24 {Z : cZ} {q1 : Nat} {p2 : Int32} {p3 : Int32} {p4 : Int32} {g : mSt} {Φ : Int32 → mSt → Prop} (h : ∀ r g1, Φ r g1) : wp_kfill_24 Z q1 p2 p3 p4 g Φ := by
  unfold wp_kfill_24
  repeat' first
    | with_reducible exact trivial
    | with_reducible exact h _ _
    | with_reducible refine wt_krangeCheck (fun _ _ => ?_)
    | refine ⟨fun _ => True, ?_⟩
    | refine ⟨fun _ _ => True, ?_⟩
    | with_reducible refine And.intro ?_ ?_
    | intro _

set_option maxHeartbeats 4000000 in
set_option maxRecDepth 100000 in
theorem wc_kfill_24 {Z : cZ} {q1 : Nat} {p2 : Int32} {p3 : Int32} {p4 : Int32} {g : mSt} {Φ Ψ Χ : Int32 → mSt → Prop} (hX : ∀ r g1, Φ r g1 → Ψ r g1 → Χ r g1) (hA : wp_kfill_24 Z q1 p2 p3 p4 g Φ) (hB : wp_kfill_24 Z q1 p2 p3 p4 g Ψ) : wp_kfill_24 Z q1 p2 p3 p4 g Χ := by
  unfold wp_kfill_24 at hA hB ⊢
  repeat' first
    | with_reducible exact trivial
    | with_reducible exact hX _ _ hA hB
    | with_reducible exact ⟨hA, hB⟩
    | with_reducible exact hA
    | with_reducible refine wc_krangeCheck (fun _ _ hA hB => ?_) hA hB
    | with_reducible refine wex1 (fun P Q hA hB => ?_) hA hB
    | with_reducible refine wex2 (fun P Q hA hB => ?_) hA hB
    | with_reducible refine wand (fun hA hB => ?_) (fun hA hB => ?_) hA hB
    | with_reducible refine wall (fun x hA hB => ?_) hA hB
    | with_reducible refine wimp (fun hA hB => ?_) hA hB

set_option maxHeartbeats 4000000 in
set_option maxRecDepth 100000 in
theorem wt_kcloseFrame_24 {Z : cZ} {q1 : Nat} {p2 : Int32} {g : mSt} {Φ : Int32 → mSt → Prop} (h : ∀ r g1, Φ r g1) : wp_kcloseFrame_24 Z q1 p2 g Φ := by
  unfold wp_kcloseFrame_24
  repeat' first
    | with_reducible exact trivial
    | with_reducible exact h _ _
    | with_reducible refine wt_kcellsFor (fun _ _ => ?_)
    | with_reducible refine wt_kcrcOf_24 (fun _ _ => ?_)
    | with_reducible refine wt_kfill_24 (fun _ _ => ?_)
    | refine ⟨fun _ => True, ?_⟩
    | refine ⟨fun _ _ => True, ?_⟩
    | refine ⟨fun _ _ _ => True, ?_⟩
    | with_reducible refine And.intro ?_ ?_
    | intro _

set_option maxHeartbeats 4000000 in
set_option maxRecDepth 100000 in
theorem wc_kcloseFrame_24 {Z : cZ} {q1 : Nat} {p2 : Int32} {g : mSt} {Φ Ψ Χ : Int32 → mSt → Prop} (hX : ∀ r g1, Φ r g1 → Ψ r g1 → Χ r g1) (hA : wp_kcloseFrame_24 Z q1 p2 g Φ) (hB : wp_kcloseFrame_24 Z q1 p2 g Ψ) : wp_kcloseFrame_24 Z q1 p2 g Χ := by
  unfold wp_kcloseFrame_24 at hA hB ⊢
  repeat' first
    | with_reducible exact trivial
    | with_reducible exact hX _ _ hA hB
    | with_reducible exact ⟨hA, hB⟩
    | with_reducible exact hA
    | with_reducible refine wc_kcellsFor (fun _ _ hA hB => ?_) hA hB
    | with_reducible refine wc_kcrcOf_24 (fun _ _ hA hB => ?_) hA hB
    | with_reducible refine wc_kfill_24 (fun _ _ hA hB => ?_) hA hB
    | with_reducible refine wex1 (fun P Q hA hB => ?_) hA hB
    | with_reducible refine wex2 (fun P Q hA hB => ?_) hA hB
    | with_reducible refine wex3 (fun P Q hA hB => ?_) hA hB
    | with_reducible refine wand (fun hA hB => ?_) (fun hA hB => ?_) hA hB
    | with_reducible refine wall (fun x hA hB => ?_) hA hB
    | with_reducible refine wimp (fun hA hB => ?_) hA hB

set_option maxHeartbeats 4000000 in
set_option maxRecDepth 100000 in
theorem wt_kqadd_24 {Z : cZ} {i0 : Nat} {p1 : Int32} {q2 : Nat} {p3 : Int32} {g : mSt} {Φ : Int32 → mSt → Prop} (h : ∀ r g1, Φ r g1) : wp_kqadd_24 Z i0 p1 q2 p3 g Φ := by
  unfold wp_kqadd_24
  repeat' first
    | with_reducible exact trivial
    | with_reducible exact h _ _
    | with_reducible refine And.intro ?_ ?_
    | intro _

set_option maxHeartbeats 4000000 in
set_option maxRecDepth 100000 in
theorem wc_kqadd_24 {Z : cZ} {i0 : Nat} {p1 : Int32} {q2 : Nat} {p3 : Int32} {g : mSt} {Φ Ψ Χ : Int32 → mSt → Prop} (hX : ∀ r g1, Φ r g1 → Ψ r g1 → Χ r g1) (hA : wp_kqadd_24 Z i0 p1 q2 p3 g Φ) (hB : wp_kqadd_24 Z i0 p1 q2 p3 g Ψ) : wp_kqadd_24 Z i0 p1 q2 p3 g Χ := by
  unfold wp_kqadd_24 at hA hB ⊢
  repeat' first
    | with_reducible exact trivial
    | with_reducible exact hX _ _ hA hB
    | with_reducible exact ⟨hA, hB⟩
    | with_reducible exact hA
    | with_reducible refine wand (fun hA hB => ?_) (fun hA hB => ?_) hA hB
    | with_reducible refine wall (fun x hA hB => ?_) hA hB
    | with_reducible refine wimp (fun hA hB => ?_) hA hB

set_option maxHeartbeats 4000000 in
set_option maxRecDepth 100000 in
theorem wt_kqtake {Z : cZ} {i0 : Nat} {q1 : Nat} {p2 : Int32} {g : mSt} {Φ : Int32 → mSt → Prop} (h : ∀ r g1, Φ r g1) : wp_kqtake Z i0 q1 p2 g Φ := by
  unfold wp_kqtake
  repeat' first
    | with_reducible exact trivial
    | with_reducible exact h _ _
    | with_reducible refine And.intro ?_ ?_
    | intro _

set_option maxHeartbeats 4000000 in
set_option maxRecDepth 100000 in
theorem wc_kqtake {Z : cZ} {i0 : Nat} {q1 : Nat} {p2 : Int32} {g : mSt} {Φ Ψ Χ : Int32 → mSt → Prop} (hX : ∀ r g1, Φ r g1 → Ψ r g1 → Χ r g1) (hA : wp_kqtake Z i0 q1 p2 g Φ) (hB : wp_kqtake Z i0 q1 p2 g Ψ) : wp_kqtake Z i0 q1 p2 g Χ := by
  unfold wp_kqtake at hA hB ⊢
  repeat' first
    | with_reducible exact trivial
    | with_reducible exact hX _ _ hA hB
    | with_reducible exact ⟨hA, hB⟩
    | with_reducible exact hA
    | with_reducible refine wand (fun hA hB => ?_) (fun hA hB => ?_) hA hB
    | with_reducible refine wall (fun x hA hB => ?_) hA hB
    | with_reducible refine wimp (fun hA hB => ?_) hA hB

set_option maxHeartbeats 4000000 in
set_option maxRecDepth 100000 in
theorem wt_kclearAll_6 {Z : cZ} {i0 : Nat} {g : mSt} {Φ : Int32 → mSt → Prop} (h : ∀ r g1, Φ r g1) : wp_kclearAll_6 Z i0 g Φ := by
  unfold wp_kclearAll_6
  repeat' first
    | with_reducible exact trivial
    | with_reducible exact h _ _
    | refine ⟨fun _ => True, ?_⟩
    | refine ⟨fun _ _ => True, ?_⟩
    | with_reducible refine And.intro ?_ ?_
    | intro _

set_option maxHeartbeats 4000000 in
set_option maxRecDepth 100000 in
theorem wc_kclearAll_6 {Z : cZ} {i0 : Nat} {g : mSt} {Φ Ψ Χ : Int32 → mSt → Prop} (hX : ∀ r g1, Φ r g1 → Ψ r g1 → Χ r g1) (hA : wp_kclearAll_6 Z i0 g Φ) (hB : wp_kclearAll_6 Z i0 g Ψ) : wp_kclearAll_6 Z i0 g Χ := by
  unfold wp_kclearAll_6 at hA hB ⊢
  repeat' first
    | with_reducible exact trivial
    | with_reducible exact hX _ _ hA hB
    | with_reducible exact ⟨hA, hB⟩
    | with_reducible exact hA
    | with_reducible refine wex1 (fun P Q hA hB => ?_) hA hB
    | with_reducible refine wex2 (fun P Q hA hB => ?_) hA hB
    | with_reducible refine wand (fun hA hB => ?_) (fun hA hB => ?_) hA hB
    | with_reducible refine wall (fun x hA hB => ?_) hA hB
    | with_reducible refine wimp (fun hA hB => ?_) hA hB

set_option maxHeartbeats 4000000 in
set_option maxRecDepth 100000 in
theorem wt_kclearAll_13 {Z : cZ} {i0 : Nat} {g : mSt} {Φ : Int32 → mSt → Prop} (h : ∀ r g1, Φ r g1) : wp_kclearAll_13 Z i0 g Φ := by
  unfold wp_kclearAll_13
  repeat' first
    | with_reducible exact trivial
    | with_reducible exact h _ _
    | refine ⟨fun _ => True, ?_⟩
    | refine ⟨fun _ _ => True, ?_⟩
    | with_reducible refine And.intro ?_ ?_
    | intro _

set_option maxHeartbeats 4000000 in
set_option maxRecDepth 100000 in
theorem wc_kclearAll_13 {Z : cZ} {i0 : Nat} {g : mSt} {Φ Ψ Χ : Int32 → mSt → Prop} (hX : ∀ r g1, Φ r g1 → Ψ r g1 → Χ r g1) (hA : wp_kclearAll_13 Z i0 g Φ) (hB : wp_kclearAll_13 Z i0 g Ψ) : wp_kclearAll_13 Z i0 g Χ := by
  unfold wp_kclearAll_13 at hA hB ⊢
  repeat' first
    | with_reducible exact trivial
    | with_reducible exact hX _ _ hA hB
    | with_reducible exact ⟨hA, hB⟩
    | with_reducible exact hA
    | with_reducible refine wex1 (fun P Q hA hB => ?_) hA hB
    | with_reducible refine wex2 (fun P Q hA hB => ?_) hA hB
    | with_reducible refine wand (fun hA hB => ?_) (fun hA hB => ?_) hA hB
    | with_reducible refine wall (fun x hA hB => ?_) hA hB
    | with_reducible refine wimp (fun hA hB => ?_) hA hB

set_option maxHeartbeats 4000000 in
set_option maxRecDepth 100000 in
theorem wt_kclear {Z : cZ} {i0 : Nat} {p1 : Int32} {g : mSt} {Φ : Int32 → mSt → Prop} (h : ∀ r g1, Φ r g1) : wp_kclear Z i0 p1 g Φ := by
  unfold wp_kclear
  repeat' first
    | with_reducible exact trivial
    | with_reducible exact h _ _
    | with_reducible refine And.intro ?_ ?_
    | intro _

set_option maxHeartbeats 4000000 in
set_option maxRecDepth 100000 in
theorem wc_kclear {Z : cZ} {i0 : Nat} {p1 : Int32} {g : mSt} {Φ Ψ Χ : Int32 → mSt → Prop} (hX : ∀ r g1, Φ r g1 → Ψ r g1 → Χ r g1) (hA : wp_kclear Z i0 p1 g Φ) (hB : wp_kclear Z i0 p1 g Ψ) : wp_kclear Z i0 p1 g Χ := by
  unfold wp_kclear at hA hB ⊢
  repeat' first
    | with_reducible exact trivial
    | with_reducible exact hX _ _ hA hB
    | with_reducible exact ⟨hA, hB⟩
    | with_reducible exact hA
    | with_reducible refine wand (fun hA hB => ?_) (fun hA hB => ?_) hA hB
    | with_reducible refine wall (fun x hA hB => ?_) hA hB
    | with_reducible refine wimp (fun hA hB => ?_) hA hB

set_option maxHeartbeats 4000000 in
set_option maxRecDepth 100000 in
theorem wt_kput_16 {Z : cZ} {i0 : Nat} {p1 : Int32} {q2 : Nat} {p3 : Int32} {p4 : Int32} {g : mSt} {Φ : Int32 → mSt → Prop} (h : ∀ r g1, Φ r g1) : wp_kput_16 Z i0 p1 q2 p3 p4 g Φ := by
  unfold wp_kput_16
  repeat' first
    | with_reducible exact trivial
    | with_reducible exact h _ _
    | with_reducible refine And.intro ?_ ?_
    | intro _

set_option maxHeartbeats 4000000 in
set_option maxRecDepth 100000 in
theorem wc_kput_16 {Z : cZ} {i0 : Nat} {p1 : Int32} {q2 : Nat} {p3 : Int32} {p4 : Int32} {g : mSt} {Φ Ψ Χ : Int32 → mSt → Prop} (hX : ∀ r g1, Φ r g1 → Ψ r g1 → Χ r g1) (hA : wp_kput_16 Z i0 p1 q2 p3 p4 g Φ) (hB : wp_kput_16 Z i0 p1 q2 p3 p4 g Ψ) : wp_kput_16 Z i0 p1 q2 p3 p4 g Χ := by
  unfold wp_kput_16 at hA hB ⊢
  repeat' first
    | with_reducible exact trivial
    | with_reducible exact hX _ _ hA hB
    | with_reducible exact ⟨hA, hB⟩
    | with_reducible exact hA
    | with_reducible refine wand (fun hA hB => ?_) (fun hA hB => ?_) hA hB
    | with_reducible refine wall (fun x hA hB => ?_) hA hB
    | with_reducible refine wimp (fun hA hB => ?_) hA hB

set_option maxHeartbeats 4000000 in
set_option maxRecDepth 100000 in
theorem wt_kput_26 {Z : cZ} {i0 : Nat} {p1 : Int32} {q2 : Nat} {p3 : Int32} {p4 : Int32} {g : mSt} {Φ : Int32 → mSt → Prop} (h : ∀ r g1, Φ r g1) : wp_kput_26 Z i0 p1 q2 p3 p4 g Φ := by
  unfold wp_kput_26
  repeat' first
    | with_reducible exact trivial
    | with_reducible exact h _ _
    | with_reducible refine And.intro ?_ ?_
    | intro _

set_option maxHeartbeats 4000000 in
set_option maxRecDepth 100000 in
theorem wc_kput_26 {Z : cZ} {i0 : Nat} {p1 : Int32} {q2 : Nat} {p3 : Int32} {p4 : Int32} {g : mSt} {Φ Ψ Χ : Int32 → mSt → Prop} (hX : ∀ r g1, Φ r g1 → Ψ r g1 → Χ r g1) (hA : wp_kput_26 Z i0 p1 q2 p3 p4 g Φ) (hB : wp_kput_26 Z i0 p1 q2 p3 p4 g Ψ) : wp_kput_26 Z i0 p1 q2 p3 p4 g Χ := by
  unfold wp_kput_26 at hA hB ⊢
  repeat' first
    | with_reducible exact trivial
    | with_reducible exact hX _ _ hA hB
    | with_reducible exact ⟨hA, hB⟩
    | with_reducible exact hA
    | with_reducible refine wand (fun hA hB => ?_) (fun hA hB => ?_) hA hB
    | with_reducible refine wall (fun x hA hB => ?_) hA hB
    | with_reducible refine wimp (fun hA hB => ?_) hA hB

set_option maxHeartbeats 4000000 in
set_option maxRecDepth 100000 in
theorem wt_kbegin {Z : cZ} {i0 : Nat} {p1 : Int32} {p2 : Int32} {p3 : Int32} {p4 : Int32} {g : mSt} {Φ : Int32 → mSt → Prop} (h : ∀ r g1, Φ r g1) : wp_kbegin Z i0 p1 p2 p3 p4 g Φ := by
  unfold wp_kbegin
  repeat' first
    | with_reducible exact trivial
    | with_reducible exact h _ _
    | refine ⟨fun _ => True, ?_⟩
    | refine ⟨fun _ _ => True, ?_⟩
    | with_reducible refine And.intro ?_ ?_
    | intro _

set_option maxHeartbeats 4000000 in
set_option maxRecDepth 100000 in
theorem wc_kbegin {Z : cZ} {i0 : Nat} {p1 : Int32} {p2 : Int32} {p3 : Int32} {p4 : Int32} {g : mSt} {Φ Ψ Χ : Int32 → mSt → Prop} (hX : ∀ r g1, Φ r g1 → Ψ r g1 → Χ r g1) (hA : wp_kbegin Z i0 p1 p2 p3 p4 g Φ) (hB : wp_kbegin Z i0 p1 p2 p3 p4 g Ψ) : wp_kbegin Z i0 p1 p2 p3 p4 g Χ := by
  unfold wp_kbegin at hA hB ⊢
  repeat' first
    | with_reducible exact trivial
    | with_reducible exact hX _ _ hA hB
    | with_reducible exact ⟨hA, hB⟩
    | with_reducible exact hA
    | with_reducible refine wex1 (fun P Q hA hB => ?_) hA hB
    | with_reducible refine wex2 (fun P Q hA hB => ?_) hA hB
    | with_reducible refine wand (fun hA hB => ?_) (fun hA hB => ?_) hA hB
    | with_reducible refine wall (fun x hA hB => ?_) hA hB
    | with_reducible refine wimp (fun hA hB => ?_) hA hB

set_option maxHeartbeats 4000000 in
set_option maxRecDepth 100000 in
theorem wt_kmelement {Z : cZ} {i0 : Nat} {p1 : Int32} {p2 : Int32} {p3 : Int32} {g : mSt} {Φ : Int32 → mSt → Prop} (h : ∀ r g1, Φ r g1) : wp_kmelement Z i0 p1 p2 p3 g Φ := by
  unfold wp_kmelement
  repeat' first
    | with_reducible exact trivial
    | with_reducible exact h _ _
    | refine ⟨fun _ => True, ?_⟩
    | refine ⟨fun _ _ => True, ?_⟩
    | with_reducible refine And.intro ?_ ?_
    | intro _

set_option maxHeartbeats 4000000 in
set_option maxRecDepth 100000 in
theorem wc_kmelement {Z : cZ} {i0 : Nat} {p1 : Int32} {p2 : Int32} {p3 : Int32} {g : mSt} {Φ Ψ Χ : Int32 → mSt → Prop} (hX : ∀ r g1, Φ r g1 → Ψ r g1 → Χ r g1) (hA : wp_kmelement Z i0 p1 p2 p3 g Φ) (hB : wp_kmelement Z i0 p1 p2 p3 g Ψ) : wp_kmelement Z i0 p1 p2 p3 g Χ := by
  unfold wp_kmelement at hA hB ⊢
  repeat' first
    | with_reducible exact trivial
    | with_reducible exact hX _ _ hA hB
    | with_reducible exact ⟨hA, hB⟩
    | with_reducible exact hA
    | with_reducible refine wex1 (fun P Q hA hB => ?_) hA hB
    | with_reducible refine wex2 (fun P Q hA hB => ?_) hA hB
    | with_reducible refine wand (fun hA hB => ?_) (fun hA hB => ?_) hA hB
    | with_reducible refine wall (fun x hA hB => ?_) hA hB
    | with_reducible refine wimp (fun hA hB => ?_) hA hB

set_option maxHeartbeats 4000000 in
set_option maxRecDepth 100000 in
theorem wt_kmdropFirst {Z : cZ} {i0 : Nat} {g : mSt} {Φ : Int32 → mSt → Prop} (h : ∀ r g1, Φ r g1) : wp_kmdropFirst Z i0 g Φ := by
  unfold wp_kmdropFirst
  repeat' first
    | with_reducible exact trivial
    | with_reducible exact h _ _
    | with_reducible refine And.intro ?_ ?_
    | intro _

set_option maxHeartbeats 4000000 in
set_option maxRecDepth 100000 in
theorem wc_kmdropFirst {Z : cZ} {i0 : Nat} {g : mSt} {Φ Ψ Χ : Int32 → mSt → Prop} (hX : ∀ r g1, Φ r g1 → Ψ r g1 → Χ r g1) (hA : wp_kmdropFirst Z i0 g Φ) (hB : wp_kmdropFirst Z i0 g Ψ) : wp_kmdropFirst Z i0 g Χ := by
  unfold wp_kmdropFirst at hA hB ⊢
  repeat' first
    | with_reducible exact trivial
    | with_reducible exact hX _ _ hA hB
    | with_reducible exact ⟨hA, hB⟩
    | with_reducible exact hA
    | with_reducible refine wand (fun hA hB => ?_) (fun hA hB => ?_) hA hB
    | with_reducible refine wall (fun x hA hB => ?_) hA hB
    | with_reducible refine wimp (fun hA hB => ?_) hA hB

set_option maxHeartbeats 4000000 in
set_option maxRecDepth 100000 in
theorem wt_kputHeader {Z : cZ} {i0 : Nat} {p1 : Int32} {g : mSt} {Φ : Int32 → mSt → Prop} (h : ∀ r g1, Φ r g1) : wp_kputHeader Z i0 p1 g Φ := by
  unfold wp_kputHeader
  repeat' first
    | with_reducible exact trivial
    | with_reducible exact h _ _
    | with_reducible refine And.intro ?_ ?_
    | intro _

set_option maxHeartbeats 4000000 in
set_option maxRecDepth 100000 in
theorem wc_kputHeader {Z : cZ} {i0 : Nat} {p1 : Int32} {g : mSt} {Φ Ψ Χ : Int32 → mSt → Prop} (hX : ∀ r g1, Φ r g1 → Ψ r g1 → Χ r g1) (hA : wp_kputHeader Z i0 p1 g Φ) (hB : wp_kputHeader Z i0 p1 g Ψ) : wp_kputHeader Z i0 p1 g Χ := by
  unfold wp_kputHeader at hA hB ⊢
  repeat' first
    | with_reducible exact trivial
    | with_reducible exact hX _ _ hA hB
    | with_reducible exact ⟨hA, hB⟩
    | with_reducible exact hA
    | with_reducible refine wand (fun hA hB => ?_) (fun hA hB => ?_) hA hB
    | with_reducible refine wall (fun x hA hB => ?_) hA hB
    | with_reducible refine wimp (fun hA hB => ?_) hA hB

set_option maxHeartbeats 4000000 in
set_option maxRecDepth 100000 in
theorem wt_kword {Z : cZ} {i0 : Nat} {p1 : Int32} {g : mSt} {Φ : Int32 → mSt → Prop} (h : ∀ r g1, Φ r g1) : wp_kword Z i0 p1 g Φ := by
  unfold wp_kword
  repeat' first
    | with_reducible exact trivial
    | with_reducible exact h _ _
    | refine ⟨fun _ => True, ?_⟩
    | refine ⟨fun _ _ => True, ?_⟩
    | with_reducible refine And.intro ?_ ?_
    | intro _

set_option maxHeartbeats 4000000 in
set_option maxRecDepth 100000 in
theorem wc_kword {Z : cZ} {i0 : Nat} {p1 : Int32} {g : mSt} {Φ Ψ Χ : Int32 → mSt → Prop} (hX : ∀ r g1, Φ r g1 → Ψ r g1 → Χ r g1) (hA : wp_kword Z i0 p1 g Φ) (hB : wp_kword Z i0 p1 g Ψ) : wp_kword Z i0 p1 g Χ := by
  unfold wp_kword at hA hB ⊢
  repeat' first
    | with_reducible exact trivial
    | with_reducible exact hX _ _ hA hB
    | with_reducible exact ⟨hA, hB⟩
    | with_reducible exact hA
    | with_reducible refine wex1 (fun P Q hA hB => ?_) hA hB
    | with_reducible refine wex2 (fun P Q hA hB => ?_) hA hB
    | with_reducible refine wand (fun hA hB => ?_) (fun hA hB => ?_) hA hB
    | with_reducible refine wall (fun x hA hB => ?_) hA hB
    | with_reducible refine wimp (fun hA hB => ?_) hA hB

set_option maxHeartbeats 4000000 in
set_option maxRecDepth 100000 in
theorem wt_krow_39 {Z : cZ} {i0 : Nat} {q1 : Nat} {p2 : Int32} {p3 : Int32} {g : mSt} {Φ : Int32 → mSt → Prop} (h : ∀ r g1, Φ r g1) : wp_krow_39 Z i0 q1 p2 p3 g Φ := by
  unfold wp_krow_39
  repeat' first
    | with_reducible exact trivial
    | with_reducible exact h _ _
    | with_reducible refine And.intro ?_ ?_
    | intro _

set_option maxHeartbeats 4000000 in
set_option maxRecDepth 100000 in
theorem wc_krow_39 {Z : cZ} {i0 : Nat} {q1 : Nat} {p2 : Int32} {p3 : Int32} {g : mSt} {Φ Ψ Χ : Int32 → mSt → Prop} (hX : ∀ r g1, Φ r g1 → Ψ r g1 → Χ r g1) (hA : wp_krow_39 Z i0 q1 p2 p3 g Φ) (hB : wp_krow_39 Z i0 q1 p2 p3 g Ψ) : wp_krow_39 Z i0 q1 p2 p3 g Χ := by
  unfold wp_krow_39 at hA hB ⊢
  repeat' first
    | with_reducible exact trivial
    | with_reducible exact hX _ _ hA hB
    | with_reducible exact ⟨hA, hB⟩
    | with_reducible exact hA
    | with_reducible refine wand (fun hA hB => ?_) (fun hA hB => ?_) hA hB
    | with_reducible refine wall (fun x hA hB => ?_) hA hB
    | with_reducible refine wimp (fun hA hB => ?_) hA hB

set_option maxHeartbeats 4000000 in
set_option maxRecDepth 100000 in
theorem wt_ksendUnit {Z : cZ} {i0 : Nat} {p1 : Int32} {p2 : Int32} {g : mSt} {Φ : Int32 → mSt → Prop} (h : ∀ r g1, Φ r g1) : wp_ksendUnit Z i0 p1 p2 g Φ := by
  unfold wp_ksendUnit
  repeat' first
    | with_reducible exact trivial
    | with_reducible exact h _ _
    | with_reducible refine wt_kcloseFrame_24 (fun _ _ => ?_)
    | with_reducible refine wt_kqadd_24 (fun _ _ => ?_)
    | with_reducible refine wt_kword (fun _ _ => ?_)
    | refine ⟨fun _ => True, ?_⟩
    | refine ⟨fun _ _ => True, ?_⟩
    | with_reducible refine And.intro ?_ ?_
    | intro _

set_option maxHeartbeats 4000000 in
set_option maxRecDepth 100000 in
theorem wc_ksendUnit {Z : cZ} {i0 : Nat} {p1 : Int32} {p2 : Int32} {g : mSt} {Φ Ψ Χ : Int32 → mSt → Prop} (hX : ∀ r g1, Φ r g1 → Ψ r g1 → Χ r g1) (hA : wp_ksendUnit Z i0 p1 p2 g Φ) (hB : wp_ksendUnit Z i0 p1 p2 g Ψ) : wp_ksendUnit Z i0 p1 p2 g Χ := by
  unfold wp_ksendUnit at hA hB ⊢
  repeat' first
    | with_reducible exact trivial
    | with_reducible exact hX _ _ hA hB
    | with_reducible exact ⟨hA, hB⟩
    | with_reducible exact hA
    | with_reducible refine wc_kcloseFrame_24 (fun _ _ hA hB => ?_) hA hB
    | with_reducible refine wc_kqadd_24 (fun _ _ hA hB => ?_) hA hB
    | with_reducible refine wc_kword (fun _ _ hA hB => ?_) hA hB
    | with_reducible refine wex1 (fun P Q hA hB => ?_) hA hB
    | with_reducible refine wex2 (fun P Q hA hB => ?_) hA hB
    | with_reducible refine wand (fun hA hB => ?_) (fun hA hB => ?_) hA hB
    | with_reducible refine wall (fun x hA hB => ?_) hA hB
    | with_reducible refine wimp (fun hA hB => ?_) hA hB

set_option maxHeartbeats 4000000 in
set_option maxRecDepth 100000 in
theorem wt_kspoilCell {Z : cZ} {i0 : Nat} {g : mSt} {Φ : Int32 → mSt → Prop} (h : ∀ r g1, Φ r g1) : wp_kspoilCell Z i0 g Φ := by
  unfold wp_kspoilCell
  repeat' first
    | with_reducible exact trivial
    | with_reducible exact h _ _
    | refine ⟨fun _ => True, ?_⟩
    | refine ⟨fun _ _ => True, ?_⟩
    | refine ⟨fun _ _ _ => True, ?_⟩
    | refine ⟨fun _ _ _ _ => True, ?_⟩
    | with_reducible refine And.intro ?_ ?_
    | intro _

set_option maxHeartbeats 4000000 in
set_option maxRecDepth 100000 in
theorem wc_kspoilCell {Z : cZ} {i0 : Nat} {g : mSt} {Φ Ψ Χ : Int32 → mSt → Prop} (hX : ∀ r g1, Φ r g1 → Ψ r g1 → Χ r g1) (hA : wp_kspoilCell Z i0 g Φ) (hB : wp_kspoilCell Z i0 g Ψ) : wp_kspoilCell Z i0 g Χ := by
  unfold wp_kspoilCell at hA hB ⊢
  repeat' first
    | with_reducible exact trivial
    | with_reducible exact hX _ _ hA hB
    | with_reducible exact ⟨hA, hB⟩
    | with_reducible exact hA
    | with_reducible refine wex1 (fun P Q hA hB => ?_) hA hB
    | with_reducible refine wex2 (fun P Q hA hB => ?_) hA hB
    | with_reducible refine wex3 (fun P Q hA hB => ?_) hA hB
    | with_reducible refine wex4 (fun P Q hA hB => ?_) hA hB
    | with_reducible refine wand (fun hA hB => ?_) (fun hA hB => ?_) hA hB
    | with_reducible refine wall (fun x hA hB => ?_) hA hB
    | with_reducible refine wimp (fun hA hB => ?_) hA hB

set_option maxHeartbeats 4000000 in
set_option maxRecDepth 100000 in
theorem wt_kputCells {Z : cZ} {i0 : Nat} {g : mSt} {Φ : Int32 → mSt → Prop} (h : ∀ r g1, Φ r g1) : wp_kputCells Z i0 g Φ := by
  unfold wp_kputCells
  repeat' first
    | with_reducible exact trivial
    | with_reducible exact h _ _
    | with_reducible refine wt_kfill_19 (fun _ _ => ?_)
    | with_reducible refine wt_kputHeader (fun _ _ => ?_)
    | with_reducible refine wt_kqtake (fun _ _ => ?_)
    | with_reducible refine wt_kspoilCell (fun _ _ => ?_)
    | refine ⟨fun _ => True, ?_⟩
    | refine ⟨fun _ _ => True, ?_⟩
    | refine ⟨fun _ _ _ => True, ?_⟩
    | with_reducible refine And.intro ?_ ?_
    | intro _

set_option maxHeartbeats 4000000 in
set_option maxRecDepth 100000 in
theorem wc_kputCells {Z : cZ} {i0 : Nat} {g : mSt} {Φ Ψ Χ : Int32 → mSt → Prop} (hX : ∀ r g1, Φ r g1 → Ψ r g1 → Χ r g1) (hA : wp_kputCells Z i0 g Φ) (hB : wp_kputCells Z i0 g Ψ) : wp_kputCells Z i0 g Χ := by
  unfold wp_kputCells at hA hB ⊢
  repeat' first
    | with_reducible exact trivial
    | with_reducible exact hX _ _ hA hB
    | with_reducible exact ⟨hA, hB⟩
    | with_reducible exact hA
    | with_reducible refine wc_kfill_19 (fun _ _ hA hB => ?_) hA hB
    | with_reducible refine wc_kputHeader (fun _ _ hA hB => ?_) hA hB
    | with_reducible refine wc_kqtake (fun _ _ hA hB => ?_) hA hB
    | with_reducible refine wc_kspoilCell (fun _ _ hA hB => ?_) hA hB
    | with_reducible refine wex1 (fun P Q hA hB => ?_) hA hB
    | with_reducible refine wex2 (fun P Q hA hB => ?_) hA hB
    | with_reducible refine wex3 (fun P Q hA hB => ?_) hA hB
    | with_reducible refine wand (fun hA hB => ?_) (fun hA hB => ?_) hA hB
    | with_reducible refine wall (fun x hA hB => ?_) hA hB
    | with_reducible refine wimp (fun hA hB => ?_) hA hB

set_option maxHeartbeats 4000000 in
set_option maxRecDepth 100000 in
theorem wt_khunt {Z : cZ} {i0 : Nat} {g : mSt} {Φ : Int32 → mSt → Prop} (h : ∀ r g1, Φ r g1) : wp_khunt Z i0 g Φ := by
  unfold wp_khunt
  repeat' first
    | with_reducible exact trivial
    | with_reducible exact h _ _
    | with_reducible refine And.intro ?_ ?_
    | intro _

set_option maxHeartbeats 4000000 in
set_option maxRecDepth 100000 in
theorem wc_khunt {Z : cZ} {i0 : Nat} {g : mSt} {Φ Ψ Χ : Int32 → mSt → Prop} (hX : ∀ r g1, Φ r g1 → Ψ r g1 → Χ r g1) (hA : wp_khunt Z i0 g Φ) (hB : wp_khunt Z i0 g Ψ) : wp_khunt Z i0 g Χ := by
  unfold wp_khunt at hA hB ⊢
  repeat' first
    | with_reducible exact trivial
    | with_reducible exact hX _ _ hA hB
    | with_reducible exact ⟨hA, hB⟩
    | with_reducible exact hA
    | with_reducible refine wand (fun hA hB => ?_) (fun hA hB => ?_) hA hB
    | with_reducible refine wall (fun x hA hB => ?_) hA hB
    | with_reducible refine wimp (fun hA hB => ?_) hA hB

set_option maxHeartbeats 4000000 in
set_option maxRecDepth 100000 in
theorem wt_kpresync {Z : cZ} {i0 : Nat} {p1 : Int32} {g : mSt} {Φ : Int32 → mSt → Prop} (h : ∀ r g1, Φ r g1) : wp_kpresync Z i0 p1 g Φ := by
  unfold wp_kpresync
  repeat' first
    | with_reducible exact trivial
    | with_reducible exact h _ _
    | with_reducible refine wt_khunt (fun _ _ => ?_)
    | with_reducible refine And.intro ?_ ?_
    | intro _

set_option maxHeartbeats 4000000 in
set_option maxRecDepth 100000 in
theorem wc_kpresync {Z : cZ} {i0 : Nat} {p1 : Int32} {g : mSt} {Φ Ψ Χ : Int32 → mSt → Prop} (hX : ∀ r g1, Φ r g1 → Ψ r g1 → Χ r g1) (hA : wp_kpresync Z i0 p1 g Φ) (hB : wp_kpresync Z i0 p1 g Ψ) : wp_kpresync Z i0 p1 g Χ := by
  unfold wp_kpresync at hA hB ⊢
  repeat' first
    | with_reducible exact trivial
    | with_reducible exact hX _ _ hA hB
    | with_reducible exact ⟨hA, hB⟩
    | with_reducible exact hA
    | with_reducible refine wc_khunt (fun _ _ hA hB => ?_) hA hB
    | with_reducible refine wand (fun hA hB => ?_) (fun hA hB => ?_) hA hB
    | with_reducible refine wall (fun x hA hB => ?_) hA hB
    | with_reducible refine wimp (fun hA hB => ?_) hA hB

set_option maxHeartbeats 4000000 in
set_option maxRecDepth 100000 in
theorem wt_ksyncHeader {Z : cZ} {i0 : Nat} {p1 : Int32} {g : mSt} {Φ : Int32 → mSt → Prop} (h : ∀ r g1, Φ r g1) : wp_ksyncHeader Z i0 p1 g Φ := by
  unfold wp_ksyncHeader
  repeat' first
    | with_reducible exact trivial
    | with_reducible exact h _ _
    | with_reducible refine wt_khunt (fun _ _ => ?_)
    | refine ⟨fun _ => True, ?_⟩
    | refine ⟨fun _ _ => True, ?_⟩
    | with_reducible refine And.intro ?_ ?_
    | intro _

set_option maxHeartbeats 4000000 in
set_option maxRecDepth 100000 in
theorem wc_ksyncHeader {Z : cZ} {i0 : Nat} {p1 : Int32} {g : mSt} {Φ Ψ Χ : Int32 → mSt → Prop} (hX : ∀ r g1, Φ r g1 → Ψ r g1 → Χ r g1) (hA : wp_ksyncHeader Z i0 p1 g Φ) (hB : wp_ksyncHeader Z i0 p1 g Ψ) : wp_ksyncHeader Z i0 p1 g Χ := by
  unfold wp_ksyncHeader at hA hB ⊢
  repeat' first
    | with_reducible exact trivial
    | with_reducible exact hX _ _ hA hB
    | with_reducible exact ⟨hA, hB⟩
    | with_reducible exact hA
    | with_reducible refine wc_khunt (fun _ _ hA hB => ?_) hA hB
    | with_reducible refine wex1 (fun P Q hA hB => ?_) hA hB
    | with_reducible refine wex2 (fun P Q hA hB => ?_) hA hB
    | with_reducible refine wand (fun hA hB => ?_) (fun hA hB => ?_) hA hB
    | with_reducible refine wall (fun x hA hB => ?_) hA hB
    | with_reducible refine wimp (fun hA hB => ?_) hA hB

set_option maxHeartbeats 4000000 in
set_option maxRecDepth 100000 in
theorem wt_kheaderOctet {Z : cZ} {i0 : Nat} {p1 : Int32} {g : mSt} {Φ : Int32 → mSt → Prop} (h : ∀ r g1, Φ r g1) : wp_kheaderOctet Z i0 p1 g Φ := by
  unfold wp_kheaderOctet
  repeat' first
    | with_reducible exact trivial
    | with_reducible exact h _ _
    | with_reducible refine wt_kpresync (fun _ _ => ?_)
    | with_reducible refine wt_ksyncHeader (fun _ _ => ?_)
    | with_reducible refine And.intro ?_ ?_
    | intro _

set_option maxHeartbeats 4000000 in
set_option maxRecDepth 100000 in
theorem wc_kheaderOctet {Z : cZ} {i0 : Nat} {p1 : Int32} {g : mSt} {Φ Ψ Χ : Int32 → mSt → Prop} (hX : ∀ r g1, Φ r g1 → Ψ r g1 → Χ r g1) (hA : wp_kheaderOctet Z i0 p1 g Φ) (hB : wp_kheaderOctet Z i0 p1 g Ψ) : wp_kheaderOctet Z i0 p1 g Χ := by
  unfold wp_kheaderOctet at hA hB ⊢
  repeat' first
    | with_reducible exact trivial
    | with_reducible exact hX _ _ hA hB
    | with_reducible exact ⟨hA, hB⟩
    | with_reducible exact hA
    | with_reducible refine wc_kpresync (fun _ _ hA hB => ?_) hA hB
    | with_reducible refine wc_ksyncHeader (fun _ _ hA hB => ?_) hA hB
    | with_reducible refine wand (fun hA hB => ?_) (fun hA hB => ?_) hA hB
    | with_reducible refine wall (fun x hA hB => ?_) hA hB
    | with_reducible refine wimp (fun hA hB => ?_) hA hB

set_option maxHeartbeats 4000000 in
set_option maxRecDepth 100000 in
theorem wt_ktake {Z : cZ} {i0 : Nat} {q1 : Nat} {p2 : Int32} {p3 : Int32} {g : mSt} {Φ : Int32 → mSt → Prop} (h : ∀ r g1, Φ r g1) : wp_ktake Z i0 q1 p2 p3 g Φ := by
  unfold wp_ktake
  repeat' first
    | with_reducible exact trivial
    | with_reducible exact h _ _
    | with_reducible refine wt_kheaderOctet (fun _ _ => ?_)
    | refine ⟨fun _ => True, ?_⟩
    | refine ⟨fun _ _ => True, ?_⟩
    | with_reducible refine And.intro ?_ ?_
    | intro _

set_option maxHeartbeats 4000000 in
set_option maxRecDepth 100000 in
theorem wc_ktake {Z : cZ} {i0 : Nat} {q1 : Nat} {p2 : Int32} {p3 : Int32} {g : mSt} {Φ Ψ Χ : Int32 → mSt → Prop} (hX : ∀ r g1, Φ r g1 → Ψ r g1 → Χ r g1) (hA : wp_ktake Z i0 q1 p2 p3 g Φ) (hB : wp_ktake Z i0 q1 p2 p3 g Ψ) : wp_ktake Z i0 q1 p2 p3 g Χ := by
  unfold wp_ktake at hA hB ⊢
  repeat' first
    | with_reducible exact trivial
    | with_reducible exact hX _ _ hA hB
    | with_reducible exact ⟨hA, hB⟩
    | with_reducible exact hA
    | with_reducible refine wc_kheaderOctet (fun _ _ hA hB => ?_) hA hB
    | with_reducible refine wex1 (fun P Q hA hB => ?_) hA hB
    | with_reducible refine wex2 (fun P Q hA hB => ?_) hA hB
    | with_reducible refine wand (fun hA hB => ?_) (fun hA hB => ?_) hA hB
    | with_reducible refine wall (fun x hA hB => ?_) hA hB
    | with_reducible refine wimp (fun hA hB => ?_) hA hB

set_option maxHeartbeats 4000000 in
set_option maxRecDepth 100000 in
theorem wt_kisWhole {Z : cZ} {i0 : Nat} {p1 : Int32} {g : mSt} {Φ : Int32 → mSt → Prop} (h : ∀ r g1, Φ r g1) : wp_kisWhole Z i0 p1 g Φ := by
  unfold wp_kisWhole
  repeat' first
    | with_reducible exact trivial
    | with_reducible exact h _ _
    | with_reducible refine wt_kcellsFor (fun _ _ => ?_)
    | with_reducible refine wt_kcrcOf_16 (fun _ _ => ?_)
    | with_reducible refine wt_kwordAt_16 (fun _ _ => ?_)
    | with_reducible refine And.intro ?_ ?_
    | intro _

set_option maxHeartbeats 4000000 in
set_option maxRecDepth 100000 in
theorem wc_kisWhole {Z : cZ} {i0 : Nat} {p1 : Int32} {g : mSt} {Φ Ψ Χ : Int32 → mSt → Prop} (hX : ∀ r g1, Φ r g1 → Ψ r g1 → Χ r g1) (hA : wp_kisWhole Z i0 p1 g Φ) (hB : wp_kisWhole Z i0 p1 g Ψ) : wp_kisWhole Z i0 p1 g Χ := by
  unfold wp_kisWhole at hA hB ⊢
  repeat' first
    | with_reducible exact trivial
    | with_reducible exact hX _ _ hA hB
    | with_reducible exact ⟨hA, hB⟩
    | with_reducible exact hA
    | with_reducible refine wc_kcellsFor (fun _ _ hA hB => ?_) hA hB
    | with_reducible refine wc_kcrcOf_16 (fun _ _ hA hB => ?_) hA hB
    | with_reducible refine wc_kwordAt_16 (fun _ _ hA hB => ?_) hA hB
    | with_reducible refine wand (fun hA hB => ?_) (fun hA hB => ?_) hA hB
    | with_reducible refine wall (fun x hA hB => ?_) hA hB
    | with_reducible refine wimp (fun hA hB => ?_) hA hB

set_option maxHeartbeats 4000000 in
set_option maxRecDepth 100000 in
theorem wt_kasmAdd {Z : cZ} {i0 : Nat} {q1 : Nat} {p2 : Int32} {g : mSt} {Φ : Int32 → mSt → Prop} (h : ∀ r g1, Φ r g1) : wp_kasmAdd Z i0 q1 p2 g Φ := by
  unfold wp_kasmAdd
  repeat' first
    | with_reducible exact trivial
    | with_reducible exact h _ _
    | with_reducible refine wt_kisWhole (fun _ _ => ?_)
    | with_reducible refine And.intro ?_ ?_
    | intro _

set_option maxHeartbeats 4000000 in
set_option maxRecDepth 100000 in
theorem wc_kasmAdd {Z : cZ} {i0 : Nat} {q1 : Nat} {p2 : Int32} {g : mSt} {Φ Ψ Χ : Int32 → mSt → Prop} (hX : ∀ r g1, Φ r g1 → Ψ r g1 → Χ r g1) (hA : wp_kasmAdd Z i0 q1 p2 g Φ) (hB : wp_kasmAdd Z i0 q1 p2 g Ψ) : wp_kasmAdd Z i0 q1 p2 g Χ := by
  unfold wp_kasmAdd at hA hB ⊢
  repeat' first
    | with_reducible exact trivial
    | with_reducible exact hX _ _ hA hB
    | with_reducible exact ⟨hA, hB⟩
    | with_reducible exact hA
    | with_reducible refine wc_kisWhole (fun _ _ hA hB => ?_) hA hB
    | with_reducible refine wand (fun hA hB => ?_) (fun hA hB => ?_) hA hB
    | with_reducible refine wall (fun x hA hB => ?_) hA hB
    | with_reducible refine wimp (fun hA hB => ?_) hA hB

set_option maxHeartbeats 4000000 in
set_option maxRecDepth 100000 in
theorem wt_kanew {Z : cZ} {i0 : Nat} {p1 : Int32} {g : mSt} {Φ : Int32 → mSt → Prop} (h : ∀ r g1, Φ r g1) : wp_kanew Z i0 p1 g Φ := by
  unfold wp_kanew
  repeat' first
    | with_reducible exact trivial
    | with_reducible exact h _ _
    | with_reducible refine wt_kclearAll_13 (fun _ _ => ?_)
    | with_reducible refine And.intro ?_ ?_
    | intro _

set_option maxHeartbeats 4000000 in
set_option maxRecDepth 100000 in
theorem wc_kanew {Z : cZ} {i0 : Nat} {p1 : Int32} {g : mSt} {Φ Ψ Χ : Int32 → mSt → Prop} (hX : ∀ r g1, Φ r g1 → Ψ r g1 → Χ r g1) (hA : wp_kanew Z i0 p1 g Φ) (hB : wp_kanew Z i0 p1 g Ψ) : wp_kanew Z i0 p1 g Χ := by
  unfold wp_kanew at hA hB ⊢
  repeat' first
    | with_reducible exact trivial
    | with_reducible exact hX _ _ hA hB
    | with_reducible exact ⟨hA, hB⟩
    | with_reducible exact hA
    | with_reducible refine wc_kclearAll_13 (fun _ _ hA hB => ?_) hA hB
    | with_reducible refine wand (fun hA hB => ?_) (fun hA hB => ?_) hA hB
    | with_reducible refine wall (fun x hA hB => ?_) hA hB
    | with_reducible refine wimp (fun hA hB => ?_) hA hB

set_option maxHeartbeats 4000000 in
set_option maxRecDepth 100000 in
theorem wt_kbecomeReady {Z : cZ} {i0 : Nat} {p1 : Int32} {g : mSt} {Φ : Int32 → mSt → Prop} (h : ∀ r g1, Φ r g1) : wp_kbecomeReady Z i0 p1 g Φ := by
  unfold wp_kbecomeReady
  repeat' first
    | with_reducible exact trivial
    | with_reducible exact h _ _
    | with_reducible refine wt_kanew (fun _ _ => ?_)
    | with_reducible refine And.intro ?_ ?_
    | intro _

set_option maxHeartbeats 4000000 in
set_option maxRecDepth 100000 in
theorem wc_kbecomeReady {Z : cZ} {i0 : Nat} {p1 : Int32} {g : mSt} {Φ Ψ Χ : Int32 → mSt → Prop} (hX : ∀ r g1, Φ r g1 → Ψ r g1 → Χ r g1) (hA : wp_kbecomeReady Z i0 p1 g Φ) (hB : wp_kbecomeReady Z i0 p1 g Ψ) : wp_kbecomeReady Z i0 p1 g Χ := by
  unfold wp_kbecomeReady at hA hB ⊢
  repeat' first
    | with_reducible exact trivial
    | with_reducible exact hX _ _ hA hB
    | with_reducible exact ⟨hA, hB⟩
    | with_reducible exact hA
    | with_reducible refine wc_kanew (fun _ _ hA hB => ?_) hA hB
    | with_reducible refine wand (fun hA hB => ?_) (fun hA hB => ?_) hA hB
    | with_reducible refine wall (fun x hA hB => ?_) hA hB
    | with_reducible refine wimp (fun hA hB => ?_) hA hB

set_option maxHeartbeats 4000000 in
set_option maxRecDepth 100000 in
theorem wt_kcut {Z : cZ} {i0 : Nat} {g : mSt} {Φ : Int32 → mSt → Prop} (h : ∀ r g1, Φ r g1) : wp_kcut Z i0 g Φ := by
  unfold wp_kcut
  repeat' first
    | with_reducible exact trivial
    | with_reducible exact h _ _
    | with_reducible refine wt_kanew (fun _ _ => ?_)
    | with_reducible refine wt_kclearAll_6 (fun _ _ => ?_)
    | with_reducible refine And.intro ?_ ?_
    | intro _

set_option maxHeartbeats 4000000 in
set_option maxRecDepth 100000 in
theorem wc_kcut {Z : cZ} {i0 : Nat} {g : mSt} {Φ Ψ Χ : Int32 → mSt → Prop} (hX : ∀ r g1, Φ r g1 → Ψ r g1 → Χ r g1) (hA : wp_kcut Z i0 g Φ) (hB : wp_kcut Z i0 g Ψ) : wp_kcut Z i0 g Χ := by
  unfold wp_kcut at hA hB ⊢
  repeat' first
    | with_reducible exact trivial
    | with_reducible exact hX _ _ hA hB
    | with_reducible exact ⟨hA, hB⟩
    | with_reducible exact hA
    | with_reducible refine wc_kanew (fun _ _ hA hB => ?_) hA hB
    | with_reducible refine wc_kclearAll_6 (fun _ _ hA hB => ?_) hA hB
    | with_reducible refine wand (fun hA hB => ?_) (fun hA hB => ?_) hA hB
    | with_reducible refine wall (fun x hA hB => ?_) hA hB
    | with_reducible refine wimp (fun hA hB => ?_) hA hB

set_option maxHeartbeats 4000000 in
set_option maxRecDepth 100000 in
theorem wt_kaskAgain {Z : cZ} {i0 : Nat} {p1 : Int32} {g : mSt} {Φ : Int32 → mSt → Prop} (h : ∀ r g1, Φ r g1) : wp_kaskAgain Z i0 p1 g Φ := by
  unfold wp_kaskAgain
  repeat' first
    | with_reducible exact trivial
    | with_reducible exact h _ _
    | with_reducible refine wt_ksendUnit (fun _ _ => ?_)
    | with_reducible refine wt_kword (fun _ _ => ?_)
    | refine ⟨fun _ => True, ?_⟩
    | with_reducible refine And.intro ?_ ?_
    | intro _

set_option maxHeartbeats 4000000 in
set_option maxRecDepth 100000 in
theorem wc_kaskAgain {Z : cZ} {i0 : Nat} {p1 : Int32} {g : mSt} {Φ Ψ Χ : Int32 → mSt → Prop} (hX : ∀ r g1, Φ r g1 → Ψ r g1 → Χ r g1) (hA : wp_kaskAgain Z i0 p1 g Φ) (hB : wp_kaskAgain Z i0 p1 g Ψ) : wp_kaskAgain Z i0 p1 g Χ := by
  unfold wp_kaskAgain at hA hB ⊢
  repeat' first
    | with_reducible exact trivial
    | with_reducible exact hX _ _ hA hB
    | with_reducible exact ⟨hA, hB⟩
    | with_reducible exact hA
    | with_reducible refine wc_ksendUnit (fun _ _ hA hB => ?_) hA hB
    | with_reducible refine wc_kword (fun _ _ hA hB => ?_) hA hB
    | with_reducible refine wex1 (fun P Q hA hB => ?_) hA hB
    | with_reducible refine wand (fun hA hB => ?_) (fun hA hB => ?_) hA hB
    | with_reducible refine wall (fun x hA hB => ?_) hA hB
    | with_reducible refine wimp (fun hA hB => ?_) hA hB

set_option maxHeartbeats 4000000 in
set_option maxRecDepth 100000 in
theorem wt_kask {Z : cZ} {i0 : Nat} {p1 : Int32} {p2 : Int32} {p3 : Int32} {g : mSt} {Φ : Int32 → mSt → Prop} (h : ∀ r g1, Φ r g1) : wp_kask Z i0 p1 p2 p3 g Φ := by
  unfold wp_kask
  repeat' first
    | with_reducible exact trivial
    | with_reducible exact h _ _
    | with_reducible refine wt_kaskAgain (fun _ _ => ?_)
    | refine ⟨fun _ => True, ?_⟩
    | with_reducible refine And.intro ?_ ?_
    | intro _

set_option maxHeartbeats 4000000 in
set_option maxRecDepth 100000 in
theorem wc_kask {Z : cZ} {i0 : Nat} {p1 : Int32} {p2 : Int32} {p3 : Int32} {g : mSt} {Φ Ψ Χ : Int32 → mSt → Prop} (hX : ∀ r g1, Φ r g1 → Ψ r g1 → Χ r g1) (hA : wp_kask Z i0 p1 p2 p3 g Φ) (hB : wp_kask Z i0 p1 p2 p3 g Ψ) : wp_kask Z i0 p1 p2 p3 g Χ := by
  unfold wp_kask at hA hB ⊢
  repeat' first
    | with_reducible exact trivial
    | with_reducible exact hX _ _ hA hB
    | with_reducible exact ⟨hA, hB⟩
    | with_reducible exact hA
    | with_reducible refine wc_kaskAgain (fun _ _ hA hB => ?_) hA hB
    | with_reducible refine wex1 (fun P Q hA hB => ?_) hA hB
    | with_reducible refine wand (fun hA hB => ?_) (fun hA hB => ?_) hA hB
    | with_reducible refine wall (fun x hA hB => ?_) hA hB
    | with_reducible refine wimp (fun hA hB => ?_) hA hB

set_option maxHeartbeats 4000000 in
set_option maxRecDepth 100000 in
theorem wt_kpoll {Z : cZ} {i0 : Nat} {p1 : Int32} {g : mSt} {Φ : Int32 → mSt → Prop} (h : ∀ r g1, Φ r g1) : wp_kpoll Z i0 p1 g Φ := by
  unfold wp_kpoll
  repeat' first
    | with_reducible exact trivial
    | with_reducible exact h _ _
    | with_reducible refine wt_ksendUnit (fun _ _ => ?_)
    | with_reducible refine wt_kword (fun _ _ => ?_)
    | with_reducible refine And.intro ?_ ?_
    | intro _

set_option maxHeartbeats 4000000 in
set_option maxRecDepth 100000 in
theorem wc_kpoll {Z : cZ} {i0 : Nat} {p1 : Int32} {g : mSt} {Φ Ψ Χ : Int32 → mSt → Prop} (hX : ∀ r g1, Φ r g1 → Ψ r g1 → Χ r g1) (hA : wp_kpoll Z i0 p1 g Φ) (hB : wp_kpoll Z i0 p1 g Ψ) : wp_kpoll Z i0 p1 g Χ := by
  unfold wp_kpoll at hA hB ⊢
  repeat' first
    | with_reducible exact trivial
    | with_reducible exact hX _ _ hA hB
    | with_reducible exact ⟨hA, hB⟩
    | with_reducible exact hA
    | with_reducible refine wc_ksendUnit (fun _ _ hA hB => ?_) hA hB
    | with_reducible refine wc_kword (fun _ _ hA hB => ?_) hA hB
    | with_reducible refine wand (fun hA hB => ?_) (fun hA hB => ?_) hA hB
    | with_reducible refine wall (fun x hA hB => ?_) hA hB
    | with_reducible refine wimp (fun hA hB => ?_) hA hB

set_option maxHeartbeats 4000000 in
set_option maxRecDepth 100000 in
theorem wt_ktimers {Z : cZ} {i0 : Nat} {p1 : Int32} {g : mSt} {Φ : Int32 → mSt → Prop} (h : ∀ r g1, Φ r g1) : wp_ktimers Z i0 p1 g Φ := by
  unfold wp_ktimers
  repeat' first
    | with_reducible exact trivial
    | with_reducible exact h _ _
    | with_reducible refine wt_kaskAgain (fun _ _ => ?_)
    | with_reducible refine wt_kcut (fun _ _ => ?_)
    | with_reducible refine wt_kpoll (fun _ _ => ?_)
    | with_reducible refine wt_ksendUnit (fun _ _ => ?_)
    | refine ⟨fun _ => True, ?_⟩
    | refine ⟨fun _ _ => True, ?_⟩
    | with_reducible refine And.intro ?_ ?_
    | intro _

set_option maxHeartbeats 4000000 in
set_option maxRecDepth 100000 in
theorem wc_ktimers {Z : cZ} {i0 : Nat} {p1 : Int32} {g : mSt} {Φ Ψ Χ : Int32 → mSt → Prop} (hX : ∀ r g1, Φ r g1 → Ψ r g1 → Χ r g1) (hA : wp_ktimers Z i0 p1 g Φ) (hB : wp_ktimers Z i0 p1 g Ψ) : wp_ktimers Z i0 p1 g Χ := by
  unfold wp_ktimers at hA hB ⊢
  repeat' first
    | with_reducible exact trivial
    | with_reducible exact hX _ _ hA hB
    | with_reducible exact ⟨hA, hB⟩
    | with_reducible exact hA
    | with_reducible refine wc_kaskAgain (fun _ _ hA hB => ?_) hA hB
    | with_reducible refine wc_kcut (fun _ _ hA hB => ?_) hA hB
    | with_reducible refine wc_kpoll (fun _ _ hA hB => ?_) hA hB
    | with_reducible refine wc_ksendUnit (fun _ _ hA hB => ?_) hA hB
    | with_reducible refine wex1 (fun P Q hA hB => ?_) hA hB
    | with_reducible refine wex2 (fun P Q hA hB => ?_) hA hB
    | with_reducible refine wand (fun hA hB => ?_) (fun hA hB => ?_) hA hB
    | with_reducible refine wall (fun x hA hB => ?_) hA hB
    | with_reducible refine wimp (fun hA hB => ?_) hA hB

set_option maxHeartbeats 4000000 in
set_option maxRecDepth 100000 in
theorem wt_ksendData {Z : cZ} {i0 : Nat} {p1 : Int32} {g : mSt} {Φ : Int32 → mSt → Prop} (h : ∀ r g1, Φ r g1) : wp_ksendData Z i0 p1 g Φ := by
  unfold wp_ksendData
  repeat' first
    | with_reducible exact trivial
    | with_reducible exact h _ _
    | with_reducible refine wt_krow_39 (fun _ _ => ?_)
    | with_reducible refine wt_ksendUnit (fun _ _ => ?_)
    | refine ⟨fun _ => True, ?_⟩
    | refine ⟨fun _ _ => True, ?_⟩
    | with_reducible refine And.intro ?_ ?_
    | intro _

set_option maxHeartbeats 4000000 in
set_option maxRecDepth 100000 in
theorem wc_ksendData {Z : cZ} {i0 : Nat} {p1 : Int32} {g : mSt} {Φ Ψ Χ : Int32 → mSt → Prop} (hX : ∀ r g1, Φ r g1 → Ψ r g1 → Χ r g1) (hA : wp_ksendData Z i0 p1 g Φ) (hB : wp_ksendData Z i0 p1 g Ψ) : wp_ksendData Z i0 p1 g Χ := by
  unfold wp_ksendData at hA hB ⊢
  repeat' first
    | with_reducible exact trivial
    | with_reducible exact hX _ _ hA hB
    | with_reducible exact ⟨hA, hB⟩
    | with_reducible exact hA
    | with_reducible refine wc_krow_39 (fun _ _ hA hB => ?_) hA hB
    | with_reducible refine wc_ksendUnit (fun _ _ hA hB => ?_) hA hB
    | with_reducible refine wex1 (fun P Q hA hB => ?_) hA hB
    | with_reducible refine wex2 (fun P Q hA hB => ?_) hA hB
    | with_reducible refine wand (fun hA hB => ?_) (fun hA hB => ?_) hA hB
    | with_reducible refine wall (fun x hA hB => ?_) hA hB
    | with_reducible refine wimp (fun hA hB => ?_) hA hB

set_option maxHeartbeats 4000000 in
set_option maxRecDepth 100000 in
theorem wt_kturn {Z : cZ} {i0 : Nat} {p1 : Int32} {g : mSt} {Φ : Int32 → mSt → Prop} (h : ∀ r g1, Φ r g1) : wp_kturn Z i0 p1 g Φ := by
  unfold wp_kturn
  repeat' first
    | with_reducible exact trivial
    | with_reducible exact h _ _
    | with_reducible refine wt_kask (fun _ _ => ?_)
    | with_reducible refine wt_kmdropFirst (fun _ _ => ?_)
    | with_reducible refine wt_kpoll (fun _ _ => ?_)
    | with_reducible refine wt_kput_26 (fun _ _ => ?_)
    | with_reducible refine wt_ksendData (fun _ _ => ?_)
    | refine ⟨fun _ => True, ?_⟩
    | refine ⟨fun _ _ => True, ?_⟩
    | with_reducible refine And.intro ?_ ?_
    | intro _

set_option maxHeartbeats 4000000 in
set_option maxRecDepth 100000 in
theorem wc_kturn {Z : cZ} {i0 : Nat} {p1 : Int32} {g : mSt} {Φ Ψ Χ : Int32 → mSt → Prop} (hX : ∀ r g1, Φ r g1 → Ψ r g1 → Χ r g1) (hA : wp_kturn Z i0 p1 g Φ) (hB : wp_kturn Z i0 p1 g Ψ) : wp_kturn Z i0 p1 g Χ := by
  unfold wp_kturn at hA hB ⊢
  repeat' first
    | with_reducible exact trivial
    | with_reducible exact hX _ _ hA hB
    | with_reducible exact ⟨hA, hB⟩
    | with_reducible exact hA
    | with_reducible refine wc_kask (fun _ _ hA hB => ?_) hA hB
    | with_reducible refine wc_kmdropFirst (fun _ _ hA hB => ?_) hA hB
    | with_reducible refine wc_kpoll (fun _ _ hA hB => ?_) hA hB
    | with_reducible refine wc_kput_26 (fun _ _ hA hB => ?_) hA hB
    | with_reducible refine wc_ksendData (fun _ _ hA hB => ?_) hA hB
    | with_reducible refine wex1 (fun P Q hA hB => ?_) hA hB
    | with_reducible refine wex2 (fun P Q hA hB => ?_) hA hB
    | with_reducible refine wand (fun hA hB => ?_) (fun hA hB => ?_) hA hB
    | with_reducible refine wall (fun x hA hB => ?_) hA hB
    | with_reducible refine wimp (fun hA hB => ?_) hA hB

set_option maxHeartbeats 4000000 in
set_option maxRecDepth 100000 in
theorem wt_kisUnit {Z : cZ} {q1 : Nat} {p2 : Int32} {g : mSt} {Φ : Int32 → mSt → Prop} (h : ∀ r g1, Φ r g1) : wp_kisUnit Z q1 p2 g Φ := by
  unfold wp_kisUnit
  repeat' first
    | with_reducible exact trivial
    | with_reducible exact h _ _
    | with_reducible refine wt_kwordAt_16 (fun _ _ => ?_)
    | with_reducible refine And.intro ?_ ?_
    | intro _

set_option maxHeartbeats 4000000 in
set_option maxRecDepth 100000 in
theorem wc_kisUnit {Z : cZ} {q1 : Nat} {p2 : Int32} {g : mSt} {Φ Ψ Χ : Int32 → mSt → Prop} (hX : ∀ r g1, Φ r g1 → Ψ r g1 → Χ r g1) (hA : wp_kisUnit Z q1 p2 g Φ) (hB : wp_kisUnit Z q1 p2 g Ψ) : wp_kisUnit Z q1 p2 g Χ := by
  unfold wp_kisUnit at hA hB ⊢
  repeat' first
    | with_reducible exact trivial
    | with_reducible exact hX _ _ hA hB
    | with_reducible exact ⟨hA, hB⟩
    | with_reducible exact hA
    | with_reducible refine wc_kwordAt_16 (fun _ _ hA hB => ?_) hA hB
    | with_reducible refine wand (fun hA hB => ?_) (fun hA hB => ?_) hA hB
    | with_reducible refine wall (fun x hA hB => ?_) hA hB
    | with_reducible refine wimp (fun hA hB => ?_) hA hB

set_option maxHeartbeats 4000000 in
set_option maxRecDepth 100000 in
theorem wt_kbeginCame {Z : cZ} {i0 : Nat} {p1 : Int32} {p2 : Int32} {g : mSt} {Φ : Int32 → mSt → Prop} (h : ∀ r g1, Φ r g1) : wp_kbeginCame Z i0 p1 p2 g Φ := by
  unfold wp_kbeginCame
  repeat' first
    | with_reducible exact trivial
    | with_reducible exact h _ _
    | with_reducible refine wt_kbecomeReady (fun _ _ => ?_)
    | with_reducible refine wt_ksendUnit (fun _ _ => ?_)
    | with_reducible refine wt_kword (fun _ _ => ?_)
    | refine ⟨fun _ => True, ?_⟩
    | refine ⟨fun _ _ => True, ?_⟩
    | with_reducible refine And.intro ?_ ?_
    | intro _

set_option maxHeartbeats 4000000 in
set_option maxRecDepth 100000 in
theorem wc_kbeginCame {Z : cZ} {i0 : Nat} {p1 : Int32} {p2 : Int32} {g : mSt} {Φ Ψ Χ : Int32 → mSt → Prop} (hX : ∀ r g1, Φ r g1 → Ψ r g1 → Χ r g1) (hA : wp_kbeginCame Z i0 p1 p2 g Φ) (hB : wp_kbeginCame Z i0 p1 p2 g Ψ) : wp_kbeginCame Z i0 p1 p2 g Χ := by
  unfold wp_kbeginCame at hA hB ⊢
  repeat' first
    | with_reducible exact trivial
    | with_reducible exact hX _ _ hA hB
    | with_reducible exact ⟨hA, hB⟩
    | with_reducible exact hA
    | with_reducible refine wc_kbecomeReady (fun _ _ hA hB => ?_) hA hB
    | with_reducible refine wc_ksendUnit (fun _ _ hA hB => ?_) hA hB
    | with_reducible refine wc_kword (fun _ _ hA hB => ?_) hA hB
    | with_reducible refine wex1 (fun P Q hA hB => ?_) hA hB
    | with_reducible refine wex2 (fun P Q hA hB => ?_) hA hB
    | with_reducible refine wand (fun hA hB => ?_) (fun hA hB => ?_) hA hB
    | with_reducible refine wall (fun x hA hB => ?_) hA hB
    | with_reducible refine wimp (fun hA hB => ?_) hA hB

set_option maxHeartbeats 4000000 in
set_option maxRecDepth 100000 in
theorem wt_kendCame {Z : cZ} {i0 : Nat} {g : mSt} {Φ : Int32 → mSt → Prop} (h : ∀ r g1, Φ r g1) : wp_kendCame Z i0 g Φ := by
  unfold wp_kendCame
  repeat' first
    | with_reducible exact trivial
    | with_reducible exact h _ _
    | with_reducible refine wt_kcut (fun _ _ => ?_)
    | with_reducible refine wt_ksendUnit (fun _ _ => ?_)
    | refine ⟨fun _ => True, ?_⟩
    | refine ⟨fun _ _ => True, ?_⟩
    | with_reducible refine And.intro ?_ ?_
    | intro _

set_option maxHeartbeats 4000000 in
set_option maxRecDepth 100000 in
theorem wc_kendCame {Z : cZ} {i0 : Nat} {g : mSt} {Φ Ψ Χ : Int32 → mSt → Prop} (hX : ∀ r g1, Φ r g1 → Ψ r g1 → Χ r g1) (hA : wp_kendCame Z i0 g Φ) (hB : wp_kendCame Z i0 g Ψ) : wp_kendCame Z i0 g Χ := by
  unfold wp_kendCame at hA hB ⊢
  repeat' first
    | with_reducible exact trivial
    | with_reducible exact hX _ _ hA hB
    | with_reducible exact ⟨hA, hB⟩
    | with_reducible exact hA
    | with_reducible refine wc_kcut (fun _ _ hA hB => ?_) hA hB
    | with_reducible refine wc_ksendUnit (fun _ _ hA hB => ?_) hA hB
    | with_reducible refine wex1 (fun P Q hA hB => ?_) hA hB
    | with_reducible refine wex2 (fun P Q hA hB => ?_) hA hB
    | with_reducible refine wand (fun hA hB => ?_) (fun hA hB => ?_) hA hB
    | with_reducible refine wall (fun x hA hB => ?_) hA hB
    | with_reducible refine wimp (fun hA hB => ?_) hA hB

set_option maxHeartbeats 4000000 in
set_option maxRecDepth 100000 in
theorem wt_kresetCame {Z : cZ} {i0 : Nat} {p1 : Int32} {p2 : Int32} {p3 : Int32} {g : mSt} {Φ : Int32 → mSt → Prop} (h : ∀ r g1, Φ r g1) : wp_kresetCame Z i0 p1 p2 p3 g Φ := by
  unfold wp_kresetCame
  repeat' first
    | with_reducible exact trivial
    | with_reducible exact h _ _
    | with_reducible refine wt_kbecomeReady (fun _ _ => ?_)
    | with_reducible refine wt_ksendUnit (fun _ _ => ?_)
    | with_reducible refine wt_kword (fun _ _ => ?_)
    | refine ⟨fun _ => True, ?_⟩
    | refine ⟨fun _ _ => True, ?_⟩
    | with_reducible refine And.intro ?_ ?_
    | intro _

set_option maxHeartbeats 4000000 in
set_option maxRecDepth 100000 in
theorem wc_kresetCame {Z : cZ} {i0 : Nat} {p1 : Int32} {p2 : Int32} {p3 : Int32} {g : mSt} {Φ Ψ Χ : Int32 → mSt → Prop} (hX : ∀ r g1, Φ r g1 → Ψ r g1 → Χ r g1) (hA : wp_kresetCame Z i0 p1 p2 p3 g Φ) (hB : wp_kresetCame Z i0 p1 p2 p3 g Ψ) : wp_kresetCame Z i0 p1 p2 p3 g Χ := by
  unfold wp_kresetCame at hA hB ⊢
  repeat' first
    | with_reducible exact trivial
    | with_reducible exact hX _ _ hA hB
    | with_reducible exact ⟨hA, hB⟩
    | with_reducible exact hA
    | with_reducible refine wc_kbecomeReady (fun _ _ hA hB => ?_) hA hB
    | with_reducible refine wc_ksendUnit (fun _ _ hA hB => ?_) hA hB
    | with_reducible refine wc_kword (fun _ _ hA hB => ?_) hA hB
    | with_reducible refine wex1 (fun P Q hA hB => ?_) hA hB
    | with_reducible refine wex2 (fun P Q hA hB => ?_) hA hB
    | with_reducible refine wand (fun hA hB => ?_) (fun hA hB => ?_) hA hB
    | with_reducible refine wall (fun x hA hB => ?_) hA hB
    | with_reducible refine wimp (fun hA hB => ?_) hA hB

set_option maxHeartbeats 4000000 in
set_option maxRecDepth 100000 in
theorem wt_kanswerCame {Z : cZ} {i0 : Nat} {p1 : Int32} {p2 : Int32} {g : mSt} {Φ : Int32 → mSt → Prop} (h : ∀ r g1, Φ r g1) : wp_kanswerCame Z i0 p1 p2 g Φ := by
  unfold wp_kanswerCame
  repeat' first
    | with_reducible exact trivial
    | with_reducible exact h _ _
    | with_reducible refine wt_kanew (fun _ _ => ?_)
    | with_reducible refine wt_kbecomeReady (fun _ _ => ?_)
    | refine ⟨fun _ => True, ?_⟩
    | refine ⟨fun _ _ => True, ?_⟩
    | with_reducible refine And.intro ?_ ?_
    | intro _

set_option maxHeartbeats 4000000 in
set_option maxRecDepth 100000 in
theorem wc_kanswerCame {Z : cZ} {i0 : Nat} {p1 : Int32} {p2 : Int32} {g : mSt} {Φ Ψ Χ : Int32 → mSt → Prop} (hX : ∀ r g1, Φ r g1 → Ψ r g1 → Χ r g1) (hA : wp_kanswerCame Z i0 p1 p2 g Φ) (hB : wp_kanswerCame Z i0 p1 p2 g Ψ) : wp_kanswerCame Z i0 p1 p2 g Χ := by
  unfold wp_kanswerCame at hA hB ⊢
  repeat' first
    | with_reducible exact trivial
    | with_reducible exact hX _ _ hA hB
    | with_reducible exact ⟨hA, hB⟩
    | with_reducible exact hA
    | with_reducible refine wc_kanew (fun _ _ hA hB => ?_) hA hB
    | with_reducible refine wc_kbecomeReady (fun _ _ hA hB => ?_) hA hB
    | with_reducible refine wex1 (fun P Q hA hB => ?_) hA hB
    | with_reducible refine wex2 (fun P Q hA hB => ?_) hA hB
    | with_reducible refine wand (fun hA hB => ?_) (fun hA hB => ?_) hA hB
    | with_reducible refine wall (fun x hA hB => ?_) hA hB
    | with_reducible refine wimp (fun hA hB => ?_) hA hB

set_option maxHeartbeats 4000000 in
set_option maxRecDepth 100000 in
theorem wt_kdataCame {Z : cZ} {i0 : Nat} {q1 : Nat} {p2 : Int32} {p3 : Int32} {g : mSt} {Φ : Int32 → mSt → Prop} (h : ∀ r g1, Φ r g1) : wp_kdataCame Z i0 q1 p2 p3 g Φ := by
  unfold wp_kdataCame
  repeat' first
    | with_reducible exact trivial
    | with_reducible exact h _ _
    | with_reducible refine wt_kput_16 (fun _ _ => ?_)
    | with_reducible refine wt_ksendUnit (fun _ _ => ?_)
    | with_reducible refine wt_kword (fun _ _ => ?_)
    | refine ⟨fun _ => True, ?_⟩
    | with_reducible refine And.intro ?_ ?_
    | intro _

set_option maxHeartbeats 4000000 in
set_option maxRecDepth 100000 in
theorem wc_kdataCame {Z : cZ} {i0 : Nat} {q1 : Nat} {p2 : Int32} {p3 : Int32} {g : mSt} {Φ Ψ Χ : Int32 → mSt → Prop} (hX : ∀ r g1, Φ r g1 → Ψ r g1 → Χ r g1) (hA : wp_kdataCame Z i0 q1 p2 p3 g Φ) (hB : wp_kdataCame Z i0 q1 p2 p3 g Ψ) : wp_kdataCame Z i0 q1 p2 p3 g Χ := by
  unfold wp_kdataCame at hA hB ⊢
  repeat' first
    | with_reducible exact trivial
    | with_reducible exact hX _ _ hA hB
    | with_reducible exact ⟨hA, hB⟩
    | with_reducible exact hA
    | with_reducible refine wc_kput_16 (fun _ _ hA hB => ?_) hA hB
    | with_reducible refine wc_ksendUnit (fun _ _ hA hB => ?_) hA hB
    | with_reducible refine wc_kword (fun _ _ hA hB => ?_) hA hB
    | with_reducible refine wex1 (fun P Q hA hB => ?_) hA hB
    | with_reducible refine wand (fun hA hB => ?_) (fun hA hB => ?_) hA hB
    | with_reducible refine wall (fun x hA hB => ?_) hA hB
    | with_reducible refine wimp (fun hA hB => ?_) hA hB

set_option maxHeartbeats 4000000 in
set_option maxRecDepth 100000 in
theorem wt_ktakeNext {Z : cZ} {i0 : Nat} {q1 : Nat} {g : mSt} {Φ : Int32 → mSt → Prop} (h : ∀ r g1, Φ r g1) : wp_ktakeNext Z i0 q1 g Φ := by
  unfold wp_ktakeNext
  repeat' first
    | with_reducible exact trivial
    | with_reducible exact h _ _
    | with_reducible refine wt_kclear (fun _ _ => ?_)
    | with_reducible refine And.intro ?_ ?_
    | intro _

set_option maxHeartbeats 4000000 in
set_option maxRecDepth 100000 in
theorem wc_ktakeNext {Z : cZ} {i0 : Nat} {q1 : Nat} {g : mSt} {Φ Ψ Χ : Int32 → mSt → Prop} (hX : ∀ r g1, Φ r g1 → Ψ r g1 → Χ r g1) (hA : wp_ktakeNext Z i0 q1 g Φ) (hB : wp_ktakeNext Z i0 q1 g Ψ) : wp_ktakeNext Z i0 q1 g Χ := by
  unfold wp_ktakeNext at hA hB ⊢
  repeat' first
    | with_reducible exact trivial
    | with_reducible exact hX _ _ hA hB
    | with_reducible exact ⟨hA, hB⟩
    | with_reducible exact hA
    | with_reducible refine wc_kclear (fun _ _ hA hB => ?_) hA hB
    | with_reducible refine wand (fun hA hB => ?_) (fun hA hB => ?_) hA hB
    | with_reducible refine wall (fun x hA hB => ?_) hA hB
    | with_reducible refine wimp (fun hA hB => ?_) hA hB

set_option maxHeartbeats 4000000 in
set_option maxRecDepth 100000 in
theorem wt_ktellList {Z : cZ} {i0 : Nat} {g : mSt} {Φ : Int32 → mSt → Prop} (h : ∀ r g1, Φ r g1) : wp_ktellList Z i0 g Φ := by
  unfold wp_ktellList
  repeat' first
    | with_reducible exact trivial
    | with_reducible exact h _ _
    | with_reducible refine wt_kword (fun _ _ => ?_)
    | refine ⟨fun _ => True, ?_⟩
    | refine ⟨fun _ _ => True, ?_⟩
    | refine ⟨fun _ _ _ => True, ?_⟩
    | refine ⟨fun _ _ _ _ => True, ?_⟩
    | with_reducible refine And.intro ?_ ?_
    | intro _

set_option maxHeartbeats 4000000 in
set_option maxRecDepth 100000 in
theorem wc_ktellList {Z : cZ} {i0 : Nat} {g : mSt} {Φ Ψ Χ : Int32 → mSt → Prop} (hX : ∀ r g1, Φ r g1 → Ψ r g1 → Χ r g1) (hA : wp_ktellList Z i0 g Φ) (hB : wp_ktellList Z i0 g Ψ) : wp_ktellList Z i0 g Χ := by
  unfold wp_ktellList at hA hB ⊢
  repeat' first
    | with_reducible exact trivial
    | with_reducible exact hX _ _ hA hB
    | with_reducible exact ⟨hA, hB⟩
    | with_reducible exact hA
    | with_reducible refine wc_kword (fun _ _ hA hB => ?_) hA hB
    | with_reducible refine wex1 (fun P Q hA hB => ?_) hA hB
    | with_reducible refine wex2 (fun P Q hA hB => ?_) hA hB
    | with_reducible refine wex3 (fun P Q hA hB => ?_) hA hB
    | with_reducible refine wex4 (fun P Q hA hB => ?_) hA hB
    | with_reducible refine wand (fun hA hB => ?_) (fun hA hB => ?_) hA hB
    | with_reducible refine wall (fun x hA hB => ?_) hA hB
    | with_reducible refine wimp (fun hA hB => ?_) hA hB

set_option maxHeartbeats 4000000 in
set_option maxRecDepth 100000 in
theorem wt_kpollCame {Z : cZ} {i0 : Nat} {p1 : Int32} {p2 : Int32} {g : mSt} {Φ : Int32 → mSt → Prop} (h : ∀ r g1, Φ r g1) : wp_kpollCame Z i0 p1 p2 g Φ := by
  unfold wp_kpollCame
  repeat' first
    | with_reducible exact trivial
    | with_reducible exact h _ _
    | with_reducible refine wt_ksendUnit (fun _ _ => ?_)
    | with_reducible refine wt_ktellList (fun _ _ => ?_)
    | with_reducible refine wt_kword (fun _ _ => ?_)
    | refine ⟨fun _ => True, ?_⟩
    | with_reducible refine And.intro ?_ ?_
    | intro _

set_option maxHeartbeats 4000000 in
set_option maxRecDepth 100000 in
theorem wc_kpollCame {Z : cZ} {i0 : Nat} {p1 : Int32} {p2 : Int32} {g : mSt} {Φ Ψ Χ : Int32 → mSt → Prop} (hX : ∀ r g1, Φ r g1 → Ψ r g1 → Χ r g1) (hA : wp_kpollCame Z i0 p1 p2 g Φ) (hB : wp_kpollCame Z i0 p1 p2 g Ψ) : wp_kpollCame Z i0 p1 p2 g Χ := by
  unfold wp_kpollCame at hA hB ⊢
  repeat' first
    | with_reducible exact trivial
    | with_reducible exact hX _ _ hA hB
    | with_reducible exact ⟨hA, hB⟩
    | with_reducible exact hA
    | with_reducible refine wc_ksendUnit (fun _ _ hA hB => ?_) hA hB
    | with_reducible refine wc_ktellList (fun _ _ hA hB => ?_) hA hB
    | with_reducible refine wc_kword (fun _ _ hA hB => ?_) hA hB
    | with_reducible refine wex1 (fun P Q hA hB => ?_) hA hB
    | with_reducible refine wand (fun hA hB => ?_) (fun hA hB => ?_) hA hB
    | with_reducible refine wall (fun x hA hB => ?_) hA hB
    | with_reducible refine wimp (fun hA hB => ?_) hA hB

set_option maxHeartbeats 4000000 in
set_option maxRecDepth 100000 in
theorem wt_kacknowledge {Z : cZ} {i0 : Nat} {p1 : Int32} {g : mSt} {Φ : Int32 → mSt → Prop} (h : ∀ r g1, Φ r g1) : wp_kacknowledge Z i0 p1 g Φ := by
  unfold wp_kacknowledge
  repeat' first
    | with_reducible exact trivial
    | with_reducible exact h _ _
    | with_reducible refine wt_kclear (fun _ _ => ?_)
    | refine ⟨fun _ => True, ?_⟩
    | refine ⟨fun _ _ => True, ?_⟩
    | with_reducible refine And.intro ?_ ?_
    | intro _

set_option maxHeartbeats 4000000 in
set_option maxRecDepth 100000 in
theorem wc_kacknowledge {Z : cZ} {i0 : Nat} {p1 : Int32} {g : mSt} {Φ Ψ Χ : Int32 → mSt → Prop} (hX : ∀ r g1, Φ r g1 → Ψ r g1 → Χ r g1) (hA : wp_kacknowledge Z i0 p1 g Φ) (hB : wp_kacknowledge Z i0 p1 g Ψ) : wp_kacknowledge Z i0 p1 g Χ := by
  unfold wp_kacknowledge at hA hB ⊢
  repeat' first
    | with_reducible exact trivial
    | with_reducible exact hX _ _ hA hB
    | with_reducible exact ⟨hA, hB⟩
    | with_reducible exact hA
    | with_reducible refine wc_kclear (fun _ _ hA hB => ?_) hA hB
    | with_reducible refine wex1 (fun P Q hA hB => ?_) hA hB
    | with_reducible refine wex2 (fun P Q hA hB => ?_) hA hB
    | with_reducible refine wand (fun hA hB => ?_) (fun hA hB => ?_) hA hB
    | with_reducible refine wall (fun x hA hB => ?_) hA hB
    | with_reducible refine wimp (fun hA hB => ?_) hA hB

set_option maxHeartbeats 4000000 in
set_option maxRecDepth 100000 in
theorem wt_kmarkAgain {Z : cZ} {i0 : Nat} {p1 : Int32} {p2 : Int32} {p3 : Int32} {g : mSt} {Φ : Int32 → mSt → Prop} (h : ∀ r g1, Φ r g1) : wp_kmarkAgain Z i0 p1 p2 p3 g Φ := by
  unfold wp_kmarkAgain
  repeat' first
    | with_reducible exact trivial
    | with_reducible exact h _ _
    | refine ⟨fun _ => True, ?_⟩
    | refine ⟨fun _ _ => True, ?_⟩
    | with_reducible refine And.intro ?_ ?_
    | intro _

set_option maxHeartbeats 4000000 in
set_option maxRecDepth 100000 in
theorem wc_kmarkAgain {Z : cZ} {i0 : Nat} {p1 : Int32} {p2 : Int32} {p3 : Int32} {g : mSt} {Φ Ψ Χ : Int32 → mSt → Prop} (hX : ∀ r g1, Φ r g1 → Ψ r g1 → Χ r g1) (hA : wp_kmarkAgain Z i0 p1 p2 p3 g Φ) (hB : wp_kmarkAgain Z i0 p1 p2 p3 g Ψ) : wp_kmarkAgain Z i0 p1 p2 p3 g Χ := by
  unfold wp_kmarkAgain at hA hB ⊢
  repeat' first
    | with_reducible exact trivial
    | with_reducible exact hX _ _ hA hB
    | with_reducible exact ⟨hA, hB⟩
    | with_reducible exact hA
    | with_reducible refine wex1 (fun P Q hA hB => ?_) hA hB
    | with_reducible refine wex2 (fun P Q hA hB => ?_) hA hB
    | with_reducible refine wand (fun hA hB => ?_) (fun hA hB => ?_) hA hB
    | with_reducible refine wall (fun x hA hB => ?_) hA hB
    | with_reducible refine wimp (fun hA hB => ?_) hA hB

set_option maxHeartbeats 4000000 in
set_option maxRecDepth 100000 in
theorem wt_kstatusCame {Z : cZ} {i0 : Nat} {q1 : Nat} {p2 : Int32} {p3 : Int32} {p4 : Int32} {g : mSt} {Φ : Int32 → mSt → Prop} (h : ∀ r g1, Φ r g1) : wp_kstatusCame Z i0 q1 p2 p3 p4 g Φ := by
  unfold wp_kstatusCame
  repeat' first
    | with_reducible exact trivial
    | with_reducible exact h _ _
    | with_reducible refine wt_kacknowledge (fun _ _ => ?_)
    | with_reducible refine wt_kmarkAgain (fun _ _ => ?_)
    | with_reducible refine wt_kwordAt_16 (fun _ _ => ?_)
    | refine ⟨fun _ => True, ?_⟩
    | refine ⟨fun _ _ => True, ?_⟩
    | refine ⟨fun _ _ _ => True, ?_⟩
    | with_reducible refine And.intro ?_ ?_
    | intro _

set_option maxHeartbeats 4000000 in
set_option maxRecDepth 100000 in
theorem wc_kstatusCame {Z : cZ} {i0 : Nat} {q1 : Nat} {p2 : Int32} {p3 : Int32} {p4 : Int32} {g : mSt} {Φ Ψ Χ : Int32 → mSt → Prop} (hX : ∀ r g1, Φ r g1 → Ψ r g1 → Χ r g1) (hA : wp_kstatusCame Z i0 q1 p2 p3 p4 g Φ) (hB : wp_kstatusCame Z i0 q1 p2 p3 p4 g Ψ) : wp_kstatusCame Z i0 q1 p2 p3 p4 g Χ := by
  unfold wp_kstatusCame at hA hB ⊢
  repeat' first
    | with_reducible exact trivial
    | with_reducible exact hX _ _ hA hB
    | with_reducible exact ⟨hA, hB⟩
    | with_reducible exact hA
    | with_reducible refine wc_kacknowledge (fun _ _ hA hB => ?_) hA hB
    | with_reducible refine wc_kmarkAgain (fun _ _ hA hB => ?_) hA hB
    | with_reducible refine wc_kwordAt_16 (fun _ _ hA hB => ?_) hA hB
    | with_reducible refine wex1 (fun P Q hA hB => ?_) hA hB
    | with_reducible refine wex2 (fun P Q hA hB => ?_) hA hB
    | with_reducible refine wex3 (fun P Q hA hB => ?_) hA hB
    | with_reducible refine wand (fun hA hB => ?_) (fun hA hB => ?_) hA hB
    | with_reducible refine wall (fun x hA hB => ?_) hA hB
    | with_reducible refine wimp (fun hA hB => ?_) hA hB

set_option maxHeartbeats 4000000 in
set_option maxRecDepth 100000 in
theorem wt_kgapCame {Z : cZ} {i0 : Nat} {p1 : Int32} {p2 : Int32} {p3 : Int32} {g : mSt} {Φ : Int32 → mSt → Prop} (h : ∀ r g1, Φ r g1) : wp_kgapCame Z i0 p1 p2 p3 g Φ := by
  unfold wp_kgapCame
  repeat' first
    | with_reducible exact trivial
    | with_reducible exact h _ _
    | with_reducible refine wt_kacknowledge (fun _ _ => ?_)
    | with_reducible refine wt_kmarkAgain (fun _ _ => ?_)
    | with_reducible refine And.intro ?_ ?_
    | intro _

set_option maxHeartbeats 4000000 in
set_option maxRecDepth 100000 in
theorem wc_kgapCame {Z : cZ} {i0 : Nat} {p1 : Int32} {p2 : Int32} {p3 : Int32} {g : mSt} {Φ Ψ Χ : Int32 → mSt → Prop} (hX : ∀ r g1, Φ r g1 → Ψ r g1 → Χ r g1) (hA : wp_kgapCame Z i0 p1 p2 p3 g Φ) (hB : wp_kgapCame Z i0 p1 p2 p3 g Ψ) : wp_kgapCame Z i0 p1 p2 p3 g Χ := by
  unfold wp_kgapCame at hA hB ⊢
  repeat' first
    | with_reducible exact trivial
    | with_reducible exact hX _ _ hA hB
    | with_reducible exact ⟨hA, hB⟩
    | with_reducible exact hA
    | with_reducible refine wc_kacknowledge (fun _ _ hA hB => ?_) hA hB
    | with_reducible refine wc_kmarkAgain (fun _ _ hA hB => ?_) hA hB
    | with_reducible refine wand (fun hA hB => ?_) (fun hA hB => ?_) hA hB
    | with_reducible refine wall (fun x hA hB => ?_) hA hB
    | with_reducible refine wimp (fun hA hB => ?_) hA hB

set_option maxHeartbeats 4000000 in
set_option maxRecDepth 100000 in
theorem wt_kunitCame {Z : cZ} {i0 : Nat} {q1 : Nat} {p2 : Int32} {p3 : Int32} {g : mSt} {Φ : Int32 → mSt → Prop} (h : ∀ r g1, Φ r g1) : wp_kunitCame Z i0 q1 p2 p3 g Φ := by
  unfold wp_kunitCame
  repeat' first
    | with_reducible exact trivial
    | with_reducible exact h _ _
    | with_reducible refine wt_kanswerCame (fun _ _ => ?_)
    | with_reducible refine wt_kbeginCame (fun _ _ => ?_)
    | with_reducible refine wt_kdataCame (fun _ _ => ?_)
    | with_reducible refine wt_kendCame (fun _ _ => ?_)
    | with_reducible refine wt_kgapCame (fun _ _ => ?_)
    | with_reducible refine wt_kisUnit (fun _ _ => ?_)
    | with_reducible refine wt_kpollCame (fun _ _ => ?_)
    | with_reducible refine wt_kresetCame (fun _ _ => ?_)
    | with_reducible refine wt_kstatusCame (fun _ _ => ?_)
    | with_reducible refine wt_kwordAt_16 (fun _ _ => ?_)
    | with_reducible refine And.intro ?_ ?_
    | intro _

set_option maxHeartbeats 4000000 in
set_option maxRecDepth 100000 in
theorem wc_kunitCame {Z : cZ} {i0 : Nat} {q1 : Nat} {p2 : Int32} {p3 : Int32} {g : mSt} {Φ Ψ Χ : Int32 → mSt → Prop} (hX : ∀ r g1, Φ r g1 → Ψ r g1 → Χ r g1) (hA : wp_kunitCame Z i0 q1 p2 p3 g Φ) (hB : wp_kunitCame Z i0 q1 p2 p3 g Ψ) : wp_kunitCame Z i0 q1 p2 p3 g Χ := by
  unfold wp_kunitCame at hA hB ⊢
  repeat' first
    | with_reducible exact trivial
    | with_reducible exact hX _ _ hA hB
    | with_reducible exact ⟨hA, hB⟩
    | with_reducible exact hA
    | with_reducible refine wc_kanswerCame (fun _ _ hA hB => ?_) hA hB
    | with_reducible refine wc_kbeginCame (fun _ _ hA hB => ?_) hA hB
    | with_reducible refine wc_kdataCame (fun _ _ hA hB => ?_) hA hB
    | with_reducible refine wc_kendCame (fun _ _ hA hB => ?_) hA hB
    | with_reducible refine wc_kgapCame (fun _ _ hA hB => ?_) hA hB
    | with_reducible refine wc_kisUnit (fun _ _ hA hB => ?_) hA hB
    | with_reducible refine wc_kpollCame (fun _ _ hA hB => ?_) hA hB
    | with_reducible refine wc_kresetCame (fun _ _ hA hB => ?_) hA hB
    | with_reducible refine wc_kstatusCame (fun _ _ hA hB => ?_) hA hB
    | with_reducible refine wc_kwordAt_16 (fun _ _ hA hB => ?_) hA hB
    | with_reducible refine wand (fun hA hB => ?_) (fun hA hB => ?_) hA hB
    | with_reducible refine wall (fun x hA hB => ?_) hA hB
    | with_reducible refine wimp (fun hA hB => ?_) hA hB

set_option maxHeartbeats 4000000 in
set_option maxRecDepth 100000 in
theorem wt_kselement {Z : cZ} {i0 : Nat} {q1 : Nat} {p2 : Int32} {p3 : Int32} {p4 : Int32} {g : mSt} {Φ : Int32 → mSt → Prop} (h : ∀ r g1, Φ r g1) : wp_kselement Z i0 q1 p2 p3 p4 g Φ := by
  unfold wp_kselement
  repeat' first
    | with_reducible exact trivial
    | with_reducible exact h _ _
    | with_reducible refine wt_kwordAt_34 (fun _ _ => ?_)
    | with_reducible refine And.intro ?_ ?_
    | intro _

set_option maxHeartbeats 4000000 in
set_option maxRecDepth 100000 in
theorem wc_kselement {Z : cZ} {i0 : Nat} {q1 : Nat} {p2 : Int32} {p3 : Int32} {p4 : Int32} {g : mSt} {Φ Ψ Χ : Int32 → mSt → Prop} (hX : ∀ r g1, Φ r g1 → Ψ r g1 → Χ r g1) (hA : wp_kselement Z i0 q1 p2 p3 p4 g Φ) (hB : wp_kselement Z i0 q1 p2 p3 p4 g Ψ) : wp_kselement Z i0 q1 p2 p3 p4 g Χ := by
  unfold wp_kselement at hA hB ⊢
  repeat' first
    | with_reducible exact trivial
    | with_reducible exact hX _ _ hA hB
    | with_reducible exact ⟨hA, hB⟩
    | with_reducible exact hA
    | with_reducible refine wc_kwordAt_34 (fun _ _ hA hB => ?_) hA hB
    | with_reducible refine wand (fun hA hB => ?_) (fun hA hB => ?_) hA hB
    | with_reducible refine wall (fun x hA hB => ?_) hA hB
    | with_reducible refine wimp (fun hA hB => ?_) hA hB

set_option maxHeartbeats 4000000 in
set_option maxRecDepth 100000 in
theorem wt_kreadElements {Z : cZ} {i0 : Nat} {q1 : Nat} {p2 : Int32} {p3 : Int32} {g : mSt} {Φ : Int32 → mSt → Prop} (h : ∀ r g1, Φ r g1) : wp_kreadElements Z i0 q1 p2 p3 g Φ := by
  unfold wp_kreadElements
  repeat' first
    | with_reducible exact trivial
    | with_reducible exact h _ _
    | with_reducible refine wt_kselement (fun _ _ => ?_)
    | with_reducible refine And.intro ?_ ?_
    | intro _

set_option maxHeartbeats 4000000 in
set_option maxRecDepth 100000 in
theorem wc_kreadElements {Z : cZ} {i0 : Nat} {q1 : Nat} {p2 : Int32} {p3 : Int32} {g : mSt} {Φ Ψ Χ : Int32 → mSt → Prop} (hX : ∀ r g1, Φ r g1 → Ψ r g1 → Χ r g1) (hA : wp_kreadElements Z i0 q1 p2 p3 g Φ) (hB : wp_kreadElements Z i0 q1 p2 p3 g Ψ) : wp_kreadElements Z i0 q1 p2 p3 g Χ := by
  unfold wp_kreadElements at hA hB ⊢
  repeat' first
    | with_reducible exact trivial
    | with_reducible exact hX _ _ hA hB
    | with_reducible exact ⟨hA, hB⟩
    | with_reducible exact hA
    | with_reducible refine wc_kselement (fun _ _ hA hB => ?_) hA hB
    | with_reducible refine wand (fun hA hB => ?_) (fun hA hB => ?_) hA hB
    | with_reducible refine wall (fun x hA hB => ?_) hA hB
    | with_reducible refine wimp (fun hA hB => ?_) hA hB

set_option maxHeartbeats 4000000 in
set_option maxRecDepth 100000 in
theorem wt_ksread {Z : cZ} {i0 : Nat} {q1 : Nat} {p2 : Int32} {p3 : Int32} {g : mSt} {Φ : Int32 → mSt → Prop} (h : ∀ r g1, Φ r g1) : wp_ksread Z i0 q1 p2 p3 g Φ := by
  unfold wp_ksread
  repeat' first
    | with_reducible exact trivial
    | with_reducible exact h _ _
    | with_reducible refine wt_kreadElements (fun _ _ => ?_)
    | with_reducible refine And.intro ?_ ?_
    | intro _

set_option maxHeartbeats 4000000 in
set_option maxRecDepth 100000 in
theorem wc_ksread {Z : cZ} {i0 : Nat} {q1 : Nat} {p2 : Int32} {p3 : Int32} {g : mSt} {Φ Ψ Χ : Int32 → mSt → Prop} (hX : ∀ r g1, Φ r g1 → Ψ r g1 → Χ r g1) (hA : wp_ksread Z i0 q1 p2 p3 g Φ) (hB : wp_ksread Z i0 q1 p2 p3 g Ψ) : wp_ksread Z i0 q1 p2 p3 g Χ := by
  unfold wp_ksread at hA hB ⊢
  repeat' first
    | with_reducible exact trivial
    | with_reducible exact hX _ _ hA hB
    | with_reducible exact ⟨hA, hB⟩
    | with_reducible exact hA
    | with_reducible refine wc_kreadElements (fun _ _ hA hB => ?_) hA hB
    | with_reducible refine wand (fun hA hB => ?_) (fun hA hB => ?_) hA hB
    | with_reducible refine wall (fun x hA hB => ?_) hA hB
    | with_reducible refine wimp (fun hA hB => ?_) hA hB

set_option maxHeartbeats 4000000 in
set_option maxRecDepth 100000 in
theorem wt_klsize {Z : cZ} {i0 : Nat} {g : mSt} {Φ : Int32 → mSt → Prop} (h : ∀ r g1, Φ r g1) : wp_klsize Z i0 g Φ := by
  unfold wp_klsize
  repeat' first
    | with_reducible exact trivial
    | with_reducible exact h _ _
    | with_reducible refine And.intro ?_ ?_
    | intro _

set_option maxHeartbeats 4000000 in
set_option maxRecDepth 100000 in
theorem wc_klsize {Z : cZ} {i0 : Nat} {g : mSt} {Φ Ψ Χ : Int32 → mSt → Prop} (hX : ∀ r g1, Φ r g1 → Ψ r g1 → Χ r g1) (hA : wp_klsize Z i0 g Φ) (hB : wp_klsize Z i0 g Ψ) : wp_klsize Z i0 g Χ := by
  unfold wp_klsize at hA hB ⊢
  repeat' first
    | with_reducible exact trivial
    | with_reducible exact hX _ _ hA hB
    | with_reducible exact ⟨hA, hB⟩
    | with_reducible exact hA
    | with_reducible refine wand (fun hA hB => ?_) (fun hA hB => ?_) hA hB
    | with_reducible refine wall (fun x hA hB => ?_) hA hB
    | with_reducible refine wimp (fun hA hB => ?_) hA hB

set_option maxHeartbeats 4000000 in
set_option maxRecDepth 100000 in
theorem wt_kcheckIndex0 {Z : cZ} {p1 : Int32} {p2 : Int32} {g : mSt} {Φ : Int32 → mSt → Prop} (h : ∀ r g1, Φ r g1) : wp_kcheckIndex0 Z p1 p2 g Φ := by
  unfold wp_kcheckIndex0
  repeat' first
    | with_reducible exact trivial
    | with_reducible exact h _ _
    | with_reducible refine And.intro ?_ ?_
    | intro _

set_option maxHeartbeats 4000000 in
set_option maxRecDepth 100000 in
theorem wc_kcheckIndex0 {Z : cZ} {p1 : Int32} {p2 : Int32} {g : mSt} {Φ Ψ Χ : Int32 → mSt → Prop} (hX : ∀ r g1, Φ r g1 → Ψ r g1 → Χ r g1) (hA : wp_kcheckIndex0 Z p1 p2 g Φ) (hB : wp_kcheckIndex0 Z p1 p2 g Ψ) : wp_kcheckIndex0 Z p1 p2 g Χ := by
  unfold wp_kcheckIndex0 at hA hB ⊢
  repeat' first
    | with_reducible exact trivial
    | with_reducible exact hX _ _ hA hB
    | with_reducible exact ⟨hA, hB⟩
    | with_reducible exact hA
    | with_reducible refine wand (fun hA hB => ?_) (fun hA hB => ?_) hA hB
    | with_reducible refine wall (fun x hA hB => ?_) hA hB
    | with_reducible refine wimp (fun hA hB => ?_) hA hB

set_option maxHeartbeats 4000000 in
set_option maxRecDepth 100000 in
theorem wt_kcheckIndex {Z : cZ} {p1 : Int32} {p2 : Int32} {g : mSt} {Φ : Int32 → mSt → Prop} (h : ∀ r g1, Φ r g1) : wp_kcheckIndex Z p1 p2 g Φ := by
  unfold wp_kcheckIndex
  repeat' first
    | with_reducible exact trivial
    | with_reducible exact h _ _
    | with_reducible refine wt_kcheckIndex0 (fun _ _ => ?_)
    | with_reducible refine And.intro ?_ ?_
    | intro _

set_option maxHeartbeats 4000000 in
set_option maxRecDepth 100000 in
theorem wc_kcheckIndex {Z : cZ} {p1 : Int32} {p2 : Int32} {g : mSt} {Φ Ψ Χ : Int32 → mSt → Prop} (hX : ∀ r g1, Φ r g1 → Ψ r g1 → Χ r g1) (hA : wp_kcheckIndex Z p1 p2 g Φ) (hB : wp_kcheckIndex Z p1 p2 g Ψ) : wp_kcheckIndex Z p1 p2 g Χ := by
  unfold wp_kcheckIndex at hA hB ⊢
  repeat' first
    | with_reducible exact trivial
    | with_reducible exact hX _ _ hA hB
    | with_reducible exact ⟨hA, hB⟩
    | with_reducible exact hA
    | with_reducible refine wc_kcheckIndex0 (fun _ _ hA hB => ?_) hA hB
    | with_reducible refine wand (fun hA hB => ?_) (fun hA hB => ?_) hA hB
    | with_reducible refine wall (fun x hA hB => ?_) hA hB
    | with_reducible refine wimp (fun hA hB => ?_) hA hB

set_option maxHeartbeats 4000000 in
set_option maxRecDepth 100000 in
theorem wt_kelementData {Z : cZ} {i0 : Nat} {p1 : Int32} {g : mSt} {Φ : Int32 → mSt → Prop} (h : ∀ r g1, Φ r g1) : wp_kelementData Z i0 p1 g Φ := by
  unfold wp_kelementData
  repeat' first
    | with_reducible exact trivial
    | with_reducible exact h _ _
    | with_reducible refine And.intro ?_ ?_
    | intro _

set_option maxHeartbeats 4000000 in
set_option maxRecDepth 100000 in
theorem wc_kelementData {Z : cZ} {i0 : Nat} {p1 : Int32} {g : mSt} {Φ Ψ Χ : Int32 → mSt → Prop} (hX : ∀ r g1, Φ r g1 → Ψ r g1 → Χ r g1) (hA : wp_kelementData Z i0 p1 g Φ) (hB : wp_kelementData Z i0 p1 g Ψ) : wp_kelementData Z i0 p1 g Χ := by
  unfold wp_kelementData at hA hB ⊢
  repeat' first
    | with_reducible exact trivial
    | with_reducible exact hX _ _ hA hB
    | with_reducible exact ⟨hA, hB⟩
    | with_reducible exact hA
    | with_reducible refine wand (fun hA hB => ?_) (fun hA hB => ?_) hA hB
    | with_reducible refine wall (fun x hA hB => ?_) hA hB
    | with_reducible refine wimp (fun hA hB => ?_) hA hB

set_option maxHeartbeats 4000000 in
set_option maxRecDepth 100000 in
theorem wt_klget {Z : cZ} {i0 : Nat} {p1 : Int32} {g : mSt} {Φ : Int32 → mSt → Prop} (h : ∀ r g1, Φ r g1) : wp_klget Z i0 p1 g Φ := by
  unfold wp_klget
  repeat' first
    | with_reducible exact trivial
    | with_reducible exact h _ _
    | with_reducible refine wt_kcheckIndex (fun _ _ => ?_)
    | with_reducible refine wt_kelementData (fun _ _ => ?_)
    | with_reducible refine And.intro ?_ ?_
    | intro _

set_option maxHeartbeats 4000000 in
set_option maxRecDepth 100000 in
theorem wc_klget {Z : cZ} {i0 : Nat} {p1 : Int32} {g : mSt} {Φ Ψ Χ : Int32 → mSt → Prop} (hX : ∀ r g1, Φ r g1 → Ψ r g1 → Χ r g1) (hA : wp_klget Z i0 p1 g Φ) (hB : wp_klget Z i0 p1 g Ψ) : wp_klget Z i0 p1 g Χ := by
  unfold wp_klget at hA hB ⊢
  repeat' first
    | with_reducible exact trivial
    | with_reducible exact hX _ _ hA hB
    | with_reducible exact ⟨hA, hB⟩
    | with_reducible exact hA
    | with_reducible refine wc_kcheckIndex (fun _ _ hA hB => ?_) hA hB
    | with_reducible refine wc_kelementData (fun _ _ hA hB => ?_) hA hB
    | with_reducible refine wand (fun hA hB => ?_) (fun hA hB => ?_) hA hB
    | with_reducible refine wall (fun x hA hB => ?_) hA hB
    | with_reducible refine wimp (fun hA hB => ?_) hA hB

set_option maxHeartbeats 4000000 in
set_option maxRecDepth 100000 in
theorem wt_kisOpen {Z : cZ} {i0 : Nat} {g : mSt} {Φ : Int32 → mSt → Prop} (h : ∀ r g1, Φ r g1) : wp_kisOpen Z i0 g Φ := by
  unfold wp_kisOpen
  repeat' first
    | with_reducible exact trivial
    | with_reducible exact h _ _
    | with_reducible refine And.intro ?_ ?_
    | intro _

set_option maxHeartbeats 4000000 in
set_option maxRecDepth 100000 in
theorem wc_kisOpen {Z : cZ} {i0 : Nat} {g : mSt} {Φ Ψ Χ : Int32 → mSt → Prop} (hX : ∀ r g1, Φ r g1 → Ψ r g1 → Χ r g1) (hA : wp_kisOpen Z i0 g Φ) (hB : wp_kisOpen Z i0 g Ψ) : wp_kisOpen Z i0 g Χ := by
  unfold wp_kisOpen at hA hB ⊢
  repeat' first
    | with_reducible exact trivial
    | with_reducible exact hX _ _ hA hB
    | with_reducible exact ⟨hA, hB⟩
    | with_reducible exact hA
    | with_reducible refine wand (fun hA hB => ?_) (fun hA hB => ?_) hA hB
    | with_reducible refine wall (fun x hA hB => ?_) hA hB
    | with_reducible refine wimp (fun hA hB => ?_) hA hB

set_option maxHeartbeats 4000000 in
set_option maxRecDepth 100000 in
theorem wt_krepeat {Z : cZ} {i0 : Nat} {p1 : Int32} {g : mSt} {Φ : Int32 → mSt → Prop} (h : ∀ r g1, Φ r g1) : wp_krepeat Z i0 p1 g Φ := by
  unfold wp_krepeat
  repeat' first
    | with_reducible exact trivial
    | with_reducible exact h _ _
    | with_reducible refine And.intro ?_ ?_
    | intro _

set_option maxHeartbeats 4000000 in
set_option maxRecDepth 100000 in
theorem wc_krepeat {Z : cZ} {i0 : Nat} {p1 : Int32} {g : mSt} {Φ Ψ Χ : Int32 → mSt → Prop} (hX : ∀ r g1, Φ r g1 → Ψ r g1 → Χ r g1) (hA : wp_krepeat Z i0 p1 g Φ) (hB : wp_krepeat Z i0 p1 g Ψ) : wp_krepeat Z i0 p1 g Χ := by
  unfold wp_krepeat at hA hB ⊢
  repeat' first
    | with_reducible exact trivial
    | with_reducible exact hX _ _ hA hB
    | with_reducible exact ⟨hA, hB⟩
    | with_reducible exact hA
    | with_reducible refine wand (fun hA hB => ?_) (fun hA hB => ?_) hA hB
    | with_reducible refine wall (fun x hA hB => ?_) hA hB
    | with_reducible refine wimp (fun hA hB => ?_) hA hB

set_option maxHeartbeats 4000000 in
set_option maxRecDepth 100000 in
theorem wt_kenter {Z : cZ} {i0 : Nat} {p1 : Int32} {p2 : Int32} {g : mSt} {Φ : Int32 → mSt → Prop} (h : ∀ r g1, Φ r g1) : wp_kenter Z i0 p1 p2 g Φ := by
  unfold wp_kenter
  repeat' first
    | with_reducible exact trivial
    | with_reducible exact h _ _
    | with_reducible refine And.intro ?_ ?_
    | intro _

set_option maxHeartbeats 4000000 in
set_option maxRecDepth 100000 in
theorem wc_kenter {Z : cZ} {i0 : Nat} {p1 : Int32} {p2 : Int32} {g : mSt} {Φ Ψ Χ : Int32 → mSt → Prop} (hX : ∀ r g1, Φ r g1 → Ψ r g1 → Χ r g1) (hA : wp_kenter Z i0 p1 p2 g Φ) (hB : wp_kenter Z i0 p1 p2 g Ψ) : wp_kenter Z i0 p1 p2 g Χ := by
  unfold wp_kenter at hA hB ⊢
  repeat' first
    | with_reducible exact trivial
    | with_reducible exact hX _ _ hA hB
    | with_reducible exact ⟨hA, hB⟩
    | with_reducible exact hA
    | with_reducible refine wand (fun hA hB => ?_) (fun hA hB => ?_) hA hB
    | with_reducible refine wall (fun x hA hB => ?_) hA hB
    | with_reducible refine wimp (fun hA hB => ?_) hA hB

set_option maxHeartbeats 4000000 in
set_option maxRecDepth 100000 in
theorem wt_kfinish {Z : cZ} {i0 : Nat} {p1 : Int32} {g : mSt} {Φ : Int32 → mSt → Prop} (h : ∀ r g1, Φ r g1) : wp_kfinish Z i0 p1 g Φ := by
  unfold wp_kfinish
  repeat' first
    | with_reducible exact trivial
    | with_reducible exact h _ _
    | with_reducible refine wt_kenter (fun _ _ => ?_)
    | with_reducible refine And.intro ?_ ?_
    | intro _

set_option maxHeartbeats 4000000 in
set_option maxRecDepth 100000 in
theorem wc_kfinish {Z : cZ} {i0 : Nat} {p1 : Int32} {g : mSt} {Φ Ψ Χ : Int32 → mSt → Prop} (hX : ∀ r g1, Φ r g1 → Ψ r g1 → Χ r g1) (hA : wp_kfinish Z i0 p1 g Φ) (hB : wp_kfinish Z i0 p1 g Ψ) : wp_kfinish Z i0 p1 g Χ := by
  unfold wp_kfinish at hA hB ⊢
  repeat' first
    | with_reducible exact trivial
    | with_reducible exact hX _ _ hA hB
    | with_reducible exact ⟨hA, hB⟩
    | with_reducible exact hA
    | with_reducible refine wc_kenter (fun _ _ hA hB => ?_) hA hB
    | with_reducible refine wand (fun hA hB => ?_) (fun hA hB => ?_) hA hB
    | with_reducible refine wall (fun x hA hB => ?_) hA hB
    | with_reducible refine wimp (fun hA hB => ?_) hA hB

set_option maxHeartbeats 4000000 in
set_option maxRecDepth 100000 in
theorem wt_ksayCause_4 {Z : cZ} {i0 : Nat} {p1 : Int32} {p2 : Int32} {p3 : Int32} {p4 : Int32} {g : mSt} {Φ : Int32 → mSt → Prop} (h : ∀ r g1, Φ r g1) : wp_ksayCause_4 Z i0 p1 p2 p3 p4 g Φ := by
  unfold wp_ksayCause_4
  repeat' first
    | with_reducible exact trivial
    | with_reducible exact h _ _
    | with_reducible refine wt_kbegin (fun _ _ => ?_)
    | with_reducible refine wt_kmelement (fun _ _ => ?_)
    | refine ⟨fun _ => True, ?_⟩
    | with_reducible refine And.intro ?_ ?_
    | intro _

set_option maxHeartbeats 4000000 in
set_option maxRecDepth 100000 in
theorem wc_ksayCause_4 {Z : cZ} {i0 : Nat} {p1 : Int32} {p2 : Int32} {p3 : Int32} {p4 : Int32} {g : mSt} {Φ Ψ Χ : Int32 → mSt → Prop} (hX : ∀ r g1, Φ r g1 → Ψ r g1 → Χ r g1) (hA : wp_ksayCause_4 Z i0 p1 p2 p3 p4 g Φ) (hB : wp_ksayCause_4 Z i0 p1 p2 p3 p4 g Ψ) : wp_ksayCause_4 Z i0 p1 p2 p3 p4 g Χ := by
  unfold wp_ksayCause_4 at hA hB ⊢
  repeat' first
    | with_reducible exact trivial
    | with_reducible exact hX _ _ hA hB
    | with_reducible exact ⟨hA, hB⟩
    | with_reducible exact hA
    | with_reducible refine wc_kbegin (fun _ _ hA hB => ?_) hA hB
    | with_reducible refine wc_kmelement (fun _ _ hA hB => ?_) hA hB
    | with_reducible refine wex1 (fun P Q hA hB => ?_) hA hB
    | with_reducible refine wand (fun hA hB => ?_) (fun hA hB => ?_) hA hB
    | with_reducible refine wall (fun x hA hB => ?_) hA hB
    | with_reducible refine wimp (fun hA hB => ?_) hA hB

set_option maxHeartbeats 4000000 in
set_option maxRecDepth 100000 in
theorem wt_ksayCause_10 {Z : cZ} {i0 : Nat} {p1 : Int32} {p2 : Int32} {p3 : Int32} {p4 : Int32} {g : mSt} {Φ : Int32 → mSt → Prop} (h : ∀ r g1, Φ r g1) : wp_ksayCause_10 Z i0 p1 p2 p3 p4 g Φ := by
  unfold wp_ksayCause_10
  repeat' first
    | with_reducible exact trivial
    | with_reducible exact h _ _
    | with_reducible refine wt_kbegin (fun _ _ => ?_)
    | with_reducible refine wt_kmelement (fun _ _ => ?_)
    | refine ⟨fun _ => True, ?_⟩
    | with_reducible refine And.intro ?_ ?_
    | intro _

set_option maxHeartbeats 4000000 in
set_option maxRecDepth 100000 in
theorem wc_ksayCause_10 {Z : cZ} {i0 : Nat} {p1 : Int32} {p2 : Int32} {p3 : Int32} {p4 : Int32} {g : mSt} {Φ Ψ Χ : Int32 → mSt → Prop} (hX : ∀ r g1, Φ r g1 → Ψ r g1 → Χ r g1) (hA : wp_ksayCause_10 Z i0 p1 p2 p3 p4 g Φ) (hB : wp_ksayCause_10 Z i0 p1 p2 p3 p4 g Ψ) : wp_ksayCause_10 Z i0 p1 p2 p3 p4 g Χ := by
  unfold wp_ksayCause_10 at hA hB ⊢
  repeat' first
    | with_reducible exact trivial
    | with_reducible exact hX _ _ hA hB
    | with_reducible exact ⟨hA, hB⟩
    | with_reducible exact hA
    | with_reducible refine wc_kbegin (fun _ _ hA hB => ?_) hA hB
    | with_reducible refine wc_kmelement (fun _ _ hA hB => ?_) hA hB
    | with_reducible refine wex1 (fun P Q hA hB => ?_) hA hB
    | with_reducible refine wand (fun hA hB => ?_) (fun hA hB => ?_) hA hB
    | with_reducible refine wall (fun x hA hB => ?_) hA hB
    | with_reducible refine wimp (fun hA hB => ?_) hA hB

set_option maxHeartbeats 4000000 in
set_option maxRecDepth 100000 in
theorem wt_ksayPlain_4 {Z : cZ} {i0 : Nat} {p1 : Int32} {q2 : Nat} {g : mSt} {Φ : Int32 → mSt → Prop} (h : ∀ r g1, Φ r g1) : wp_ksayPlain_4 Z i0 p1 q2 g Φ := by
  unfold wp_ksayPlain_4
  repeat' first
    | with_reducible exact trivial
    | with_reducible exact h _ _
    | with_reducible refine wt_kbegin (fun _ _ => ?_)
    | with_reducible refine And.intro ?_ ?_
    | intro _

set_option maxHeartbeats 4000000 in
set_option maxRecDepth 100000 in
theorem wc_ksayPlain_4 {Z : cZ} {i0 : Nat} {p1 : Int32} {q2 : Nat} {g : mSt} {Φ Ψ Χ : Int32 → mSt → Prop} (hX : ∀ r g1, Φ r g1 → Ψ r g1 → Χ r g1) (hA : wp_ksayPlain_4 Z i0 p1 q2 g Φ) (hB : wp_ksayPlain_4 Z i0 p1 q2 g Ψ) : wp_ksayPlain_4 Z i0 p1 q2 g Χ := by
  unfold wp_ksayPlain_4 at hA hB ⊢
  repeat' first
    | with_reducible exact trivial
    | with_reducible exact hX _ _ hA hB
    | with_reducible exact ⟨hA, hB⟩
    | with_reducible exact hA
    | with_reducible refine wc_kbegin (fun _ _ hA hB => ?_) hA hB
    | with_reducible refine wand (fun hA hB => ?_) (fun hA hB => ?_) hA hB
    | with_reducible refine wall (fun x hA hB => ?_) hA hB
    | with_reducible refine wimp (fun hA hB => ?_) hA hB

set_option maxHeartbeats 4000000 in
set_option maxRecDepth 100000 in
theorem wt_ksayPlain_10 {Z : cZ} {i0 : Nat} {p1 : Int32} {q2 : Nat} {g : mSt} {Φ : Int32 → mSt → Prop} (h : ∀ r g1, Φ r g1) : wp_ksayPlain_10 Z i0 p1 q2 g Φ := by
  unfold wp_ksayPlain_10
  repeat' first
    | with_reducible exact trivial
    | with_reducible exact h _ _
    | with_reducible refine wt_kbegin (fun _ _ => ?_)
    | with_reducible refine And.intro ?_ ?_
    | intro _

set_option maxHeartbeats 4000000 in
set_option maxRecDepth 100000 in
theorem wc_ksayPlain_10 {Z : cZ} {i0 : Nat} {p1 : Int32} {q2 : Nat} {g : mSt} {Φ Ψ Χ : Int32 → mSt → Prop} (hX : ∀ r g1, Φ r g1 → Ψ r g1 → Χ r g1) (hA : wp_ksayPlain_10 Z i0 p1 q2 g Φ) (hB : wp_ksayPlain_10 Z i0 p1 q2 g Ψ) : wp_ksayPlain_10 Z i0 p1 q2 g Χ := by
  unfold wp_ksayPlain_10 at hA hB ⊢
  repeat' first
    | with_reducible exact trivial
    | with_reducible exact hX _ _ hA hB
    | with_reducible exact ⟨hA, hB⟩
    | with_reducible exact hA
    | with_reducible refine wc_kbegin (fun _ _ hA hB => ?_) hA hB
    | with_reducible refine wand (fun hA hB => ?_) (fun hA hB => ?_) hA hB
    | with_reducible refine wall (fun x hA hB => ?_) hA hB
    | with_reducible refine wimp (fun hA hB => ?_) hA hB

set_option maxHeartbeats 4000000 in
set_option maxRecDepth 100000 in
theorem wt_krelease {Z : cZ} {i0 : Nat} {p1 : Int32} {p2 : Int32} {g : mSt} {Φ : Int32 → mSt → Prop} (h : ∀ r g1, Φ r g1) : wp_krelease Z i0 p1 p2 g Φ := by
  unfold wp_krelease
  repeat' first
    | with_reducible exact trivial
    | with_reducible exact h _ _
    | with_reducible refine wt_kenter (fun _ _ => ?_)
    | with_reducible refine wt_ksayCause_10 (fun _ _ => ?_)
    | with_reducible refine wt_ksayCause_4 (fun _ _ => ?_)
    | with_reducible refine And.intro ?_ ?_
    | intro _

set_option maxHeartbeats 4000000 in
set_option maxRecDepth 100000 in
theorem wc_krelease {Z : cZ} {i0 : Nat} {p1 : Int32} {p2 : Int32} {g : mSt} {Φ Ψ Χ : Int32 → mSt → Prop} (hX : ∀ r g1, Φ r g1 → Ψ r g1 → Χ r g1) (hA : wp_krelease Z i0 p1 p2 g Φ) (hB : wp_krelease Z i0 p1 p2 g Ψ) : wp_krelease Z i0 p1 p2 g Χ := by
  unfold wp_krelease at hA hB ⊢
  repeat' first
    | with_reducible exact trivial
    | with_reducible exact hX _ _ hA hB
    | with_reducible exact ⟨hA, hB⟩
    | with_reducible exact hA
    | with_reducible refine wc_kenter (fun _ _ hA hB => ?_) hA hB
    | with_reducible refine wc_ksayCause_10 (fun _ _ hA hB => ?_) hA hB
    | with_reducible refine wc_ksayCause_4 (fun _ _ hA hB => ?_) hA hB
    | with_reducible refine wand (fun hA hB => ?_) (fun hA hB => ?_) hA hB
    | with_reducible refine wall (fun x hA hB => ?_) hA hB
    | with_reducible refine wimp (fun hA hB => ?_) hA hB

set_option maxHeartbeats 4000000 in
set_option maxRecDepth 100000 in
theorem wt_kopenCalls_10 {Z : cZ} {i0 : Nat} {g : mSt} {Φ : Int32 → mSt → Prop} (h : ∀ r g1, Φ r g1) : wp_kopenCalls_10 Z i0 g Φ := by
  unfold wp_kopenCalls_10
  repeat' first
    | with_reducible exact trivial
    | with_reducible exact h _ _
    | with_reducible refine wt_kisOpen (fun _ _ => ?_)
    | with_reducible refine wt_klget (fun _ _ => ?_)
    | with_reducible refine wt_klsize (fun _ _ => ?_)
    | refine ⟨fun _ => True, ?_⟩
    | refine ⟨fun _ _ => True, ?_⟩
    | refine ⟨fun _ _ _ => True, ?_⟩
    | with_reducible refine And.intro ?_ ?_
    | intro _

set_option maxHeartbeats 4000000 in
set_option maxRecDepth 100000 in
theorem wc_kopenCalls_10 {Z : cZ} {i0 : Nat} {g : mSt} {Φ Ψ Χ : Int32 → mSt → Prop} (hX : ∀ r g1, Φ r g1 → Ψ r g1 → Χ r g1) (hA : wp_kopenCalls_10 Z i0 g Φ) (hB : wp_kopenCalls_10 Z i0 g Ψ) : wp_kopenCalls_10 Z i0 g Χ := by
  unfold wp_kopenCalls_10 at hA hB ⊢
  repeat' first
    | with_reducible exact trivial
    | with_reducible exact hX _ _ hA hB
    | with_reducible exact ⟨hA, hB⟩
    | with_reducible exact hA
    | with_reducible refine wc_kisOpen (fun _ _ hA hB => ?_) hA hB
    | with_reducible refine wc_klget (fun _ _ hA hB => ?_) hA hB
    | with_reducible refine wc_klsize (fun _ _ hA hB => ?_) hA hB
    | with_reducible refine wex1 (fun P Q hA hB => ?_) hA hB
    | with_reducible refine wex2 (fun P Q hA hB => ?_) hA hB
    | with_reducible refine wex3 (fun P Q hA hB => ?_) hA hB
    | with_reducible refine wand (fun hA hB => ?_) (fun hA hB => ?_) hA hB
    | with_reducible refine wall (fun x hA hB => ?_) hA hB
    | with_reducible refine wimp (fun hA hB => ?_) hA hB

set_option maxHeartbeats 4000000 in
set_option maxRecDepth 100000 in
theorem wt_kplaceOfReference_10 {Z : cZ} {i0 : Nat} {p1 : Int32} {p2 : Int32} {g : mSt} {Φ : Int32 → mSt → Prop} (h : ∀ r g1, Φ r g1) : wp_kplaceOfReference_10 Z i0 p1 p2 g Φ := by
  unfold wp_kplaceOfReference_10
  repeat' first
    | with_reducible exact trivial
    | with_reducible exact h _ _
    | with_reducible refine wt_klget (fun _ _ => ?_)
    | with_reducible refine wt_klsize (fun _ _ => ?_)
    | refine ⟨fun _ => True, ?_⟩
    | refine ⟨fun _ _ => True, ?_⟩
    | with_reducible refine And.intro ?_ ?_
    | intro _

set_option maxHeartbeats 4000000 in
set_option maxRecDepth 100000 in
theorem wc_kplaceOfReference_10 {Z : cZ} {i0 : Nat} {p1 : Int32} {p2 : Int32} {g : mSt} {Φ Ψ Χ : Int32 → mSt → Prop} (hX : ∀ r g1, Φ r g1 → Ψ r g1 → Χ r g1) (hA : wp_kplaceOfReference_10 Z i0 p1 p2 g Φ) (hB : wp_kplaceOfReference_10 Z i0 p1 p2 g Ψ) : wp_kplaceOfReference_10 Z i0 p1 p2 g Χ := by
  unfold wp_kplaceOfReference_10 at hA hB ⊢
  repeat' first
    | with_reducible exact trivial
    | with_reducible exact hX _ _ hA hB
    | with_reducible exact ⟨hA, hB⟩
    | with_reducible exact hA
    | with_reducible refine wc_klget (fun _ _ hA hB => ?_) hA hB
    | with_reducible refine wc_klsize (fun _ _ hA hB => ?_) hA hB
    | with_reducible refine wex1 (fun P Q hA hB => ?_) hA hB
    | with_reducible refine wex2 (fun P Q hA hB => ?_) hA hB
    | with_reducible refine wand (fun hA hB => ?_) (fun hA hB => ?_) hA hB
    | with_reducible refine wall (fun x hA hB => ?_) hA hB
    | with_reducible refine wimp (fun hA hB => ?_) hA hB

set_option maxHeartbeats 4000000 in
set_option maxRecDepth 100000 in
theorem wt_kallOver_4 {Z : cZ} {i0 : Nat} {p1 : Int32} {g : mSt} {Φ : Int32 → mSt → Prop} (h : ∀ r g1, Φ r g1) : wp_kallOver_4 Z i0 p1 g Φ := by
  unfold wp_kallOver_4
  repeat' first
    | with_reducible exact trivial
    | with_reducible exact h _ _
    | with_reducible refine wt_kfinish (fun _ _ => ?_)
    | with_reducible refine wt_kisOpen (fun _ _ => ?_)
    | with_reducible refine wt_klget (fun _ _ => ?_)
    | with_reducible refine wt_klsize (fun _ _ => ?_)
    | with_reducible refine wt_krelease (fun _ _ => ?_)
    | refine ⟨fun _ => True, ?_⟩
    | refine ⟨fun _ _ => True, ?_⟩
    | with_reducible refine And.intro ?_ ?_
    | intro _

set_option maxHeartbeats 4000000 in
set_option maxRecDepth 100000 in
theorem wc_kallOver_4 {Z : cZ} {i0 : Nat} {p1 : Int32} {g : mSt} {Φ Ψ Χ : Int32 → mSt → Prop} (hX : ∀ r g1, Φ r g1 → Ψ r g1 → Χ r g1) (hA : wp_kallOver_4 Z i0 p1 g Φ) (hB : wp_kallOver_4 Z i0 p1 g Ψ) : wp_kallOver_4 Z i0 p1 g Χ := by
  unfold wp_kallOver_4 at hA hB ⊢
  repeat' first
    | with_reducible exact trivial
    | with_reducible exact hX _ _ hA hB
    | with_reducible exact ⟨hA, hB⟩
    | with_reducible exact hA
    | with_reducible refine wc_kfinish (fun _ _ hA hB => ?_) hA hB
    | with_reducible refine wc_kisOpen (fun _ _ hA hB => ?_) hA hB
    | with_reducible refine wc_klget (fun _ _ hA hB => ?_) hA hB
    | with_reducible refine wc_klsize (fun _ _ hA hB => ?_) hA hB
    | with_reducible refine wc_krelease (fun _ _ hA hB => ?_) hA hB
    | with_reducible refine wex1 (fun P Q hA hB => ?_) hA hB
    | with_reducible refine wex2 (fun P Q hA hB => ?_) hA hB
    | with_reducible refine wand (fun hA hB => ?_) (fun hA hB => ?_) hA hB
    | with_reducible refine wall (fun x hA hB => ?_) hA hB
    | with_reducible refine wimp (fun hA hB => ?_) hA hB

set_option maxHeartbeats 4000000 in
set_option maxRecDepth 100000 in
theorem wt_kallOver_10 {Z : cZ} {i0 : Nat} {p1 : Int32} {g : mSt} {Φ : Int32 → mSt → Prop} (h : ∀ r g1, Φ r g1) : wp_kallOver_10 Z i0 p1 g Φ := by
  unfold wp_kallOver_10
  repeat' first
    | with_reducible exact trivial
    | with_reducible exact h _ _
    | with_reducible refine wt_kfinish (fun _ _ => ?_)
    | with_reducible refine wt_kisOpen (fun _ _ => ?_)
    | with_reducible refine wt_klget (fun _ _ => ?_)
    | with_reducible refine wt_klsize (fun _ _ => ?_)
    | with_reducible refine wt_krelease (fun _ _ => ?_)
    | refine ⟨fun _ => True, ?_⟩
    | refine ⟨fun _ _ => True, ?_⟩
    | with_reducible refine And.intro ?_ ?_
    | intro _

set_option maxHeartbeats 4000000 in
set_option maxRecDepth 100000 in
theorem wc_kallOver_10 {Z : cZ} {i0 : Nat} {p1 : Int32} {g : mSt} {Φ Ψ Χ : Int32 → mSt → Prop} (hX : ∀ r g1, Φ r g1 → Ψ r g1 → Χ r g1) (hA : wp_kallOver_10 Z i0 p1 g Φ) (hB : wp_kallOver_10 Z i0 p1 g Ψ) : wp_kallOver_10 Z i0 p1 g Χ := by
  unfold wp_kallOver_10 at hA hB ⊢
  repeat' first
    | with_reducible exact trivial
    | with_reducible exact hX _ _ hA hB
    | with_reducible exact ⟨hA, hB⟩
    | with_reducible exact hA
    | with_reducible refine wc_kfinish (fun _ _ hA hB => ?_) hA hB
    | with_reducible refine wc_kisOpen (fun _ _ hA hB => ?_) hA hB
    | with_reducible refine wc_klget (fun _ _ hA hB => ?_) hA hB
    | with_reducible refine wc_klsize (fun _ _ hA hB => ?_) hA hB
    | with_reducible refine wc_krelease (fun _ _ hA hB => ?_) hA hB
    | with_reducible refine wex1 (fun P Q hA hB => ?_) hA hB
    | with_reducible refine wex2 (fun P Q hA hB => ?_) hA hB
    | with_reducible refine wand (fun hA hB => ?_) (fun hA hB => ?_) hA hB
    | with_reducible refine wall (fun x hA hB => ?_) hA hB
    | with_reducible refine wimp (fun hA hB => ?_) hA hB

set_option maxHeartbeats 4000000 in
set_option maxRecDepth 100000 in
theorem wt_krates {Z : cZ} {i0 : Nat} {g : mSt} {Φ : Int32 → mSt → Prop} (h : ∀ r g1, Φ r g1) : wp_krates Z i0 g Φ := by
  unfold wp_krates
  repeat' first
    | with_reducible exact trivial
    | with_reducible exact h _ _
    | with_reducible refine wt_kisOpen (fun _ _ => ?_)
    | with_reducible refine wt_klget (fun _ _ => ?_)
    | with_reducible refine wt_klsize (fun _ _ => ?_)
    | refine ⟨fun _ => True, ?_⟩
    | refine ⟨fun _ _ => True, ?_⟩
    | refine ⟨fun _ _ _ => True, ?_⟩
    | with_reducible refine And.intro ?_ ?_
    | intro _

set_option maxHeartbeats 4000000 in
set_option maxRecDepth 100000 in
theorem wc_krates {Z : cZ} {i0 : Nat} {g : mSt} {Φ Ψ Χ : Int32 → mSt → Prop} (hX : ∀ r g1, Φ r g1 → Ψ r g1 → Χ r g1) (hA : wp_krates Z i0 g Φ) (hB : wp_krates Z i0 g Ψ) : wp_krates Z i0 g Χ := by
  unfold wp_krates at hA hB ⊢
  repeat' first
    | with_reducible exact trivial
    | with_reducible exact hX _ _ hA hB
    | with_reducible exact ⟨hA, hB⟩
    | with_reducible exact hA
    | with_reducible refine wc_kisOpen (fun _ _ hA hB => ?_) hA hB
    | with_reducible refine wc_klget (fun _ _ hA hB => ?_) hA hB
    | with_reducible refine wc_klsize (fun _ _ hA hB => ?_) hA hB
    | with_reducible refine wex1 (fun P Q hA hB => ?_) hA hB
    | with_reducible refine wex2 (fun P Q hA hB => ?_) hA hB
    | with_reducible refine wex3 (fun P Q hA hB => ?_) hA hB
    | with_reducible refine wand (fun hA hB => ?_) (fun hA hB => ?_) hA hB
    | with_reducible refine wall (fun x hA hB => ?_) hA hB
    | with_reducible refine wimp (fun hA hB => ?_) hA hB

set_option maxHeartbeats 4000000 in
set_option maxRecDepth 100000 in
theorem wt_kisTaken {Z : cZ} {i0 : Nat} {p1 : Int32} {g : mSt} {Φ : Int32 → mSt → Prop} (h : ∀ r g1, Φ r g1) : wp_kisTaken Z i0 p1 g Φ := by
  unfold wp_kisTaken
  repeat' first
    | with_reducible exact trivial
    | with_reducible exact h _ _
    | with_reducible refine wt_kisOpen (fun _ _ => ?_)
    | with_reducible refine wt_klget (fun _ _ => ?_)
    | with_reducible refine wt_klsize (fun _ _ => ?_)
    | refine ⟨fun _ => True, ?_⟩
    | refine ⟨fun _ _ => True, ?_⟩
    | with_reducible refine And.intro ?_ ?_
    | intro _

set_option maxHeartbeats 4000000 in
set_option maxRecDepth 100000 in
theorem wc_kisTaken {Z : cZ} {i0 : Nat} {p1 : Int32} {g : mSt} {Φ Ψ Χ : Int32 → mSt → Prop} (hX : ∀ r g1, Φ r g1 → Ψ r g1 → Χ r g1) (hA : wp_kisTaken Z i0 p1 g Φ) (hB : wp_kisTaken Z i0 p1 g Ψ) : wp_kisTaken Z i0 p1 g Χ := by
  unfold wp_kisTaken at hA hB ⊢
  repeat' first
    | with_reducible exact trivial
    | with_reducible exact hX _ _ hA hB
    | with_reducible exact ⟨hA, hB⟩
    | with_reducible exact hA
    | with_reducible refine wc_kisOpen (fun _ _ hA hB => ?_) hA hB
    | with_reducible refine wc_klget (fun _ _ hA hB => ?_) hA hB
    | with_reducible refine wc_klsize (fun _ _ hA hB => ?_) hA hB
    | with_reducible refine wex1 (fun P Q hA hB => ?_) hA hB
    | with_reducible refine wex2 (fun P Q hA hB => ?_) hA hB
    | with_reducible refine wand (fun hA hB => ?_) (fun hA hB => ?_) hA hB
    | with_reducible refine wall (fun x hA hB => ?_) hA hB
    | with_reducible refine wimp (fun hA hB => ?_) hA hB

set_option maxHeartbeats 4000000 in
set_option maxRecDepth 100000 in
theorem wt_kleastChannel {Z : cZ} {i0 : Nat} {g : mSt} {Φ : Int32 → mSt → Prop} (h : ∀ r g1, Φ r g1) : wp_kleastChannel Z i0 g Φ := by
  unfold wp_kleastChannel
  repeat' first
    | with_reducible exact trivial
    | with_reducible exact h _ _
    | with_reducible refine wt_kisTaken (fun _ _ => ?_)
    | refine ⟨fun _ => True, ?_⟩
    | refine ⟨fun _ _ => True, ?_⟩
    | refine ⟨fun _ _ _ => True, ?_⟩
    | with_reducible refine And.intro ?_ ?_
    | intro _

set_option maxHeartbeats 4000000 in
set_option maxRecDepth 100000 in
theorem wc_kleastChannel {Z : cZ} {i0 : Nat} {g : mSt} {Φ Ψ Χ : Int32 → mSt → Prop} (hX : ∀ r g1, Φ r g1 → Ψ r g1 → Χ r g1) (hA : wp_kleastChannel Z i0 g Φ) (hB : wp_kleastChannel Z i0 g Ψ) : wp_kleastChannel Z i0 g Χ := by
  unfold wp_kleastChannel at hA hB ⊢
  repeat' first
    | with_reducible exact trivial
    | with_reducible exact hX _ _ hA hB
    | with_reducible exact ⟨hA, hB⟩
    | with_reducible exact hA
    | with_reducible refine wc_kisTaken (fun _ _ hA hB => ?_) hA hB
    | with_reducible refine wex1 (fun P Q hA hB => ?_) hA hB
    | with_reducible refine wex2 (fun P Q hA hB => ?_) hA hB
    | with_reducible refine wex3 (fun P Q hA hB => ?_) hA hB
    | with_reducible refine wand (fun hA hB => ?_) (fun hA hB => ?_) hA hB
    | with_reducible refine wall (fun x hA hB => ?_) hA hB
    | with_reducible refine wimp (fun hA hB => ?_) hA hB

set_option maxHeartbeats 4000000 in
set_option maxRecDepth 100000 in
theorem wt_ksaySetup_4 {Z : cZ} {i0 : Nat} {q1 : Nat} {g : mSt} {Φ : Int32 → mSt → Prop} (h : ∀ r g1, Φ r g1) : wp_ksaySetup_4 Z i0 q1 g Φ := by
  unfold wp_ksaySetup_4
  repeat' first
    | with_reducible exact trivial
    | with_reducible exact h _ _
    | with_reducible refine wt_kbegin (fun _ _ => ?_)
    | with_reducible refine wt_kmelement (fun _ _ => ?_)
    | refine ⟨fun _ => True, ?_⟩
    | with_reducible refine And.intro ?_ ?_
    | intro _

set_option maxHeartbeats 4000000 in
set_option maxRecDepth 100000 in
theorem wc_ksaySetup_4 {Z : cZ} {i0 : Nat} {q1 : Nat} {g : mSt} {Φ Ψ Χ : Int32 → mSt → Prop} (hX : ∀ r g1, Φ r g1 → Ψ r g1 → Χ r g1) (hA : wp_ksaySetup_4 Z i0 q1 g Φ) (hB : wp_ksaySetup_4 Z i0 q1 g Ψ) : wp_ksaySetup_4 Z i0 q1 g Χ := by
  unfold wp_ksaySetup_4 at hA hB ⊢
  repeat' first
    | with_reducible exact trivial
    | with_reducible exact hX _ _ hA hB
    | with_reducible exact ⟨hA, hB⟩
    | with_reducible exact hA
    | with_reducible refine wc_kbegin (fun _ _ hA hB => ?_) hA hB
    | with_reducible refine wc_kmelement (fun _ _ hA hB => ?_) hA hB
    | with_reducible refine wex1 (fun P Q hA hB => ?_) hA hB
    | with_reducible refine wand (fun hA hB => ?_) (fun hA hB => ?_) hA hB
    | with_reducible refine wall (fun x hA hB => ?_) hA hB
    | with_reducible refine wimp (fun hA hB => ?_) hA hB

set_option maxHeartbeats 4000000 in
set_option maxRecDepth 100000 in
theorem wt_ksaySetup_10 {Z : cZ} {i0 : Nat} {q1 : Nat} {g : mSt} {Φ : Int32 → mSt → Prop} (h : ∀ r g1, Φ r g1) : wp_ksaySetup_10 Z i0 q1 g Φ := by
  unfold wp_ksaySetup_10
  repeat' first
    | with_reducible exact trivial
    | with_reducible exact h _ _
    | with_reducible refine wt_kbegin (fun _ _ => ?_)
    | with_reducible refine wt_kmelement (fun _ _ => ?_)
    | refine ⟨fun _ => True, ?_⟩
    | with_reducible refine And.intro ?_ ?_
    | intro _

set_option maxHeartbeats 4000000 in
set_option maxRecDepth 100000 in
theorem wc_ksaySetup_10 {Z : cZ} {i0 : Nat} {q1 : Nat} {g : mSt} {Φ Ψ Χ : Int32 → mSt → Prop} (hX : ∀ r g1, Φ r g1 → Ψ r g1 → Χ r g1) (hA : wp_ksaySetup_10 Z i0 q1 g Φ) (hB : wp_ksaySetup_10 Z i0 q1 g Ψ) : wp_ksaySetup_10 Z i0 q1 g Χ := by
  unfold wp_ksaySetup_10 at hA hB ⊢
  repeat' first
    | with_reducible exact trivial
    | with_reducible exact hX _ _ hA hB
    | with_reducible exact ⟨hA, hB⟩
    | with_reducible exact hA
    | with_reducible refine wc_kbegin (fun _ _ hA hB => ?_) hA hB
    | with_reducible refine wc_kmelement (fun _ _ hA hB => ?_) hA hB
    | with_reducible refine wex1 (fun P Q hA hB => ?_) hA hB
    | with_reducible refine wand (fun hA hB => ?_) (fun hA hB => ?_) hA hB
    | with_reducible refine wall (fun x hA hB => ?_) hA hB
    | with_reducible refine wimp (fun hA hB => ?_) hA hB

set_option maxHeartbeats 4000000 in
set_option maxRecDepth 100000 in
theorem wt_ksayProceeding {Z : cZ} {i0 : Nat} {q1 : Nat} {g : mSt} {Φ : Int32 → mSt → Prop} (h : ∀ r g1, Φ r g1) : wp_ksayProceeding Z i0 q1 g Φ := by
  unfold wp_ksayProceeding
  repeat' first
    | with_reducible exact trivial
    | with_reducible exact h _ _
    | with_reducible refine wt_kbegin (fun _ _ => ?_)
    | with_reducible refine wt_kmelement (fun _ _ => ?_)
    | refine ⟨fun _ => True, ?_⟩
    | with_reducible refine And.intro ?_ ?_
    | intro _

set_option maxHeartbeats 4000000 in
set_option maxRecDepth 100000 in
theorem wc_ksayProceeding {Z : cZ} {i0 : Nat} {q1 : Nat} {g : mSt} {Φ Ψ Χ : Int32 → mSt → Prop} (hX : ∀ r g1, Φ r g1 → Ψ r g1 → Χ r g1) (hA : wp_ksayProceeding Z i0 q1 g Φ) (hB : wp_ksayProceeding Z i0 q1 g Ψ) : wp_ksayProceeding Z i0 q1 g Χ := by
  unfold wp_ksayProceeding at hA hB ⊢
  repeat' first
    | with_reducible exact trivial
    | with_reducible exact hX _ _ hA hB
    | with_reducible exact ⟨hA, hB⟩
    | with_reducible exact hA
    | with_reducible refine wc_kbegin (fun _ _ hA hB => ?_) hA hB
    | with_reducible refine wc_kmelement (fun _ _ hA hB => ?_) hA hB
    | with_reducible refine wex1 (fun P Q hA hB => ?_) hA hB
    | with_reducible refine wand (fun hA hB => ?_) (fun hA hB => ?_) hA hB
    | with_reducible refine wall (fun x hA hB => ?_) hA hB
    | with_reducible refine wimp (fun hA hB => ?_) hA hB

set_option maxHeartbeats 4000000 in
set_option maxRecDepth 100000 in
theorem wt_kanswer {Z : cZ} {i0 : Nat} {q1 : Nat} {p2 : Int32} {g : mSt} {Φ : Int32 → mSt → Prop} (h : ∀ r g1, Φ r g1) : wp_kanswer Z i0 q1 p2 g Φ := by
  unfold wp_kanswer
  repeat' first
    | with_reducible exact trivial
    | with_reducible exact h _ _
    | with_reducible refine wt_kenter (fun _ _ => ?_)
    | with_reducible refine wt_ksayPlain_4 (fun _ _ => ?_)
    | with_reducible refine And.intro ?_ ?_
    | intro _

set_option maxHeartbeats 4000000 in
set_option maxRecDepth 100000 in
theorem wc_kanswer {Z : cZ} {i0 : Nat} {q1 : Nat} {p2 : Int32} {g : mSt} {Φ Ψ Χ : Int32 → mSt → Prop} (hX : ∀ r g1, Φ r g1 → Ψ r g1 → Χ r g1) (hA : wp_kanswer Z i0 q1 p2 g Φ) (hB : wp_kanswer Z i0 q1 p2 g Ψ) : wp_kanswer Z i0 q1 p2 g Χ := by
  unfold wp_kanswer at hA hB ⊢
  repeat' first
    | with_reducible exact trivial
    | with_reducible exact hX _ _ hA hB
    | with_reducible exact ⟨hA, hB⟩
    | with_reducible exact hA
    | with_reducible refine wc_kenter (fun _ _ hA hB => ?_) hA hB
    | with_reducible refine wc_ksayPlain_4 (fun _ _ hA hB => ?_) hA hB
    | with_reducible refine wand (fun hA hB => ?_) (fun hA hB => ?_) hA hB
    | with_reducible refine wall (fun x hA hB => ?_) hA hB
    | with_reducible refine wimp (fun hA hB => ?_) hA hB

set_option maxHeartbeats 4000000 in
set_option maxRecDepth 100000 in
theorem wt_ktimer_4 {Z : cZ} {i0 : Nat} {q1 : Nat} {p2 : Int32} {g : mSt} {Φ : Int32 → mSt → Prop} (h : ∀ r g1, Φ r g1) : wp_ktimer_4 Z i0 q1 p2 g Φ := by
  unfold wp_ktimer_4
  repeat' first
    | with_reducible exact trivial
    | with_reducible exact h _ _
    | with_reducible refine wt_kanswer (fun _ _ => ?_)
    | with_reducible refine wt_kfinish (fun _ _ => ?_)
    | with_reducible refine wt_krelease (fun _ _ => ?_)
    | with_reducible refine wt_krepeat (fun _ _ => ?_)
    | with_reducible refine wt_ksaySetup_4 (fun _ _ => ?_)
    | refine ⟨fun _ => True, ?_⟩
    | with_reducible refine And.intro ?_ ?_
    | intro _

set_option maxHeartbeats 4000000 in
set_option maxRecDepth 100000 in
theorem wc_ktimer_4 {Z : cZ} {i0 : Nat} {q1 : Nat} {p2 : Int32} {g : mSt} {Φ Ψ Χ : Int32 → mSt → Prop} (hX : ∀ r g1, Φ r g1 → Ψ r g1 → Χ r g1) (hA : wp_ktimer_4 Z i0 q1 p2 g Φ) (hB : wp_ktimer_4 Z i0 q1 p2 g Ψ) : wp_ktimer_4 Z i0 q1 p2 g Χ := by
  unfold wp_ktimer_4 at hA hB ⊢
  repeat' first
    | with_reducible exact trivial
    | with_reducible exact hX _ _ hA hB
    | with_reducible exact ⟨hA, hB⟩
    | with_reducible exact hA
    | with_reducible refine wc_kanswer (fun _ _ hA hB => ?_) hA hB
    | with_reducible refine wc_kfinish (fun _ _ hA hB => ?_) hA hB
    | with_reducible refine wc_krelease (fun _ _ hA hB => ?_) hA hB
    | with_reducible refine wc_krepeat (fun _ _ hA hB => ?_) hA hB
    | with_reducible refine wc_ksaySetup_4 (fun _ _ hA hB => ?_) hA hB
    | with_reducible refine wex1 (fun P Q hA hB => ?_) hA hB
    | with_reducible refine wand (fun hA hB => ?_) (fun hA hB => ?_) hA hB
    | with_reducible refine wall (fun x hA hB => ?_) hA hB
    | with_reducible refine wimp (fun hA hB => ?_) hA hB

set_option maxHeartbeats 4000000 in
set_option maxRecDepth 100000 in
theorem wt_ktimer_10 {Z : cZ} {i0 : Nat} {q1 : Nat} {p2 : Int32} {g : mSt} {Φ : Int32 → mSt → Prop} (h : ∀ r g1, Φ r g1) : wp_ktimer_10 Z i0 q1 p2 g Φ := by
  unfold wp_ktimer_10
  repeat' first
    | with_reducible exact trivial
    | with_reducible exact h _ _
    | with_reducible refine wt_kfinish (fun _ _ => ?_)
    | with_reducible refine wt_krelease (fun _ _ => ?_)
    | with_reducible refine wt_krepeat (fun _ _ => ?_)
    | with_reducible refine wt_ksaySetup_10 (fun _ _ => ?_)
    | refine ⟨fun _ => True, ?_⟩
    | refine ⟨fun _ _ => True, ?_⟩
    | with_reducible refine And.intro ?_ ?_
    | intro _

set_option maxHeartbeats 4000000 in
set_option maxRecDepth 100000 in
theorem wc_ktimer_10 {Z : cZ} {i0 : Nat} {q1 : Nat} {p2 : Int32} {g : mSt} {Φ Ψ Χ : Int32 → mSt → Prop} (hX : ∀ r g1, Φ r g1 → Ψ r g1 → Χ r g1) (hA : wp_ktimer_10 Z i0 q1 p2 g Φ) (hB : wp_ktimer_10 Z i0 q1 p2 g Ψ) : wp_ktimer_10 Z i0 q1 p2 g Χ := by
  unfold wp_ktimer_10 at hA hB ⊢
  repeat' first
    | with_reducible exact trivial
    | with_reducible exact hX _ _ hA hB
    | with_reducible exact ⟨hA, hB⟩
    | with_reducible exact hA
    | with_reducible refine wc_kfinish (fun _ _ hA hB => ?_) hA hB
    | with_reducible refine wc_krelease (fun _ _ hA hB => ?_) hA hB
    | with_reducible refine wc_krepeat (fun _ _ hA hB => ?_) hA hB
    | with_reducible refine wc_ksaySetup_10 (fun _ _ hA hB => ?_) hA hB
    | with_reducible refine wex1 (fun P Q hA hB => ?_) hA hB
    | with_reducible refine wex2 (fun P Q hA hB => ?_) hA hB
    | with_reducible refine wand (fun hA hB => ?_) (fun hA hB => ?_) hA hB
    | with_reducible refine wall (fun x hA hB => ?_) hA hB
    | with_reducible refine wimp (fun hA hB => ?_) hA hB

set_option maxHeartbeats 4000000 in
set_option maxRecDepth 100000 in
theorem wt_krefusal {Z : cZ} {i0 : Nat} {q1 : Nat} {g : mSt} {Φ : Int32 → mSt → Prop} (h : ∀ r g1, Φ r g1) : wp_krefusal Z i0 q1 g Φ := by
  unfold wp_krefusal
  repeat' first
    | with_reducible exact trivial
    | with_reducible exact h _ _
    | with_reducible refine wt_kopenCalls_10 (fun _ _ => ?_)
    | with_reducible refine wt_krates (fun _ _ => ?_)
    | with_reducible refine And.intro ?_ ?_
    | intro _

set_option maxHeartbeats 4000000 in
set_option maxRecDepth 100000 in
theorem wc_krefusal {Z : cZ} {i0 : Nat} {q1 : Nat} {g : mSt} {Φ Ψ Χ : Int32 → mSt → Prop} (hX : ∀ r g1, Φ r g1 → Ψ r g1 → Χ r g1) (hA : wp_krefusal Z i0 q1 g Φ) (hB : wp_krefusal Z i0 q1 g Ψ) : wp_krefusal Z i0 q1 g Χ := by
  unfold wp_krefusal at hA hB ⊢
  repeat' first
    | with_reducible exact trivial
    | with_reducible exact hX _ _ hA hB
    | with_reducible exact ⟨hA, hB⟩
    | with_reducible exact hA
    | with_reducible refine wc_kopenCalls_10 (fun _ _ hA hB => ?_) hA hB
    | with_reducible refine wc_krates (fun _ _ hA hB => ?_) hA hB
    | with_reducible refine wand (fun hA hB => ?_) (fun hA hB => ?_) hA hB
    | with_reducible refine wall (fun x hA hB => ?_) hA hB
    | with_reducible refine wimp (fun hA hB => ?_) hA hB

set_option maxHeartbeats 4000000 in
set_option maxRecDepth 100000 in
theorem wt_kcallTimers_4 {Z : cZ} {i0 : Nat} {p1 : Int32} {g : mSt} {Φ : Int32 → mSt → Prop} (h : ∀ r g1, Φ r g1) : wp_kcallTimers_4 Z i0 p1 g Φ := by
  unfold wp_kcallTimers_4
  repeat' first
    | with_reducible exact trivial
    | with_reducible exact h _ _
    | with_reducible refine wt_kfinish (fun _ _ => ?_)
    | with_reducible refine wt_kisOpen (fun _ _ => ?_)
    | with_reducible refine wt_klget (fun _ _ => ?_)
    | with_reducible refine wt_klsize (fun _ _ => ?_)
    | with_reducible refine wt_krepeat (fun _ _ => ?_)
    | with_reducible refine wt_ksayCause_4 (fun _ _ => ?_)
    | with_reducible refine wt_ktimer_4 (fun _ _ => ?_)
    | refine ⟨fun _ => True, ?_⟩
    | refine ⟨fun _ _ => True, ?_⟩
    | with_reducible refine And.intro ?_ ?_
    | intro _

set_option maxHeartbeats 4000000 in
set_option maxRecDepth 100000 in
theorem wc_kcallTimers_4 {Z : cZ} {i0 : Nat} {p1 : Int32} {g : mSt} {Φ Ψ Χ : Int32 → mSt → Prop} (hX : ∀ r g1, Φ r g1 → Ψ r g1 → Χ r g1) (hA : wp_kcallTimers_4 Z i0 p1 g Φ) (hB : wp_kcallTimers_4 Z i0 p1 g Ψ) : wp_kcallTimers_4 Z i0 p1 g Χ := by
  unfold wp_kcallTimers_4 at hA hB ⊢
  repeat' first
    | with_reducible exact trivial
    | with_reducible exact hX _ _ hA hB
    | with_reducible exact ⟨hA, hB⟩
    | with_reducible exact hA
    | with_reducible refine wc_kfinish (fun _ _ hA hB => ?_) hA hB
    | with_reducible refine wc_kisOpen (fun _ _ hA hB => ?_) hA hB
    | with_reducible refine wc_klget (fun _ _ hA hB => ?_) hA hB
    | with_reducible refine wc_klsize (fun _ _ hA hB => ?_) hA hB
    | with_reducible refine wc_krepeat (fun _ _ hA hB => ?_) hA hB
    | with_reducible refine wc_ksayCause_4 (fun _ _ hA hB => ?_) hA hB
    | with_reducible refine wc_ktimer_4 (fun _ _ hA hB => ?_) hA hB
    | with_reducible refine wex1 (fun P Q hA hB => ?_) hA hB
    | with_reducible refine wex2 (fun P Q hA hB => ?_) hA hB
    | with_reducible refine wand (fun hA hB => ?_) (fun hA hB => ?_) hA hB
    | with_reducible refine wall (fun x hA hB => ?_) hA hB
    | with_reducible refine wimp (fun hA hB => ?_) hA hB

set_option maxHeartbeats 4000000 in
set_option maxRecDepth 100000 in
theorem wt_kcallTimers_10 {Z : cZ} {i0 : Nat} {p1 : Int32} {g : mSt} {Φ : Int32 → mSt → Prop} (h : ∀ r g1, Φ r g1) : wp_kcallTimers_10 Z i0 p1 g Φ := by
  unfold wp_kcallTimers_10
  repeat' first
    | with_reducible exact trivial
    | with_reducible exact h _ _
    | with_reducible refine wt_kfinish (fun _ _ => ?_)
    | with_reducible refine wt_kisOpen (fun _ _ => ?_)
    | with_reducible refine wt_klget (fun _ _ => ?_)
    | with_reducible refine wt_klsize (fun _ _ => ?_)
    | with_reducible refine wt_krepeat (fun _ _ => ?_)
    | with_reducible refine wt_ksayCause_10 (fun _ _ => ?_)
    | with_reducible refine wt_ktimer_10 (fun _ _ => ?_)
    | refine ⟨fun _ => True, ?_⟩
    | refine ⟨fun _ _ => True, ?_⟩
    | with_reducible refine And.intro ?_ ?_
    | intro _

set_option maxHeartbeats 4000000 in
set_option maxRecDepth 100000 in
theorem wc_kcallTimers_10 {Z : cZ} {i0 : Nat} {p1 : Int32} {g : mSt} {Φ Ψ Χ : Int32 → mSt → Prop} (hX : ∀ r g1, Φ r g1 → Ψ r g1 → Χ r g1) (hA : wp_kcallTimers_10 Z i0 p1 g Φ) (hB : wp_kcallTimers_10 Z i0 p1 g Ψ) : wp_kcallTimers_10 Z i0 p1 g Χ := by
  unfold wp_kcallTimers_10 at hA hB ⊢
  repeat' first
    | with_reducible exact trivial
    | with_reducible exact hX _ _ hA hB
    | with_reducible exact ⟨hA, hB⟩
    | with_reducible exact hA
    | with_reducible refine wc_kfinish (fun _ _ hA hB => ?_) hA hB
    | with_reducible refine wc_kisOpen (fun _ _ hA hB => ?_) hA hB
    | with_reducible refine wc_klget (fun _ _ hA hB => ?_) hA hB
    | with_reducible refine wc_klsize (fun _ _ hA hB => ?_) hA hB
    | with_reducible refine wc_krepeat (fun _ _ hA hB => ?_) hA hB
    | with_reducible refine wc_ksayCause_10 (fun _ _ hA hB => ?_) hA hB
    | with_reducible refine wc_ktimer_10 (fun _ _ hA hB => ?_) hA hB
    | with_reducible refine wex1 (fun P Q hA hB => ?_) hA hB
    | with_reducible refine wex2 (fun P Q hA hB => ?_) hA hB
    | with_reducible refine wand (fun hA hB => ?_) (fun hA hB => ?_) hA hB
    | with_reducible refine wall (fun x hA hB => ?_) hA hB
    | with_reducible refine wimp (fun hA hB => ?_) hA hB

