/-! more formulas -/
set_option maxHeartbeats 4000000 in
set_option maxRecDepth 100000 in
theorem wt_kqadd_25 {Z : cZ} {i0 : Nat} {p1 : Int32} {q2 : Nat} {p3 : Int32} {g : mSt} {Φ : Int32 → mSt → Prop} (h : ∀ r g1, Φ r g1) : wp_kqadd_25 Z i0 p1 q2 p3 g Φ := by
  unfold wp_kqadd_25
  repeat' first
    | with_reducible exact trivial
    | with_reducible exact h _ _
    | with_reducible refine And.intro ?_ ?_
    | intro _

set_option maxHeartbeats 4000000 in
set_option maxRecDepth 100000 in
theorem wc_kqadd_25 {Z : cZ} {i0 : Nat} {p1 : Int32} {q2 : Nat} {p3 : Int32} {g : mSt} {Φ Ψ Χ : Int32 → mSt → Prop} (hX : ∀ r g1, Φ r g1 → Ψ r g1 → Χ r g1) (hA : wp_kqadd_25 Z i0 p1 q2 p3 g Φ) (hB : wp_kqadd_25 Z i0 p1 q2 p3 g Ψ) : wp_kqadd_25 Z i0 p1 q2 p3 g Χ := by
  unfold wp_kqadd_25 at hA hB ⊢
  repeat' first
    | with_reducible exact trivial
    | with_reducible exact hX _ _ hA hB
    | with_reducible exact ⟨hA, hB⟩
    | with_reducible exact hA
    | with_reducible refine wand (fun hA hB => ?_) (fun hA hB => ?_) hA hB
    | with_reducible refine wall (fun x hA hB => ?_) hA hB
    | with_reducible refine wimp (fun hA hB => ?_) hA hB

set_option maxHeartbeats 4000000 in
set_option maxRecDepth 100000 in
theorem wt_kaddData_25 {Z : cZ} {i0 : Nat} {p1 : Int32} {q2 : Nat} {p3 : Int32} {g : mSt} {Φ : Int32 → mSt → Prop} (h : ∀ r g1, Φ r g1) : wp_kaddData_25 Z i0 p1 q2 p3 g Φ := by
  unfold wp_kaddData_25
  repeat' first
    | with_reducible exact trivial
    | with_reducible exact h _ _
    | with_reducible refine wt_kqadd_25 (fun _ _ => ?_)
    | refine ⟨fun _ => True, ?_⟩
    | with_reducible refine And.intro ?_ ?_
    | intro _

set_option maxHeartbeats 4000000 in
set_option maxRecDepth 100000 in
theorem wc_kaddData_25 {Z : cZ} {i0 : Nat} {p1 : Int32} {q2 : Nat} {p3 : Int32} {g : mSt} {Φ Ψ Χ : Int32 → mSt → Prop} (hX : ∀ r g1, Φ r g1 → Ψ r g1 → Χ r g1) (hA : wp_kaddData_25 Z i0 p1 q2 p3 g Φ) (hB : wp_kaddData_25 Z i0 p1 q2 p3 g Ψ) : wp_kaddData_25 Z i0 p1 q2 p3 g Χ := by
  unfold wp_kaddData_25 at hA hB ⊢
  repeat' first
    | with_reducible exact trivial
    | with_reducible exact hX _ _ hA hB
    | with_reducible exact ⟨hA, hB⟩
    | with_reducible exact hA
    | with_reducible refine wc_kqadd_25 (fun _ _ hA hB => ?_) hA hB
    | with_reducible refine wex1 (fun P Q hA hB => ?_) hA hB
    | with_reducible refine wand (fun hA hB => ?_) (fun hA hB => ?_) hA hB
    | with_reducible refine wall (fun x hA hB => ?_) hA hB
    | with_reducible refine wimp (fun hA hB => ?_) hA hB

set_option maxHeartbeats 4000000 in
set_option maxRecDepth 100000 in
theorem wt_kisEnd {Z : cZ} {i0 : Nat} {p1 : Int32} {g : mSt} {Φ : Int32 → mSt → Prop} (h : ∀ r g1, Φ r g1) : wp_kisEnd Z i0 p1 g Φ := by
  unfold wp_kisEnd
  repeat' first
    | with_reducible exact trivial
    | with_reducible exact h _ _
    | with_reducible refine And.intro ?_ ?_
    | intro _

set_option maxHeartbeats 4000000 in
set_option maxRecDepth 100000 in
theorem wc_kisEnd {Z : cZ} {i0 : Nat} {p1 : Int32} {g : mSt} {Φ Ψ Χ : Int32 → mSt → Prop} (hX : ∀ r g1, Φ r g1 → Ψ r g1 → Χ r g1) (hA : wp_kisEnd Z i0 p1 g Φ) (hB : wp_kisEnd Z i0 p1 g Ψ) : wp_kisEnd Z i0 p1 g Χ := by
  unfold wp_kisEnd at hA hB ⊢
  repeat' first
    | with_reducible exact trivial
    | with_reducible exact hX _ _ hA hB
    | with_reducible exact ⟨hA, hB⟩
    | with_reducible exact hA
    | with_reducible refine wand (fun hA hB => ?_) (fun hA hB => ?_) hA hB
    | with_reducible refine wall (fun x hA hB => ?_) hA hB
    | with_reducible refine wimp (fun hA hB => ?_) hA hB

set_option maxHeartbeats 4000000 in
set_option maxRecDepth 100000 in
theorem wt_kisJoined {Z : cZ} {q1 : Nat} {g : mSt} {Φ : Int32 → mSt → Prop} (h : ∀ r g1, Φ r g1) : wp_kisJoined Z q1 g Φ := by
  unfold wp_kisJoined
  repeat' first
    | with_reducible exact trivial
    | with_reducible exact h _ _
    | with_reducible refine And.intro ?_ ?_
    | intro _

set_option maxHeartbeats 4000000 in
set_option maxRecDepth 100000 in
theorem wc_kisJoined {Z : cZ} {q1 : Nat} {g : mSt} {Φ Ψ Χ : Int32 → mSt → Prop} (hX : ∀ r g1, Φ r g1 → Ψ r g1 → Χ r g1) (hA : wp_kisJoined Z q1 g Φ) (hB : wp_kisJoined Z q1 g Ψ) : wp_kisJoined Z q1 g Χ := by
  unfold wp_kisJoined at hA hB ⊢
  repeat' first
    | with_reducible exact trivial
    | with_reducible exact hX _ _ hA hB
    | with_reducible exact ⟨hA, hB⟩
    | with_reducible exact hA
    | with_reducible refine wand (fun hA hB => ?_) (fun hA hB => ?_) hA hB
    | with_reducible refine wall (fun x hA hB => ?_) hA hB
    | with_reducible refine wimp (fun hA hB => ?_) hA hB

set_option maxHeartbeats 4000000 in
set_option maxRecDepth 100000 in
theorem wt_kjoined {Z : cZ} {i0 : Nat} {p1 : Int32} {g : mSt} {Φ : Int32 → mSt → Prop} (h : ∀ r g1, Φ r g1) : wp_kjoined Z i0 p1 g Φ := by
  unfold wp_kjoined
  repeat' first
    | with_reducible exact trivial
    | with_reducible exact h _ _
    | with_reducible refine wt_kisJoined (fun _ _ => ?_)
    | with_reducible refine wt_klget (fun _ _ => ?_)
    | with_reducible refine wt_klsize (fun _ _ => ?_)
    | refine ⟨fun _ => True, ?_⟩
    | refine ⟨fun _ _ => True, ?_⟩
    | with_reducible refine And.intro ?_ ?_
    | intro _

set_option maxHeartbeats 4000000 in
set_option maxRecDepth 100000 in
theorem wc_kjoined {Z : cZ} {i0 : Nat} {p1 : Int32} {g : mSt} {Φ Ψ Χ : Int32 → mSt → Prop} (hX : ∀ r g1, Φ r g1 → Ψ r g1 → Χ r g1) (hA : wp_kjoined Z i0 p1 g Φ) (hB : wp_kjoined Z i0 p1 g Ψ) : wp_kjoined Z i0 p1 g Χ := by
  unfold wp_kjoined at hA hB ⊢
  repeat' first
    | with_reducible exact trivial
    | with_reducible exact hX _ _ hA hB
    | with_reducible exact ⟨hA, hB⟩
    | with_reducible exact hA
    | with_reducible refine wc_kisJoined (fun _ _ hA hB => ?_) hA hB
    | with_reducible refine wc_klget (fun _ _ hA hB => ?_) hA hB
    | with_reducible refine wc_klsize (fun _ _ hA hB => ?_) hA hB
    | with_reducible refine wex1 (fun P Q hA hB => ?_) hA hB
    | with_reducible refine wex2 (fun P Q hA hB => ?_) hA hB
    | with_reducible refine wand (fun hA hB => ?_) (fun hA hB => ?_) hA hB
    | with_reducible refine wall (fun x hA hB => ?_) hA hB
    | with_reducible refine wimp (fun hA hB => ?_) hA hB

set_option maxHeartbeats 4000000 in
set_option maxRecDepth 100000 in
theorem wt_kactive {Z : cZ} {i0 : Nat} {p1 : Int32} {g : mSt} {Φ : Int32 → mSt → Prop} (h : ∀ r g1, Φ r g1) : wp_kactive Z i0 p1 g Φ := by
  unfold wp_kactive
  repeat' first
    | with_reducible exact trivial
    | with_reducible exact h _ _
    | refine ⟨fun _ => True, ?_⟩
    | refine ⟨fun _ _ => True, ?_⟩
    | with_reducible refine And.intro ?_ ?_
    | intro _

set_option maxHeartbeats 4000000 in
set_option maxRecDepth 100000 in
theorem wc_kactive {Z : cZ} {i0 : Nat} {p1 : Int32} {g : mSt} {Φ Ψ Χ : Int32 → mSt → Prop} (hX : ∀ r g1, Φ r g1 → Ψ r g1 → Χ r g1) (hA : wp_kactive Z i0 p1 g Φ) (hB : wp_kactive Z i0 p1 g Ψ) : wp_kactive Z i0 p1 g Χ := by
  unfold wp_kactive at hA hB ⊢
  repeat' first
    | with_reducible exact trivial
    | with_reducible exact hX _ _ hA hB
    | with_reducible exact ⟨hA, hB⟩
    | with_reducible exact hA
    | with_reducible refine wex1 (fun P Q hA hB => ?_) hA hB
    | with_reducible refine wex2 (fun P Q hA hB => ?_) hA hB
    | with_reducible refine wand (fun hA hB => ?_) (fun hA hB => ?_) hA hB
    | with_reducible refine wall (fun x hA hB => ?_) hA hB
    | with_reducible refine wimp (fun hA hB => ?_) hA hB

set_option maxHeartbeats 4000000 in
set_option maxRecDepth 100000 in
theorem wt_kcallAt {Z : cZ} {i0 : Nat} {p1 : Int32} {p2 : Int32} {g : mSt} {Φ : Int32 → mSt → Prop} (h : ∀ r g1, Φ r g1) : wp_kcallAt Z i0 p1 p2 g Φ := by
  unfold wp_kcallAt
  repeat' first
    | with_reducible exact trivial
    | with_reducible exact h _ _
    | with_reducible refine wt_kisEnd (fun _ _ => ?_)
    | with_reducible refine And.intro ?_ ?_
    | intro _

set_option maxHeartbeats 4000000 in
set_option maxRecDepth 100000 in
theorem wc_kcallAt {Z : cZ} {i0 : Nat} {p1 : Int32} {p2 : Int32} {g : mSt} {Φ Ψ Χ : Int32 → mSt → Prop} (hX : ∀ r g1, Φ r g1 → Ψ r g1 → Χ r g1) (hA : wp_kcallAt Z i0 p1 p2 g Φ) (hB : wp_kcallAt Z i0 p1 p2 g Ψ) : wp_kcallAt Z i0 p1 p2 g Χ := by
  unfold wp_kcallAt at hA hB ⊢
  repeat' first
    | with_reducible exact trivial
    | with_reducible exact hX _ _ hA hB
    | with_reducible exact ⟨hA, hB⟩
    | with_reducible exact hA
    | with_reducible refine wc_kisEnd (fun _ _ hA hB => ?_) hA hB
    | with_reducible refine wand (fun hA hB => ?_) (fun hA hB => ?_) hA hB
    | with_reducible refine wall (fun x hA hB => ?_) hA hB
    | with_reducible refine wimp (fun hA hB => ?_) hA hB

set_option maxHeartbeats 4000000 in
set_option maxRecDepth 100000 in
theorem wt_khang {Z : cZ} {i0 : Nat} {p1 : Int32} {p2 : Int32} {g : mSt} {Φ : Int32 → mSt → Prop} (h : ∀ r g1, Φ r g1) : wp_khang Z i0 p1 p2 g Φ := by
  unfold wp_khang
  repeat' first
    | with_reducible exact trivial
    | with_reducible exact h _ _
    | with_reducible refine wt_kcallAt (fun _ _ => ?_)
    | with_reducible refine wt_krelease (fun _ _ => ?_)
    | with_reducible refine And.intro ?_ ?_
    | intro _

set_option maxHeartbeats 4000000 in
set_option maxRecDepth 100000 in
theorem wc_khang {Z : cZ} {i0 : Nat} {p1 : Int32} {p2 : Int32} {g : mSt} {Φ Ψ Χ : Int32 → mSt → Prop} (hX : ∀ r g1, Φ r g1 → Ψ r g1 → Χ r g1) (hA : wp_khang Z i0 p1 p2 g Φ) (hB : wp_khang Z i0 p1 p2 g Ψ) : wp_khang Z i0 p1 p2 g Χ := by
  unfold wp_khang at hA hB ⊢
  repeat' first
    | with_reducible exact trivial
    | with_reducible exact hX _ _ hA hB
    | with_reducible exact ⟨hA, hB⟩
    | with_reducible exact hA
    | with_reducible refine wc_kcallAt (fun _ _ hA hB => ?_) hA hB
    | with_reducible refine wc_krelease (fun _ _ hA hB => ?_) hA hB
    | with_reducible refine wand (fun hA hB => ?_) (fun hA hB => ?_) hA hB
    | with_reducible refine wall (fun x hA hB => ?_) hA hB
    | with_reducible refine wimp (fun hA hB => ?_) hA hB

set_option maxHeartbeats 4000000 in
set_option maxRecDepth 100000 in
theorem wt_kpassOn {Z : cZ} {i0 : Nat} {q1 : Nat} {p2 : Int32} {q3 : Nat} {g : mSt} {Φ : Int32 → mSt → Prop} (h : ∀ r g1, Φ r g1) : wp_kpassOn Z i0 q1 p2 q3 g Φ := by
  unfold wp_kpassOn
  repeat' first
    | with_reducible exact trivial
    | with_reducible exact h _ _
    | with_reducible refine wt_kaddData_25 (fun _ _ => ?_)
    | with_reducible refine And.intro ?_ ?_
    | intro _

set_option maxHeartbeats 4000000 in
set_option maxRecDepth 100000 in
theorem wc_kpassOn {Z : cZ} {i0 : Nat} {q1 : Nat} {p2 : Int32} {q3 : Nat} {g : mSt} {Φ Ψ Χ : Int32 → mSt → Prop} (hX : ∀ r g1, Φ r g1 → Ψ r g1 → Χ r g1) (hA : wp_kpassOn Z i0 q1 p2 q3 g Φ) (hB : wp_kpassOn Z i0 q1 p2 q3 g Ψ) : wp_kpassOn Z i0 q1 p2 q3 g Χ := by
  unfold wp_kpassOn at hA hB ⊢
  repeat' first
    | with_reducible exact trivial
    | with_reducible exact hX _ _ hA hB
    | with_reducible exact ⟨hA, hB⟩
    | with_reducible exact hA
    | with_reducible refine wc_kaddData_25 (fun _ _ hA hB => ?_) hA hB
    | with_reducible refine wand (fun hA hB => ?_) (fun hA hB => ?_) hA hB
    | with_reducible refine wall (fun x hA hB => ?_) hA hB
    | with_reducible refine wimp (fun hA hB => ?_) hA hB

set_option maxHeartbeats 4000000 in
set_option maxRecDepth 100000 in
theorem wt_kqadd_38 {Z : cZ} {i0 : Nat} {p1 : Int32} {q2 : Nat} {p3 : Int32} {g : mSt} {Φ : Int32 → mSt → Prop} (h : ∀ r g1, Φ r g1) : wp_kqadd_38 Z i0 p1 q2 p3 g Φ := by
  unfold wp_kqadd_38
  repeat' first
    | with_reducible exact trivial
    | with_reducible exact h _ _
    | with_reducible refine And.intro ?_ ?_
    | intro _

set_option maxHeartbeats 4000000 in
set_option maxRecDepth 100000 in
theorem wc_kqadd_38 {Z : cZ} {i0 : Nat} {p1 : Int32} {q2 : Nat} {p3 : Int32} {g : mSt} {Φ Ψ Χ : Int32 → mSt → Prop} (hX : ∀ r g1, Φ r g1 → Ψ r g1 → Χ r g1) (hA : wp_kqadd_38 Z i0 p1 q2 p3 g Φ) (hB : wp_kqadd_38 Z i0 p1 q2 p3 g Ψ) : wp_kqadd_38 Z i0 p1 q2 p3 g Χ := by
  unfold wp_kqadd_38 at hA hB ⊢
  repeat' first
    | with_reducible exact trivial
    | with_reducible exact hX _ _ hA hB
    | with_reducible exact ⟨hA, hB⟩
    | with_reducible exact hA
    | with_reducible refine wand (fun hA hB => ?_) (fun hA hB => ?_) hA hB
    | with_reducible refine wall (fun x hA hB => ?_) hA hB
    | with_reducible refine wimp (fun hA hB => ?_) hA hB

set_option maxHeartbeats 4000000 in
set_option maxRecDepth 100000 in
theorem wt_kaddData_38 {Z : cZ} {i0 : Nat} {p1 : Int32} {q2 : Nat} {p3 : Int32} {g : mSt} {Φ : Int32 → mSt → Prop} (h : ∀ r g1, Φ r g1) : wp_kaddData_38 Z i0 p1 q2 p3 g Φ := by
  unfold wp_kaddData_38
  repeat' first
    | with_reducible exact trivial
    | with_reducible exact h _ _
    | with_reducible refine wt_kqadd_38 (fun _ _ => ?_)
    | refine ⟨fun _ => True, ?_⟩
    | with_reducible refine And.intro ?_ ?_
    | intro _

set_option maxHeartbeats 4000000 in
set_option maxRecDepth 100000 in
theorem wc_kaddData_38 {Z : cZ} {i0 : Nat} {p1 : Int32} {q2 : Nat} {p3 : Int32} {g : mSt} {Φ Ψ Χ : Int32 → mSt → Prop} (hX : ∀ r g1, Φ r g1 → Ψ r g1 → Χ r g1) (hA : wp_kaddData_38 Z i0 p1 q2 p3 g Φ) (hB : wp_kaddData_38 Z i0 p1 q2 p3 g Ψ) : wp_kaddData_38 Z i0 p1 q2 p3 g Χ := by
  unfold wp_kaddData_38 at hA hB ⊢
  repeat' first
    | with_reducible exact trivial
    | with_reducible exact hX _ _ hA hB
    | with_reducible exact ⟨hA, hB⟩
    | with_reducible exact hA
    | with_reducible refine wc_kqadd_38 (fun _ _ hA hB => ?_) hA hB
    | with_reducible refine wex1 (fun P Q hA hB => ?_) hA hB
    | with_reducible refine wand (fun hA hB => ?_) (fun hA hB => ?_) hA hB
    | with_reducible refine wall (fun x hA hB => ?_) hA hB
    | with_reducible refine wimp (fun hA hB => ?_) hA hB

set_option maxHeartbeats 4000000 in
set_option maxRecDepth 100000 in
theorem wt_kcsendCells {Z : cZ} {i0 : Nat} {q1 : Nat} {g : mSt} {Φ : Int32 → mSt → Prop} (h : ∀ r g1, Φ r g1) : wp_kcsendCells Z i0 q1 g Φ := by
  unfold wp_kcsendCells
  repeat' first
    | with_reducible exact trivial
    | with_reducible exact h _ _
    | with_reducible refine wt_kaddData_38 (fun _ _ => ?_)
    | refine ⟨fun _ => True, ?_⟩
    | refine ⟨fun _ _ => True, ?_⟩
    | with_reducible refine And.intro ?_ ?_
    | intro _

set_option maxHeartbeats 4000000 in
set_option maxRecDepth 100000 in
theorem wc_kcsendCells {Z : cZ} {i0 : Nat} {q1 : Nat} {g : mSt} {Φ Ψ Χ : Int32 → mSt → Prop} (hX : ∀ r g1, Φ r g1 → Ψ r g1 → Χ r g1) (hA : wp_kcsendCells Z i0 q1 g Φ) (hB : wp_kcsendCells Z i0 q1 g Ψ) : wp_kcsendCells Z i0 q1 g Χ := by
  unfold wp_kcsendCells at hA hB ⊢
  repeat' first
    | with_reducible exact trivial
    | with_reducible exact hX _ _ hA hB
    | with_reducible exact ⟨hA, hB⟩
    | with_reducible exact hA
    | with_reducible refine wc_kaddData_38 (fun _ _ hA hB => ?_) hA hB
    | with_reducible refine wex1 (fun P Q hA hB => ?_) hA hB
    | with_reducible refine wex2 (fun P Q hA hB => ?_) hA hB
    | with_reducible refine wand (fun hA hB => ?_) (fun hA hB => ?_) hA hB
    | with_reducible refine wall (fun x hA hB => ?_) hA hB
    | with_reducible refine wimp (fun hA hB => ?_) hA hB

set_option maxHeartbeats 4000000 in
set_option maxRecDepth 100000 in
theorem wt_kesendCells {Z : cZ} {i0 : Nat} {q1 : Nat} {g : mSt} {Φ : Int32 → mSt → Prop} (h : ∀ r g1, Φ r g1) : wp_kesendCells Z i0 q1 g Φ := by
  unfold wp_kesendCells
  repeat' first
    | with_reducible exact trivial
    | with_reducible exact h _ _
    | with_reducible refine wt_kcsendCells (fun _ _ => ?_)
    | refine ⟨fun _ => True, ?_⟩
    | refine ⟨fun _ _ => True, ?_⟩
    | with_reducible refine And.intro ?_ ?_
    | intro _

set_option maxHeartbeats 4000000 in
set_option maxRecDepth 100000 in
theorem wc_kesendCells {Z : cZ} {i0 : Nat} {q1 : Nat} {g : mSt} {Φ Ψ Χ : Int32 → mSt → Prop} (hX : ∀ r g1, Φ r g1 → Ψ r g1 → Χ r g1) (hA : wp_kesendCells Z i0 q1 g Φ) (hB : wp_kesendCells Z i0 q1 g Ψ) : wp_kesendCells Z i0 q1 g Χ := by
  unfold wp_kesendCells at hA hB ⊢
  repeat' first
    | with_reducible exact trivial
    | with_reducible exact hX _ _ hA hB
    | with_reducible exact ⟨hA, hB⟩
    | with_reducible exact hA
    | with_reducible refine wc_kcsendCells (fun _ _ hA hB => ?_) hA hB
    | with_reducible refine wex1 (fun P Q hA hB => ?_) hA hB
    | with_reducible refine wex2 (fun P Q hA hB => ?_) hA hB
    | with_reducible refine wand (fun hA hB => ?_) (fun hA hB => ?_) hA hB
    | with_reducible refine wall (fun x hA hB => ?_) hA hB
    | with_reducible refine wimp (fun hA hB => ?_) hA hB

