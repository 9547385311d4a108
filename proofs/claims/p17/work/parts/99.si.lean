/-! a tick of a link at the switch: clean, or any -/
theorem k_linkC {TC TS B f i0 : Nat} {Z0 : cZ} {p1 tI : Int32} {l : List (Int32 × List Int32)} {g0 : mSt} {Φ : Int32 → cZ → mSt → Prop} (hf : f < Z0.n) (hp1 : p1.toInt = ((2 * f : Nat) : Int)) (ht : 0 ≤ tI.toInt ∧ tI.toInt ≤ 1000000000) (h362 : g0 362 i0 = tI) (hB : B + 265 ≤ 1000000000) (hl : ∀ c ∈ l, gcell c ∧ c.2.length = 48) (hw : ∀ c, c < 4 → wcell g0 (2 * f) c (cAt l c)) (h101 : (g0 101 (2 * f)).toInt = 212) (hR : RB B g0 (2 * f)) (hA : CI Z0.n (Z0.w 2) g0 ∧ lnI tI.toInt g0 (Z0.n + f) ∧ OH g0 (Z0.n + f)) (hroom : ∀ (Z : cZ) (g : mSt), cJ Z g → Z.n = Z0.n → rS Z0 g0 Z g → Z.w 3 = Z0.w 3 → XI Z0.n tI.toInt Z g ≤ XI Z0.n tI.toInt Z0 g0 + 400 → CI Z0.n (Z.w 2) g → RM Z g TC TS) (h : ∀ (Z : cZ) (g : mSt) (w : Nat), w ≤ 4 → AR Z0.n f tI.toInt Z0 g0 (¬ GP g0 (2 * f) ∨ ¬ AG g0 (2 * f) ∨ some false ∈ lt4 l) (¬ GP g0 (2 * f) ∨ (AG g0 (2 * f) ∧ some true ∈ lt4 l)) w 0 0 Z g → RB (B + 265) g (2 * f) → GP g (2 * f) → (GP g0 (2 * f) → AG g0 (2 * f) → AG g (2 * f)) → Φ 0 Z g) : wp_karrive TC TS Z0 i0 p1 (2 * f) g0 Φ := by
  obtain ⟨C, hC, hCt⟩ : ∃ C, gC C ∧ (GP g0 (2 * f) → (g0 225 (2 * f)).toInt ≠ 0 → tiW C g0 (2 * f) (53 - (g0 233 (2 * f)).toInt.toNat)) := by
    by_cases z : GP g0 (2 * f)
    · obtain ⟨C, a, b⟩ := z
      exact ⟨C, a, fun _ => b⟩
    · exact ⟨idC, idC_good, fun w => absurd w z⟩
  have hE := cl_E hl hw hC
  have hrv := RV_start (al := GP g0 (2 * f) ∧ AG g0 (2 * f)) (na := ¬ AG g0 (2 * f)) (cw := True) (gp := GP g0 (2 * f)) (onW := 212) hR hCt (fun z => z.2) id h101
  refine k_arr (al := GP g0 (2 * f) ∧ AG g0 (2 * f)) (na := ¬ AG g0 (2 * f)) (bK := ¬ GP g0 (2 * f) ∨ ¬ AG g0 (2 * f) ∨ some false ∈ lt4 l) (bS := ¬ GP g0 (2 * f) ∨ (AG g0 (2 * f) ∧ some true ∈ lt4 l)) (onW := 212) (fun _ => ⟨fun s hs => ⟨trivial, Or.inl hs⟩, hE⟩) hf hp1 ht h362 hB (Nat.le_refl _) (fun z hz => E_oct hE z hz) ⟨⟨rfl, Nat.le_refl _, rfl, rS.rf rfl rfl⟩, ⟨hA.1, hA.2.1, hA.2.2, NC.rf⟩, ⟨0, 0, ⟨Nat.le_refl _, Nat.le_refl _⟩, ⟨fun z => absurd z (Nat.lt_irrefl 0), fun z => absurd z (Nat.lt_irrefl 0)⟩, by omega, by omega⟩, Nat.le_refl _, FA.rf⟩ hrv (fun s hk => ?_) (fun s g g1 r hk hs hal hwn hce hr0 hpl su => Or.inr ⟨?_, (cl_S hl hw hC hs hwn hce hr0 hpl).1 su⟩) (fun s g g1 r hk hs hal hwn hce hr0 hpl ku => ?_) hroom (fun Z g w hw4 ar rv => ?_)
  · have ng : ¬ GP g0 (2 * f) := fun z => hk ⟨trivial, Or.inr z⟩
    exact ⟨Or.inl ng, Or.inl ng⟩
  · by_cases z2 : AG g0 (2 * f)
    · exact z2
    · exact absurd (win_S (cl_E hl hw hC) hs hwn hce hr0 hpl su).1 (hal.2 z2)
  · by_cases z1 : GP g0 (2 * f)
    · by_cases z2 : AG g0 (2 * f)
      · rcases (cl_S hl hw hC hs hwn hce hr0 hpl).2 ku with z | z
        · exact absurd (hal.1 ⟨z1, z2⟩) z
        · exact Or.inr (Or.inr z)
      · exact Or.inr (Or.inl z2)
    · exact Or.inl z1
  · obtain ⟨e1, e2, e3⟩ := RV_end rv
    exact h Z g w hw4 ar e1 (e2 (fun s hs => ⟨trivial, Or.inl hs⟩) (hE 4 (by omega))) (fun a b => e3 ⟨a, b⟩)
theorem k_linkD {TC TS B f i0 onW : Nat} {Z0 : cZ} {p1 tI : Int32} {g0 : mSt} {Φ : Int32 → cZ → mSt → Prop} (hf : f < Z0.n) (hp1 : p1.toInt = ((2 * f : Nat) : Int)) (ht : 0 ≤ tI.toInt ∧ tI.toInt ≤ 1000000000) (h362 : g0 362 i0 = tI) (hB : B + 265 ≤ 1000000000) (hW : onW ≤ 212) (ho : ∀ x, x < onW → oct (g0 608 (8192 * (2 * f) + x))) (h101 : (g0 101 (2 * f)).toInt = (onW : Int)) (hR : RB B g0 (2 * f)) (hA : CI Z0.n (Z0.w 2) g0 ∧ lnI tI.toInt g0 (Z0.n + f) ∧ OH g0 (Z0.n + f)) (hroom : ∀ (Z : cZ) (g : mSt), cJ Z g → Z.n = Z0.n → rS Z0 g0 Z g → Z.w 3 = Z0.w 3 → XI Z0.n tI.toInt Z g ≤ XI Z0.n tI.toInt Z0 g0 + 400 → CI Z0.n (Z.w 2) g → RM Z g TC TS) (h : ∀ (Z : cZ) (g : mSt) (w : Nat), w ≤ 4 → AR Z0.n f tI.toInt Z0 g0 True True w 0 0 Z g → RB (B + 265) g (2 * f) → Φ 0 Z g) : wp_karrive TC TS Z0 i0 p1 (2 * f) g0 Φ := by
  have hrv := RV_start (al := False) (na := False) (cw := False) (gp := False) (C := fun _ => 0) (onW := onW) hR (fun z => z.elim) (fun z => z.elim) (fun z => z.elim) h101
  refine k_arr (al := False) (na := False) (bK := True) (bS := True) (onW := onW) (fun z => z.elim) hf hp1 ht h362 hB hW (fun z hz => ?_) ⟨⟨rfl, Nat.le_refl _, rfl, rS.rf rfl rfl⟩, ⟨hA.1, hA.2.1, hA.2.2, NC.rf⟩, ⟨0, 0, ⟨Nat.le_refl _, Nat.le_refl _⟩, ⟨fun z => absurd z (Nat.lt_irrefl 0), fun z => absurd z (Nat.lt_irrefl 0)⟩, by omega, by omega⟩, Nat.le_refl _, FA.rf⟩ hrv (fun s _ => ⟨trivial, trivial⟩) (fun s g g1 r hk hs hal hwn hce hr0 hpl su => trivial) (fun s g g1 r hk hs hal hwn hce hr0 hpl ku => trivial) hroom (fun Z g w hw4 ar rv => ?_)
  · unfold mkE
    split
    · show oct (0 : Int32)
      exact ⟨by decide, by decide⟩
    · exact ho _ (by omega)
  · obtain ⟨⟨⟨⟨t1, t2, t3⟩, t4, _⟩, _⟩, ⟨o1, o2⟩, _⟩ := rv
    exact h Z g w hw4 ar ⟨⟨t1, by omega, t3⟩, t4, o1, o2⟩
