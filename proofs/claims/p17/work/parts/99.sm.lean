/-! an end: how far its numbers can have come -/
def ro (g : mSt) (i : Nat) : Nat := (g 170 i).toInt.toNat + occ g i
theorem ro_unit {g g1 : mSt} {i : Nat} (h : aS g g1 i ∨ ∃ n, aD g g1 i n) : ro g1 i ≤ ro g i + 1 := by
  unfold ro
  rcases h with z | ⟨n, z⟩
  · have := (occ_aS z).1
    rcases z.2 with w | w
    · rw [w]
      omega
    · rw [w]
      show (0 : Int).toNat + _ ≤ _
      have : (0 : Int).toNat = 0 := rfl
      omega
  · have := (occ_aD z).1
    rw [z.1]
    omega
theorem e_unitR {Z : cZ} {N e q1 : Nat} {p2 p3 : Int32} {g g0 : mSt} {Ψ : Int32 → mSt → Prop} (he : e < Z.n) (hl : li g0 e) (hr : (g 170 e).toInt + 8 < 16777216) (hs : eSt N e g0 g) (h : ∀ r g1, eSt N e g0 g1 → ro g1 e ≤ ro g e + 1 → Ψ r g1) : wp_kunitCame Z e q1 p2 p3 g (fun r g1 => po_kunitCame Z e q1 p2 p3 g r g1 → Ψ r g1) :=
  wc_kunitCame (Φ := fun r g1 => po_kunitCame Z e q1 p2 p3 g r g1 → eSt N e g0 g1) (Ψ := fun _ g1 => ro g1 e ≤ ro g e + 1) (fun r g1 a b hpo => h r g1 (a hpo) b) (e_unit he hl hr hs (fun _ _ s => s)) (a_unit (fun _ g1 a => ro_unit (a.imp id (fun ⟨n, _, z⟩ => ⟨n, z⟩))))
theorem e_takeR {Z : cZ} {N e q1 : Nat} {g g0 : mSt} {Ψ : Int32 → mSt → Prop} (h170 : 0 ≤ (g 170 e).toInt) (hs : eSt N e g0 g) (h : ∀ r g1, eSt N e g0 g1 → ro g1 e ≤ ro g e → Ψ r g1) : wp_ktakeNext Z e q1 g (fun r g1 => po_ktakeNext Z e q1 g r g1 → Ψ r g1) :=
  wc_ktakeNext (Φ := fun r g1 => po_ktakeNext Z e q1 g r g1 → eSt N e g0 g1) (Ψ := fun _ g1 => ro g1 e ≤ ro g e) (fun r g1 a b hpo => h r g1 (a hpo) b) (e_takeNext hs (fun _ _ s => s)) (a_take (Nat.le_refl _) (fun r g1 hr ht h1 => by
    have := (occ_take hr ht).1
    unfold ro
    rw [h1]
    omega))
