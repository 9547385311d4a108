/-! damage of the class -/
set_option maxHeartbeats 4000000 in
set_option maxRecDepth 100000 in
theorem wc_kisDirection {Z : cZ} {i0 : Nat} {p1 : Int32} {g : mSt} {Φ Ψ Χ : Int32 → mSt → Prop} (hX : ∀ r g1, Φ r g1 → Ψ r g1 → Χ r g1) (hA : wp_kisDirection Z i0 p1 g Φ) (hB : wp_kisDirection Z i0 p1 g Ψ) : wp_kisDirection Z i0 p1 g Χ := by
  unfold wp_kisDirection at hA hB ⊢
  repeat' first
    | with_reducible exact trivial
    | with_reducible exact hX _ _ hA hB
    | with_reducible exact ⟨hA, hB⟩
    | with_reducible exact hA
    | with_reducible refine wand (fun hA hB => ?_) (fun hA hB => ?_) hA hB
    | with_reducible refine wall (fun x hA hB => ?_) hA hB
    | with_reducible refine wimp (fun hA hB => ?_) hA hB
set_option maxHeartbeats 4000000 in
set_option maxRecDepth 100000 in
theorem wc_kaddDamage {Z : cZ} {i0 : Nat} {p1 : Int32} {p2 : Int32} {p3 : Int32} {p4 : Int32} {g : mSt} {Φ Ψ Χ : Int32 → mSt → Prop} (hX : ∀ r g1, Φ r g1 → Ψ r g1 → Χ r g1) (hA : wp_kaddDamage Z i0 p1 p2 p3 p4 g Φ) (hB : wp_kaddDamage Z i0 p1 p2 p3 p4 g Ψ) : wp_kaddDamage Z i0 p1 p2 p3 p4 g Χ := by
  unfold wp_kaddDamage at hA hB ⊢
  repeat' first
    | with_reducible exact trivial
    | with_reducible exact hX _ _ hA hB
    | with_reducible exact ⟨hA, hB⟩
    | with_reducible exact hA
    | with_reducible refine wand (fun hA hB => ?_) (fun hA hB => ?_) hA hB
    | with_reducible refine wall (fun x hA hB => ?_) hA hB
    | with_reducible refine wimp (fun hA hB => ?_) hA hB
set_option maxHeartbeats 4000000 in
set_option maxRecDepth 100000 in
theorem wc_kdamage {Z : cZ} {i0 : Nat} {p1 : Int32} {p2 : Int32} {p3 : Int32} {p4 : Int32} {p5 : Int32} {g : mSt} {Φ Ψ Χ : Int32 → mSt → Prop} (hX : ∀ r g1, Φ r g1 → Ψ r g1 → Χ r g1) (hA : wp_kdamage Z i0 p1 p2 p3 p4 p5 g Φ) (hB : wp_kdamage Z i0 p1 p2 p3 p4 p5 g Ψ) : wp_kdamage Z i0 p1 p2 p3 p4 p5 g Χ := by
  unfold wp_kdamage at hA hB ⊢
  repeat' first
    | with_reducible exact trivial
    | with_reducible exact hX _ _ hA hB
    | with_reducible exact ⟨hA, hB⟩
    | with_reducible exact hA
    | with_reducible refine wc_kaddDamage (fun _ _ hA hB => ?_) hA hB
    | with_reducible refine wc_kisDirection (fun _ _ hA hB => ?_) hA hB
    | with_reducible refine wand (fun hA hB => ?_) (fun hA hB => ?_) hA hB
    | with_reducible refine wall (fun x hA hB => ?_) hA hB
    | with_reducible refine wimp (fun hA hB => ?_) hA hB
/-- the class's damage exactly -/
theorem cDm_len {g : mSt} {q : Nat} : (cDm g q).length = min 8 (g 106 q).toInt.toNat := by
  unfold cDm cVw
  rw [List.length_map, List.length_map, List.length_range]
theorem cD_bad {n : Int} {p1 p2 p3 p4 p5 : Int32} {g : mSt} (h : badD n p1 p2 p3 p4 p5) : dmA n p1 p2 p3 p4 p5 (cDm g) (cDm g) (-1) := ⟨fun _ => ⟨rfl, fun _ => rfl⟩, fun z => absurd h z⟩
theorem s_addDm {Z : cZ} {n : Int} {p1 p2 p3 p4 p5 : Int32} {g : mSt} {Φ : Int32 → mSt → Prop} (hb : ¬ badD n p1 p2 p3 p4 p5) (h : ∀ r g1, dmA n p1 p2 p3 p4 p5 (cDm g) (cDm g1) r → Φ r g1) : wp_kaddDamage Z p1.toInt.toNat p2 p3 p4 p5 g Φ := by
  intro v1 e1 r1
  have r1 : 0 ≤ v1.toInt ∧ v1.toInt ≤ 8 := r1
  have len : (cDm g p1.toInt.toNat).length = v1.toInt.toNat := by
    rw [cDm_len, ← e1]
    omega
  refine ⟨fun c g6 e6 v9 e9 _ v10 e10 _ g11 e11 g14 e14 g18 e18 v20 _ r20 t20 g22 e22 => h v20 g22 ⟨fun z => absurd z hb, fun _ => ⟨fun z => by omega, fun _ => ⟨by omega, ?_, fun q hq => ?_⟩⟩⟩, fun c => h _ _ ⟨fun z => absurd z hb, fun _ => ⟨fun _ => ⟨rfl, fun _ => rfl⟩, fun z => by omega⟩⟩⟩
  · have a106 : g22 106 p1.toInt.toNat = v20 := by rw [e22, up2_i]
    have a107 : g22 107 = g 107 := by rw [e22, up2_of (by decide), e18, up2_of (by decide), e14, up2_of (by decide), e11, up2_of (by decide), e6, up2_of (by decide)]
    have a672 : g22 672 = g11 672 := by rw [e22, up2_of (by decide), e18, up2_of (by decide), e14, up2_of (by decide)]
    have b672 : g6 672 = g 672 := by rw [e6, up2_of (by decide)]
    have b9 : v9 = g 107 p1.toInt.toNat := by rw [e9, e6, up2_o (by decide)]
    unfold cDm cVw
    rw [a106, a107, a672, ← e1, show min 8 v20.toInt.toNat = v1.toInt.toNat + 1 by omega, show min 8 v1.toInt.toNat = v1.toInt.toNat by omega, List.range_succ, List.map_append, List.map_append]
    refine apL (congrArg (List.map fun v => v - g 107 p1.toInt.toNat) (List.map_congr_left (fun i hi => ?_))) ?_
    · have := List.mem_range.mp hi
      rw [e11, nat_cl, up2_n (by omega), b672]
    · show [g11 672 (8192 * p1.toInt.toNat + v1.toInt.toNat) - g 107 p1.toInt.toNat] = [p3]
      rw [e11, nat_cl, up2_i, e10, b9, Int32.add_comm, Int32.add_sub_cancel]
  · refine cDm_eq ?_ (fun i hi => ?_) ?_
    · rw [e22, up2_n hq, e18, up2_o (by decide), e14, up2_o (by decide), e11, up2_o (by decide), e6, up2_o (by decide)]
    · have hv : v1.toInt.toNat < 8 := by omega
      rw [e22, up2_o (by decide), e18, up2_o (by decide), e14, up2_o (by decide), e11, nat_cl, up2_n (by omega), e6, up2_o (by decide)]
    · rw [e22, up2_o (by decide), e18, up2_o (by decide), e14, up2_o (by decide), e11, up2_o (by decide), e6, up2_o (by decide)]
theorem s_damD {Z : cZ} {p1 p2 p3 p4 p5 : Int32} {g : mSt} {Φ : Int32 → mSt → Prop} (h : ∀ r g1, dmA (Z.n : Int) p1 p2 p3 p4 p5 (cDm g) (cDm g1) r → Φ r g1) : wp_kdamage Z 0 p1 p2 p3 p4 p5 g Φ := by
  have k0 : badD (Z.n : Int) p1 p2 p3 p4 p5 → Φ (-1) g := fun z => h _ _ (cD_bad z)
  have kb : ¬ (0 ≤ p1.toInt ∧ p1.toInt < 2 * (Z.n : Int)) → Φ (-1) g := fun z => k0 (Or.inl z)
  have kg : ∀ b : Int32, 0 ≤ p1.toInt → p1.toInt < 2 * (Z.n : Int) → b.toInt ≠ 0 → ((b.toInt = 0) → Φ (-1 : Int32) g) ∧ ((b.toInt ≠ 0) → ((p2.toInt < 0) → Φ (-1 : Int32) g) ∧ ((0 ≤ p2.toInt) → ((2 < p2.toInt) → Φ (-1 : Int32) g) ∧ ((p2.toInt ≤ 2) → ((p3.toInt < 0) → Φ (-1 : Int32) g) ∧ ((0 ≤ p3.toInt) → ((p3.toInt ≤ 999) → ((p2.toInt ≠ 1) → wp_kaddDamage Z p1.toInt.toNat p2 p3 p4 p5 g (fun (v25 : Int32) (g24 : mSt) => po_kaddDamage Z p1.toInt.toNat p2 p3 p4 p5 g v25 g24 → Φ v25 g24)) ∧ ((p2.toInt = 1) → ((p4.toInt < 0) → Φ (-1 : Int32) g) ∧ ((0 ≤ p4.toInt) → ((53 ≤ p4.toInt) → Φ (-1 : Int32) g) ∧ ((p4.toInt < 53) → ((p5.toInt < 1) → Φ (-1 : Int32) g) ∧ ((1 ≤ p5.toInt) → ((p5.toInt ≤ 255) → wp_kaddDamage Z p1.toInt.toNat p2 p3 p4 p5 g (fun (v42 : Int32) (g41 : mSt) => po_kaddDamage Z p1.toInt.toNat p2 p3 p4 p5 g v42 g41 → Φ v42 g41)) ∧ ((255 < p5.toInt) → Φ (-1 : Int32) g)))))) ∧ ((999 < p3.toInt) → Φ (-1 : Int32) g))))) := fun b h0 h1 hb => by
    refine ⟨fun z => absurd z hb, fun _ => ⟨fun _ => k0 ?_, fun _ => ⟨fun _ => k0 ?_, fun _ => ⟨fun _ => k0 ?_, fun _ => ⟨fun _ => ⟨fun n1 => s_addDm (n := (Z.n : Int)) ?_ (fun r g1 d _ => h r g1 d), fun _ => ⟨fun _ => k0 ?_, fun _ => ⟨fun _ => k0 ?_, fun _ => ⟨fun _ => k0 ?_, fun c5 => ⟨fun c255 => s_addDm (n := (Z.n : Int)) ?_ (fun r g1 d _ => h r g1 d), fun _ => k0 ?_⟩⟩⟩⟩⟩, fun _ => k0 ?_⟩⟩⟩⟩⟩ <;> (unfold badD; omega)
  refine ⟨fun c _ => ⟨fun _ => kb (by omega), fun z => absurd rfl z⟩, fun c v4 t4 _ => ⟨fun c4 _ => ⟨fun _ => kb (by omega), fun z => absurd rfl z⟩, fun c4 _ => kg 1 c (by omega) (by decide)⟩⟩
/-- damage: what is counted, and the damages themselves -/
theorem i_damageD {K : Nat} {Z : cZ} {p1 p2 p3 p4 p5 : Int32} {g : mSt} (h : MI K Z g) (hJ : cJ Z g) : wp_kdamage Z 0 p1 p2 p3 p4 p5 g (fun r g1 => MI (K + 1) Z g1 ∧ dmA (Z.n : Int) p1 p2 p3 p4 p5 (cDm g) (cDm g1) r) :=
  wc_kdamage (Φ := fun _ g1 => MI (K + 1) Z g1) (Ψ := fun r g1 => dmA (Z.n : Int) p1 p2 p3 p4 p5 (cDm g) (cDm g1) r) (fun _ _ a b => ⟨a, b⟩) (i_damage h hJ (fun _ _ h => h)) (s_damD (fun _ _ h => h))
/-! both sides keep the same damages -/
def dmR (Z : cZ) (nn : Int) (g gm : mSt) : Prop := (Z.n : Int) = nn ∧ ∀ q, cDm g q = rDm gm q
theorem dmR.fr {Z Z1 : cZ} {nn : Int} {g g1 gm gm1 : mSt} (h : dmR Z nn g gm) (hz : Z1.n = Z.n) (a : ∀ q, cDm g1 q = cDm g q) (b : ∀ q, rDm gm1 q = rDm gm q) : dmR Z1 nn g1 gm1 := ⟨by rw [hz]; exact h.1, fun q => by rw [a q, b q]; exact h.2 q⟩
theorem dmR.tk {Z Z1 : cZ} {nn : Int} {g g1 gm gm1 : mSt} {p1 : Int32} (h : dmR Z nn g gm) (hz : Z1.n = Z.n) (a : tkD (Z.n : Int) p1 (cDm g) (cDm g1)) (b : tkD nn p1 (rDm gm) (rDm gm1)) : dmR Z1 nn g1 gm1 := by
  rw [h.1] at a
  exact ⟨by rw [hz]; exact h.1, tkD_eq a b h.2⟩
theorem dmR.dm {Z : cZ} {nn : Int} {g g1 gm gm1 : mSt} {p1 p2 p3 p4 p5 r r2 : Int32} (h : dmR Z nn g gm) (a : dmA (Z.n : Int) p1 p2 p3 p4 p5 (cDm g) (cDm g1) r) (b : dmA nn p1 p2 p3 p4 p5 (rDm gm) (rDm gm1) r2) : r = r2 ∧ dmR Z nn g1 gm1 := by
  rw [h.1] at a
  have e := dmA_eq a b h.2
  exact ⟨e.1, h.1, e.2⟩
theorem cDm_nil {g : mSt} {q : Nat} (h : g 106 q = 0) : cDm g q = [] := by
  unfold cDm cVw
  rw [h, show min 8 (0 : Int32).toInt.toNat = 0 by decide]
  rfl
theorem rDm_nil {g : mSt} {q : Nat} (h : g 16 q = 0) : rDm g q = [] := by
  unfold rDm
  rw [h, show min 8 (0 : Int32).toInt.toNat = 0 by decide]
  rfl
