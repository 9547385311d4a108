/-! an end's cells of data come into the queue -/
theorem s_addD {Z : cZ} {q q2 : Nat} {p1 p3 : Int32} {g : mSt} {Φ : Int32 → mSt → Prop} (hp : 0 ≤ p3.toInt) (h : ∀ g1, qSz g1 (2 * q + 1) ≤ qSz g (2 * q + 1) + 1 → (∀ x, g1 544 x = g 544 x ∨ ∃ y, g1 544 x = g 1216 y) → Φ 0 g1) : wp_kaddData_38 Z q p1 q2 p3 g Φ := by
  have key : ∀ (v3 : Int32) (g2 : mSt), qSz g2 (2 * q + 1) ≤ qSz g (2 * q + 1) + 1 → (∀ x, g2 544 x = g 544 x ∨ ∃ y, g2 544 x = g 1216 y) → ∃ P4 : mSt → Prop, (∀ (g4 : mSt), mFr [108] g2 g4 → mFi (im_kaddData_38 Z q p1 q2 p3) g2 g4 → P4 g4 → Φ 0 g4) ∧ ((v3.toInt ≠ 0) → P4 g2) ∧ ((v3.toInt = 0) → ∀ (v8 : Int32), v8 = g2 108 q → rg (-2147483648) (2147483647) v8 → ∀ (v9 : Int32), v9 = v8 + (1 : Int32) → rg (-2147483648) (2147483647) v9 → ∀ (g10 : mSt), g10 = up2 g2 108 q v9 → P4 g10) := fun v3 g2 a b => ⟨fun _ => True, fun g4 k4 _ _ => h g4 (by unfold qSz at a ⊢; rw [k4 67 (by decide)]; exact a) (by rw [k4 544 (by decide)]; exact b), fun _ => trivial, fun _ _ _ _ _ _ _ _ _ => trivial⟩
  intro v1 e1 r1
  have r1 : 0 ≤ v1.toInt ∧ v1.toInt ≤ 40 := r1
  refine ⟨fun _ _ => key 0 g (Nat.le_succ _) (fun x => Or.inl rfl), fun c => ⟨fun z => by exfalso; omega, fun _ v6 _ _ _ => ⟨fun _ v11 _ _ v13 _ _ _ v14 _ _ _ g17 e17 v19 _ _ _ g21 e21 v23 _ _ t23 g25 e25 _ => key 1 g25 ?_ (fun x => ?_), fun _ _ => key 0 g (Nat.le_succ _) (fun x => Or.inl rfl)⟩⟩⟩
  · unfold qSz
    rw [e25, up2_i, ← e1]
    omega
  · have e17' : g17 1216 = g 1216 ∧ g17 544 = g 544 := ⟨by rw [e17, up2_of (by decide)], by rw [e17, up2_of (by decide)]⟩
    rw [e25, up2_o (by decide), e21]
    by_cases w : 8192 * (2 * q + 1) + v19.toNatClampNeg ≤ x ∧ x < 8192 * (2 * q + 1) + v19.toNatClampNeg + (48 : Int32).toNatClampNeg
    · rw [cCpy_y w, e17'.1]
      exact Or.inr ⟨_, rfl⟩
    · rw [cCpy_x w, e17'.2]
      exact Or.inl rfl
def ocD (g : mSt) (q : Nat) : Prop := ∀ x, x / 8192 = 2 * q + 1 → oct (g 544 x)
theorem s_csend {Z : cZ} {c q : Nat} {g : mSt} {Φ : Int32 → mSt → Prop} (hO : ∀ x, oct (g 1216 x)) (h : ∀ g1, dW g1 c + qSz g1 (2 * q + 1) ≤ dW g c + qSz g (2 * q + 1) → (ocD g q → ocD g1 q) → Φ 0 g1) : wp_kcsendCells Z c q g Φ := by
  refine ⟨fun _ g2 => dW g2 c + qSz g2 (2 * q + 1) ≤ dW g c + qSz g (2 * q + 1) ∧ (ocD g q → ocD g2 q), fun a g2 k2 _ _ _ r2 v3 _ _ => ⟨fun g4 => dW g4 c + qSz g4 (2 * q + 1) ≤ dW g c + qSz g (2 * q + 1) ∧ (ocD g q → ocD g4 q), fun g4 _ _ _ r4 => h g4 r4.1 r4.2, fun _ => r2, fun _ v8 e8 r8 => ⟨fun _ => r2, fun c8 v12 _ => ⟨fun _ => r2, fun _ v18 _ => ⟨fun _ => r2, fun _ v24 e24 r24 v25 _ _ t25 v30 _ _ v31 _ _ => ⟨fun _ v35 _ _ v36 _ _ v38 _ _ v45 _ _ t45 => s_addD ?_ (fun g47 a47 b47 hpo47 g49 e49 v52 _ _ _ => ?_), fun _ v53 _ _ v54 _ _ v56 _ _ v63 _ _ t63 => s_addD ?_ (fun g65 a65 b65 hpo65 g67 e67 g69 e69 v72 _ _ _ v74 _ _ _ g76 e76 v78 _ _ t78 g80 e80 v81 _ _ _ => ?_)⟩⟩⟩⟩⟩, ⟨Nat.le_refl _, id⟩⟩
  · have : 0 ≤ v24.toInt ∧ v24.toInt ≤ 4 := r24
    omega
  · have r24 : 0 ≤ v24.toInt ∧ v24.toInt ≤ 4 := r24
    have r8 : 0 ≤ v8.toInt ∧ v8.toInt ≤ 4 := r8
    have f48 : g49 48 c = v8 := by rw [e49, up2_o (by decide), hpo47.2.1 48 (by decide), ← e8]
    have f49 : g49 49 c = v25 := by rw [e49, up2_i]
    have q49 : qSz g49 (2 * q + 1) = qSz g47 (2 * q + 1) := by unfold qSz; rw [e49, up2_o (by decide)]
    refine ⟨?_, fun z x hx => ?_⟩
    · have w1 : dW g49 c + 1 ≤ dW g2 c := by
        unfold dW
        rw [f48, f49, ← e8, ← e24]
        rw [if_neg (by omega), if_neg (by omega)]
        omega
      have := r2.1
      omega
    · rw [e49, up2_o (by decide)]
      rcases b47 x with w | ⟨y, w⟩
      · rw [w]
        exact r2.2 z x hx
      · rw [w, k2 1216 (by decide)]
        exact hO y
  · have : 0 ≤ v24.toInt ∧ v24.toInt ≤ 4 := r24
    omega
  · have r24 : 0 ≤ v24.toInt ∧ v24.toInt ≤ 4 := r24
    have r8 : 0 ≤ v8.toInt ∧ v8.toInt ≤ 4 := r8
    have f48 : g80 48 c = v78 := by rw [e80, up2_i]
    have f49 : g80 49 c = 0 := by rw [e80, up2_o (by decide), e76, up2_o (by decide), e69, up2_i]
    have r67 : ∀ j, j ≠ 47 → j ≠ 48 → j ≠ 49 → g80 j = g65 j := fun j h1 h2 h3 => by rw [e80, up2_of h2, e76, up2_of h1, e69, up2_of h3, e67, up2_of h3]
    have q80 : qSz g80 (2 * q + 1) = qSz g65 (2 * q + 1) := by unfold qSz; rw [r67 67 (by decide) (by decide) (by decide)]
    refine ⟨?_, fun z x hx => ?_⟩
    · have w1 : dW g80 c + 1 ≤ dW g2 c := by
        have z0 : (0 : Int32).toInt = 0 := by decide
        unfold dW
        rw [f48, f49, ← e8, ← e24, z0]
        rw [if_neg (by omega : ¬ v8.toInt = 0)]
        split <;> omega
      have := r2.1
      omega
    · rw [r67 544 (by decide) (by decide) (by decide)]
      rcases b65 x with w | ⟨y, w⟩
      · rw [w]
        exact r2.2 z x hx
      · rw [w, k2 1216 (by decide)]
        exact hO y
def esR (e N : Nat) (g g1 : mSt) : Prop := dN N g1 e + qSz g1 (2 * (2 * e) + 1) ≤ dN N g e + qSz g (2 * (2 * e) + 1) ∧ (ocD g (2 * e) → ocD g1 (2 * e)) ∧ fB e N true g N g1
theorem cs_out {Z : cZ} {c q x : Nat} {g g1 : mSt} (h : mFi (im_kcsendCells Z c q) g g1) (hx : x ≠ c) : g1 48 x = g 48 x ∧ g1 49 x = g 49 x := ⟨h.out (by simp [mOut, im_kcsendCells]; omega), h.out (by simp [mOut, im_kcsendCells]; omega)⟩
theorem s_esend {Z : cZ} {e : Nat} {g : mSt} {Φ : Int32 → mSt → Prop} (hO : ∀ x, oct (g 1216 x)) (h : ∀ g1, esR e (Z.w 2) g g1 → Φ 0 g1) : wp_kesendCells Z e (2 * e) g Φ := by
  refine ⟨fun _ g2 => esR e (Z.w 2) g g2, fun a g2 k2 _ hJ _ r2 v3 _ _ => ⟨fun _ => h g2 r2, fun _ v8 _ d8 v11 _ _ => ⟨fun g12 => esR e (Z.w 2) g g12, fun g12 _ _ _ r12 v13 _ _ _ => r12, fun _ => r2, fun _ d => s_csend (fun x => by rw [k2 1216 (by decide)]; exact hO x) (fun g20 a20 b20 hpo20 => ?_)⟩⟩, ⟨Nat.le_refl _, id, fB.rf⟩⟩
  obtain ⟨r2a, r2b, r2c⟩ := r2
  have hc : v8.toInt.toNat < Z.w 2 := hJ.2.2.2.2.1.1.2.1 _ d.2.1
  have k20 := hpo20.2.1
  refine ⟨Nat.le_trans ?_ r2a, fun z => b20 (r2b z), r2c.tr (fB_csend d.2.2 hpo20.1 k20)⟩
  refine smN_tr (s := v8.toInt.toNat) (fun x _ hx => ?_) hc ?_
  · rw [k20 32 (by decide), dW_eq (cs_out hpo20.1 hx).1 (cs_out hpo20.1 hx).2]
  · rw [k20 32 (by decide), if_pos d.2.2, if_pos d.2.2]
    exact a20
theorem esend_sL {Z : cZ} {e N : Nat} {r : Int32} {g g1 : mSt} (h : po_kesendCells Z e (2 * e) g r g1) : sL e N g N g1 := by
  have k := h.2.1
  refine ⟨fun j hj => ?_, fun j x hj _ => ?_, fun j x hj _ => ?_, ⟨by rw [k 66 (by decide)], h.1.out (by simp [mOut, im_kesendCells]), fun j x hj hx => ?_⟩, by rw [k 111 (by decide)], Nat.le_refl _, fun c _ => ⟨by rw [k 32 (by decide)], by rw [k 43 (by decide)], fun _ => ⟨by rw [k 36 (by decide)], by rw [k 42 (by decide)], by rw [k 46 (by decide)]⟩⟩, fun c h1 h2 => by exfalso; omega, fun c _ => ⟨by rw [k 32 (by decide)], by rw [k 43 (by decide)]⟩⟩
  · rcases hj with hj | hj | hj | hj | hj | hj <;> subst hj <;> rw [k _ (by decide)]
  · rcases hj with hj | hj <;> subst hj <;> rw [k _ (by decide)]
  · rcases hj with hj | hj <;> subst hj <;> rw [k _ (by decide)]
  · rcases hj with hj | hj <;> subst hj <;> exact h.1.out (by simp [mOut, im_kesendCells]; omega)
/-! an end in the first part of a tick -/
theorem ro_aS {g g1 : mSt} {i : Nat} (h : aS g g1 i) : ro g1 i ≤ ro g i := by
  have := (occ_aS h).1
  unfold ro
  rcases h.2 with w | w
  · rw [w]
    omega
  · rw [w]
    have : (0 : Int).toNat = 0 := rfl
    omega
def efR (e N : Nat) (g g1 : mSt) : Prop := eSt N e g g1 ∧ fB e N false g N g1 ∧ ro g1 e ≤ ro g e ∧ g1 386 = g 386 ∧ g1 1729 = g 1729 ∧ g1 135 = g 135
theorem e_first2 {Z : cZ} {e : Nat} {t : Int32} {g : mSt} {Ψ : mSt → Prop} (he : e < Z.n) (hl : li g e) (hn : noP g e) (hu : uLn g (2 * e) = 0) (h : ∀ g1, efR e (Z.w 2) g g1 → Ψ g1) :
    wp_ktimers Z e t g (fun v g1 => po_ktimers Z e t g v g1 → ((v.toInt = 0) → wp_kcallTimers_4 Z e t g1 (fun _ g2 => po_kcallTimers_4 Z e t g1 0 g2 → wp_kturn Z e t g2 (fun _ g3 => po_kturn Z e t g2 0 g3 → Ψ g3))) ∧ ((v.toInt ≠ 0) → wp_kallOver_4 Z e t g1 (fun _ g2 => po_kallOver_4 Z e t g1 0 g2 → wp_kcallTimers_4 Z e t g2 (fun _ g3 => po_kcallTimers_4 Z e t g2 0 g3 → wp_kturn Z e t g3 (fun _ g4 => po_kturn Z e t g3 0 g4 → Ψ g4))))) := by
  have rest : ∀ g1, efR e (Z.w 2) g g1 → wp_kcallTimers_4 Z e t g1 (fun _ g2 => po_kcallTimers_4 Z e t g1 0 g2 → wp_kturn Z e t g2 (fun _ g3 => po_kturn Z e t g2 0 g3 → Ψ g3)) := fun g1 ⟨s1, f1, r1, x1, y1, z1⟩ => by
    refine s_callTimersE he cst.rf (fun g2 s2 hpo2 => ?_)
    have k2 := hpo2.2.1
    refine wc_kturn (Φ := fun _ g3 => po_kturn Z e t g2 0 g3 → eSt (Z.w 2) e g g3) (Ψ := fun _ _ => True) (fun _ g3 a _ hpo3 => h g3 ⟨a hpo3, (f1.tr (f4.cst s2).fB).tr (fB_turn he hpo3.1 hpo3.2.1), ?_, ?_, ?_, ?_⟩) (e_turn he hl (s1.calls s2) (fun g3 s3 => s3)) (wt_kturn (fun _ _ => trivial))
    · have : ro g3 e = ro g1 e := by
        unfold ro occ
        rw [hpo3.2.1 170 (by decide), k2 170 (by decide)]
        congr 1
        refine List.countP_congr (fun k hk => ?_)
        have hk := List.mem_range.mp hk
        have : ahd g3 e k = ahd g1 e k := by
          unfold ahd
          rw [hpo3.1.out (by simp [mOut, im_kturn]; omega), k2 1280 (by decide)]
        rw [this]
      omega
    · rw [hpo3.2.1 386 (by decide), k2 386 (by decide), x1]
    · rw [hpo3.2.1 1729 (by decide), k2 1729 (by decide), y1]
    · rw [hpo3.2.1 135 (by decide), k2 135 (by decide), z1]
  refine wc_ktimers (Φ := fun r g1 => po_ktimers Z e t g r g1 → eSt (Z.w 2) e g g1) (Ψ := fun _ g1 => aS g g1 e) (fun v g1 a b hpo => ?_) (e_timers he (eSt.rf hu) (fun r g1 s => s)) (a_timers (fun _ g1 a => a))
  have k1 := hpo.2.1
  have ef : efR e (Z.w 2) g g1 := ⟨a hpo, fB_timers he hpo.1 k1, ro_aS b, k1 386 (by decide), k1 1729 (by decide), k1 135 (by decide)⟩
  refine ⟨fun _ => rest g1 ef, fun _ => s_allOverE (N := Z.w 2) (M := Z.w 2) cst.rf (ef.1.2.2.2.2.1 hn) (fun g2 s2 hpo2 => rest g2 ⟨ef.1.calls s2, ef.2.1.tr (f4.cst s2).fB, ?_, ?_, ?_, ?_⟩)⟩
  · rw [ro_eq (hpo2.2.1 170 (by decide)) (hpo2.2.1 1280 (by decide))]
    exact ef.2.2.1
  · rw [hpo2.2.1 386 (by decide), k1 386 (by decide)]
  · rw [hpo2.2.1 1729 (by decide), k1 1729 (by decide)]
  · rw [hpo2.2.1 135 (by decide), k1 135 (by decide)]
