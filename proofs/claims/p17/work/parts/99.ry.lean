/-! the receiver takes octets -/
theorem TI.fr {M : List Nat} {B : Nat} {kn : Nat → Prop} {E : Nat → Int32} {g g1 : mSt} {q y : Nat} (h : TI B kn E g q y) (k : mFr M g g1) (hM : (225 ∉ M ∧ 231 ∉ M) ∧ (232 ∉ M ∧ 233 ∉ M) ∧ 234 ∉ M ∧ 800 ∉ M) : TI B kn E g1 q y := by
  unfold TI tiW at h ⊢
  rw [k 225 hM.1.1, k 231 hM.1.2, k 232 hM.2.1.1, k 233 hM.2.1.2, k 234 hM.2.2.1, k 800 hM.2.2.2]
  exact h
theorem WC.fr {M : List Nat} {g g1 : mSt} {q y w : Nat} (h : WC g q y w) (k : mFr M g g1) (hM : 225 ∉ M ∧ 233 ∉ M) : WC g1 q y w := by
  unfold WC at h ⊢
  rw [k 225 hM.1, k 233 hM.2]
  exact h
set_option maxHeartbeats 1000000 in
theorem s_takeX {Z : cZ} {q y w B : Nat} {p2 p3 : Int32} {kn : Nat → Prop} {E : Nat → Int32} {g : mSt} {Φ : Int32 → mSt → Prop} (hB : B + 265 ≤ 1000000000) (hp : 0 ≤ p2.toInt ∧ p2.toInt < p3.toInt ∧ p3.toInt ≤ 212) (hy : y = 53 + p2.toInt.toNat) (hE : ∀ x, x < p3.toInt.toNat → g 608 (8192 * q + x) = E (53 + x)) (ho : ∀ z, z < 53 + p3.toInt.toNat → oct (E z)) (hT : TI B kn E g q y) (hW : WC g q y w) (h : ∀ (r : Int32) g1, 1 ≤ r.toInt → p2.toInt + r.toInt ≤ p3.toInt → mFr [225, 226, 227, 228, 229, 230, 231, 232, 233, 234, 235, 800] g g1 → tkW B kn E g1 q (y + r.toInt.toNat) w → Φ r g1) : wp_ktake Z q q p2 p3 g Φ := by
  intro g1 e1
  have k1 : mFr [235] g g1 := fun a ha => by rw [e1, up2_of (by simpa using ha)]
  have T1 : TI B kn E g1 q y := hT.fr k1 (by decide)
  have W1 : WC g1 q y w := hW.fr k1 (by decide)
  have a235 : g1 235 q = 0 := by rw [e1, up2_i]
  have i1 : (1 : Int32).toInt = 1 := by decide
  have oct1 : ∀ (v : Int32), v = g1 608 (8192 * q + p2.toNatClampNeg) → oct v ∧ v = E y := fun v e => by
    have : v = E y := by rw [e, nat_cl, k1 608 (by decide), hE _ (by omega), hy]
    exact ⟨by rw [this]; exact ho _ (by omega), this⟩
  have hd : ∀ v : Int32, v = g1 608 (8192 * q + p2.toNatClampNeg) → (g1 225 q).toInt = 0 ∨ (g1 233 q).toInt < 5 → wp_kheaderOctet Z q v g1 (fun _ g17 => po_kheaderOctet Z q v g1 0 g17 → Φ 1 g17) := fun v e hh => by
    obtain ⟨o1, o2⟩ := oct1 v e
    refine s_hOct (by omega) o1 o2 (fun z hz => ho z (by omega)) hh T1 W1 (fun g17 k17 T17 W17 _ => h 1 g17 (by decide) (by rw [i1]; omega) (fun a ha => ?_) ⟨T17, Or.inl ⟨?_, W17⟩⟩)
    · simp only [List.mem_cons, List.not_mem_nil, or_false, not_or] at ha
      rw [k17 a (by simp only [List.mem_cons, List.not_mem_nil, or_false, not_or]; omega), k1 a (by simpa using ha.2.2.2.2.2.2.2.2.2.2.1)]
    · rw [k17 235 (by decide), a235]
      rfl
  refine ⟨fun z => by exfalso; omega, fun _ => ⟨fun z => by exfalso; omega, fun _ => ⟨fun _ v11 e11 _ => ⟨fun z11 v15 e15 _ => hd v15 e15 (Or.inl (by rw [← e11]; exact z11)), fun n11 v20 e20 r20 => ⟨fun c20 v23 _ _ t23 v25 _ _ t25 v27 _ m27 v28 e28 r28 => ?_, fun c20 v86 e86 _ => hd v86 e86 (Or.inr (by rw [← e20]; exact c20))⟩⟩, fun z => by exfalso; omega⟩⟩⟩
  obtain ⟨⟨t0, tB, t52⟩, th, tw⟩ := T1
  obtain ⟨w1, w2⟩ := W1
  have n0 : (g1 225 q).toInt ≠ 0 := by rw [← e11]; exact n11
  have w2' := w2 n0
  have t52' := t52 n0
  rw [← e20] at t0 tB t52' w2' w1
  have r27 : 1 ≤ v27.toInt := by omega
  -- the place further on, no window whole
  have more : ∀ (gA gB : mSt) (vP : Int32), vP.toInt = v20.toInt + v27.toInt → mFr [800] g1 gA → gB = up2 gA 233 q vP → (v28.toInt ≠ 0 → ∀ j, j < v20.toInt.toNat - 5 + v27.toInt.toNat → gA 800 (8192 * q + j) = if j < v20.toInt.toNat - 5 then g1 800 (8192 * q + j) else E (y + (j - (v20.toInt.toNat - 5)))) → (vP.toInt < 53 → TI B kn E gB q (y + v27.toInt.toNat) ∧ WC gB q (y + v27.toInt.toNat) w) ∧ (kn (y - v20.toInt.toNat) → v28.toInt ≠ 0 → ((y - v20.toInt.toNat) % 53 ≤ 3 → hdw E (y - v20.toInt.toNat) (g1 231 q)) ∧ ∀ j, j < v20.toInt.toNat - 5 + v27.toInt.toNat → gA 800 (8192 * q + j) = E (y - v20.toInt.toNat + 5 + j)) := fun gA gB vP tP kA eB hpay => by
    have info : kn (y - v20.toInt.toNat) → v28.toInt ≠ 0 → ((y - v20.toInt.toNat) % 53 ≤ 3 → hdw E (y - v20.toInt.toNat) (g1 231 q)) ∧ ∀ j, j < v20.toInt.toNat - 5 + v27.toInt.toNat → gA 800 (8192 * q + j) = E (y - v20.toInt.toNat + 5 + j) := fun hk h28 => by
      have hk' : kn (y - (g1 233 q).toInt.toNat) := by rw [← e20]; exact hk
      obtain ⟨_, u2⟩ := tw n0 hk'
      rw [← e20, ← e28] at u2
      obtain ⟨x1, x2⟩ := u2 c20 h28
      refine ⟨x1, fun j hj => ?_⟩
      rw [hpay h28 j hj]
      split
      · rename_i z
        exact x2 j z
      · rename_i z
        congr 1
        omega
    refine ⟨fun c53 => ?_, info⟩
    have b233 : gB 233 q = vP := by rw [eB, up2_i]
    have b225 : gB 225 q = g1 225 q := by rw [eB, up2_o (by decide), kA 225 (by decide)]
    have b231 : gB 231 q = g1 231 q := by rw [eB, up2_o (by decide), kA 231 (by decide)]
    have b232 : gB 232 q = g1 232 q := by rw [eB, up2_o (by decide), kA 232 (by decide)]
    have b234 : gB 234 q = g1 234 q := by rw [eB, up2_o (by decide), kA 234 (by decide)]
    refine ⟨⟨⟨by rw [b233]; omega, by rw [b233]; omega, fun _ => by rw [b233]; omega⟩, by rw [b232]; exact th, fun _ hk => ?_⟩, ⟨by rw [b233]; omega, fun _ => by rw [b233]; omega⟩⟩
    rw [b233] at hk ⊢
    have es : y + v27.toInt.toNat - vP.toInt.toNat = y - v20.toInt.toNat := by omega
    rw [es] at hk ⊢
    refine ⟨fun z => by rw [b233] at z; omega, fun _ hkeep => ?_⟩
    rw [b234, ← e28] at hkeep
    obtain ⟨x1, x2⟩ := info hk hkeep
    rw [b231]
    refine ⟨x1, fun j hj => ?_⟩
    rw [b233] at hj
    rw [eB, up2_o (by decide)]
    exact x2 j (by omega)
  -- a window is whole
  have whole : ∀ (gA gB gF : mSt) (vP : Int32), vP.toInt = v20.toInt + v27.toInt → 53 ≤ vP.toInt → mFr [800] g1 gA → mFr [228, 233, 235] gA gF → gF 233 q = 0 → gF 235 q = v28 → (kn (y - v20.toInt.toNat) → v28.toInt ≠ 0 → ((y - v20.toInt.toNat) % 53 ≤ 3 → hdw E (y - v20.toInt.toNat) (g1 231 q)) ∧ ∀ j, j < v20.toInt.toNat - 5 + v27.toInt.toNat → gA 800 (8192 * q + j) = E (y - v20.toInt.toNat + 5 + j)) → Φ v27 gF := fun gA gB gF vP tP c53 kA kF b233 b235 info => by
    have z0 : (0 : Int32).toInt = 0 := by decide
    have n48 : v20.toInt.toNat - 5 + v27.toInt.toNat = 48 := by omega
    have es : y + v27.toInt.toNat - 53 = y - v20.toInt.toNat := by omega
    have TF : TI B kn E gF q (y + v27.toInt.toNat) := by
      refine ⟨⟨by rw [b233]; decide, by rw [b233, z0]; omega, fun _ => by rw [b233]; decide⟩, by rw [kF 232 (by decide), kA 232 (by decide)]; exact th, fun _ _ => ⟨fun _ _ => ?_, fun z => ?_⟩⟩
      · rw [b233, z0]
        exact Nat.mod_one _
      · rw [b233, z0] at z
        omega
    have WF : ∀ w', 53 * w' + 1 ≤ y + v27.toInt.toNat → WC gF q (y + v27.toInt.toNat) w' := fun w' hw' => ⟨by rw [b233, z0]; omega, fun _ => by rw [b233, z0]; omega⟩
    refine h v27 gF r27 (by omega) (fun a ha => ?_) ⟨TF, ?_⟩
    · simp only [List.mem_cons, List.not_mem_nil, or_false, not_or] at ha
      rw [kF a (by simp only [List.mem_cons, List.not_mem_nil, or_false, not_or]; omega), kA a (by simp only [List.mem_cons, List.not_mem_nil, or_false, not_or]; omega), k1 a (by simp only [List.mem_cons, List.not_mem_nil, or_false, not_or]; omega)]
    · by_cases h28 : v28.toInt = 0
      · exact Or.inl ⟨by rw [b235]; exact h28, WF w (by omega)⟩
      · refine Or.inr ⟨by rw [b235]; exact h28, WF (w + 1) (by omega), by omega, fun hk => ?_⟩
        rw [es] at hk ⊢
        obtain ⟨x1, x2⟩ := info hk h28
        unfold win
        rw [kF 231 (by decide), kA 231 (by decide), kF 800 (by decide)]
        exact ⟨x1, fun j hj => x2 j (by omega)⟩
  have fin : ∀ (gA gB : mSt), mFr [800] g1 gA → mFr [233] gA gB → TI B kn E gB q (y + v27.toInt.toNat) → WC gB q (y + v27.toInt.toNat) w → Φ v27 gB := fun gA gB kA kB T W => h v27 gB r27 (by omega) (fun a ha => by
    simp only [List.mem_cons, List.not_mem_nil, or_false, not_or] at ha
    rw [kB a (by simp only [List.mem_cons, List.not_mem_nil, or_false, not_or]; omega), kA a (by simp only [List.mem_cons, List.not_mem_nil, or_false, not_or]; omega), k1 a (by simp only [List.mem_cons, List.not_mem_nil, or_false, not_or]; omega)]) ⟨T, Or.inl ⟨by rw [kB 235 (by decide), kA 235 (by decide), a235]; rfl, W⟩⟩
  refine ⟨fun z28 v33 _ _ t33 g35 e35 => ?_, fun n28 v59 _ _ t59 g61 e61 v63 _ _ t63 g65 e65 => ?_⟩
  · have kA : mFr [800] g1 g1 := fun _ _ => rfl
    have kB : mFr [233] g1 g35 := fun a ha => by rw [e35, up2_of (by simpa using ha)]
    obtain ⟨m1, m2⟩ := more g1 g35 v33 t33 kA e35 (fun z => absurd z28 z)
    refine ⟨fun c => fin g1 g35 kA kB (m1 c).1 (m1 c).2, fun c g41 e41 g44 e44 v45 _ _ => ⟨fun b g48 => g48 = g44, fun b g48 _ _ _ _ q48 v49 _ _ g50 e50 => ?_, fun _ => rfl, fun _ => trivial⟩⟩
    rw [show g48 = g44 from q48] at e50
    refine whole g1 g35 g50 v33 t33 c kA (fun a ha => ?_) ?_ ?_ m2
    · simp only [List.mem_cons, List.not_mem_nil, or_false, not_or] at ha
      rw [e50, up2_of (by omega), e44, up2_of (by omega), e41, up2_of (by omega), e35, up2_of (by omega)]
    · rw [e50, up2_o (by decide), e44, up2_o (by decide), e41, up2_i]
    · rw [e50, up2_o (by decide), e44, up2_i]
  · have kA : mFr [800] g1 g61 := fun a ha => by rw [e61, cCpy_o (by simpa using ha)]
    have kB : mFr [233] g61 g65 := fun a ha => by rw [e65, up2_of (by simpa using ha)]
    obtain ⟨m1, m2⟩ := more g61 g65 v63 t63 kA e65 (fun _ j hj => by
      have e59 : v59.toNatClampNeg = v20.toInt.toNat - 5 := by rw [nat_cl]; omega
      rw [e61, e59, nat_cl, nat_cl]
      split
      · rename_i z
        rw [cCpy_x (by omega)]
      · rename_i z
        rw [cCpy_y (by omega), k1 608 (by decide), show 8192 * q + p2.toInt.toNat + (8192 * q + j - (8192 * q + (v20.toInt.toNat - 5))) = 8192 * q + (p2.toInt.toNat + (j - (v20.toInt.toNat - 5))) by omega, hE _ (by omega)]
        congr 1
        omega)
    refine ⟨fun c => fin g61 g65 kA kB (m1 c).1 (m1 c).2, fun c g71 e71 g74 e74 v75 _ _ => ⟨fun b g78 => g78 = g74, fun b g78 _ _ _ _ q78 v79 _ _ g80 e80 => ?_, fun _ => trivial, fun _ => rfl⟩⟩
    rw [show g78 = g74 from q78] at e80
    refine whole g61 g65 g80 v63 t63 c kA (fun a ha => ?_) ?_ ?_ m2
    · simp only [List.mem_cons, List.not_mem_nil, or_false, not_or] at ha
      rw [e80, up2_of (by omega), e74, up2_of (by omega), e71, up2_of (by omega), e65, up2_of (by omega)]
    · rw [e80, up2_o (by decide), e74, up2_o (by decide), e71, up2_i]
    · rw [e80, up2_o (by decide), e74, up2_i]
/-- the octets of a window -/
theorem o_take {Z : cZ} {q : Nat} {p2 p3 : Int32} {g : mSt} {Φ : Int32 → mSt → Prop} (hp : 0 ≤ p2.toInt ∧ p2.toInt < p3.toInt ∧ p3.toInt ≤ 212) (hw : ∀ x, x < p3.toInt.toNat → oct (g 608 (8192 * q + x))) (ho : ∀ j, j < 48 → oct (g 800 (8192 * q + j))) (h : ∀ r g1, (∀ j, j < 48 → oct (g1 800 (8192 * q + j))) → Φ r g1) : wp_ktake Z q q p2 p3 g Φ := by
  intro g1 e1
  have k1 : g1 800 = g 800 := by rw [e1, up2_of (by decide)]
  have s1 : ∀ r gF, gF 800 = g1 800 → Φ r gF := fun r gF e => h r gF (by rw [e, k1]; exact ho)
  refine ⟨fun _ => s1 _ _ rfl, fun _ => ⟨fun _ => s1 _ _ rfl, fun _ => ⟨fun _ v11 e11 _ => ⟨fun _ v15 _ _ => wt_kheaderOctet (fun _ g17 hpo => s1 _ _ (hpo.2.1 800 (by decide))), fun _ v20 e20 r20 => ⟨fun c20 v23 _ _ t23 v25 _ _ t25 v27 _ m27 v28 e28 _ => ⟨fun _ v33 _ _ _ g35 e35 => ⟨fun _ => s1 _ _ (by rw [e35, up2_of (by decide)]), fun _ g41 e41 g44 e44 v45 _ _ => ⟨fun _ g48 => g48 800 = g1 800, fun b g48 _ _ _ _ q48 v49 _ _ g50 e50 => s1 _ _ (by rw [e50, up2_of (by decide)]; exact q48), fun _ => (by show g44 800 = g1 800; rw [e44, up2_of (by decide), e41, up2_of (by decide), e35, up2_of (by decide)]), fun _ => trivial⟩⟩, fun _ v59 _ _ t59 g61 e61 v63 _ _ _ g65 e65 => ?_⟩, fun _ v86 _ _ => wt_kheaderOctet (fun _ g89 hpo => s1 _ _ (hpo.2.1 800 (by decide)))⟩⟩, fun _ => s1 _ _ rfl⟩⟩⟩
  have o61 : ∀ j, j < 48 → oct (g61 800 (8192 * q + j)) := fun j hj => by
    have e59 : v59.toNatClampNeg = v20.toInt.toNat - 5 := by rw [nat_cl]; omega
    have k6 : g1 608 = g 608 := by rw [e1, up2_of (by decide)]
    rw [e61, e59, nat_cl, nat_cl]
    by_cases z : v20.toInt.toNat - 5 ≤ j ∧ j < v20.toInt.toNat - 5 + v27.toInt.toNat
    · rw [cCpy_y (by omega), k6, show 8192 * q + p2.toInt.toNat + (8192 * q + j - (8192 * q + (v20.toInt.toNat - 5))) = 8192 * q + (p2.toInt.toNat + (j - (v20.toInt.toNat - 5))) by omega]
      exact hw _ (by omega)
    · rw [cCpy_x (by omega), k1]
      exact ho j hj
  have s2 : ∀ r gF, gF 800 = g61 800 → Φ r gF := fun r gF e => h r gF (by rw [e]; exact o61)
  refine ⟨fun _ => s2 _ _ (by rw [e65, up2_of (by decide)]), fun _ g71 e71 g74 e74 v75 _ _ => ⟨fun _ g78 => g78 800 = g61 800, fun b g78 _ _ _ _ q78 v79 _ _ g80 e80 => s2 _ _ (by rw [e80, up2_of (by decide)]; exact q78), fun _ => trivial, fun _ => (by show g74 800 = g61 800; rw [e74, up2_of (by decide), e71, up2_of (by decide), e65, up2_of (by decide)])⟩⟩
