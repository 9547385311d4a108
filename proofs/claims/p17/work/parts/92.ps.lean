/-! units become cells -/
theorem s_crcOf {Z : cZ} {q1 : Nat} {p2 : Int32} {g : mSt} {Φ : Int32 → mSt → Prop} (h : ∀ r, Φ r g) : wp_kcrcOf_24 Z q1 p2 g Φ :=
  ⟨fun _ _ g' => g' = g, fun _ _ g3 _ _ _ _ h3 => ⟨fun g4 => g4 = g, fun g4 _ _ h4 v5 _ _ => by rw [show g4 = g from h4]; exact h v5, fun _ => h3, fun _ => ⟨fun _ => h3, fun _ v12 _ _ v13 _ _ v14 _ _ => ⟨fun _ _ g' => g' = g, fun _ _ g17 _ _ _ _ h17 => ⟨fun _ v20 _ _ _ => h17, fun _ => ⟨fun _ g' => g' = g, fun _ g23 _ _ _ h23 v24 _ _ _ => h23, fun _ v27 _ _ => h17, fun _ v29 _ _ v30 _ _ => h17⟩⟩, h3⟩⟩⟩, rfl⟩
theorem i32_nat {x : Int32} {k : Nat} (h : x.toInt = (k : Int)) (hk : k < 2147483648) : x = Int32.ofNat k := Int32.toInt_inj.mp (by rw [h]; exact (nI_toInt (n := k) hk).symm)
theorem ush8_t : ∀ k : Fin 256, ((Int32.ofNat k.1).toUInt32 >>> ((8 : Int32).toUInt32 &&& Int32.toUInt32 31)).toInt32 = 0 := by decide +kernel
theorem and8_t : ∀ k : Fin 256, (Int32.ofNat k.1) &&& 255 = Int32.ofNat k.1 := by decide +kernel
theorem ush8 {x : Int32} (h : 0 ≤ x.toInt ∧ x.toInt ≤ 255) : (x.toUInt32 >>> ((8 : Int32).toUInt32 &&& Int32.toUInt32 31)).toInt32 = 0 := by
  have e : x = Int32.ofNat x.toInt.toNat := i32_nat (by omega) (by omega)
  have := ush8_t ⟨x.toInt.toNat, by omega⟩
  rw [e]
  exact this
theorem and8 {x : Int32} (h : 0 ≤ x.toInt ∧ x.toInt ≤ 255) : x &&& 255 = x := by
  have e : x = Int32.ofNat x.toInt.toNat := i32_nat (by omega) (by omega)
  have := and8_t ⟨x.toInt.toNat, by omega⟩
  rw [e]
  exact this
/-- an octet -/
def oct (x : Int32) : Prop := 0 ≤ x.toInt ∧ x.toInt ≤ 255
theorem s_closeFrame {Z : cZ} {q1 : Nat} {p2 : Int32} {g : mSt} {Φ : Int32 → mSt → Prop} (h1 : 1 ≤ p2.toInt) (h2 : p2.toInt ≤ 200) (h : ∀ (r : Int32) (g1 : mSt), r.toInt = (p2.toInt + 55) / 48 → (∀ j : Nat, (j : Int) < p2.toInt → g1 768 (8192 * q1 + j) = g 768 (8192 * q1 + j)) → (∀ j : Nat, p2.toInt ≤ (j : Int) → (j : Int) < 48 * r.toInt - 6 → g1 768 (8192 * q1 + j) = 0) → (∀ j : Nat, (j : Int) = 48 * r.toInt - 6 → g1 768 (8192 * q1 + j) = 0) → (∀ j : Nat, (j : Int) = 48 * r.toInt - 5 → g1 768 (8192 * q1 + j) = p2) → (∀ j : Nat, 48 * r.toInt - 4 ≤ (j : Int) → (j : Int) < 48 * r.toInt → oct (g1 768 (8192 * q1 + j))) → Φ r g1) : wp_kcloseFrame_24 Z q1 p2 g Φ := by
  refine ⟨fun c => by exfalso; omega, fun _ => ⟨fun c => by exfalso; omega, fun _ => s_cellsFor (fun r hr hpo v11 e11 r11 t11 => ?_)⟩⟩
  have k0 : (0 : Int32).toInt = 0 := by decide
  refine s_fill (by omega) (by omega) (by omega) (fun g14 f1 f2 hpo2 v15 e15 r15 t15 v17 e17 r17 g18 e18 v19 e19 r19 t19 v21 e21 r21 g22 e22 v23 e23 r23 t23 => ?_)
  refine s_crcOf (fun v26 hpo3 => ?_)
  refine ⟨fun _ k g29 => 1 ≤ k.toInt ∧ (∀ j : Nat, (j : Int) < v11.toInt - 4 → g29 768 (8192 * q1 + j) = g22 768 (8192 * q1 + j)) ∧ ∀ j : Nat, v11.toInt - k.toInt < (j : Int) → (j : Int) < v11.toInt → oct (g29 768 (8192 * q1 + j)), fun a k g29 _ _ _ rk hP => ⟨fun c => ?_, fun c v33 e33 r33 t33 v34 e34 r34 g35 e35 v36 e36 r36 v37 e37 r37 t37 => ?_⟩, ⟨by decide, fun _ _ => rfl, fun j a b => by exfalso; have : (1 : Int32).toInt = 1 := (by decide); omega⟩⟩
  · have hO := hP.2.2
    have hP := hP.2.1
    have rk : 1 ≤ k.toInt ∧ k.toInt ≤ 5 := rk
    have h17 : v17 = 0 := by rw [e17]; exact ush8 (by omega)
    have h21 : v21 = p2 := by rw [e21]; exact and8 (by omega)
    refine h r g29 hr (fun j hj => ?_) (fun j hj1 hj2 => ?_) (fun j hj => ?_) (fun j hj => ?_) (fun j hj1 hj2 => hO j (by omega) (by omega))
    · rw [hP j (by omega), e22, up2_n (by rw [nat_cl]; omega), e18, up2_n (by rw [nat_cl]; omega)]
      exact f2 _ (fun k hk1 hk2 z => by omega)
    · rw [hP j (by omega), e22, up2_n (by rw [nat_cl]; omega), e18, up2_n (by rw [nat_cl]; omega)]
      exact f1 j hj1 (by omega)
    · rw [hP j (by omega), e22, up2_n (by rw [nat_cl]; omega), e18, show 8192 * q1 + j = 8192 * q1 + v15.toNatClampNeg by rw [nat_cl]; omega, up2_i, h17]
    · rw [hP j (by omega), e22, show 8192 * q1 + j = 8192 * q1 + v19.toNatClampNeg by rw [nat_cl]; omega, up2_i, h21]
  · have rk : 1 ≤ k.toInt ∧ k.toInt ≤ 5 := rk
    refine ⟨by omega, fun j hj => ?_, fun j hj1 hj2 => ?_⟩
    · rw [e35, up2_n (by rw [nat_cl]; omega)]
      exact hP.2.1 j hj
    · by_cases hj : (j : Int) = v33.toInt
      · rw [e35, show 8192 * q1 + j = 8192 * q1 + v33.toNatClampNeg by rw [nat_cl]; omega, up2_i]
        exact r34
      · rw [e35, up2_n (by rw [nat_cl]; omega)]
        exact hP.2.2 j (by omega) hj2
/-- the cells of a unit -/
def uCs (u : List Int32) (cs : List (Int32 × List Int32)) : Prop := ∃ (im : Nat → Int32) (r : Nat), r = (u.length + 55) / 48 ∧ cs = (List.range r).map (fun c => ((if c + 1 = r then 82 else 80 : Int32), (List.range 48).map fun j => im (48 * c + j))) ∧ (∀ j : Nat, u[j]? = if j < u.length then some (im j) else none) ∧ (∀ j, u.length ≤ j → j < 48 * r - 6 → im j = 0) ∧ im (48 * r - 6) = 0 ∧ (im (48 * r - 5)).toInt = (u.length : Int) ∧ ((∀ x ∈ u, oct x) → u.length ≤ 200 → ∀ j, j < 48 * r → oct (im j))
theorem s_sendUnit {Z : cZ} {d : Nat} {p1 p2 : Int32} {g : mSt} {Φ : Int32 → mSt → Prop} (hn : uLn g d ≤ 196) (h : ∀ g1, uLn g1 d = 0 → (qL g1 (2 * d) = qL g (2 * d) ∨ ∃ cs, uCs (uL g d ++ w4 (p1 <<< ((24 : Int32) &&& 31) ||| p2)) cs ∧ qL g1 (2 * d) = qL g (2 * d) ++ cs) → Φ 0 g1) : wp_ksendUnit Z d p1 p2 g Φ := by
  intro v1 e1 _ v2 e2 _
  have ev2 : v2 = p1 <<< ((24 : Int32) &&& 31) ||| p2 := by rw [e2, e1]
  rw [← ev2] at h
  refine s_word hn (fun g3 hu hpo3 v5 e5 r5 => ?_)
  have hl3 : uLn g3 d = uLn g d + 4 := by
    rw [← uL_len, hu, List.length_append, uL_len]
    rfl
  have r5 : 0 ≤ v5.toInt ∧ v5.toInt ≤ 200 := r5
  have h5 : v5.toInt = (uLn g3 d : Int) := by
    unfold uLn
    rw [← e5]
    omega
  have hF3 : ∀ j, j ≠ 111 → j ≠ 768 → g3 j = g j := fun j a b => hpo3.2.1 j (by simp only [List.mem_cons, List.not_mem_nil, or_false, not_or]; exact ⟨a, b⟩)
  refine s_closeFrame (by omega) (by omega) (fun v7 g6 hr f1 f2 f3 f4 f5 hpo6 g8 e8 v10 e10 r10 v11 e11 r11 t11 => ?_)
  have hF8 : ∀ j, j ≠ 111 → j ≠ 768 → g8 j = g j := fun j a b => by rw [e8, up2_of a, hpo6.2.1 j (by simp only [List.mem_cons, List.not_mem_nil, or_false]; exact b), hF3 j a b]
  have hq8 : qL g8 (2 * d) = qL g (2 * d) := by
    refine qL_ext ?_ (fun k _ => ?_)
    · unfold qSz
      rw [hF8 67 (by decide) (by decide)]
    · unfold qC qPl
      rw [hF8 66 (by decide) (by decide), hF8 576 (by decide) (by decide), hF8 544 (by decide) (by decide)]
  have h111 : ∀ g' : mSt, g' 111 = g8 111 → uLn g' d = 0 := fun g' e => by
    unfold uLn
    rw [e, e8, up2_i]
    rfl
  have h10 : qSz g8 (2 * d) = v10.toInt.toNat := by
    unfold qSz
    rw [e10]
  have r10 : 0 ≤ v10.toInt ∧ v10.toInt ≤ 40 := r10
  have hr7 : 1 ≤ v7.toInt ∧ v7.toInt ≤ 5 := by omega
  refine ⟨fun c => ?_, fun c v36 e36 _ v37 e37 _ g38 e38 => h g38 (h111 g38 (by rw [e38, up2_of (by decide)])) (Or.inl ?_)⟩
  · refine ⟨fun a g15 => (0 ≤ a.toInt ∧ a.toInt ≤ v7.toInt) ∧ qL g15 (2 * d) = qL g (2 * d) ++ (List.range a.toInt.toNat).map (fun c => ((if c + 1 = v7.toInt.toNat then 82 else 80 : Int32), (List.range 48).map fun j => g6 768 (8192 * d + (48 * c + j)))), fun a g15 hF _ ra hP => ⟨fun c2 => ?_, fun c2 v19 e19 r19 t19 => ?_⟩, ⟨by rw [show (0 : Int32).toInt = 0 by decide]; omega, by rw [hq8]; exact (List.append_nil _).symm⟩⟩
    · obtain ⟨⟨a1, a2⟩, a3⟩ := hP
      have ea : a.toInt = v7.toInt := by omega
      rw [ea] at a3
      refine h g15 (h111 g15 (hF 111 (by decide))) (Or.inr ⟨_, ⟨fun j => g6 768 (8192 * d + j), v7.toInt.toNat, ?_, rfl, fun j => ?_, fun j hj1 hj2 => ?_, ?_, ?_, fun ho hl200 j hj => ?_⟩, a3⟩)
      · rw [← hu, uL_len]
        omega
      · rw [← hu, uL_len]
        unfold uL
        rw [List.getElem?_map]
        by_cases hj : j < uLn g3 d
        · rw [List.getElem?_range hj, if_pos hj, Option.map_some]
          show some (g3 768 (8192 * d + j)) = some (g6 768 (8192 * d + j))
          rw [f1 j (by omega)]
        · rw [List.getElem?_eq_none (by rw [List.length_range]; omega), if_neg hj, Option.map_none]
      · rw [← hu, uL_len] at hj1
        exact f2 j (by omega) (by omega)
      · exact f3 _ (by omega)
      · rw [← hu, uL_len]
        show (g6 768 (8192 * d + (48 * v7.toInt.toNat - 5))).toInt = _
        rw [f4 (48 * v7.toInt.toNat - 5) (by omega)]
        exact h5
      · show oct (g6 768 (8192 * d + j))
        rw [← hu] at ho
        rcases (by omega : (j : Int) < v5.toInt ∨ (v5.toInt ≤ (j : Int) ∧ (j : Int) < 48 * v7.toInt - 6) ∨ (j : Int) = 48 * v7.toInt - 6 ∨ (j : Int) = 48 * v7.toInt - 5 ∨ 48 * v7.toInt - 4 ≤ (j : Int)) with q | q | q | q | q
        · rw [f1 j q]
          refine ho _ ?_
          unfold uL
          exact List.mem_map.mpr ⟨j, List.mem_range.mpr (by omega), rfl⟩
        · rw [f2 j q.1 q.2]
          exact ⟨by decide, by decide⟩
        · rw [f3 j q]
          exact ⟨by decide, by decide⟩
        · rw [f4 j q]
          exact ⟨by omega, by omega⟩
        · exact f5 j q (by omega)
    · obtain ⟨⟨a1, a2⟩, a3⟩ := hP
      have hsz : qSz g15 (2 * d) = v10.toInt.toNat + a.toInt.toNat := by
        rw [← qL_len, a3, List.length_append, ← hq8, qL_len, h10, List.length_map, List.length_range]
      have h768 : g15 768 = g6 768 := by rw [hF 768 (by decide), e8, up2_of (by decide)]
      have step : ∀ (hd v23 : Int32), v23.toInt = a.toInt * 48 → hd = (if a.toInt.toNat + 1 = v7.toInt.toNat then 82 else 80 : Int32) → ∀ g25, qL g25 (2 * d) = qL g15 (2 * d) ++ [(hd, oc48 g15 768 (8192 * d + v23.toInt.toNat))] → ∀ v27 : Int32, v27.toInt = a.toInt + 1 → (0 ≤ v27.toInt ∧ v27.toInt ≤ v7.toInt) ∧ qL g25 (2 * d) = qL g (2 * d) ++ (List.range v27.toInt.toNat).map (fun c => ((if c + 1 = v7.toInt.toNat then 82 else 80 : Int32), (List.range 48).map fun j => g6 768 (8192 * d + (48 * c + j)))) := by
        intro hd v23 t23 ehd g25 hq v27 t27
        refine ⟨by omega, ?_⟩
        rw [hq, a3, show v27.toInt.toNat = a.toInt.toNat + 1 by omega, List.range_succ (n := a.toInt.toNat), List.map_append, List.append_assoc, List.map_cons, List.map_nil]
        congr 2
        rw [ehd]
        unfold oc48
        rw [h768]
        refine congrArg (fun x => [x]) (cell_ext rfl (fun j hj => ?_))
        congr 1
        omega
      refine ⟨fun c3 v22 e22 _ v23 e23 _ t23 => s_qadd (by omega) (fun z => by exfalso; omega) (fun g25 _ hq hpo v27 e27 _ t27 => step v22 v23 t23 ?_ g25 hq v27 t27), fun c3 v28 e28 _ v29 e29 _ t29 => s_qadd (by omega) (fun z => by exfalso; omega) (fun g31 _ hq hpo v33 e33 _ t33 => step v28 v29 t29 ?_ g31 hq v33 t33)⟩
      · rw [e22, if_neg (by omega)]
        decide
      · rw [e28, if_pos (by omega)]
        decide
  · rw [← hq8]
    refine qL_ext ?_ (fun k _ => ?_)
    · unfold qSz
      rw [e38, up2_of (by decide)]
    · unfold qC qPl
      rw [e38, up2_of (by decide), up2_of (by decide), up2_of (by decide)]
