/-! an end's line: DATA, POLL, units -/
theorem snt_ahd {g g1 : mSt} {i : Nat} (h : ∀ k, k / 8192 ≠ 2 * i + 1 → g1 1280 k = g 1280 k) (j : Nat) (hj : j < 8) : snt g1 i j = snt g i j := h _ (by omega)
theorem s_put16 {Z : cZ} {j q2 : Nat} {p1 p3 p4 : Int32} {g : mSt} {Φ : Int32 → mSt → Prop} (h0 : Φ 0 g) (h : ∀ g1, mFr [1248, 1280] g g1 → (∀ k, k / 8192 ≠ j → g1 1280 k = g 1280 k) → (∀ k, k ≠ 8192 * j + p1.toInt.toNat → g1 1280 k = g 1280 k) → (∀ k, k / 8192 ≠ j → g1 1248 k = g 1248 k) → Φ 0 g1) : wp_kput_16 Z j p1 q2 p3 p4 g Φ := by
  refine ⟨fun _ => h0, fun _ => ⟨fun _ => h0, fun _ => ⟨fun _ => h0, fun _ => ⟨fun _ => h0, fun _ => ⟨fun _ => trivial, fun _ v15 e15 _ t15 => ⟨fun _ v19 e19 _ t19 g21 e21 g23 e23 => h g23 (fun a ha => ?_) (fun k hk => ?_) (fun k hk => ?_) (fun k hk => ?_), fun _ => h0⟩⟩⟩⟩⟩⟩
  · simp only [List.mem_cons, List.not_mem_nil, or_false, not_or] at ha
    rw [e23, up2_of ha.2, e21, cCpy_o ha.1]
  · rw [e23, up2_n (fun z => hk (by rw [z, nat_cl]; omega)), e21, cCpy_r (by decide)]
  · rw [e23, up2_n (by rw [nat_cl]; exact hk), e21, cCpy_r (by decide)]
  · rw [e23, up2_o (by decide), e21, cCpy_x (by rw [nat_cl, nat_cl]; omega)]
/-- a change of r and h that keeps to it -/
theorem stp.rh {M : List Nat} {g g1 g2 : mSt} {i d : Nat} (h : stp g g1 i d) (k : mFr M g1 g2) (hM : (relR.all fun j => !(M.contains j) || j == 170 || j == 171) = true) (hrh : li g1 i → (g2 171 i).toInt ≤ (g2 170 i).toInt + 8) : stp g g2 i d := by
  have nm : ∀ j, j ∈ relR → j ≠ 170 → j ≠ 171 → j ∉ M := fun j hj a b z => by
    have := List.all_eq_true.mp hM j hj
    rw [List.contains_iff_mem.mpr z] at this
    simp [a, b] at this
  have hq := qL_fr k ⟨⟨nm _ (by decide) (by decide) (by decide), nm _ (by decide) (by decide) (by decide)⟩, nm _ (by decide) (by decide) (by decide), nm _ (by decide) (by decide) (by decide)⟩ (2 * d)
  have hf := fl_fr k ⟨nm _ (by decide) (by decide) (by decide), nm _ (by decide) (by decide) (by decide)⟩ i
  have hw := wtL_fr k ⟨nm _ (by decide) (by decide) (by decide), nm _ (by decide) (by decide) (by decide), nm _ (by decide) (by decide) (by decide)⟩ i
  refine h.tr ⟨fun m => ?_, fun c hc => Or.inl (by rw [← hq]; exact hc), by rw [uLn_fr k (nm _ (by decide) (by decide) (by decide))]; exact h.2.2.1, fun q => ⟨hrh q, fun j hj => ?_, by rw [hw]; exact q.2.2.1, by rw [k 832 (nm _ (by decide) (by decide) (by decide))]; exact q.2.2.2.1, by rw [k 1248 (nm _ (by decide) (by decide) (by decide))]; exact q.2.2.2.2⟩⟩
  · unfold pot
    rw [hq, hf, hw]
    exact Nat.le_refl _
  · unfold snt
    rw [k 1280 (nm _ (by decide) (by decide) (by decide))]
    exact q.2.1 j hj
theorem uLt_no {u : List Int32} (h : u.length ≠ 23 ∧ u.length ≠ 8 ∧ u.length ≠ 4) : uLt u = none := by
  unfold uLt
  rw [if_neg h.1, if_neg]
  rintro (⟨q, _⟩ | ⟨q, _⟩)
  · exact h.2.1 q
  · exact h.2.2 q
/-- a unit that is told word by word and has no letter -/
theorem stp.unit {M : List Nat} {Z : cZ} {g g1 g9 g11 : mSt} {i d : Nat} {u : List Int32} {k n : Int32} (h : stp g g1 i d) (k9 : mFr M g1 g9) (hM : (M.all fun j => j == 111 || j == 768) = true) (hu : uL g9 d = u) (hu2 : uLn g11 d = 0) (hq : qL g11 (2 * d) = qL g9 (2 * d) ∨ ∃ cs, uCs (uL g9 d ++ w4 (k <<< ((24 : Int32) &&& 31) ||| n)) cs ∧ qL g11 (2 * d) = qL g9 (2 * d) ++ cs) (hpo : po_ksendUnit Z d k n g9 0 g11) (hl : (u.length + 4 ≠ 23 ∧ u.length + 4 ≠ 8 ∧ u.length + 4 ≠ 4) ∧ u.length + 4 ≤ 200) (hg : goodU (u ++ w4 (k <<< ((24 : Int32) &&& 31) ||| n))) : stp g g11 i d := by
  have nm : ∀ j, j ≠ 111 → j ≠ 768 → j ∉ M := fun j a b z => by
    have := List.all_eq_true.mp hM j z
    simp [a, b] at this
  have e1 : qL g9 (2 * d) = qL g1 (2 * d) := qL_fr k9 ⟨⟨nm _ (by decide) (by decide), nm _ (by decide) (by decide)⟩, nm _ (by decide) (by decide), nm _ (by decide) (by decide)⟩ _
  rw [hu, e1] at hq
  have hf : fl g11 i = fl g1 i := (fl_fr hpo.2.1 ⟨by decide, by decide⟩ i).trans (fl_fr k9 ⟨nm _ (by decide) (by decide), nm _ (by decide) (by decide)⟩ i)
  have hw : wtL g11 i = wtL g1 i := (wtL_fr hpo.2.1 ⟨by decide, by decide, by decide⟩ i).trans (wtL_fr k9 ⟨nm _ (by decide) (by decide), nm _ (by decide) (by decide), nm _ (by decide) (by decide)⟩ i)
  have hlen : (u ++ w4 (k <<< ((24 : Int32) &&& 31) ||| n)).length = u.length + 4 := by rw [List.length_append, w4_len]
  exact h.gen hq (by omega) (by omega) hg (Or.inl (uLt_no (by rw [hlen]; exact hl.1))) (Or.inl hf) (by rw [hw]; exact Nat.le_refl _) hu2 (fun q => li_fr hpo.2.1 (by decide) i (li_fr k9 ⟨⟨⟨nm _ (by decide) (by decide), nm _ (by decide) (by decide), nm _ (by decide) (by decide)⟩, nm _ (by decide) (by decide), nm _ (by decide) (by decide), nm _ (by decide) (by decide)⟩, nm _ (by decide) (by decide), nm _ (by decide) (by decide)⟩ i q))
theorem mFr.tr' {M M1 : List Nat} {g g1 g2 : mSt} (h : mFr M g g1) (k : mFr M1 g1 g2) (hM : (M1.all fun j => M.contains j) = true) : mFr M g g2 := fun j hj => by
  rw [k j (fun z => hj (List.contains_iff_mem.mp (List.all_eq_true.mp hM j z))), h j hj]
theorem s_data {Z : cZ} {i d q1 : Nat} {p2 p3 : Int32} {g g0 : mSt} {Φ : Int32 → mSt → Prop} (hd : cOut Z.n i = d) (hs : stp g0 g i d) (h : ∀ g1, stp g0 g1 i d → Φ 0 g1) : wp_kdataCame Z i q1 p2 p3 g Φ := by
  intro v1 e1 r1
  rw [hd]
  have r1 : 0 ≤ v1.toInt ∧ v1.toInt ≤ 2000000000 := r1
  refine ⟨fun g2 => stp g0 g2 i d, fun g2 _ _ s2 => h _ s2, fun _ => hs, fun c1 v7 e7 _ t7 => ⟨fun c2 v10 e10 _ => ⟨fun g11 => stp g0 g11 i d, fun g11 k11 _ s11 v13 e13 _ t13 v15 _ m15 g16 e16 v18 e18 _ t18 => ?_, fun _ => hs, fun _ => ?_⟩, fun _ => hs⟩⟩
  · have k16 : mFr [171] g11 g16 := fun a ha => by rw [e16, up2_of (by simpa using ha)]
    have e170 : (g16 170 i).toInt = v1.toInt := by rw [k16 170 (by decide), k11 170 (by decide), ← e1]
    have e171 : (g11 171 i).toInt = v10.toInt := by rw [k11 171 (by decide), ← e10]
    have e170' : (g11 170 i).toInt = v1.toInt := by rw [k11 170 (by decide), ← e1]
    have s16 : stp g0 g16 i d := s11.rh k16 (by decide) (fun q => by
      have q1 := q.1
      rw [e171, e170'] at q1
      rw [e170, e16, up2_i]
      omega)
    refine s_put16 (fun _ => h _ s16) (fun g20 k20 a20 _ b20 _ => h _ (s16.fr2 k20 (by decide) (Or.inl (fl_eq (by rw [k20 164 (by decide)]) (snt_ahd a20))) (fun j hj => Or.inl (snt_ahd a20 j hj)) (fun x hx => b20 x (by omega))))
  · have z0 := hs.2.2.1
    refine s_word (by omega) (fun g27 u27 hpo27 => s_word ?_ (fun g28 u28 hpo28 => s_word ?_ (fun g30 u30 hpo30 => s_sendUnit ?_ (fun g32 hu2 hq hpo32 => ?_))))
    · rw [← uL_len, u27, uL_nil z0]
      show 4 ≤ 196
      decide
    · rw [← uL_len, u28, u27, uL_nil z0]
      show 8 ≤ 196
      decide
    · rw [← uL_len, u30, u28, u27, uL_nil z0]
      show 12 ≤ 196
      decide
    · have kk : mFr [111, 768] g g30 := mFr.tr' (mFr.tr' hpo27.2.1 hpo28.2.1 (by decide)) hpo30.2.1 (by decide)
      refine hs.unit kk (by decide) (u := w4 v10 ++ w4 p3 ++ w4 v7) (by rw [u30, u28, u27, uL_nil z0, List.nil_append]) hu2 hq hpo32 ?_ ⟨oct_app (oct_app (oct_app (w4_oct _) (w4_oct _)) (w4_oct _)) (w4_oct _), Or.inl ?_⟩
      · rw [List.length_append, List.length_append, w4_len, w4_len, w4_len]
        decide
      · rw [List.length_append, List.length_append, List.length_append, w4_len, w4_len, w4_len, w4_len]
        decide
theorem s_takeNext {Z : cZ} {i d q1 : Nat} {g g0 : mSt} {Φ : Int32 → mSt → Prop} (hs : stp g0 g i d) (h : ∀ r g1, stp g0 g1 i d → Φ r g1) : wp_ktakeNext Z i q1 g Φ := by
  intro v1 e1 r1 v2 e2 _ t2 v6 e6 _
  refine ⟨fun _ => h _ _ hs, fun _ => ⟨fun _ v12 e12 _ t12 g14 e14 => ?_, fun _ => trivial⟩⟩
  have k14 : mFr [1088] g g14 := cCpy_fr e14
  have s14 := hs.fr k14 (by decide)
  have fin : ∀ g15, mFr [1280, 1344] g14 g15 → (∀ k, g15 1280 k = g14 1280 k ∨ (g15 1280 k = 0 ∧ k / 8192 = 2 * i + 1)) → ∀ v17 : Int32, v17.toInt = v1.toInt + 1 → ∀ g20, g20 = up2 g15 170 i v17 → ∀ v21, v21 = g20 171 i → ∀ v23 : Int32, (v21.toInt ≤ v23.toInt ∧ v17.toInt ≤ v23.toInt ∧ (v23.toInt = v21.toInt ∨ v23.toInt = v17.toInt)) → ∀ g24, g24 = up2 g20 171 i v23 → stp g0 g24 i d := by
    intro g15 k15 a15 v17 t17 g20 e20 v21 e21 v23 m23 g24 e24
    have hn : ∀ k, k / 8192 ≠ 2 * i + 1 → g15 1280 k = g14 1280 k := fun k hk => (a15 k).elim id (fun z => absurd z.2 hk)
    have s15 : stp g0 g15 i d := s14.fr2 k15 (by decide) (Or.inl (fl_eq (by rw [k15 164 (by decide)]) (snt_ahd hn))) (fun j hj => Or.inl (snt_ahd hn j hj)) (fun x _ => by rw [k15 1248 (by decide)])
    refine s15.rh (M := [170, 171]) (fun a ha => ?_) (by decide) (fun q => ?_)
    · simp only [List.mem_cons, List.not_mem_nil, or_false, not_or] at ha
      rw [e24, up2_of ha.2, e20, up2_of ha.1]
    · have q1 := q.1
      have e171 : (g15 171 i).toInt = v21.toInt := by rw [e21, e20, up2_o (by decide)]
      have e170 : (g15 170 i).toInt = v1.toInt := by rw [k15 170 (by decide), k14 170 (by decide), ← e1]
      rw [e171, e170] at q1
      rw [e24, up2_i, up2_o (by decide), e20, up2_i]
      omega
  refine s_clear (fun _ v17 _ _ t17 g20 e20 v21 e21 _ v23 _ m23 g24 e24 => h _ _ (fin g14 (fun _ _ => rfl) (fun _ => Or.inl rfl) v17 t17 g20 e20 v21 e21 v23 m23 g24 e24)) (fun g15 k15 a15 _ _ v17 _ _ t17 g20 e20 v21 e21 _ v23 _ m23 g24 e24 => h _ _ (fin g15 k15 a15 v17 t17 g20 e20 v21 e21 v23 m23 g24 e24))
