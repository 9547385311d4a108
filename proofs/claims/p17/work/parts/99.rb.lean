/-! an end's line: its turn -/
theorem s_put26 {Z : cZ} {j q2 : Nat} {p1 p3 p4 : Int32} {g : mSt} {Φ : Int32 → mSt → Prop} (h1 : 0 ≤ p1.toInt ∧ p1.toInt < 8) (h3 : 0 ≤ p3.toInt) (h4 : 0 ≤ p4.toInt ∧ p4.toInt ≤ 60) (h5 : p3.toInt + p4.toInt ≤ 600) (h : ∀ g1, mFr [1248, 1280] g g1 → g1 1280 (8192 * j + p1.toInt.toNat) = p4 → (∀ k, k ≠ 8192 * j + p1.toInt.toNat → g1 1280 k = g 1280 k) → (∀ k, g1 1248 k = g 1248 k ∨ ∃ x, x / 8192 = q2 ∧ g1 1248 k = g 832 x) → Φ 0 g1) : wp_kput_26 Z j p1 q2 p3 p4 g Φ := by
  refine ⟨fun _ => by exfalso; omega, fun _ => ⟨fun _ => by exfalso; omega, fun _ => ⟨fun _ => by exfalso; omega, fun _ => ⟨fun _ => by exfalso; omega, fun _ => ⟨fun _ => trivial, fun _ v15 e15 _ t15 => ⟨fun _ v19 e19 _ t19 g21 e21 g23 e23 => h g23 (fun a ha => ?_) ?_ (fun k hk => ?_) (fun k => ?_), fun _ => by exfalso; omega⟩⟩⟩⟩⟩⟩
  · simp only [List.mem_cons, List.not_mem_nil, or_false, not_or] at ha
    rw [e23, up2_of ha.2, e21, cCpy_o ha.1]
  · rw [e23, ← nat_cl, up2_i]
  · rw [e23, up2_n (by rw [nat_cl]; exact hk), e21, cCpy_r (by decide)]
  · rw [e23, up2_o (by decide), e21]
    by_cases hk : 8192 * j + v19.toNatClampNeg ≤ k ∧ k < 8192 * j + v19.toNatClampNeg + p4.toNatClampNeg
    · right
      rw [cCpy_y hk]
      rw [nat_cl, nat_cl] at hk
      exact ⟨_, by rw [nat_cl, nat_cl]; omega, rfl⟩
    · left
      exact cCpy_x hk
theorem s_drop {Z : cZ} {i : Nat} {g : mSt} {Φ : Int32 → mSt → Prop} (hp : 0 < (g 198 i).toInt) (h : ∀ g1, mFr [197, 198] g g1 → wtL g i = g 864 (8192 * i + (g 197 i).toInt.toNat) :: wtL g1 i → Φ 0 g1) : wp_kmdropFirst Z i g Φ := by
  intro v1 e1 r1
  refine ⟨fun c => by exfalso; rw [e1] at c; omega, fun c v5 e5 r5 v6 e6 _ t6 v8 e8 _ t8 g9 e9 v11 e11 _ t11 g12 e12 => h g12 (fun a ha => ?_) ?_⟩
  · simp only [List.mem_cons, List.not_mem_nil, or_false, not_or] at ha
    rw [e12, up2_of ha.2, e9, up2_of ha.1]
  · have r5 : 0 ≤ v5.toInt ∧ v5.toInt ≤ 9 := r5
    have a197 : (g12 197 i).toInt = v8.toInt := by rw [e12, up2_o (by decide), e9, up2_i]
    have a198 : (g12 198 i).toInt = v11.toInt := by rw [e12, up2_i]
    have b197 : (g 197 i).toInt = v5.toInt := by rw [e5]
    have b198 : (g 198 i).toInt = v1.toInt := by rw [e1]
    have e864 : g12 864 = g 864 := by rw [e12, up2_of (by decide), e9, up2_of (by decide)]
    unfold wtL wtP
    rw [a197, a198, b197, b198, e864, show v1.toInt.toNat = v11.toInt.toNat + 1 by omega, List.range_succ_eq_map, List.map_cons, List.map_map]
    congr 1
    · congr 2
      omega
    · refine List.map_congr_left (fun k _ => ?_)
      show g 864 (8192 * i + (v5.toInt.toNat + (k + 1)) % 10) = g 864 (8192 * i + (v8.toInt.toNat + k) % 10)
      congr 2
      omega
/-- a message goes from those that wait to those sent -/
theorem stp.mv {g g1 g2 g3 : mSt} {i d : Nat} {p : Nat} {v : Int32} (h : stp g g1 i d) (hp : p < 8) (k2 : mFr [1248, 1280] g1 g2) (a2 : g2 1280 (8192 * (2 * i) + p) = v) (b2 : ∀ k, k ≠ 8192 * (2 * i) + p → g2 1280 k = g1 1280 k) (c2 : ∀ k, g2 1248 k = g1 1248 k ∨ ∃ x, x / 8192 = i ∧ g2 1248 k = g1 832 x) (k3 : mFr [197, 198] g2 g3) (hw : wtL g1 i = v :: wtL g3 i) : stp g g3 i d := by
  have hq : qL g3 (2 * d) = qL g1 (2 * d) := (qL_fr k3 ⟨⟨by decide, by decide⟩, by decide, by decide⟩ _).trans (qL_fr k2 ⟨⟨by decide, by decide⟩, by decide, by decide⟩ _)
  have e164 : g3 164 i = g1 164 i := by rw [k3 164 (by decide), k2 164 (by decide)]
  have sn : ∀ j, j < 8 → snt g3 i j = snt g1 i j ∨ (j = p ∧ snt g3 i j = v) := fun j hj => by
    unfold snt
    rw [k3 1280 (by decide)]
    by_cases c : j = p
    · subst c
      exact Or.inr ⟨rfl, a2⟩
    · exact Or.inl (b2 _ (by omega))
  refine h.tr ⟨fun m => ?_, fun c hc => Or.inl (by rw [← hq]; exact hc), by rw [uLn_fr k3 (by decide), uLn_fr k2 (by decide)]; exact h.2.2.1, fun q => ⟨by rw [k3 170 (by decide), k2 170 (by decide), k3 171 (by decide), k2 171 (by decide)]; exact q.1, fun j hj => ?_, fun x hx => q.2.2.1 x (by rw [hw]; exact List.mem_cons_of_mem _ hx), by rw [k3 832 (by decide), k2 832 (by decide)]; exact q.2.2.2.1, fun k hk => ?_⟩⟩
  · unfold pot
    rw [hq, hw]
    have hn : n19 (v :: wtL g3 i) = n19 (wtL g3 i) + (if v.toInt = 19 then 1 else 0) := by
      unfold n19
      rw [List.countP_cons]
      by_cases c : v.toInt = 19
      · rw [if_pos c, if_pos (decide_eq_true c)]
      · rw [if_neg c, if_neg (by simpa using c)]
    rw [hn]
    by_cases c : v.toInt = 19
    · rw [if_pos c]
      have := alt_flip (m := m) (w := (qL g1 (2 * d)).map ltr) (f := fl g1 i) (f1 := fl g3 i)
      have h1 : (fl g3 i).toNat ≤ 1 := Bool.toNat_le _
      omega
    · rw [if_neg c]
      have := alt_fl (m := m) (w := (qL g1 (2 * d)).map ltr) (fl_le e164 (fun j hj => (sn j hj).imp id (fun z => by rw [z.2]; exact c)))
      omega
  · rcases sn j hj with z | z
    · rw [z]
      exact q.2.1 j hj
    · rw [z.2]
      exact q.2.2.1 v (by rw [hw]; exact List.mem_cons_self ..)
  · rw [k3 1248 (by decide)]
    rcases c2 k with z | ⟨x, hx, z⟩
    · rw [z]
      exact q.2.2.2.2 k hk
    · rw [z]
      exact q.2.2.2.1 x hx
theorem s_turn {Z : cZ} {i d : Nat} {p1 : Int32} {g g0 : mSt} {Φ : Int32 → mSt → Prop} (hd : cOut Z.n i = d) (hl0 : li g0 i) (hs : stp g0 g i d) (h : ∀ r g1, stp g0 g1 i d → Φ r g1) : wp_kturn Z i p1 g Φ := by
  intro v1 e1 _
  refine ⟨fun g2 => stp g0 g2 i d, fun g2 _ _ s2 v3 e3 _ => ⟨fun c3 v7 e7 _ => ⟨fun _ g9 => stp g0 g9 i d ∧ (g9 164 i).toInt = 2, fun a g9 k9 _ _ q9 v10 e10 _ => ⟨fun _ => ⟨fun _ g13 => stp g0 g13 i d ∧ (g13 164 i).toInt = 2, fun b g13 _ _ _ q13 => ⟨fun g14 => stp g0 g14 i d, fun g14 _ _ s14 => h _ _ s14, fun _ => q13.1, fun _ v19 e19 _ => ⟨fun _ => q13.1, fun c19 v23 e23 r23 v24 e24 _ => ⟨fun _ => q13.1, fun _ v30 e30 _ t30 => ⟨fun _ => q13.1, fun _ v34 e34 r34 v37 e37 r37 t37 v40 e40 _ t40 v43 e43 r43 => ?_⟩⟩⟩⟩, q9⟩, fun _ v68 e68 _ t68 v70 e70 _ => ⟨fun g71 => stp g0 g71 i d ∧ (g71 164 i).toInt = 2, fun g71 _ _ q71 v72 _ _ _ => q71, fun _ => q9, fun _ => s_sendData hd q9.1 (q9.1.2.2.2 hl0) q9.2 (fun v79 g78 s78 t78 _ => ⟨fun _ => ⟨s78, t78⟩, fun _ => s_poll hd s78 (fun g85 s85 hpo => ⟨s85, by rw [hpo.2.1 164 (by decide)]; exact t78⟩)⟩)⟩⟩, ⟨s2, by rw [← e3]; exact c3⟩⟩, fun _ => h _ _ s2⟩, fun _ => hs, fun _ v93 e93 _ => ⟨fun _ => hs, fun _ => s_ask hd hs (by decide) (fun g97 s97 _ _ => s97)⟩⟩
  have r34 : 0 ≤ v34.toInt ∧ v34.toInt ≤ 9 := r34
  have r37 : 0 ≤ v37.toInt ∧ v37.toInt ≤ 7 := r37
  have r43 : 0 ≤ v43.toInt ∧ v43.toInt ≤ 60 := r43
  refine s_put26 (by omega) (by omega) (by omega) (by omega) (fun g44 k44 a44 b44 c44 _ => s_drop (by rw [k44 198 (by decide), ← e19]; exact c19) (fun g45 k45 w45 _ v47 e47 _ t47 g49 e49 v51 e51 _ t51 => ?_))
  have hw : wtL g13 i = v43 :: wtL g45 i := by
    rw [← wtL_fr k44 ⟨by decide, by decide, by decide⟩, w45, k44 864 (by decide), k44 197 (by decide), ← e34, e43, nat_cl]
  have s45 := q13.1.mv (by omega) k44 a44 b44 c44 k45 hw
  have s49 := s45.up e49 (by decide)
  have t49 : (g49 164 i).toInt = 2 := by rw [e49, up2_o (by decide), k45 164 (by decide), k44 164 (by decide)]; exact q13.2
  exact s_sendData hd s49 (s49.2.2.2 hl0) t49 (fun v54 g53 s53 t53 _ => ⟨fun g55 => stp g0 g55 i d ∧ (g55 164 i).toInt = 2, fun g55 _ _ q55 v56 _ _ _ => q55, fun _ => ⟨s53, t53⟩, fun _ => s_poll hd s53 (fun g62 s62 hpo => ⟨s62, by rw [hpo.2.1 164 (by decide)]; exact t53⟩)⟩)
