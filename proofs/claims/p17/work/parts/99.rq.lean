/-! the switch's calls: their timers, and what goes on with them -/
theorem lf_due {g : mSt} {t : Int} {c : Nat} (h : (g 41 c).toInt = t) (ht : 1 ≤ t) (h0 : (g 36 c).toInt ≠ 0) : lf g t c = min 16 (cEx g c).toNat := by
  unfold lf
  rw [if_neg h0, if_neg (by omega), h]
  congr 1
  congr 1
  omega
theorem rep_chw {n c : Nat} {g g1 g2 : mSt} {v : Int32} (e1 : g1 = up2 g 41 c v) (e2 : g2 = up2 g1 42 c 1) : chw n g g2 c := chw_c (fun j k hn => by rw [e2, up2_c (fun z => hn ⟨z.2, by rw [z.1]; decide⟩), e1, up2_c (fun z => hn ⟨z.2, by rw [z.1]; decide⟩)])
/-- the timer of a call is set once more -/
theorem sst.rep {n N c d : Nat} {p k v : Int32} {m : Int} {g0 g g1 g2 : mSt} (hs : sst n N p.toInt g0 g d) (hc : (n : Int) ≤ (g 32 c).toInt ∧ c < N) (ht : 1 ≤ p.toInt ∧ p.toInt ≤ 1000000000) (hd : (g 41 c).toInt = p.toInt) (h0 : (g 36 c).toInt ≠ 0) (hm : cEx g c = m ∧ 0 ≤ m ∧ m ≤ 16) (hk : k.toInt = m) (ev : v = p + k) (e1 : g1 = up2 g 41 c v) (e2 : g2 = up2 g1 42 c 1) : sst n N p.toInt g0 g2 d := by
  have f := rep_chw (n := n) e1 e2
  have a36 : g2 36 c = g 36 c := by rw [e2, up2_o (by decide), e1, up2_o (by decide)]
  have a41 : g2 41 c = v := by rw [e2, up2_o (by decide), e1, up2_i]
  have tv : v.toInt = p.toInt + m := by rw [ev]; exact add_t hk (by omega) (by omega)
  have hz : (0 : Int) ≤ cEx g2 c := by
    unfold cEx
    split
    · omega
    · split
      · omega
      · split <;> omega
  refine hs.one (d1 := 0) f hc (fun z => absurd z h0) (Or.inr (dyg_eq a36)) ?_
  rw [lf_due hd ht.1 h0, hm.1]
  unfold lf
  rw [a36, if_neg h0, a41, if_neg (by omega), tv]
  omega
theorem s_timer10 {Z : cZ} {N f c d : Nat} {p2 : Int32} {g g0 : mSt} {Φ : Int32 → mSt → Prop} (hs : sst Z.n N p2.toInt g0 g d) (ht : 1 ≤ p2.toInt ∧ p2.toInt ≤ 1000000000) (hc : (Z.n : Int) ≤ (g 32 c).toInt ∧ c < N) (hd : (g 41 c).toInt = p2.toInt) (h0 : (g 36 c).toInt ≠ 0) (h11 : (g 36 c).toInt ≠ 11) (h : ∀ g1, sst Z.n N p2.toInt g0 g1 d → Φ 0 g1) : wp_ktimer_10 Z f c p2 g Φ := by
  intro v1 e1 _
  rw [← e1] at h0 h11
  refine ⟨fun b g3 => g3 = g ∧ (b.toInt = 0 → ¬ ((g 36 c).toInt = 6 ∧ (g 42 c).toInt = 0)) ∧ (b.toInt ≠ 0 → (g 36 c).toInt = 6 ∧ (g 42 c).toInt = 0), fun b g3 _ _ _ _ q3 => ?_, ⟨fun g30 => g30 = g ∧ ¬ ((g 36 c).toInt = 6 ∧ (g 42 c).toInt = 0), fun g30 _ _ _ q30 => ⟨q30.1, fun _ => q30.2, fun z => absurd rfl z⟩, fun z => ⟨rfl, fun w => z (by rw [e1]; exact w.1)⟩, fun z v36 e36 _ => ⟨fun z2 => ⟨rfl, fun w => z2 (by rw [e36]; exact w.2)⟩, fun z2 => ⟨rfl, fun w => absurd w (by decide), fun _ => ⟨by rw [← e1]; exact z, by rw [← e36]; exact z2⟩⟩⟩⟩⟩
  obtain ⟨eg, q0, q1⟩ := q3
  rw [eg]
  have ht0 : 0 ≤ p2.toInt ∧ p2.toInt ≤ 1000000000 := by omega
  refine ⟨fun b0 => ⟨fun g8 => mid Z.n N p2.toInt g0 g8 c d, fun g8 _ _ _ m8 v9 e9 => ⟨fun z => h _ (m8.none e9 z), fun z => s_rel m8 ht0 e9 z (fun g1 s1 _ => h g1 s1)⟩, fun n9 => s_finM hs hc (fun g21 m21 _ _ _ => ?_), fun z9 => s_releaseX hc.1 (fun z _ => ?_) (fun g24 nd f24 a24 b24 c24 _ => ?_)⟩, fun b1 v27 e27 _ g1 e41 g2 e42 _ => wt_ksaySetup_10 (fun _ g29 hpo => h _ ((hs.rep (m := 8) (k := 8) hc ht hd (by rw [← e1]; exact h0) ?_ rfl e27 e41 e42).say hpo.1))⟩
  · have hx : cEx g c = 0 := by
      unfold cEx
      rw [if_neg (q0 b0), if_neg (by rw [← e1]; omega), if_neg (by rw [← e1]; omega)]
    have hl : lf g p2.toInt c = 0 := by
      rw [lf_due hd ht.1 (by rw [← e1]; exact h0), hx]
      rfl
    rw [hl] at m21
    exact m21
  · exfalso
    rcases z with z | z
    · exact h0 (by rw [e1]; exact z)
    · exact h11 (by rw [e1]; exact z)
  · refine ⟨g, d, 0, rfl, hs, f24, hc, Or.inr (by rw [a24]; rfl), fun z => absurd (Or.inl z) nd, ?_⟩
    rw [lf_11 ht0 a24 b24 c24]
    exact lf_16
  · exact ⟨by unfold cEx; rw [if_pos (q1 b1)], by decide, by decide⟩
theorem s_callTimers10 {Z : cZ} {N f d : Nat} {p1 : Int32} {g g0 : mSt} {Φ : Int32 → mSt → Prop} (hN : ∀ c, Z.al 1 c → c < N) (hs : sst Z.n N p1.toInt g0 g d) (ht : 1 ≤ p1.toInt ∧ p1.toInt ≤ 1000000000) (h : ∀ g1, sst Z.n N p1.toInt g0 g1 d → Φ 0 g1) : wp_kcallTimers_10 Z f p1 g Φ := by
  refine ⟨fun _ g2 => sst Z.n N p1.toInt g0 g2 d, fun a g2 _ _ _ _ s2 => ?_, hs⟩
  intro v5 e5 _ _
  refine ⟨fun _ => h g2 s2, fun c5 => s_lgetX (fun v11 e11 hpo => s_isOpenX (fun z0 _ => ?_) (fun z0 _ => ?_))⟩
  · exact ⟨fun g14 => sst Z.n N p1.toInt g0 g14 d, fun g14 _ _ _ q14 v15 _ _ _ => q14, fun _ => s2, fun z => absurd rfl z⟩
  · have hq := hpo.2.2.2
    have hc : (Z.n : Int) ≤ (g2 32 v11.toInt.toNat).toInt ∧ v11.toInt.toNat < N := ⟨by rw [hq.2.2]; omega, hN _ hq.2.1⟩
    refine ⟨fun g14 => sst Z.n N p1.toInt g0 g14 d, fun g14 _ _ _ q14 v15 _ _ _ => q14, fun z => absurd z (by decide), fun _ v21 e21 _ => ⟨fun z21 v23 e23 _ => ⟨fun z23 v27 e27 _ => ⟨fun z27 v31 e31 _ g1 e41 g32 e42 _ v33 _ _ v34 _ _ v35 _ _ => wt_ksayCause_10 (fun _ g36 hpo36 => (s2.rep (m := 10) (k := 10) hc ht (by rw [← e21]; exact z21) z0 ?_ rfl e31 e41 e42).say hpo36.1), fun z27 v39 _ _ => s_finishX (n := Z.n) (fun g40 f40 a40 _ => ?_)⟩, fun z23 => s_timer10 s2 ht hc (by rw [← e21]; exact z21) z0 (by rw [← e23]; exact z23) (fun g1 s1 _ => s1)⟩, fun _ => s2⟩⟩
    · exact ⟨by unfold cEx; rw [← e23, ← e27, if_neg (by omega), if_pos (by omega)], by decide, by decide⟩
    · refine s2.one (d1 := 0) f40 hc (fun _ => by rw [a40]; rfl) (Or.inr (iff_of_true (Or.inl (by rw [a40]; rfl)) (Or.inr (by rw [← e23]; exact z23)))) ?_
      have hx : cEx g2 v11.toInt.toNat = 0 := by
        unfold cEx
        rw [← e23, ← e27, if_neg (by omega), if_neg (by omega), if_neg (by omega)]
      rw [lf_due (by rw [← e21]; exact z21) ht.1 z0, hx]
      exact Nat.zero_le _
/-- PROCEEDING or CONNECT came -/
theorem s_progress10 {Z : cZ} {N f c q2 d : Nat} {p3 : Int32} {g g0 : mSt} {Φ : Int32 → mSt → Prop} (hs : sst Z.n N p3.toInt g0 g d) (ht : 0 ≤ p3.toInt ∧ p3.toInt ≤ 1000000000) (hc : (Z.n : Int) ≤ (g 32 c).toInt ∧ c < N) (h : ∀ g1, sst Z.n N p3.toInt g0 g1 d → Φ 0 g1) : wp_kprogress_10 Z f c q2 p3 g Φ := by
  intro v1 _ _
  refine ⟨fun b g3 => g3 = g ∧ (b.toInt ≠ 0 → (g 36 c).toInt = 6 ∨ (g 36 c).toInt = 9), fun b g3 _ _ _ _ q3 => ?_, ⟨fun g41 => g41 = g, fun g41 _ _ _ q41 => ⟨q41, fun z => absurd rfl z⟩, fun _ => rfl, fun _ v47 e47 _ => ⟨fun g48 => g48 = g ∧ ((g 36 c).toInt = 6 ∨ (g 36 c).toInt = 9), fun g48 _ _ _ q48 => ⟨q48.1, fun _ => q48.2⟩, fun z => ⟨rfl, Or.inl (by rw [← e47]; exact z)⟩, fun _ => ⟨fun _ => rfl, fun z => ⟨rfl, Or.inr (by rw [← e47]; exact z)⟩⟩⟩⟩⟩
  obtain ⟨eg, qb⟩ := q3
  rw [eg]
  refine ⟨fun g5 => sst Z.n N p3.toInt g0 g5 d, fun g5 _ _ _ s5 => h _ s5, ⟨fun g6 => g6 = g, fun g6 _ _ _ q6 => ?_, fun _ => rfl, fun _ v34 e34 _ => ⟨fun _ => rfl, fun z34 v39 e39 _ => s_enterX (fun g40 f40 a40 b40 c40 _ => ?_)⟩⟩⟩
  · rw [show g6 = g from q6]
    refine ⟨fun _ => hs, fun bn v12 e12 => ⟨fun _ => hs, fun z12 => s_enterX (fun g21 f21 a21 b21 c21 _ => s_enterX (fun g22 f22 a22 b22 c22 _ => ?_))⟩⟩
    have hp := hs.2.1.2 c hc.2 hc.1 (by rw [← e12]; exact z12)
    rw [← e12] at hp
    have hnd : ¬ dyg g c := fun z => by
      unfold dyg at z
      have := qb bn
      omega
    have hnp : ¬ dyg g v12.toInt.toNat := fun z => hnd (hp.2.2.2.mpr z)
    have n0 : ∀ x, ¬ dyg g x → (g 36 x).toInt ≠ 0 := fun x hx z => hx (Or.inl z)
    have h10 : ∀ {gg : mSt} {x : Nat}, gg 36 x = 10 → ¬ dyg gg x := fun {gg x} e z => by
      unfold dyg at z
      rw [e] at z
      have : (10 : Int32).toInt = 10 := by decide
      omega
    have s21 : sst Z.n N p3.toInt g0 g21 d := by
      refine hs.one (d1 := 0) (chw_c f21) hc (fun z => absurd z (n0 c hnd)) (Or.inr (iff_of_false (h10 a21) hnd)) ?_
      rw [lf_new (g := g21) (by rw [a21]; decide) (Or.inl (by rw [b21]; rfl))]
      exact lf_16
    have hnp21 : ¬ dyg g21 v12.toInt.toNat := by
      by_cases e : v12.toInt.toNat = c
      · rw [e]
        exact h10 a21
      · rw [dyg_eq ((chw_c (n := Z.n) f21).cs1.2 _ e).1]
        exact hnp
    have c21 : g21 32 = g 32 := (chw_c (n := Z.n) f21).cs1.1 32 (by decide)
    have s22 : sst Z.n N p3.toInt g0 g22 d := by
      refine s21.one (d1 := 0) (chw_c f22) ⟨by rw [c21]; exact hp.2.1, hp.1⟩ (fun z => absurd (Or.inl z) hnp21) (Or.inr (iff_of_false (h10 a22) hnp21)) ?_
      rw [lf_new (g := g22) (by rw [a22]; decide) (Or.inl (by rw [b22]; rfl))]
      exact lf_16
    have c22 : g22 32 = g21 32 := (chw_c (n := Z.n) f22).cs1.1 32 (by decide)
    refine wt_ksayPlain_10 (fun _ g23 hpo23 v24 e24 => ?_)
    have t24 : Z.n ≤ v24.toInt.toNat := by
      rw [e24, hpo23.2.1 32 (by decide), c22, c21]
      omega
    exact ⟨fun z => by exfalso; omega, fun _ => wt_ksayPlain_10 (fun _ g29 hpo29 => (s22.say hpo23.1).say hpo29.1)⟩
  · refine hs.one (d1 := 0) (chw_c f40) hc (fun z => by rw [← e34] at z; omega) (Or.inr (iff_of_false (fun z => ?_) (fun z => ?_))) ?_
    · unfold dyg at z
      rw [a40] at z
      have : (9 : Int32).toInt = 9 := by decide
      omega
    · unfold dyg at z
      rw [← e34] at z
      omega
    · rw [lf_new (g := g40) (by rw [a40]; decide) (Or.inr ?_)]
      · exact lf_16
      · have e := add_t (p := p3) (k := 40) (m := 40) rfl ⟨by decide, by decide⟩ ht
        have a : (9 : Int32).toInt = 9 := by decide
        unfold cEx
        rw [a40, b40, e39, e, a, if_neg (by omega), if_neg (by omega), if_pos rfl]
        omega
