/-! the switch's side in the first part of a tick -/
set_option maxHeartbeats 2000000 in
theorem FA_timers {Z : cZ} {f N : Nat} {p1 : Int32} {g g1 : mSt} (h : mFi (im_ktimers Z (Z.n + f) p1) g g1) : FA Z.n f N g g1 := FA.fi h (fun j k w => by
  have c : cOut Z.n (Z.n + f) = 2 * f + 1 := by
    unfold cOut
    rw [if_neg (by omega)]
    omega
  refine mOut_all (fun t ht e0 => ?_)
  subst e0
  simp only [im_ktimers, c, List.mem_cons, List.not_mem_nil, or_false] at ht
  rcases ht with ht | ht | ht | ht | ht | ht | ht | ht | ht | ht | ht | ht | ht | ht | ht | ht | ht | ht | ht | ht | ht | ht | ht | ht | ht | ht | ht | ht | ht | ht
  all_goals
    subst ht
    refine ⟨by simp, fun z => w ?_⟩
    dsimp only at z ⊢
    first
      | exact oA_any (by decide)
      | exact oA_l (by decide) z
      | exact oA_197 z
      | exact oA_a (by decide) (Or.inl z)
      | exact oA_a (by decide) (Or.inr z)
      | exact oA_67 z
      | exact oA_q (by decide) z
      | exact oA_111 z
      | exact oA_768 z
      | exact oA_r (by decide) z
      | exact oA_p (by decide) z
      | exact oA_198 z
      | exact oA_83 (by decide) z)
set_option maxHeartbeats 2000000 in
theorem FA_turn {Z : cZ} {f N : Nat} {p1 : Int32} {g g1 : mSt} (h : mFi (im_kturn Z (Z.n + f) p1) g g1) : FA Z.n f N g g1 := FA.fi h (fun j k w => by
  have c : cOut Z.n (Z.n + f) = 2 * f + 1 := by
    unfold cOut
    rw [if_neg (by omega)]
    omega
  refine mOut_all (fun t ht e0 => ?_)
  subst e0
  simp only [im_kturn, c, List.mem_cons, List.not_mem_nil, or_false] at ht
  rcases ht with ht | ht | ht | ht | ht | ht | ht | ht | ht | ht | ht | ht | ht | ht | ht | ht | ht | ht | ht | ht
  all_goals
    subst ht
    refine ⟨by simp, fun z => w ?_⟩
    dsimp only at z ⊢
    first
      | exact oA_any (by decide)
      | exact oA_l (by decide) z
      | exact oA_197 z
      | exact oA_a (by decide) (Or.inl z)
      | exact oA_a (by decide) (Or.inr z)
      | exact oA_67 z
      | exact oA_q (by decide) z
      | exact oA_111 z
      | exact oA_768 z
      | exact oA_r (by decide) z
      | exact oA_p (by decide) z
      | exact oA_198 z
      | exact oA_83 (by decide) z)
theorem a_timers {Z : cZ} {i : Nat} {p1 : Int32} {g : mSt} {Φ : Int32 → mSt → Prop} (h : ∀ r g1, aS g g1 i → Φ r g1) : wp_ktimers Z i p1 g Φ := by
  intro v1 e1 _
  refine ⟨fun _ => ⟨fun _ g6 => aS g g6 i, fun b g6 _ _ _ s6 => ⟨fun g7 => aS g g7 i, fun g7 _ _ s7 => h b g7 s7, fun _ => s6, fun _ => s_sendAny (fun g13 hpo => s_cut (fun g14 c14 _ _ r14 _ => aS.cl c14 r14))⟩, fun _ v17 _ _ v18 _ _ => ⟨fun _ v21 _ _ v22 _ _ v23 _ _ v24 _ _ => ⟨fun _ g26 => aS g g26 i, fun b g26 _ _ _ s26 => ⟨fun _ => s26, fun _ => wt_kpoll (fun _ g30 hpo => s26.fr hpo.2.1 (by decide))⟩, fun _ => aS.rf, fun _ => aS.rf⟩, fun _ => aS.rf⟩, fun _ v35 _ _ v36 _ _ => ⟨fun _ g38 => aS g g38 i, fun b g38 _ _ _ s38 => ⟨fun _ g40 => aS g g40 i, fun b40 g40 _ _ _ s40 => ⟨fun g41 => aS g g41 i, fun g41 _ _ s41 => s41, fun _ => s40, fun _ => ⟨fun _ => s40, fun _ => wt_kaskAgain (fun _ g48 hpo => s40.fr hpo.2.1 (by decide))⟩⟩, ⟨fun g49 => aS g g49 i, fun g49 _ _ s49 => s49, fun _ => s38, fun _ v53 _ _ => ⟨fun _ => s38, fun _ => s38⟩⟩⟩, fun _ => aS.rf, fun _ => aS.rf⟩⟩, fun _ => h _ _ aS.rf⟩
/-- lives and ticks together, and what lies ahead -/
def sfR (n N f : Nat) (t : Int) (g g1 : mSt) : Prop := (CI n N g1 ∧ lnI t g1 (n + f)) ∧ 5 * LT n g t + 12 * lfG g t (n + f) ≤ 5 * LT n g1 t + 12 * lfG g1 t (n + f) ∧ aS g g1 (n + f) ∧ (∀ x, x / 8192 = 2 * (n + f) + 1 → g1 1248 x = g 1248 x) ∧ FA n f N g g1 ∧ (g1 32 = g 32 ∧ g1 43 = g 43) ∧ g1 386 = g 386 ∧ g1 1729 = g 1729 ∧ g1 1216 = g 1216 ∧ ∀ j, (225 ≤ j ∧ j ≤ 235) ∨ j = 800 ∨ j = 512 → g1 j = g j
theorem sw_first {Z : cZ} {f : Nat} {t : Int32} {g : mSt} {Ψ : mSt → Prop} (hf : f < Z.n) (hN : ∀ c, Z.al 1 c → c < Z.w 2) (ht : 1 ≤ t.toInt ∧ t.toInt ≤ 1000000000) (hci : CI Z.n (Z.w 2) g) (hn : lnI t.toInt g (Z.n + f)) (h : ∀ g1, sfR Z.n (Z.w 2) f t.toInt g g1 → Ψ g1) :
    wp_ktimers Z (Z.n + f) t g (fun v g1 => po_ktimers Z (Z.n + f) t g v g1 → ((v.toInt = 0) → wp_kcallTimers_10 Z f t g1 (fun _ g2 => po_kcallTimers_10 Z f t g1 0 g2 → wp_kturn Z (Z.n + f) t g2 (fun _ g3 => po_kturn Z (Z.n + f) t g2 0 g3 → Ψ g3))) ∧ ((v.toInt ≠ 0) → wp_kallOver_10 Z f t g1 (fun _ g2 => po_kallOver_10 Z f t g1 0 g2 → wp_kcallTimers_10 Z f t g2 (fun _ g3 => po_kcallTimers_10 Z f t g2 0 g3 → wp_kturn Z (Z.n + f) t g3 (fun _ g4 => po_kturn Z (Z.n + f) t g3 0 g4 → Ψ g4))))) := by
  refine wc_ktimers (Φ := fun r g1 => lnI t.toInt g1 (Z.n + f) ∧ (r.toInt = 0 → lfG g t.toInt (Z.n + f) ≤ lfG g1 t.toInt (Z.n + f)) ∧ (r.toInt ≠ 0 → lfG g t.toInt (Z.n + f) + 20 ≤ lfG g1 t.toInt (Z.n + f))) (Ψ := fun _ g1 => aS g g1 (Z.n + f)) (fun v g1 a s1 hpo1 => ?_) (l_timers (by omega) hn (fun r g1 a b c => ⟨a, b, c⟩)) (a_timers (fun _ g1 a => a))
  have c1 : CI Z.n (Z.w 2) g1 := core_CI hpo1.2.1 (by decide) hci
  have l1 : LT Z.n g1 t.toInt = LT Z.n g t.toInt := core_LT hpo1.2.1 (by decide)
  have b1 : g1 1248 = g 1248 := hpo1.2.1 1248 (by decide)
  -- the rest of it, with so many lives gone
  have rest : ∀ (g2 : mSt) (d : Nat), sst Z.n (Z.w 2) t.toInt g1 g2 d → 5 * d + 12 * lfG g t.toInt (Z.n + f) ≤ 12 * lfG g1 t.toInt (Z.n + f) → wp_kcallTimers_10 Z f t g2 (fun _ g3 => po_kcallTimers_10 Z f t g2 0 g3 → wp_kturn Z (Z.n + f) t g3 (fun _ g4 => po_kturn Z (Z.n + f) t g3 0 g4 → Ψ g4)) := fun g2 d s2 hd => by
    refine s_callTimers10 hN s2 ht (fun g3 s3 _ => ?_)
    have r3 : ∀ j, j ∉ cRows ∧ j ≠ 198 ∧ j ≠ 832 ∧ j ≠ 864 → g3 j = g1 j := fun j hj => s3.row j hj
    have n3 : lnI t.toInt g3 (Z.n + f) := by
      have := a.1
      unfold lnI at this ⊢
      rw [r3 177 (by decide), r3 178 (by decide), r3 180 (by decide)]
      exact this
    have g3e : lfG g3 t.toInt (Z.n + f) = lfG g1 t.toInt (Z.n + f) := by
      unfold lfG
      rw [r3 164 (by decide), r3 177 (by decide), r3 178 (by decide), r3 180 (by decide)]
    refine wc_kturn (Φ := fun _ g4 => LnS t.toInt (Z.n + f) g3 g4) (Ψ := fun _ _ => True) (fun _ g4 l4 _ hpo4 => h g4 ⟨⟨core_CI hpo4.2.1 (by decide) s3.2.1, l4.1⟩, ?_, ?_, ?_, ((FA_timers hpo1.1).tr (Nat.le_refl _) (FA.sst s3)).tr (Nat.le_refl _) (FA_turn hpo4.1), ⟨by rw [hpo4.2.1 32 (by decide), r3 32 (by decide), hpo1.2.1 32 (by decide)], by rw [hpo4.2.1 43 (by decide), r3 43 (by decide), hpo1.2.1 43 (by decide)]⟩, by rw [hpo4.2.1 386 (by decide), r3 386 (by decide), hpo1.2.1 386 (by decide)], by rw [hpo4.2.1 1729 (by decide), r3 1729 (by decide), hpo1.2.1 1729 (by decide)], by rw [hpo4.2.1 1216 (by decide), r3 1216 (by decide), hpo1.2.1 1216 (by decide)], fun j hj => by rw [hpo4.2.1 j (by simp only [List.mem_cons, List.not_mem_nil, or_false]; omega), r3 j ⟨fun z => by have := cRows_r z; omega, by omega, by omega, by omega⟩, hpo1.2.1 j (by simp only [List.mem_cons, List.not_mem_nil, or_false]; omega)]⟩) (l_turn (by omega) (LnS.rf n3) (fun g4 l4 => l4)) (wt_kturn (fun _ _ => trivial))
    · have x := core_LT (n := Z.n) (t := t.toInt) hpo4.2.1 (by decide)
      have y := s3.2.2.1
      have z := l4.2
      omega
    · refine s1.tr ⟨fun k hk => Or.inl ?_, Or.inl ?_⟩
      · unfold ahd
        rw [hpo4.1.out (by simp [mOut, im_kturn]; omega), r3 1280 (by decide)]
      · rw [hpo4.2.1 170 (by decide), r3 170 (by decide)]
    · intro x hx
      rw [hpo4.1.out (by simp [mOut, im_kturn]; omega), r3 1248 (by decide), b1]
  refine ⟨fun z => rest g1 0 (sst.rf c1) (by have := a.2.1 z; omega), fun z => s_allOverO hf hN (sst.rf (d := 0) c1) (by omega) (fun g2 d hd _ s2 _ => rest g2 (16 * d) (by rw [Nat.zero_add] at s2; exact s2) (by have := a.2.2 z; omega))⟩
/-- so nothing more lies ahead than before -/
theorem sfR.oc {n N f : Nat} {t : Int} {g g1 : mSt} (h : sfR n N f t g g1) : occ g1 (n + f) ≤ occ g (n + f) ∧ osp g1 (n + f) ≤ osp g (n + f) ∧ (OH g (n + f) → OH g1 (n + f)) := by
  obtain ⟨_, _, ha, hb, _⟩ := h
  have at' : ∀ x, x < 8192 → g1 1248 (8192 * (2 * (n + f) + 1) + x) = g 1248 (8192 * (2 * (n + f) + 1) + x) := fun x hx => hb _ (by omega)
  refine ⟨(occ_aS ha).1, smN_le (fun p hp => ite1_le (fun z => ?_)), fun z k hk => by rw [at' k (by omega)]; exact z k hk⟩
  obtain ⟨z1, z2⟩ := z
  refine ⟨?_, ?_⟩
  · rcases ha.1 p hp with w | w
    · rw [← w]
      exact z1
    · rw [w] at z1
      exact absurd z1 (by decide)
  · unfold suB pAt at z2 ⊢
    rw [at' _ (by omega), at' _ (by omega), at' _ (by omega), at' _ (by omega), at' _ (by omega), at' _ (by omega), at' _ (by omega), at' _ (by omega), at' _ (by omega), at' _ (by omega), at' _ (by omega)] at z2
    exact z2
