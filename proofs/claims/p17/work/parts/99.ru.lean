/-! a line of the switch: ticks till a timer can cut it, 20 at most -/
def lnI (t : Int) (g : mSt) (i : Nat) : Prop := (0 ≤ (g 178 i).toInt ∧ (g 178 i).toInt ≤ t) ∧ (0 ≤ (g 180 i).toInt ∧ (g 180 i).toInt ≤ t) ∧ 0 ≤ (g 177 i).toInt ∧ (g 177 i).toInt ≤ 4
def lfG (g : mSt) (t : Int) (i : Nat) : Nat := if (g 164 i).toInt = 0 then 20 else if (g 164 i).toInt = 2 then min 20 ((g 180 i).toInt + 30 - t).toNat else min 20 ((g 178 i).toInt + 5 - t + 5 * (4 - (g 177 i).toInt)).toNat
theorem lfG_20 {g : mSt} {t : Int} {i : Nat} : lfG g t i ≤ 20 := by
  unfold lfG
  split
  · omega
  · split <;> omega
theorem lfG_tick {g : mSt} {t : Int} {i : Nat} : lfG g t i ≤ lfG g (t + 1) i + 1 := by
  unfold lfG
  split
  · omega
  · split <;> omega
theorem lnI_tick {g : mSt} {t : Int} {i : Nat} (h : lnI t g i) : lnI (t + 1) g i := by
  unfold lnI at h ⊢
  omega
def LnS (t : Int) (i : Nat) (g0 g : mSt) : Prop := lnI t g i ∧ lfG g0 t i ≤ lfG g t i
theorem LnS.rf {t : Int} {i : Nat} {g : mSt} (h : lnI t g i) : LnS t i g g := ⟨h, Nat.le_refl _⟩
theorem LnS.tr {t : Int} {i : Nat} {g g1 g2 : mSt} (h : LnS t i g g1) (k : LnS t i g1 g2) : LnS t i g g2 := ⟨k.1, Nat.le_trans h.2 k.2⟩
theorem LnS.eq {t : Int} {i : Nat} {g0 g g1 : mSt} (h : LnS t i g0 g) (a : g1 164 i = g 164 i) (b : g1 177 i = g 177 i) (c : g1 178 i = g 178 i) (d : g1 180 i = g 180 i) : LnS t i g0 g1 := by
  unfold LnS lnI lfG at h ⊢
  rw [a, b, c, d]
  exact h
theorem LnS.fr {M : List Nat} {t : Int} {i : Nat} {g0 g g1 : mSt} (h : LnS t i g0 g) (k : mFr M g g1) (hM : (164 ∉ M ∧ 177 ∉ M) ∧ 178 ∉ M ∧ 180 ∉ M) : LnS t i g0 g1 := h.eq (by rw [k 164 hM.1.1]) (by rw [k 177 hM.1.2]) (by rw [k 178 hM.2.1]) (by rw [k 180 hM.2.2])
theorem LnS.up {t : Int} {i j k : Nat} {v : Int32} {g0 g g1 : mSt} (h : LnS t i g0 g) (e : g1 = up2 g j k v) (hj : (j ≠ 164 ∧ j ≠ 177) ∧ j ≠ 178 ∧ j ≠ 180) : LnS t i g0 g1 := h.eq (by rw [e, up2_o (Ne.symm hj.1.1)]) (by rw [e, up2_o (Ne.symm hj.1.2)]) (by rw [e, up2_o (Ne.symm hj.2.1)]) (by rw [e, up2_o (Ne.symm hj.2.2)])
theorem LnS.full {t : Int} {i : Nat} {g0 g : mSt} (h : lnI t g i) (k : lfG g t i = 20) : LnS t i g0 g := ⟨h, by rw [k]; exact lfG_20⟩
/-- READY: asked by a POLL -/
theorem LnS.poll {p : Int32} {i : Nat} {g0 g g1 : mSt} (h : LnS p.toInt i g0 g) (hs : (g 164 i).toInt = 2) (hp : 0 ≤ p.toInt) (e : g1 = up2 g 178 i p) : LnS p.toInt i g0 g1 ∧ (g1 164 i).toInt = 2 := by
  have a : g1 164 i = g 164 i := by rw [e, up2_o (by decide)]
  have b : g1 180 i = g 180 i := by rw [e, up2_o (by decide)]
  have c : g1 177 i = g 177 i := by rw [e, up2_o (by decide)]
  have d : g1 178 i = p := by rw [e, up2_i]
  obtain ⟨h1, h2⟩ := h
  refine ⟨⟨?_, ?_⟩, by rw [a]; exact hs⟩
  · unfold lnI at h1 ⊢
    rw [b, c, d]
    omega
  · unfold lfG at h2 ⊢
    rw [a, b, if_neg (c := (g 164 i).toInt = 0) (by omega), if_pos hs]
    rw [if_neg (c := (g 164 i).toInt = 0) (by omega), if_pos hs] at h2
    exact h2
theorem lfG_ready {p : Int32} {i : Nat} {g : mSt} (a : g 164 i = 2) (b : g 180 i = p) : lfG g p.toInt i = 20 := by
  have : (2 : Int32).toInt = 2 := by decide
  unfold lfG
  rw [a, b, this, if_neg (by omega), if_pos rfl]
  omega
theorem lfG_idle {t : Int} {i : Nat} {g : mSt} (a : g 164 i = 0) : lfG g t i = 20 := by
  unfold lfG
  rw [a]
  rfl
theorem l_becomeReady {Z : cZ} {i : Nat} {p1 : Int32} {g g0 : mSt} {Φ : Int32 → mSt → Prop} (hs : LnS p1.toInt i g0 g) (hp : 0 ≤ p1.toInt) (h : ∀ g1, LnS p1.toInt i g0 g1 → (g1 164 i).toInt = 2 → Φ 0 g1) : wp_kbecomeReady Z i p1 g Φ := by
  refine wt_kanew (fun _ g1 hpo g2 e2 g3 e3 g4 e4 => ?_)
  have a : g4 164 i = 2 := by rw [e4, up2_o (by decide), e3, up2_o (by decide), e2, up2_i]
  have b : g4 180 i = p1 := by rw [e4, up2_i]
  have c : g4 178 i = p1 := by rw [e4, up2_o (by decide), e3, up2_i]
  have d : g4 177 i = g 177 i := by rw [e4, up2_o (by decide), e3, up2_o (by decide), e2, up2_o (by decide), hpo.2.1 177 (by decide)]
  refine h g4 (LnS.full ?_ (lfG_ready a b)) (by rw [a]; rfl)
  have := hs.1
  unfold lnI at this ⊢
  rw [b, c, d]
  omega
theorem l_cut {Z : cZ} {i : Nat} {t : Int} {g g0 : mSt} {Φ : Int32 → mSt → Prop} (hs : lnI t g i) (h : ∀ g1, LnS t i g0 g1 → g1 164 i = 0 → Φ 0 g1) : wp_kcut Z i g Φ := by
  intro g1 e1 v2 _ _ v3 _ _ g4 e4
  refine wt_kclearAll_6 (fun _ g6 hpo6 => wt_kanew (fun _ g7 hpo7 => ?_))
  have a : g7 164 i = 0 := by rw [hpo7.2.1 164 (by decide), hpo6.2.1 164 (by decide), e4, up2_o (by decide), e1, up2_i]
  refine h g7 (LnS.full ?_ (lfG_idle a)) a
  have k : ∀ j, j = 177 ∨ j = 178 ∨ j = 180 → g7 j i = g j i := fun j hj => by
    rcases hj with e | e | e
    · subst e
      rw [hpo7.2.1 177 (by decide), hpo6.2.1 177 (by decide), e4, up2_o (by decide), e1, up2_o (by decide)]
    · subst e
      rw [hpo7.2.1 178 (by decide), hpo6.2.1 178 (by decide), e4, up2_o (by decide), e1, up2_o (by decide)]
    · subst e
      rw [hpo7.2.1 180 (by decide), hpo6.2.1 180 (by decide), e4, up2_o (by decide), e1, up2_o (by decide)]
  unfold lnI at hs ⊢
  rw [k 177 (by omega), k 178 (by omega), k 180 (by omega)]
  exact hs
theorem l_askAgain {Z : cZ} {i : Nat} {p1 : Int32} {g : mSt} {Φ : Int32 → mSt → Prop} (hp : 0 ≤ p1.toInt) (hn : lnI p1.toInt g i) (h3 : (g 177 i).toInt < 4) (hst : (g 164 i).toInt ≠ 2) (h : ∀ g1, lnI p1.toInt g1 i → g1 164 i = g 164 i → min 20 (5 * (4 - (g 177 i).toInt)).toNat ≤ lfG g1 p1.toInt i → Φ 0 g1) : wp_kaskAgain Z i p1 g Φ := by
  intro v1 e1 _ v2 e2 _ g3 e3 g4 e4 v5 _ _
  have hn' := hn
  unfold lnI at hn'
  have t2 : v2.toInt = (g 177 i).toInt + 1 := by rw [e2, e1]; exact add_t (k := 1) (m := 1) rfl ⟨by decide, by decide⟩ (by omega)
  have key : ∀ gF, mFr [67, 108, 111, 544, 576, 768] g4 gF → Φ 0 gF := fun gF k => by
    have a : gF 164 i = g 164 i := by rw [k 164 (by decide), e4, up2_o (by decide), e3, up2_o (by decide)]
    have b : gF 177 i = v2 := by rw [k 177 (by decide), e4, up2_o (by decide), e3, up2_i]
    have c : gF 178 i = p1 := by rw [k 178 (by decide), e4, up2_i]
    have d : gF 180 i = g 180 i := by rw [k 180 (by decide), e4, up2_o (by decide), e3, up2_o (by decide)]
    refine h gF ?_ a ?_
    · unfold lnI
      rw [b, c, d]
      omega
    · unfold lfG
      rw [a, b, c, if_neg hst]
      split <;> omega
  refine ⟨fun gF => mFr [67, 108, 111, 544, 576, 768] g4 gF, fun gF _ _ k => key gF k, fun _ => wt_kword (fun _ g10 hpo v12 _ _ => wt_ksendUnit (fun _ g13 hpo2 a ha => ?_)), fun _ => wt_ksendUnit (fun _ g17 hpo => hpo.2.1)⟩
  rw [hpo2.2.1 a ha, hpo.2.1 a (fun z => ha (by
    simp only [List.mem_cons, List.not_mem_nil, or_false] at z ⊢
    omega))]
theorem l_ask {Z : cZ} {i : Nat} {p1 p2 p3 : Int32} {g g0 : mSt} {Φ : Int32 → mSt → Prop} (hp : 0 ≤ p3.toInt) (hp1 : p1.toInt ≠ 2) (hn : lnI p3.toInt g i) (h : ∀ g1, LnS p3.toInt i g0 g1 → g1 164 i = p1 → Φ 0 g1) : wp_kask Z i p1 p2 p3 g Φ := by
  intro g1 e1 g2 e2 g3 e3
  have key : ∀ g4, mFr [173] g3 g4 → wp_kaskAgain Z i p3 g4 (fun _ g5 => po_kaskAgain Z i p3 g4 0 g5 → Φ 0 g5) := fun g4 k => by
    have a : g4 164 i = p1 := by rw [k 164 (by decide), e3, up2_o (by decide), e2, up2_o (by decide), e1, up2_i]
    have b : g4 177 i = 0 := by rw [k 177 (by decide), e3, up2_i]
    have c : g4 178 i = g 178 i := by rw [k 178 (by decide), e3, up2_o (by decide), e2, up2_o (by decide), e1, up2_o (by decide)]
    have d : g4 180 i = g 180 i := by rw [k 180 (by decide), e3, up2_o (by decide), e2, up2_o (by decide), e1, up2_o (by decide)]
    have z : (0 : Int32).toInt = 0 := by decide
    refine l_askAgain hp ?_ (by rw [b]; decide) (by rw [a]; exact hp1) (fun g5 n5 a5 l5 _ => h g5 (LnS.full n5 ?_) (a5.trans a))
    · unfold lnI at hn ⊢
      rw [b, c, d, z]
      omega
    · rw [b, z] at l5
      have := @lfG_20 g5 p3.toInt i
      omega
  exact ⟨fun g4 => mFr [173] g3 g4, fun g4 k _ q => key g4 k, fun _ _ _ => rfl, fun _ v8 _ _ v9 _ _ g10 e10 a ha => by rw [e10, up2_of (by simpa using ha)]⟩
theorem l_poll {Z : cZ} {i : Nat} {p1 : Int32} {g g0 : mSt} {Φ : Int32 → mSt → Prop} (hp : 0 ≤ p1.toInt) (hs : LnS p1.toInt i g0 g) (h2 : (g 164 i).toInt = 2) (h : ∀ g1, LnS p1.toInt i g0 g1 → (g1 164 i).toInt = 2 → Φ 0 g1) : wp_kpoll Z i p1 g Φ := by
  intro v1 _ _ v2 _ _ g3 e3 g4 e4 g5 e5
  have s4 := (hs.up e3 (by decide)).up e4 (by decide)
  have q4 : (g4 164 i).toInt = 2 := by rw [e4, up2_o (by decide), e3, up2_o (by decide)]; exact h2
  obtain ⟨s5, q5⟩ := s4.poll q4 hp e5
  refine wt_kword (fun _ g9 hpo v10 _ _ => wt_ksendUnit (fun _ g11 hpo2 => h g11 ((s5.fr hpo.2.1 (by decide)).fr hpo2.2.1 (by decide)) ?_))
  rw [hpo2.2.1 164 (by decide), hpo.2.1 164 (by decide)]
  exact q5
theorem sub_i {a b : Int32} (h : 0 ≤ a.toInt ∧ 0 ≤ b.toInt) : (a - b).toInt = a.toInt - b.toInt := by
  have ha := Int32.toInt_lt a
  have hb := Int32.toInt_lt b
  rw [Int32.toInt_sub]
  exact Int.bmod_eq_of_le (by omega) (by omega)
/-- a timer cuts the line only when its ticks are over -/
theorem l_timers {Z : cZ} {i : Nat} {p1 : Int32} {g : mSt} {Φ : Int32 → mSt → Prop} (hp : 0 ≤ p1.toInt) (hn : lnI p1.toInt g i) (h : ∀ (r : Int32) g1, lnI p1.toInt g1 i → (r.toInt = 0 → lfG g p1.toInt i ≤ lfG g1 p1.toInt i) → (r.toInt ≠ 0 → lfG g p1.toInt i + 20 ≤ lfG g1 p1.toInt i) → Φ r g1) : wp_ktimers Z i p1 g Φ := by
  have hn' := hn
  unfold lnI at hn'
  intro v1 e1 _
  refine ⟨fun n1 => ⟨fun b g6 => lnI p1.toInt g6 i ∧ (b.toInt = 0 → lfG g p1.toInt i ≤ lfG g6 p1.toInt i) ∧ (b.toInt ≠ 0 → lfG g p1.toInt i = 0), fun b g6 _ _ _ q6 => ⟨fun g7 => lnI p1.toInt g7 i ∧ (b.toInt = 0 → lfG g p1.toInt i ≤ lfG g7 p1.toInt i) ∧ (b.toInt ≠ 0 → lfG g p1.toInt i + 20 ≤ lfG g7 p1.toInt i), fun g7 _ _ q7 => h b g7 q7.1 q7.2.1 q7.2.2, fun z => ⟨q6.1, q6.2.1, fun w => absurd z w⟩, fun z => wt_ksendUnit (fun _ g13 hpo => l_cut (g0 := g13) ?_ (fun g14 s14 a14 _ => ⟨s14.1, fun w => absurd w z, fun _ => ?_⟩))⟩, fun z2 v17 e17 _ v18 e18 _ => ⟨fun c18 v21 _ _ v22 _ _ v23 _ _ v24 _ _ => ⟨fun _ g26 => g26 = g, fun b g26 _ _ _ q26 => ⟨fun _ => ?_, fun _ => ?_⟩, fun _ => rfl, fun _ => rfl⟩, fun c18 => ⟨hn, fun w => absurd w (by decide), fun _ => ?_⟩⟩, fun n2 v35 e35 _ v36 e36 _ => ⟨fun b g38 => g38 = g ∧ (b.toInt ≠ 0 → 5 ≤ v36.toInt), fun b g38 _ _ _ q38 => ⟨fun b40 g40 => g40 = g ∧ (b40.toInt ≠ 0 → 5 ≤ v36.toInt ∧ 4 ≤ (g 177 i).toInt) ∧ (b40.toInt = 0 → b.toInt ≠ 0 → (g 177 i).toInt < 4), fun b40 g40 _ _ _ q40 => ⟨fun g41 => lnI p1.toInt g41 i ∧ (b40.toInt = 0 → lfG g p1.toInt i ≤ lfG g41 p1.toInt i) ∧ (b40.toInt ≠ 0 → lfG g p1.toInt i = 0), fun g41 _ _ q41 => q41, fun z => ?_, fun z => ⟨fun z4 => ?_, fun z4 => ?_⟩⟩, ⟨fun g49 => g49 = g ∧ (b.toInt ≠ 0 → (g 177 i).toInt < 4), fun g49 _ _ q49 => ⟨q49.1, fun w => absurd rfl w, fun _ w => q49.2 w⟩, fun z => ⟨q38.1, fun w => absurd z w⟩, fun z v53 e53 _ => ⟨fun c53 => ⟨q38.1, fun _ => ?_⟩, fun c53 => ⟨q38.1, fun _ => ⟨q38.2 z, ?_⟩, fun w => absurd w (by decide)⟩⟩⟩⟩, fun _ => ⟨rfl, fun w => absurd rfl w⟩, fun c36 => ⟨rfl, fun _ => c36⟩⟩⟩, fun z => h _ _ hn (fun _ => Nat.le_refl _) (fun w => absurd rfl w)⟩
  · have := q6.1
    unfold lnI at this ⊢
    rw [hpo.2.1 177 (by decide), hpo.2.1 178 (by decide), hpo.2.1 180 (by decide)]
    exact this
  · rw [q6.2.2 z, lfG_idle a14]
    exact Nat.le_refl _
  · rw [show g26 = g from q26]
    exact ⟨hn, fun _ => Nat.le_refl _, fun w => absurd rfl w⟩
  · rw [show g26 = g from q26]
    exact l_poll hp (LnS.rf hn) (by rw [← e1]; exact z2) (fun g30 s30 _ _ => ⟨s30.1, fun _ => s30.2, fun w => absurd rfl w⟩)
  · rw [e18, e17, sub_i (by omega)] at c18
    unfold lfG
    rw [← e1, if_neg n1, if_pos z2]
    omega
  · rw [q40.1]
    refine ⟨hn, fun _ => Nat.le_refl _, fun w => ?_⟩
    have := q40.2.1 w
    rw [e36, e35, sub_i (by omega)] at this
    unfold lfG
    rw [← e1, if_neg n1, if_neg n2]
    omega
  · rw [q40.1]
    refine ⟨hn, fun w => absurd w z4, fun w => ?_⟩
    have := q40.2.1 w
    rw [e36, e35, sub_i (by omega)] at this
    unfold lfG
    rw [← e1, if_neg n1, if_neg n2]
    omega
  · rw [q40.1]
    have h4 := q40.2.2 z4 z
    have h5 := q38.2 z
    rw [e36, e35, sub_i (by omega)] at h5
    refine l_askAgain hp hn h4 (by rw [← e1]; exact n2) (fun g48 n48 a48 l48 _ => ⟨n48, fun _ => Nat.le_trans ?_ l48, fun w => absurd z4 w⟩)
    unfold lfG
    rw [← e1, if_neg n1, if_neg n2]
    omega
  · rw [q38.1] at e53
    rw [← e53]
    exact c53
  · rw [q38.1] at e53
    rw [← e53]
    exact c53
theorem l_turn {Z : cZ} {i : Nat} {p1 : Int32} {g g0 : mSt} {Φ : Int32 → mSt → Prop} (hp : 0 ≤ p1.toInt) (hs : LnS p1.toInt i g0 g) (h : ∀ g1, LnS p1.toInt i g0 g1 → Φ 0 g1) : wp_kturn Z i p1 g Φ := by
  intro v1 e1 _
  refine ⟨fun g2 => LnS p1.toInt i g0 g2, fun g2 _ _ s2 v3 e3 _ => ⟨fun z3 v7 _ _ => ⟨fun _ g9 => LnS p1.toInt i g0 g9 ∧ (g9 164 i).toInt = 2, fun a g9 _ _ _ s9 v10 _ _ => ⟨fun _ => ⟨fun _ g13 => LnS p1.toInt i g0 g13 ∧ (g13 164 i).toInt = 2, fun a13 g13 _ _ _ s13 => ⟨fun g14 => LnS p1.toInt i g0 g14, fun g14 _ _ s14 => h g14 s14, fun _ => s13.1, fun _ v19 _ _ => ⟨fun _ => s13.1, fun _ v23 _ _ v24 _ _ => ⟨fun _ => s13.1, fun _ v30 _ _ _ => ⟨fun _ => s13.1, fun _ v34 _ _ v37 _ _ _ v40 _ _ _ v43 _ _ => wt_kput_26 (fun _ g44 hpo44 => wt_kmdropFirst (fun _ g45 hpo45 v47 _ _ _ g49 e49 v51 _ _ _ => wt_ksendData (fun v54 g53 hpo53 => ?_)))⟩⟩⟩⟩, s9⟩, fun _ v68 _ _ _ v70 _ _ => ⟨fun g71 => LnS p1.toInt i g0 g71 ∧ (g71 164 i).toInt = 2, fun g71 _ _ s71 v72 _ _ _ => s71, fun _ => s9, fun _ => wt_ksendData (fun v79 g78 hpo78 => ?_)⟩⟩, ⟨s2, by rw [← e3]; exact z3⟩⟩, fun _ => h g2 s2⟩, fun _ => hs, fun _ v93 _ _ => ⟨fun _ => hs, fun _ => l_ask hp (by decide) hs.1 (fun g97 s97 _ _ => s97)⟩⟩
  · have s53 : LnS p1.toInt i g0 g53 := (((s13.1.fr hpo44.2.1 (by decide)).fr hpo45.2.1 (by decide)).up e49 (by decide)).fr hpo53.2.1 (by decide)
    have q53 : (g53 164 i).toInt = 2 := by rw [hpo53.2.1 164 (by decide), e49, up2_o (by decide), hpo45.2.1 164 (by decide), hpo44.2.1 164 (by decide)]; exact s13.2
    exact ⟨fun g55 => LnS p1.toInt i g0 g55 ∧ (g55 164 i).toInt = 2, fun g55 _ _ s55 v56 _ _ _ => s55, fun _ => ⟨s53, q53⟩, fun _ => l_poll hp s53 q53 (fun g62 s62 q62 _ => ⟨s62, q62⟩)⟩
  · have s78 := s9.1.fr hpo78.2.1 (by decide)
    have q78 : (g78 164 i).toInt = 2 := by rw [hpo78.2.1 164 (by decide)]; exact s9.2
    exact ⟨fun _ => ⟨s78, q78⟩, fun _ => l_poll hp s78 q78 (fun g85 s85 q85 _ => ⟨s85, q85⟩)⟩
theorem l_begin {Z : cZ} {i : Nat} {p1 p2 : Int32} {g : mSt} {Φ : Int32 → mSt → Prop} (hp : 0 ≤ p2.toInt) (hn : lnI p2.toInt g i) (h : ∀ r g1, LnS p2.toInt i g g1 → Φ r g1) : wp_kbeginCame Z i p1 p2 g Φ := by
  have rf := LnS.rf hn
  intro v1 e1 _
  refine ⟨fun _ g3 => LnS p2.toInt i g g3, fun b g3 _ _ _ s3 => ⟨fun _ g5 => LnS p2.toInt i g g5, fun b5 g5 _ _ _ s5 g6 e6 => ⟨fun g7 => LnS p2.toInt i g g7, fun g7 _ _ s7 v10 e10 _ v11 e11 _ t11 => s_wordAny (fun g12 hpo => s_sendAny (fun g13 hpo2 => ⟨fun _ g15 => LnS p2.toInt i g g15, fun b15 g15 _ _ _ s15 => h b15 g15 s15, fun _ => (s7.fr hpo.2.1 (by decide)).fr hpo2.2.1 (by decide), fun _ => (s7.fr hpo.2.1 (by decide)).fr hpo2.2.1 (by decide)⟩)), fun _ => s5.up e6 (by decide), fun _ => l_becomeReady (s5.up e6 (by decide)) hp (fun g22 s22 _ _ => s22)⟩, ⟨fun g23 => LnS p2.toInt i g g23, fun g23 _ _ s23 => s23, fun _ => s3, fun _ => ⟨fun g28 => LnS p2.toInt i g g28, fun g28 _ _ s28 => s28, fun _ => s3, fun _ => ⟨fun _ => s3, fun _ => ⟨fun _ => s3, fun _ => s3⟩⟩⟩⟩⟩, ⟨fun g38 => LnS p2.toInt i g g38, fun g38 _ _ s38 => s38, fun _ => rf, fun _ v41 e41 _ => ⟨fun _ => rf, fun _ => rf⟩⟩⟩
theorem l_end {Z : cZ} {i : Nat} {t : Int} {g : mSt} {Φ : Int32 → mSt → Prop} (hn : lnI t g i) (h : ∀ r g1, LnS t i g g1 → Φ r g1) : wp_kendCame Z i g Φ := by
  have rf := LnS.rf hn
  intro v1 e1 _
  exact ⟨fun b g3 => LnS t i g g3, fun b g3 _ _ _ s3 => ⟨fun g4 => LnS t i g g4, fun g4 _ _ s4 => s_sendAny (fun g7 hpo => ⟨fun _ g9 => LnS t i g g9, fun b9 g9 _ _ _ s9 => h b9 g9 s9, fun _ => s4.fr hpo.2.1 (by decide), fun _ => s4.fr hpo.2.1 (by decide)⟩), fun c => s3, fun c => l_cut s3.1 (fun g16 s16 _ _ => s16)⟩, fun c => rf, fun c => rf⟩
theorem l_answer {Z : cZ} {i : Nat} {p1 p2 : Int32} {g : mSt} {Φ : Int32 → mSt → Prop} (hp : 0 ≤ p2.toInt) (hn : lnI p2.toInt g i) (h : ∀ r g1, LnS p2.toInt i g g1 → Φ r g1) : wp_kanswerCame Z i p1 p2 g Φ := by
  have hs := LnS.rf hn
  refine ⟨fun _ v2 e2 _ => ⟨fun _ g4 => LnS p2.toInt i g g4, fun b g4 _ _ _ s4 => ⟨fun g5 => LnS p2.toInt i g g5, fun g5 _ _ s5 => h 0 g5 s5, fun _ => s4, fun _ => l_becomeReady s4 hp (fun g9 s9 _ _ => s9)⟩, ⟨fun g10 => LnS p2.toInt i g g10, fun g10 _ _ s10 => s10, ⟨fun g11 => LnS p2.toInt i g g11, fun g11 _ _ s11 => ⟨fun g13 => LnS p2.toInt i g g13, fun g13 _ _ s13 => ⟨fun g15 => LnS p2.toInt i g g15, fun g15 _ _ s15 => s15, fun _ => s13, fun _ v18 e18 _ => ⟨fun _ => s13, fun _ => ⟨fun _ => s13, fun _ => s13⟩⟩⟩, fun _ => s11, fun _ v25 e25 _ => ⟨fun _ => s11, fun _ => ⟨fun _ => s11, fun _ => s11⟩⟩⟩, fun _ => hs, fun _ => ⟨fun _ => hs, fun _ => hs⟩⟩⟩⟩, fun _ v35 e35 _ => ⟨fun g36 => LnS p2.toInt i g g36, fun g36 _ _ s36 => h 0 g36 s36, fun _ => hs, fun _ g40 e40 => wt_kanew (fun _ g41 hpo => LnS.full ?_ (lfG_idle (by rw [hpo.2.1 164 (by decide), e40, up2_i])))⟩⟩
  unfold lnI at hn ⊢
  rw [hpo.2.1 177 (by decide), hpo.2.1 178 (by decide), hpo.2.1 180 (by decide), e40, up2_o (by decide), up2_o (by decide), up2_o (by decide)]
  exact hn
theorem l_reset {Z : cZ} {i : Nat} {p1 p2 p3 : Int32} {g : mSt} {Φ : Int32 → mSt → Prop} (hp : 0 ≤ p3.toInt) (hn : lnI p3.toInt g i) (h : ∀ r g1, LnS p3.toInt i g g1 → Φ r g1) : wp_kresetCame Z i p1 p2 p3 g Φ := by
  have rf := LnS.rf hn
  intro v1 e1 _
  refine ⟨fun b g3 => LnS p3.toInt i g g3, fun b g3 _ _ _ s3 g4 e4 => ⟨fun g6 => LnS p3.toInt i g g6, fun g6 _ _ s6 => ⟨fun g8 => LnS p3.toInt i g g8, fun g8 _ _ s8 => ⟨fun g9 => LnS p3.toInt i g g9, fun g9 _ _ s9 v12 e12 _ v13 e13 _ t13 => s_wordAny (fun g14 hpo => ⟨fun b g16 => LnS p3.toInt i g g16, fun b g16 _ _ _ q16 => s_sendAny (fun g17 hpo2 => h _ _ (q16.fr hpo2.2.1 (by decide))), fun _ => s9.fr hpo.2.1 (by decide), fun _ => s9.fr hpo.2.1 (by decide)⟩), fun _ => s8, fun _ => l_becomeReady s8 hp (fun g23 s23 _ _ => s23)⟩, fun _ => s6, fun _ => ⟨fun _ => s6, fun _ => h 0 g6 s6⟩⟩, fun _ => s3.up e4 (by decide), fun c => s_sendAny (fun g34 hpo => (s3.up e4 (by decide)).fr hpo.2.1 (by decide))⟩, ⟨fun g35 => LnS p3.toInt i g g35, fun g35 _ _ s35 => s35, fun _ => rf, fun _ v38 e38 _ => ⟨fun _ => rf, fun _ => rf⟩⟩⟩
theorem l_status {Z : cZ} {i q1 : Nat} {p2 p3 p4 : Int32} {g : mSt} {Φ : Int32 → mSt → Prop} (hp : 0 ≤ p4.toInt) (hn : lnI p4.toInt g i) (h2 : (g 164 i).toInt = 2) (h : ∀ r g1, LnS p4.toInt i g g1 → Φ r g1) : wp_kstatusCame Z i q1 p2 p3 p4 g Φ := by
  have rf := LnS.rf hn
  intro v1 e1 _ t1
  refine s_wordAt (fun v4 _ v5 e5 _ => ⟨fun _ => h _ _ rf, fun _ v9 e9 _ => ⟨fun _ => h _ _ rf, fun _ v13 e13 _ => ⟨fun _ => h _ _ rf, fun _ v17 e17 _ => ⟨fun _ => ⟨fun _ _ g21 => g21 = g, fun a b g21 _ _ _ _ q21 => ?_, rfl⟩, fun _ => h _ _ rf⟩⟩⟩⟩)
  rw [show g21 = g from q21]
  refine ⟨fun _ => wt_kacknowledge (fun _ g23 hpo23 g24 e24 g25 e25 => ⟨fun _ g27 => LnS p4.toInt i g g27, fun a7 g27 _ _ _ s27 v28 _ _ _ => ⟨fun _ => h _ _ s27, fun _ v34 _ _ _ => s_wordAt (fun v37 _ v38 _ _ _ => s_wordAt (fun v41 _ => a_mark (fun g42 hpo v43 _ _ _ => s27.fr hpo.2.1 (by decide))))⟩, ?_⟩), fun _ v47 _ _ _ => s_wordAt (fun v50 _ => ⟨fun _ => h _ _ rf, fun _ => ⟨fun _ v57 _ _ _ v59 _ _ _ => rfl, fun _ => h _ _ rf⟩⟩)⟩
  have a : g25 164 i = g 164 i := by rw [e25, up2_o (by decide), e24, up2_o (by decide), hpo23.2.1 164 (by decide)]
  have b : g25 180 i = p4 := by rw [e25, up2_i]
  have c : g25 177 i = g 177 i := by rw [e25, up2_o (by decide), e24, up2_o (by decide), hpo23.2.1 177 (by decide)]
  have d : g25 178 i = g 178 i := by rw [e25, up2_o (by decide), e24, up2_o (by decide), hpo23.2.1 178 (by decide)]
  refine LnS.full ?_ ?_
  · unfold lnI at hn ⊢
    rw [b, c, d]
    omega
  · unfold lfG
    rw [a, b, h2, if_neg (by omega), if_pos rfl]
    omega
set_option maxHeartbeats 2000000 in
theorem l_unit {Z : cZ} {i q1 : Nat} {p2 p3 : Int32} {g : mSt} {Φ : Int32 → mSt → Prop} (hp : 0 ≤ p3.toInt) (hn : lnI p3.toInt g i) (h : ∀ (r : Int32) g1, LnS p3.toInt i g g1 → Φ r g1) : wp_kunitCame Z i q1 p2 p3 g Φ := by
  have rf := LnS.rf hn
  unfold wp_kunitCame
  refine s_isUnit (fun v2 _ => ?_)
  refine ⟨?_, fun _ => h _ _ rf⟩
  intro c2 v8 e8 r8 t8
  refine s_wordAt (fun v11 _ => ?_)
  repeat' first
    | exact h _ _ rf
    | exact trivial
    | refine s_wordAt (fun _ _ => ?_)
    | exact l_begin hp hn (fun r g1 s _ => h _ _ s)
    | exact l_end hn (fun r g1 s _ => h _ _ s)
    | exact l_reset hp hn (fun _ g1 s _ => h _ _ s)
    | exact l_answer hp hn (fun _ g1 s _ => h _ _ s)
    | exact wt_kdataCame (fun _ g1 hpo => h _ _ (rf.fr hpo.2.1 (by decide)))
    | exact s_pollAny (fun g1 hpo => h _ _ (rf.fr hpo.2.1 (by decide)))
    | exact l_status hp hn (by have e := ‹_ = g 164 i›; rw [← e]; assumption) (fun r g1 s _ => ⟨fun _ => h _ _ s, fun _ => h _ _ s⟩)
    | exact wt_kgapCame (fun r g1 hpo => ⟨fun _ => h _ _ (rf.fr hpo.2.1 (by decide)), fun _ => h _ _ (rf.fr hpo.2.1 (by decide))⟩)
    | refine ⟨?_, ?_⟩
    | intro _
