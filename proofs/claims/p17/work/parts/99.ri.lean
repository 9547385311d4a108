/-! an end: what a message does -/
/-- what an end's calls may change: its own, and new ones -/
def own4 (e N : Nat) (g : mSt) (j k : Nat) : Prop := ownE e g j k ∨ (32 ≤ j ∧ j < 50 ∧ N ≤ k) ∨ ((j = 131 ∨ j = 135 ∨ j = 384 ∨ j = 385 ∨ j = 386 ∨ j = 1729) ∧ k = e) ∨ ((j = 1536 ∨ j = 1728) ∧ k / 16777216 = e)
def f4 (e N : Nat) (g : mSt) (N1 : Nat) (g1 : mSt) : Prop := N ≤ N1 ∧ (∀ j k, ¬ own4 e N g j k → g1 j k = g j k) ∧ (∀ c, N ≤ c → c < N1 → (g1 32 c).toInt = (e : Int)) ∧ (∀ c, N1 ≤ c → g1 32 c = g 32 c ∧ g1 43 c = g 43 c) ∧ ((g 135 e).toInt ≤ 40 → (g1 135 e).toInt ≤ 40)
theorem cRows_b {j : Nat} (h : j ∈ cRows) : 36 ≤ j ∧ j < 49 ∧ j ≠ 38 ∧ j ≠ 39 ∧ j ≠ 43 := by
  unfold cRows at h
  simp only [List.mem_cons, List.not_mem_nil, or_false] at h
  omega
theorem f4.c32 {e N N1 c : Nat} {g g1 : mSt} (h : f4 e N g N1 g1) (hc : c < N) : g1 32 c = g 32 c ∧ g1 43 c = g 43 c := by
  refine ⟨h.2.1 32 c (fun z => ?_), h.2.1 43 c (fun z => ?_)⟩
  · unfold own4 ownE at z
    rcases z with (⟨z, _⟩ | z) | z
    · have := cRows_b z
      omega
    · omega
    · omega
  · unfold own4 ownE at z
    rcases z with (⟨z, _⟩ | z) | z
    · have := cRows_b z
      omega
    · omega
    · omega
theorem f4.tr {e N N1 N2 : Nat} {g g1 g2 : mSt} (h : f4 e N g N1 g1) (k : f4 e N1 g1 N2 g2) : f4 e N g N2 g2 := by
  refine ⟨Nat.le_trans h.1 k.1, fun j x hn => ?_, fun c h1 h2 => ?_, fun c hc => ?_, fun z => k.2.2.2.2 (h.2.2.2.2 z)⟩
  · rw [k.2.1 j x (fun z => hn ?_)]
    · exact h.2.1 j x hn
    · rcases z with (⟨z1, z2⟩ | z) | z | z
      · have zr := cRows_b z1
        by_cases w : x < N
        · rw [(h.c32 w).1] at z2
          exact Or.inl (Or.inl ⟨z1, z2⟩)
        · exact Or.inr (Or.inl ⟨by omega, by omega, by omega⟩)
      · exact Or.inl (Or.inr z)
      · exact Or.inr (Or.inl ⟨z.1, z.2.1, Nat.le_trans h.1 z.2.2⟩)
      · exact Or.inr (Or.inr z)
  · by_cases w : c < N1
    · rw [(k.c32 w).1]
      exact h.2.2.1 c h1 w
    · exact k.2.2.1 c (by omega) h2
  · have a := k.2.2.2.1 c hc
    have b := h.2.2.2.1 c (Nat.le_trans k.1 hc)
    exact ⟨a.1.trans b.1, a.2.trans b.2⟩
theorem f4.cst {N1 M e N : Nat} {g g1 : mSt} (s : cst N1 M e g g1) : f4 e N g N g1 := ⟨Nat.le_refl _, fun j k hn => s.2.1 j k (fun z => hn (Or.inl z)), fun c h1 h2 => by exfalso; omega, fun c _ => ⟨by rw [s.1], by rw [s.row 43 (by decide)]⟩, fun z => by rw [s.row 135 (by decide)]; exact z⟩
theorem f4.rf {e N : Nat} {g : mSt} : f4 e N g N g := f4.cst (N1 := N) (M := N) cst.rf
theorem mo_n {j k : Nat} : mOut [] j k := trivial
theorem mo_c {S : List (Nat × Nat × Nat)} {j k r a n : Nat} (h : r = j → n ≠ 0 ∧ k / n ≠ a) (t : mOut S j k) : mOut ((r, a, n) :: S) j k := ⟨h, t⟩
theorem up2_q {g : mSt} {j0 i0 j k : Nat} {v : Int32} (h : ¬ (j = j0 ∧ k = i0)) : up2 g j0 i0 v j k = g j k := if_neg h
theorem cE {N e : Nat} {g g1 : mSt} (hu : uLn g (2 * e) = 0) (s : cst N N e g g1) : eS2 e N g N g1 := ((eSt.rf hu).calls s).to (by rw [s.row 135 (by decide)]; exact Int.le_refl _)
theorem cR {Z : cZ} {N e : Nat} {g g1 : mSt} (s : cst N N e g g1) : rS Z g Z g1 := rS.rf (s.row 386 (by decide)) (s.row 1729 (by decide))
theorem s_setup4 {Z : cZ} {e q1 n1 : Nat} {p2 : Int32} {g : mSt} {Φ : Int32 → cZ → mSt → Prop} (he : e < Z.n) (hu : uLn g (2 * e) = 0) (hg : gNd g e n1) (h9 : 0 ≤ (g 386 e).toInt) (h : ∀ (Z1 : cZ) g1, eS2 e (Z.w 2) g (Z1.w 2) g1 → rS Z g Z1 g1 → Z1.w 3 = Z.w 3 → f4 e (Z.w 2) g (Z1.w 2) g1 → Φ 0 Z1 g1) : wp_ksetupCame_4 n1 Z e q1 p2 g Φ := by
  refine s_room4 (fun v2 hv _ => ⟨fun c v7 _ _ sd9 esd Z8 eZ8 Z' v8 g8 hv8 hzl hw2 hw3 hJ al e8 v10 _ _ g11 e11 v12 _ _ g13 e13 v14 _ _ g15 e15 => ?_, fun c v38 _ _ => s_causeE (N := Z.w 2) ⟨by decide, by decide⟩ cst.rf (fun g39 s39 => h Z g39 (cE hu s39) (cR s39) rfl (f4.cst s39))⟩)
  subst eZ8
  have h40 := hv c
  have hcN : v8.toInt.toNat = Z8.w 2 := by omega
  have hr8 : ∀ j, 50 ≤ j → g8 j = g j := fun j hj => funext fun i => by rw [e8]; exact gNew_o (by omega)
  have k15 : mFr [37, 38, 39] g8 g15 := fun a ha => by
    simp only [List.mem_cons, List.not_mem_nil, or_false, not_or] at ha
    rw [e15, up2_of ha.1, e13, up2_of ha.2.1, e11, up2_of ha.2.2]
  have e135 : g15 135 = g 135 := by rw [k15 135 (by decide), hr8 135 (by decide)]
  refine s_eadd (by unfold gNd; rw [k15 386 (by decide), k15 1729 (by decide), hr8 386 (by decide), hr8 1729 (by decide)]; exact hg) (by rw [e135]; exact h40) (fun Z17 g17 k17 t135 q17 hpo17 _ Z18 eZ18 v18 _ _ => ?_)
  subst eZ18
  have hZ : Z18.w 2 ≤ Z8.w 2 + 1 := by
    have := q17.1.2.2.1
    omega
  have c8 : (g8 32 v8.toInt.toNat).toInt = (e : Int) := by
    rw [e8]
    unfold gNew
    rw [if_pos ⟨rfl, by decide, by decide⟩]
    exact esd
  have c17 : (g17 32 v8.toInt.toNat).toInt = (e : Int) := by rw [k17 32 (by decide), k15 32 (by decide)]; exact c8
  have hn := e_new (e := e) (N := Z8.w 2) hu hcN e8
  have s17 : eSt (Z8.w 2 + 1) e g8 g17 := ((eSt.rf hn.2.2.1).fr k15 (by decide) (by decide)).fr k17 (by decide) (by decide)
  have hr17 : rS Z8 g Z18 g17 := q17.rS (by omega) h9 hzl hw2 hw3 (by rw [k15 386 (by decide), hr8 386 (by decide)]) (by rw [k15 1729 (by decide), hr8 1729 (by decide)])
  have hw18 : Z18.w 3 = Z8.w 3 := q17.1.2.2.2.trans hw3
  have hZe : Z18.w 2 = Z8.w 2 + 1 := by
    have := q17.1.2.2.1
    omega
  have f17 : f4 e (Z8.w 2) g (Z18.w 2) g17 := by
    rw [hZe]
    refine ⟨Nat.le_succ _, fun j k hn => ?_, fun c h1 h2 => ?_, fun c hc => ?_, fun _ => by rw [t135, e135]; omega⟩
    · have hk : ¬ (32 ≤ j ∧ j < 50 ∧ k = v8.toInt.toNat) := fun z => hn (Or.inr (Or.inl ⟨z.1, z.2.1, by omega⟩))
      have hn3 : ¬ ((j = 131 ∨ j = 135 ∨ j = 384 ∨ j = 385 ∨ j = 386 ∨ j = 1729) ∧ k = e) := fun z => hn (Or.inr (Or.inr (Or.inl z)))
      have hn4 : ¬ ((j = 1536 ∨ j = 1728) ∧ k / 16777216 = e) := fun z => hn (Or.inr (Or.inr (Or.inr z)))
      have ho : mOut (im_keadd e v8) j k := by
        unfold im_keadd
        exact mo_c (fun z => ⟨by decide, fun w => hk ⟨by omega, by omega, by rw [← w]; exact (Nat.div_one k).symm⟩⟩) (mo_c (fun z => ⟨by decide, fun w => hn3 ⟨by omega, by rw [← w]; exact (Nat.div_one k).symm⟩⟩) (mo_c (fun z => ⟨by decide, fun w => hn3 ⟨by omega, by rw [← w]; exact (Nat.div_one k).symm⟩⟩) (mo_c (fun z => ⟨by decide, fun w => hn3 ⟨by omega, by rw [← w]; exact (Nat.div_one k).symm⟩⟩) (mo_c (fun z => ⟨by decide, fun w => hn3 ⟨by omega, by rw [← w]; exact (Nat.div_one k).symm⟩⟩) (mo_c (fun z => ⟨by decide, fun w => hn4 ⟨by omega, w⟩⟩) (mo_c (fun z => ⟨by decide, fun w => hn4 ⟨by omega, w⟩⟩) (mo_c (fun z => ⟨by decide, fun w => hn3 ⟨by omega, by rw [← w]; exact (Nat.div_one k).symm⟩⟩) (mo_n))))))))
      rw [hpo17.1.out ho, e15, up2_q (fun z => hk ⟨by omega, by omega, z.2⟩), e13, up2_q (fun z => hk ⟨by omega, by omega, z.2⟩), e11, up2_q (fun z => hk ⟨by omega, by omega, z.2⟩), e8, gNew_o (fun z => hk ⟨z.2.1, z.2.2, z.1⟩)]
    · rw [show c = v8.toInt.toNat by omega]
      exact c17
    · rw [k17 32 (by decide), k17 43 (by decide), k15 32 (by decide), k15 43 (by decide), e8, gNew_o (by omega), gNew_o (by omega)]
      exact ⟨rfl, rfl⟩
  have fin : ∀ gF, cst (Z8.w 2 + 1) (Z8.w 2) e g17 gF → Φ 0 Z18 gF := fun gF sF => by
    have sG := s17.calls0 sF
    have sA := asN_le1 (N := Z8.w 2) (e := e) sF.1 sF.2.2.2.2.2.1
    have sB := s17.2.2.2.2.2.2
    have sC := hn.2.2.2.2.2.2
    refine h Z18 gF ((show eS2 e (Z8.w 2) g (Z8.w 2 + 1) gF from ⟨⟨fun m => Nat.le_trans (sG.1 m) (hn.1 m), fun k hk => (sG.2.1 k hk).elim (fun z => hn.2.1 k z) Or.inr, sG.2.2.1, fun q => sG.2.2.2.1 (hn.2.2.2.1 q), fun q => sG.2.2.2.2.1 (hn.2.2.2.2.1 q), Nat.le_trans sG.2.2.2.2.2 hn.2.2.2.2.2.1⟩, ?_, ?_⟩).le hZ) (hr17.tr (rS.rf (sF.row 386 (by decide)) (sF.row 1729 (by decide)))) hw18 (f17.tr (f4.cst sF))
    · rw [sF.row 135 (by decide), t135, e135]
      omega
    · rw [sF.row 135 (by decide), t135, e135]
      omega
  have hM8 : Z8.w 2 ≤ v8.toInt.toNat := by omega
  exact ⟨fun _ => ⟨fun _ => s_answerE cst.rf c17 (Or.inr hM8) (fun gF sF _ => fin gF sF), fun _ v27 _ _ v28 _ _ => s_enterE cst.rf c17 (by decide) (Or.inr (Or.inr (Or.inr hM8))) (fun g29 s29 _ => s_plainE ⟨by decide, by decide⟩ s29 (fun gF sF => fin gF sF))⟩, fun _ => s_finishE cst.rf c17 (fun g33 s33 _ v34 _ _ => s_causeE ⟨by decide, by decide⟩ s33 (fun gF sF => fin gF sF))⟩
theorem s_came4 {Z : cZ} {e q1 n1 : Nat} {p2 : Int32} {g : mSt} {Φ : Int32 → cZ → mSt → Prop} (he : e < Z.n) (hu : uLn g (2 * e) = 0) (hn : noP g e) (hg : gNd g e n1) (h9 : 0 ≤ (g 386 e).toInt) (h : ∀ (Z1 : cZ) g1, eS2 e (Z.w 2) g (Z1.w 2) g1 → rS Z g Z1 g1 → Z1.w 3 = Z.w 3 → f4 e (Z.w 2) g (Z1.w 2) g1 → Φ 0 Z1 g1) : wp_kcame_4 n1 Z e q1 p2 g Φ := by
  have h0 : Φ 0 Z g := h Z g (cE hu cst.rf) (cR (N := Z.w 2) (e := e) cst.rf) rfl f4.rf
  have hc : ∀ g1, cst (Z.w 2) (Z.w 2) e g g1 → Φ 0 Z g1 := fun g1 s => h Z g1 (cE hu s) (cR s) rfl (f4.cst s)
  have o8 : oct (90 : Int32) := ⟨by decide, by decide⟩
  intro v1 _ _ v2 _ _
  refine ⟨fun _ => s_place4 (fun v7 _ => ⟨fun _ => s_lget (fun v14 hpo => s_isOpen (fun v16 _ => ⟨fun _ v20 _ _ => ⟨fun _ => s_clearedE cst.rf hn hpo.2.2.2.2.2 (fun g1 s _ => hc g1 s), fun _ => ⟨fun _ => ⟨fun _ => h0, fun _ => s_progressE he cst.rf hpo.2.2.2.2.2 (fun g1 s _ => hc g1 s)⟩, fun _ => s_clearedE cst.rf hn hpo.2.2.2.2.2 (fun g1 s _ => hc g1 s)⟩⟩, fun _ v40 _ _ => ⟨fun _ => ⟨fun _ => h0, fun _ => ⟨fun _ => s_causeE o8 cst.rf (fun g1 s => hc g1 s), fun _ => trivial⟩⟩, fun _ => s_setup4 he hu hg h9 (fun Z1 g1 s r w u _ _ Z2 eZ => by subst eZ; exact h Z2 g1 s r w u)⟩⟩)), fun _ v58 _ _ => ⟨fun _ => ⟨fun _ => h0, fun _ => ⟨fun _ => s_causeE o8 cst.rf (fun g1 s => hc g1 s), fun _ => trivial⟩⟩, fun _ => s_setup4 he hu hg h9 (fun Z1 g1 s r w u _ _ Z2 eZ => by subst eZ; exact h Z2 g1 s r w u)⟩⟩), fun _ => s_place4 (fun v7 _ => ⟨fun _ => s_lget (fun v14 hpo => s_isOpen (fun v16 _ => ⟨fun _ v20 _ _ => ⟨fun _ => s_clearedE cst.rf hn hpo.2.2.2.2.2 (fun g1 s _ => hc g1 s), fun _ => ⟨fun _ => ⟨fun _ => h0, fun _ => s_progressE he cst.rf hpo.2.2.2.2.2 (fun g1 s _ => hc g1 s)⟩, fun _ => s_clearedE cst.rf hn hpo.2.2.2.2.2 (fun g1 s _ => hc g1 s)⟩⟩, fun _ v40 _ _ => ⟨fun _ => ⟨fun _ => h0, fun _ => ⟨fun _ => trivial, fun _ => s_causeE o8 cst.rf (fun g1 s => hc g1 s)⟩⟩, fun _ => s_setup4 he hu hg h9 (fun Z1 g1 s r w u _ _ Z2 eZ => by subst eZ; exact h Z2 g1 s r w u)⟩⟩)), fun _ v58 _ _ => ⟨fun _ => ⟨fun _ => h0, fun _ => ⟨fun _ => trivial, fun _ => s_causeE o8 cst.rf (fun g1 s => hc g1 s)⟩⟩, fun _ => s_setup4 he hu hg h9 (fun Z1 g1 s r w u _ _ Z2 eZ => by subst eZ; exact h Z2 g1 s r w u)⟩⟩)⟩
