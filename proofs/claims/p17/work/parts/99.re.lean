/-! an end's calls: their methods keep the step -/
theorem s_lget {Z : cZ} {i : Nat} {p1 : Int32} {g : mSt} {Φ : Int32 → mSt → Prop} (h : ∀ r, Φ r g) : wp_klget Z i p1 g Φ := by
  intro v1 _ _
  unfold wp_kcheckIndex wp_kcheckIndex0 wp_kelementData
  repeat' first
    | exact h _
    | exact trivial
    | refine ⟨?_, ?_⟩
    | intro _
theorem s_isOpen {Z : cZ} {i : Nat} {g : mSt} {Φ : Int32 → mSt → Prop} (h : ∀ r, Φ r g) : wp_kisOpen Z i g Φ := fun _ _ _ => ⟨fun _ => h _, fun _ => h _⟩
theorem s_lsize {Z : cZ} {i : Nat} {g : mSt} {Φ : Int32 → mSt → Prop} (h : ∀ r, Φ r g) : wp_klsize Z i g Φ := fun _ _ _ => h _
theorem cst.sd {N M e c : Nat} {g0 g : mSt} (h : cst N M e g0 g) (hc : (g 32 c).toInt = (e : Int)) {j : Nat} {v : Int32} {g1 : mSt} (hj : j ∈ cRows) (h36 : j ≠ 36) (h42 : j ≠ 42) (h46 : j ≠ 46 ∧ j ≠ 48) (e1 : g1 = up2 g j c v) : cst N M e g0 g1 := h.tr (cst.up hc hj h36 h42 h46 e1)
theorem s_finishE {Z : cZ} {N M e c : Nat} {p1 : Int32} {g g0 : mSt} {Φ : Int32 → mSt → Prop} (hs : cst N M e g0 g) (hc : (g 32 c).toInt = (e : Int)) (h : ∀ g1, cst N M e g0 g1 → Φ 0 g1) : wp_kfinish Z c p1 g Φ := by
  intro g1 e1
  exact s_enterE (hs.sd hc (by decide) (by decide) (by decide) (by decide) e1) (by rw [e1, up2_o (by decide)]; exact hc) (by decide) (Or.inl (by decide)) (fun g2 s2 _ => h _ s2)
theorem s_plainE {Z : cZ} {N M e q2 : Nat} {p1 : Int32} {g g0 : mSt} {Ψ : mSt → Prop} (hp : oct p1) (hs : cst N M e g0 g) (h : ∀ g1, cst N M e g0 g1 → Ψ g1) : wp_ksayPlain_4 Z e p1 q2 g (fun _ g1 => po_ksayPlain_4 Z e p1 q2 g 0 g1 → Ψ g1) :=
  s_sayPlain4 hp (fun g1 q hpo => h _ (hs.tr (cst.said mo_say hpo.1 hpo.2.1 (by decide) q (by decide))))
theorem s_causeE {Z : cZ} {N M e : Nat} {p1 p2 p3 p4 : Int32} {g g0 : mSt} {Ψ : mSt → Prop} (hp : oct p1) (hs : cst N M e g0 g) (h : ∀ g1, cst N M e g0 g1 → Ψ g1) : wp_ksayCause_4 Z e p1 p2 p3 p4 g (fun _ g1 => po_ksayCause_4 Z e p1 p2 p3 p4 g 0 g1 → Ψ g1) :=
  s_sayCause4 hp (fun g1 q hpo => h _ (hs.tr (cst.said mo_say hpo.1 hpo.2.1 (by decide) q (by decide))))
theorem s_releaseE {Z : cZ} {N M e c : Nat} {p1 p2 : Int32} {g g0 : mSt} {Φ : Int32 → mSt → Prop} (he : e < Z.n) (hs : cst N M e g0 g) (hc : (g 32 c).toInt = (e : Int)) (h : ∀ g1, cst N M e g0 g1 → Φ 0 g1) : wp_krelease Z c p1 p2 g Φ := by
  intro v1 e1 _
  refine ⟨fun _ => h _ hs, fun _ => ⟨fun _ g9 e9 v10 _ _ => ?_, fun _ => h _ hs⟩⟩
  have c9 : (g9 32 c).toInt = (e : Int) := by rw [e9, up2_o (by decide)]; exact hc
  refine s_enterE (hs.sd hc (by decide) (by decide) (by decide) (by decide) e9) c9 (by decide) (Or.inr (Or.inl (by decide))) (fun g11 s11 hpo v12 e12 => ?_)
  have t12 : v12.toInt.toNat = e := by
    rw [e12, hpo.2.1 32 (by decide)]
    omega
  rw [t12]
  exact ⟨fun _ v16 _ _ v17 _ _ => s_causeE ⟨by decide, by decide⟩ s11 (fun g18 s18 => h _ s18), fun z => by exfalso; omega⟩
theorem asW_1 {g : mSt} {c : Nat} {v : Int32} (e : v = g 36 c) (h : v.toInt ≠ 0 ∧ v.toInt ≠ 11 ∧ v.toInt ≠ 10) : asW g c = 1 := if_pos ⟨by rw [← e]; exact h.1, by rw [← e]; exact h.2.1, fun z => by rw [← e] at z; exact absurd z h.2.2⟩
theorem s_answerE {Z : cZ} {N M e c : Nat} {p2 : Int32} {g g0 : mSt} {Φ : Int32 → mSt → Prop} (hs : cst N M e g0 g) (hc : (g 32 c).toInt = (e : Int)) (hA : asW g c = 1 ∨ M ≤ c) (h : ∀ g1, cst N M e g0 g1 → Φ 0 g1) : wp_kanswer Z e c p2 g Φ := by
  intro v1 _ _
  exact s_enterE hs hc (by decide) (Or.inr (Or.inr hA)) (fun g2 s2 _ => s_plainE ⟨by decide, by decide⟩ s2 (fun g3 s3 => h _ s3))
theorem s_timerE {Z : cZ} {N M e c : Nat} {p2 : Int32} {g g0 : mSt} {Φ : Int32 → mSt → Prop} (he : e < Z.n) (hN : c < N) (hs : cst N M e g0 g) (hc : (g 32 c).toInt = (e : Int)) (h : ∀ g1, cst N M e g0 g1 → Φ 0 g1) : wp_ktimer_4 Z e c p2 g Φ := by
  intro v1 e1 _
  refine ⟨fun g2 => cst N M e g0 g2, fun g2 _ _ _ s2 => h _ s2, fun _ => ⟨fun c1 v9 e9 _ => ⟨fun c9 v13 _ _ g1 e41 g2 e42 hpo => s_saySetup4 (fun g15 q15 hpo15 => ?_), fun _ => s_finishE hs hc (fun g18 s18 _ => s18)⟩, fun _ => s_releaseE he hs hc (fun g20 s20 _ => s20)⟩, fun c6 => s_answerE hs hc (Or.inl (asW_1 e1 (by omega))) (fun g23 s23 _ => s23)⟩
  refine hs.tr ?_
  have k2 : mFr [41, 42] g g2 := fun a ha => by
    simp only [List.mem_cons, List.not_mem_nil, or_false, not_or] at ha
    rw [e42, up2_of ha.2, e41, up2_of ha.1]
  have hw2 : wtL g2 e = wtL g e := wtL_fr k2 ⟨by decide, by decide, by decide⟩ e
  have n42 : ∀ k, k ≠ c → g2 42 k = g 42 k := fun k hk => by rw [e42, up2_n hk, e41, up2_o (by decide)]
  have hom : om N g15 e + 1 ≤ om N g e := by
    refine cP_lt (c := c) (fun k hk => ?_) ?_ ?_ hN
    · unfold omP
      rw [hpo15.2.1 32 (by decide), hpo15.2.1 36 (by decide), hpo15.2.1 42 (by decide), k2 32 (by decide), k2 36 (by decide), n42 k hk]
    · unfold omP
      rw [hpo15.2.1 42 (by decide), e42, up2_i]
      exact decide_eq_false (fun z => absurd z.2.2 (by decide))
    · unfold omP
      rw [← e1, ← e9]
      exact decide_eq_true ⟨hc, c1, c9⟩
  refine ⟨by rw [hpo15.2.1 32 (by decide), k2 32 (by decide)], fun a b q => ?_, ?_, fun q x hx => ?_, fun q => q15.2 (q.fr (k2 832 (by decide))), fun k _ => Nat.le_of_eq (asW_eq (by rw [hpo15.2.1 36 (by decide), k2 36 (by decide)]) (by rw [hpo15.2.1 46 (by decide), k2 46 (by decide)])), fun k => Nat.le_of_eq (dW_eq (by rw [hpo15.2.1 48 (by decide), k2 48 (by decide)]) (by rw [hpo15.2.1 49 (by decide), k2 49 (by decide)]))⟩
  · rw [hpo15.1.out (mo_say a b (fun z => q (Or.inr z)))]
    by_cases hb : b = c
    · subst hb
      have ha : a ∉ [41, 42] := fun z => q (Or.inl ⟨by
        simp only [List.mem_cons, List.not_mem_nil, or_false] at z
        rcases z with z | z <;> subst z <;> decide, hc⟩)
      rw [k2 a ha]
    · rw [e42]
      refine Eq.trans (if_neg (fun z => hb z.2)) ?_
      rw [e41]
      exact if_neg (fun z => hb z.2)
  · have : n19 (wtL g15 e) ≤ n19 (wtL g e) + 1 := by
      rcases q15.1 with w | ⟨y, _, w⟩
      · rw [w, hw2]
        omega
      · rw [w, hw2]
        unfold n19
        rw [List.countP_append, List.countP_singleton]
        split <;> omega
    omega
  · rcases q15.1 with w | ⟨y, hy, w⟩
    · rw [w, hw2] at hx
      exact q x hx
    · rw [w, hw2] at hx
      rcases List.mem_append.mp hx with z | z
      · exact q x z
      · rw [List.mem_singleton.mp z]
        omega
/-- no partner at an end -/
def noP (g : mSt) (e : Nat) : Prop := ∀ c, (g 32 c).toInt = (e : Int) → (g 43 c).toInt < 0
theorem cst.noP {N M e : Nat} {g g1 : mSt} (h : cst N M e g g1) (q : noP g e) : noP g1 e := fun c hc => by
  rw [h.1] at hc
  rw [h.2.1 43 c (by unfold ownE cRows; simp)]
  exact q c hc
theorem cst.c32 {N M e c : Nat} {g g1 : mSt} (h : cst N M e g g1) (hc : (g 32 c).toInt = (e : Int)) : (g1 32 c).toInt = (e : Int) := by rw [h.1]; exact hc
theorem s_progressE {Z : cZ} {N M e c q2 : Nat} {p3 : Int32} {g g0 : mSt} {Φ : Int32 → mSt → Prop} (he : e < Z.n) (hs : cst N M e g0 g) (hc : (g 32 c).toInt = (e : Int)) (h : ∀ g1, cst N M e g0 g1 → Φ 0 g1) : wp_kprogress_4 Z e c q2 p3 g Φ := by
  intro v1 _ _
  refine ⟨fun g2 => cst N M e g0 g2, fun g2 _ _ _ s2 => h _ s2, ⟨fun g3 => g3 = g, fun g3 _ _ _ q3 => ⟨fun g5 => g5 = g, fun g5 _ _ _ q5 => ⟨fun g7 => g7 = g, fun g7 _ _ _ q7 => ?_, fun _ => q5, fun _ v23 e23 _ => ⟨fun _ => q5, fun c23 => ?_⟩⟩, fun _ => q3, fun _ v34 _ _ => ⟨fun _ => q3, fun _ => ?_⟩⟩, fun _ => rfl, fun _ v44 e44 _ => ⟨fun _ => rfl, fun c44 v49 _ _ g50 e50 v51 _ _ => ?_⟩⟩⟩
  · rw [show g7 = g from q7]
    exact ⟨fun _ => hs, fun _ v13 e13 _ => ⟨fun _ => hs, fun c13 => s_enterE hs hc (by decide) (Or.inr (Or.inr (Or.inl (asW_1 e13 (by omega))))) (fun g18 s18 _ => s18)⟩⟩
  · rw [show g5 = g from q5] at e23 ⊢
    exact s_enterE hs hc (by decide) (Or.inr (Or.inr (Or.inl (asW_1 e23 (by omega))))) (fun g28 s28 _ => s_plainE ⟨by decide, by decide⟩ s28 (fun g29 s29 => s29))
  · rw [show g3 = g from q3]
    exact s_releaseE he hs hc (fun g39 s39 _ => s39)
  · exact s_enterE (hs.sd hc (by decide) (by decide) (by decide) (by decide) e50) (by rw [e50, up2_o (by decide)]; exact hc) (by decide) (Or.inr (Or.inr (Or.inl (asW_1 (v := v44) (by rw [e50, up2_o (by decide)]; exact e44) (by omega))))) (fun g52 s52 _ => s52)
theorem s_clearedE {Z : cZ} {N M e c q2 : Nat} {p3 : Int32} {g g0 : mSt} {Φ : Int32 → mSt → Prop} (hs : cst N M e g0 g) (hn : noP g e) (hc : (g 32 c).toInt = (e : Int)) (h : ∀ g1, cst N M e g0 g1 → Φ 0 g1) : wp_kcleared_4 Z e c q2 p3 g Φ := by
  intro v1 _ _
  refine ⟨fun g2 => cst N M e g0 g2 ∧ cst N M e g g2, fun g2 _ _ _ s2 v3 _ _ => ⟨fun _ g5 => g5 = g2, fun b g5 _ _ _ _ q5 => ?_, fun _ v20 _ _ => rfl, fun _ v23 _ _ => rfl⟩, fun _ => ⟨hs, cst.rf⟩, fun _ v28 _ _ v29 _ _ v30 _ _ => s_causeE ⟨by decide, by decide⟩ cst.rf (fun g31 s31 => ⟨hs.tr s31, s31⟩)⟩
  rw [show g5 = g2 from q5]
  refine s_finishE cst.rf (s2.2.c32 hc) (fun g6 s6 _ v7 e7 => ⟨fun _ => h _ (s2.1.tr s6), fun z => ?_⟩)
  have := (s2.2.tr s6).noP hn c ((s2.2.tr s6).c32 hc)
  rw [← e7] at this
  exfalso
  omega
theorem s_allOverE {Z : cZ} {N M e : Nat} {p1 : Int32} {g g0 : mSt} {Φ : Int32 → mSt → Prop} (hs : cst N M e g0 g) (hn : noP g e) (h : ∀ g1, cst N M e g0 g1 → Φ 0 g1) : wp_kallOver_4 Z e p1 g Φ := by
  refine ⟨fun _ g2 => cst N M e g g2, fun a g2 _ _ _ _ s2 => s_lsize (fun v5 _ => ⟨fun _ => h _ (hs.tr s2), fun _ => s_lget (fun v11 hpo => s_isOpen (fun v13 _ => ⟨fun g14 => cst N M e g g14, fun g14 _ _ _ s14 v15 _ _ _ => s14, fun _ => ?_, fun _ => s2⟩))⟩), cst.rf⟩
  have c2 := hpo.2.2.2.2.2
  refine s_finishE cst.rf c2 (fun g19 s19 _ v20 e20 => ⟨fun _ => s2.tr s19, fun z => ?_⟩)
  have := (s2.tr s19).noP hn _ (s19.c32 c2)
  rw [← e20] at this
  exfalso
  omega
theorem cst.rep {N M e c : Nat} {g g1 g2 : mSt} {v : Int32} (hc : (g 32 c).toInt = (e : Int)) (e41 : g1 = up2 g 41 c v) (e42 : g2 = up2 g1 42 c 1) : cst N M e g g2 := by
  have k2 : mFr [41, 42] g g2 := fun a ha => by
    simp only [List.mem_cons, List.not_mem_nil, or_false, not_or] at ha
    rw [e42, up2_of ha.2, e41, up2_of ha.1]
  have hw2 : wtL g2 e = wtL g e := wtL_fr k2 ⟨by decide, by decide, by decide⟩ e
  have n42 : ∀ k, k ≠ c → g2 42 k = g 42 k := fun k hk => by rw [e42, up2_n hk, e41, up2_o (by decide)]
  refine ⟨k2 32 (by decide), fun a b q => ?_, ?_, fun q => by rw [hw2]; exact q, fun q => q.fr (k2 832 (by decide)), fun k _ => Nat.le_of_eq (asW_eq (by rw [k2 36 (by decide)]) (by rw [k2 46 (by decide)])), fun k => Nat.le_of_eq (dW_eq (by rw [k2 48 (by decide)]) (by rw [k2 49 (by decide)]))⟩
  · by_cases hb : b = c
    · subst hb
      have ha : a ∉ [41, 42] := fun z => q (Or.inl ⟨by
        simp only [List.mem_cons, List.not_mem_nil, or_false] at z
        rcases z with z | z <;> subst z <;> decide, hc⟩)
      rw [k2 a ha]
    · rw [e42]
      refine Eq.trans (if_neg (fun z => hb z.2)) ?_
      rw [e41]
      exact if_neg (fun z => hb z.2)
  · rw [hw2]
    refine Nat.add_le_add_left (cP_le (c := c) (fun k hk => ?_) ?_) _
    · unfold omP
      rw [k2 32 (by decide), k2 36 (by decide), n42 k hk]
    · unfold omP
      rw [e42, up2_i]
      exact decide_eq_false (fun z => absurd z.2.2 (by decide))
theorem s_callTimersE {Z : cZ} {e : Nat} {p1 : Int32} {g g0 : mSt} {Φ : Int32 → mSt → Prop} (he : e < Z.n) (hs : cst (Z.w 2) (Z.w 2) e g0 g) (h : ∀ g1, cst (Z.w 2) (Z.w 2) e g0 g1 → Φ 0 g1) : wp_kcallTimers_4 Z e p1 g Φ := by
  refine ⟨fun _ g2 => cst (Z.w 2) (Z.w 2) e g0 g2, fun a g2 _ _ hJ _ s2 => s_lsize (fun v5 _ => ⟨fun _ => h _ s2, fun _ => s_lget (fun v11 hpo => s_isOpen (fun v13 _ => ⟨fun g14 => cst (Z.w 2) (Z.w 2) e g0 g14, fun g14 _ _ _ s14 v15 _ _ _ => s14, fun _ => s2, fun _ v21 _ _ => ⟨fun _ v23 _ _ => ⟨fun c23 v27 _ _ => ⟨fun _ v31 _ _ => ?_, fun _ v39 _ _ => s_finishE s2 hpo.2.2.2.2.2 (fun g40 s40 _ => s40)⟩, fun _ => s_timerE he (hJ.2.2.2.2.1.1.2.1 _ hpo.2.2.2.2.1) s2 hpo.2.2.2.2.2 (fun g42 s42 _ => s42)⟩, fun _ => s2⟩⟩))⟩), hs⟩
  intro g1 e41 g32 e42 hpo2 v33 _ _ v34 _ _ v35 _ _
  have c2 := hpo.2.2.2.2.2
  exact s_causeE ⟨by decide, by decide⟩ (s2.tr (cst.rep c2 e41 e42)) (fun g36 s36 => s36)
