/-! an end's line: its methods keep the step -/
theorem s_fin {Z : cZ} {i d : Nat} {a k n : Int32} {g5 g9 g0 : mSt} {Ψ : mSt → Prop} (hs5 : stp g0 g5 i d) (hpo : po_kword Z d a g5 0 g9) (hu : uL g9 d = uL g5 d ++ w4 a) (hl : by8 (k <<< ((24 : Int32) &&& 31) ||| n) 24 ≠ 1 ∨ fl g5 i = false) (h : ∀ g11, mFr [67, 108, 111, 544, 576, 768] g5 g11 → stp g0 g11 i d → Ψ g11) : wp_ksendUnit Z d k n g9 (fun _ g11 => po_ksendUnit Z d k n g9 0 g11 → Ψ g11) := by
  refine s_sendUnit (by rw [← uL_len, hu, List.length_append, uL_len, hs5.2.2.1, w4_len]; decide) (fun g11 hu2 hq hpo2 => h g11 (fun j hj => ?_) ?_)
  · simp only [List.mem_cons, List.not_mem_nil, or_false, not_or] at hj
    rw [hpo2.2.1 j (by simp only [List.mem_cons, List.not_mem_nil, or_false, not_or]; omega), hpo.2.1 j (by simp only [List.mem_cons, List.not_mem_nil, or_false, not_or]; omega)]
  · have e1 : qL g9 (2 * d) = qL g5 (2 * d) := qL_fr hpo.2.1 ⟨⟨by decide, by decide⟩, by decide, by decide⟩ _
    have e2 : uL g9 d = w4 a := by rw [hu, uL_nil hs5.2.2.1]; rfl
    rw [e2, e1] at hq
    have hf : fl g11 i = fl g5 i := (fl_fr hpo2.2.1 ⟨by decide, by decide⟩ i).trans (fl_fr hpo.2.1 ⟨by decide, by decide⟩ i)
    have hw : wtL g11 i = wtL g5 i := (wtL_fr hpo2.2.1 ⟨by decide, by decide, by decide⟩ i).trans (wtL_fr hpo.2.1 ⟨by decide, by decide, by decide⟩ i)
    refine hs5.gen hq good8.2.1 good8.2.2 good8.1 ?_ (Or.inl hf) (by rw [hw]; exact Nat.le_refl _) hu2 (fun q => li_fr hpo2.2.1 (by decide) i (li_fr hpo.2.1 (by decide) i q))
    rcases hl with hl | hl
    · exact Or.inl (uLt8 hl)
    · rw [hf, hl]
      exact uLt8K
theorem s_one {Z : cZ} {i d : Nat} {k n : Int32} {g g0 : mSt} {Ψ : mSt → Prop} (hs : stp g0 g i d) (hl : fl g i = false) (h : ∀ g2, mFr [67, 108, 111, 544, 576, 768] g g2 → stp g0 g2 i d → Ψ g2) : wp_ksendUnit Z d k n g (fun _ g2 => po_ksendUnit Z d k n g 0 g2 → Ψ g2) := by
  refine s_sendUnit (by rw [hs.2.2.1]; decide) (fun g2 hu2 hq hpo2 => h g2 hpo2.2.1 ?_)
  rw [uL_nil hs.2.2.1, List.nil_append] at hq
  have hf : fl g2 i = fl g i := fl_fr hpo2.2.1 ⟨by decide, by decide⟩ i
  have hw : wtL g2 i = wtL g i := wtL_fr hpo2.2.1 ⟨by decide, by decide, by decide⟩ i
  refine hs.gen hq good4.2.1 good4.2.2 good4.1 ?_ (Or.inl hf) (by rw [hw]; exact Nat.le_refl _) hu2 (fun q => li_fr hpo2.2.1 (by decide) i q)
  rw [hf, hl]
  exact uLt4K
/-- another state than READY -/
theorem stp.st {g g1 g2 : mSt} {i d : Nat} {v : Int32} (h : stp g g1 i d) (e : g2 = up2 g1 164 i v) (hv : v.toInt ≠ 2) : stp g g2 i d ∧ fl g2 i = false := by
  have k : mFr [164] g1 g2 := fun a ha => by rw [e, up2_of (by simpa using ha)]
  have hf : fl g2 i = false := fl_st (by rw [e, up2_i]; exact hv)
  exact ⟨h.cl (qL_fr k ⟨⟨by decide, by decide⟩, by decide, by decide⟩ _) hf (by rw [wtL_fr k ⟨by decide, by decide, by decide⟩]; exact Nat.le_refl _) (by rw [uLn_fr k (by decide)]; exact h.2.2.1) (fun q => li_fr k (by decide) i q), hf⟩
theorem s_askAgain {Z : cZ} {i d : Nat} {p1 : Int32} {g g0 : mSt} {Φ : Int32 → mSt → Prop} (hd : cOut Z.n i = d) (hs : stp g0 g i d) (hf : fl g i = false) (h : ∀ g1, stp g0 g1 i d → fl g1 i = false → Φ 0 g1) : wp_kaskAgain Z i p1 g Φ := by
  intro v1 e1 _ v2 e2 _ g3 e3 g4 e4 v5 e5 _
  have hs4 := (hs.up e3 (by decide)).up e4 (by decide)
  have k4 : mFr [177, 178] g g4 := fun a ha => by
    simp only [List.mem_cons, List.not_mem_nil, or_false, not_or] at ha
    rw [e4, up2_of ha.2, e3, up2_of ha.1]
  have hf4 : fl g4 i = false := (fl_fr k4 ⟨by decide, by decide⟩ i).trans hf
  rw [hd]
  refine ⟨fun g6 => stp g0 g6 i d ∧ fl g6 i = false, fun g6 _ _ h6 => h g6 h6.1 h6.2, fun _ => s_word (by rw [hs4.2.2.1]; decide) (fun g10 hu hpo v12 e12 _ => s_fin hs4 hpo hu (Or.inr hf4) (fun g11 k11 s11 => ⟨s11, (fl_fr k11 ⟨by decide, by decide⟩ i).trans hf4⟩)), fun _ => s_one hs4 hf4 (fun g11 k11 s11 => ⟨s11, (fl_fr k11 ⟨by decide, by decide⟩ i).trans hf4⟩)⟩
theorem s_ask {Z : cZ} {i d : Nat} {p1 p2 p3 : Int32} {g g0 : mSt} {Φ : Int32 → mSt → Prop} (hd : cOut Z.n i = d) (hs : stp g0 g i d) (hp : p1.toInt ≠ 2) (h : ∀ g1, stp g0 g1 i d → fl g1 i = false → Φ 0 g1) : wp_kask Z i p1 p2 p3 g Φ := by
  intro g1 e1 g2 e2 g3 e3
  obtain ⟨hs1, hf1⟩ := hs.st e1 hp
  have hs3 := (hs1.up e2 (by decide)).up e3 (by decide)
  have k3 : mFr [176, 177] g1 g3 := fun a ha => by
    simp only [List.mem_cons, List.not_mem_nil, or_false, not_or] at ha
    rw [e3, up2_of ha.2, e2, up2_of ha.1]
  have hf3 : fl g3 i = false := (fl_fr k3 ⟨by decide, by decide⟩ i).trans hf1
  refine ⟨fun g4 => stp g0 g4 i d ∧ fl g4 i = false, fun g4 _ _ h4 => s_askAgain hd h4.1 h4.2 (fun g5 s5 f5 _ => h g5 s5 f5), fun _ => ⟨hs3, hf3⟩, fun _ v8 e8 _ v9 e9 _ g10 e10 => ⟨hs3.up e10 (by decide), (fl_fr (M := [173]) (fun a ha => by rw [e10, up2_of (by simpa using ha)]) ⟨by decide, by decide⟩ i).trans hf3⟩⟩
/-- after becomeReady, anew, cut -/
theorem stp.an {M : List Nat} {g g1 g2 : mSt} {i d : Nat} (h : stp g g1 i d) (k : mFr M g1 g2) (hM : (66 ∉ M ∧ 67 ∉ M) ∧ (544 ∉ M ∧ 576 ∉ M)) (hM2 : 111 ∉ M ∧ 832 ∉ M ∧ 1248 ∉ M) (hs : ∀ k, k < 8 → snt g2 i k = 0) (hrh : g2 170 i = 0 ∧ g2 171 i = 0) (hw : wtL g2 i = wtL g1 i ∨ wtL g2 i = []) : stp g g2 i d ∧ fl g2 i = false := by
  have hf := fl_cl hs
  have hw1 : n19 (wtL g2 i) ≤ n19 (wtL g1 i) := by
    rcases hw with w | w
    · rw [w]
      exact Nat.le_refl _
    · rw [w]
      exact Nat.zero_le _
  refine ⟨h.cl (qL_fr k hM _) hf hw1 (by rw [uLn_fr k hM2.1]; exact h.2.2.1) (fun q => ⟨by rw [hrh.1, hrh.2]; decide, fun j hj => by rw [hs j hj]; decide, fun x hx => ?_, by rw [k 832 hM2.2.1]; exact q.2.2.2.1, by rw [k 1248 hM2.2.2]; exact q.2.2.2.2⟩), hf⟩
  rcases hw with w | w
  · rw [w] at hx
    exact q.2.2.1 x hx
  · rw [w] at hx
    cases hx
theorem s_begin {Z : cZ} {i d : Nat} {p1 p2 : Int32} {g g0 : mSt} {Φ : Int32 → mSt → Prop} (hd : cOut Z.n i = d) (hs : stp g0 g i d) (h : ∀ r g1, stp g0 g1 i d → Φ r g1) : wp_kbeginCame Z i p1 p2 g Φ := by
  intro v1 e1 _
  rw [hd]
  refine ⟨fun _ g3 => stp g0 g3 i d, fun b g3 _ _ _ s3 => ⟨fun _ g5 => stp g0 g5 i d, fun b5 g5 _ _ _ s5 g6 e6 => ⟨fun g7 => stp g0 g7 i d, fun g7 _ _ s7 v10 e10 _ v11 e11 _ t11 => s_word (by rw [show uLn g7 d = 0 from s7.2.2.1]; decide) (fun g12 hu hpo => s_fin s7 hpo hu (Or.inl (kind_ne 1 (by decide) (by decide) (by decide))) (fun g13 _ s13 => ⟨fun _ g15 => stp g0 g15 i d, fun b15 g15 _ _ _ s15 => h b15 g15 s15, fun _ => s13, fun _ => s13⟩)), fun _ => s5.up e6 (by decide), fun _ => s_becomeReady (fun g22 c22 _ r22 hpo => ((s5.up e6 (by decide)).an hpo.2.1 ⟨⟨by decide, by decide⟩, by decide, by decide⟩ (by decide) (fun k hk => (c22 k hk).1) r22 (Or.inl (wtL_fr hpo.2.1 (by decide) i))).1)⟩, ⟨fun g23 => stp g0 g23 i d, fun g23 _ _ s23 => s23, fun _ => s3, fun _ => ⟨fun g28 => stp g0 g28 i d, fun g28 _ _ s28 => s28, fun _ => s3, fun _ => ⟨fun _ => s3, fun _ => ⟨fun _ => s3, fun _ => s3⟩⟩⟩⟩⟩, ⟨fun g38 => stp g0 g38 i d, fun g38 _ _ s38 => s38, fun _ => hs, fun _ v41 e41 _ => ⟨fun _ => hs, fun _ => hs⟩⟩⟩
theorem s_end {Z : cZ} {i d : Nat} {g g0 : mSt} {Φ : Int32 → mSt → Prop} (hd : cOut Z.n i = d) (hs : stp g0 g i d) (h : ∀ r g1, stp g0 g1 i d → Φ r g1) : wp_kendCame Z i g Φ := by
  intro v1 e1 _
  rw [hd]
  refine ⟨fun b g3 => stp g0 g3 i d ∧ (b.toInt = 0 → fl g3 i = false), fun b g3 _ _ _ s3 => ⟨fun g4 => stp g0 g4 i d ∧ fl g4 i = false, fun g4 _ _ s4 => s_one s4.1 s4.2 (fun g7 _ s7 => ⟨fun _ g9 => stp g0 g9 i d, fun b9 g9 _ _ _ s9 => h b9 g9 s9, fun _ => s7, fun _ => s7⟩), fun c => ⟨s3.1, s3.2 c⟩, fun c => s_cut (fun g16 c16 _ w16 r16 hpo => s3.1.an hpo.2.1 ⟨⟨by decide, by decide⟩, by decide, by decide⟩ (by decide) (fun k hk => (c16 k hk).1) r16 (Or.inr w16))⟩, fun c => ⟨hs, fun _ => fl_st (by rw [← e1]; omega)⟩, fun c => ⟨hs, fun z => absurd z (by decide)⟩⟩
theorem s_reset {Z : cZ} {i d : Nat} {p1 p2 p3 : Int32} {g g0 : mSt} {Φ : Int32 → mSt → Prop} (hd : cOut Z.n i = d) (hs : stp g0 g i d) (h : ∀ r g1, stp g0 g1 i d → Φ r g1) : wp_kresetCame Z i p1 p2 p3 g Φ := by
  intro v1 e1 _
  rw [hd]
  refine ⟨fun b g3 => g3 = g, fun b g3 _ _ _ s3 g4 e4 => ?_, ⟨fun g35 => g35 = g, fun g35 _ _ s35 => s35, fun _ => rfl, fun _ v38 e38 _ => ⟨fun _ => rfl, fun _ => rfl⟩⟩⟩
  have s3 : g3 = g := s3
  subst s3
  have s4 := hs.up e4 (by decide)
  have f4 : fl g4 i = fl g3 i := fl_fr (M := [175]) (fun a ha => by rw [e4, up2_of (by simpa using ha)]) ⟨by decide, by decide⟩ i
  refine ⟨fun g6 => stp g0 g6 i d, fun g6 _ _ s6 => ⟨fun g8 => stp g0 g8 i d, fun g8 _ _ s8 => ⟨fun g9 => stp g0 g9 i d, fun g9 _ _ s9 v12 e12 _ v13 e13 _ t13 => s_word (by rw [show uLn g9 d = 0 from s9.2.2.1]; decide) (fun g14 hu hpo => ⟨fun b g16 => g16 = g14 ∧ (b = 6 ∨ b = 15), fun b g16 _ _ _ q16 => ?_, fun _ => ⟨rfl, Or.inr rfl⟩, fun _ => ⟨rfl, Or.inl rfl⟩⟩), fun _ => s8, fun _ => s_becomeReady (fun g23 c23 _ r23 hpo => (s8.an hpo.2.1 ⟨⟨by decide, by decide⟩, by decide, by decide⟩ (by decide) (fun k hk => (c23 k hk).1) r23 (Or.inl (wtL_fr hpo.2.1 (by decide) i))).1)⟩, fun _ => s6, fun _ => ⟨fun _ => s6, fun _ => h 0 g6 s6⟩⟩, fun _ => s4, fun c => s_one s4 (by rw [f4]; exact fl_st (by rw [← e1]; omega)) (fun g34 _ s34 => s34)⟩
  obtain ⟨e16, hb⟩ := q16
  subst e16
  refine s_fin s9 hpo hu (Or.inl ?_) (fun g17 _ s17 => h 0 g17 s17)
  rcases hb with hb | hb
  · rw [hb]
    exact kind_ne 1 (by decide) (by decide) (by decide)
  · rw [hb]
    exact kind_ne 1 (by decide) (by decide) (by decide)
