/-! an end's line: what else comes keeps the step -/
def relN2 (M : List Nat) : Bool := relR.all fun j => !(M.contains j) || j == 1280 || j == 1248
theorem relN2_at {M : List Nat} (h : relN2 M = true) {j : Nat} (hj : j ∈ relR) (h2 : j ≠ 1280 ∧ j ≠ 1248) : j ∉ M := by
  have := List.all_eq_true.mp h j hj
  intro z
  rw [List.contains_iff_mem.mpr z] at this
  simp [h2] at this
theorem stp.fr2 {M : List Nat} {g g1 g2 : mSt} {i d : Nat} (h : stp g g1 i d) (k : mFr M g1 g2) (hM : relN2 M = true) (hf : fl g2 i = fl g1 i ∨ fl g2 i = false) (hsn : ∀ j, j < 8 → snt g2 i j = snt g1 i j ∨ snt g2 i j = 0) (h1248 : ∀ k, k / 8192 = 2 * i → g2 1248 k = g1 1248 k) : stp g g2 i d := by
  have hq := qL_fr k ⟨⟨relN2_at hM (by decide) (by decide), relN2_at hM (by decide) (by decide)⟩, relN2_at hM (by decide) (by decide), relN2_at hM (by decide) (by decide)⟩ (2 * d)
  have hw := wtL_fr k ⟨relN2_at hM (by decide) (by decide), relN2_at hM (by decide) (by decide), relN2_at hM (by decide) (by decide)⟩ i
  refine h.tr ⟨fun m => ?_, fun c hc => Or.inl (by rw [← hq]; exact hc), by rw [uLn_fr k (relN2_at hM (by decide) (by decide))]; exact h.2.2.1, fun q => ⟨by rw [k 170 (relN2_at hM (by decide) (by decide)), k 171 (relN2_at hM (by decide) (by decide))]; exact q.1, fun j hj => ?_, by rw [hw]; exact q.2.2.1, by rw [k 832 (relN2_at hM (by decide) (by decide))]; exact q.2.2.2.1, fun x hx => by rw [h1248 x hx]; exact q.2.2.2.2 x hx⟩⟩
  · unfold pot
    rw [hq, hw]
    have := alt_fl (m := m) (w := (qL g1 (2 * d)).map ltr) hf
    omega
  · rcases hsn j hj with z | z
    · rw [z]
      exact q.2.1 j hj
    · rw [z]
      decide
/-- no place of 'sent' got a length of 19 -/
theorem fl_le {g g1 : mSt} {i : Nat} (h : g1 164 i = g 164 i) (k : ∀ j, j < 8 → snt g1 i j = snt g i j ∨ (snt g1 i j).toInt ≠ 19) : fl g1 i = fl g i ∨ fl g1 i = false := by
  cases h1 : fl g1 i with
  | false => exact Or.inr rfl
  | true =>
    left
    unfold fl at h1 ⊢
    rw [Bool.and_eq_true, h, List.any_eq_true] at h1
    obtain ⟨a, x, hx, e⟩ := h1
    refine (Bool.and_eq_true_iff.mpr ⟨a, List.any_eq_true.mpr ⟨x, hx, ?_⟩⟩).symm
    have e := of_decide_eq_true e
    rcases k x (List.mem_range.mp hx) with q | q
    · rw [← q]
      exact decide_eq_true e
    · exact absurd e q
theorem s_answer {Z : cZ} {i d : Nat} {p1 p2 : Int32} {g g0 : mSt} {Φ : Int32 → mSt → Prop} (hs : stp g0 g i d) (h : ∀ r g1, stp g0 g1 i d → Φ r g1) : wp_kanswerCame Z i p1 p2 g Φ := by
  refine ⟨fun _ v2 e2 _ => ⟨fun _ g4 => stp g0 g4 i d, fun b g4 _ _ _ s4 => ⟨fun g5 => stp g0 g5 i d, fun g5 _ _ s5 => h 0 g5 s5, fun _ => s4, fun _ => s_becomeReady (fun g9 c9 _ r9 hpo => (s4.an hpo.2.1 ⟨⟨by decide, by decide⟩, by decide, by decide⟩ (by decide) (fun k hk => (c9 k hk).1) r9 (Or.inl (wtL_fr hpo.2.1 (by decide) i))).1)⟩, ⟨fun g10 => stp g0 g10 i d, fun g10 _ _ s10 => s10, ⟨fun g11 => stp g0 g11 i d, fun g11 _ _ s11 => ⟨fun g13 => stp g0 g13 i d, fun g13 _ _ s13 => ⟨fun g15 => stp g0 g15 i d, fun g15 _ _ s15 => s15, fun _ => s13, fun _ v18 e18 _ => ⟨fun _ => s13, fun _ => ⟨fun _ => s13, fun _ => s13⟩⟩⟩, fun _ => s11, fun _ v25 e25 _ => ⟨fun _ => s11, fun _ => ⟨fun _ => s11, fun _ => s11⟩⟩⟩, fun _ => hs, fun _ => ⟨fun _ => hs, fun _ => hs⟩⟩⟩⟩, fun _ v35 e35 _ => ⟨fun g36 => stp g0 g36 i d, fun g36 _ _ s36 => h 0 g36 s36, fun _ => hs, fun _ g40 e40 => s_anew (fun g41 c41 r41 hpo => ((hs.st e40 (by decide)).1.an hpo.2.1 ⟨⟨by decide, by decide⟩, by decide, by decide⟩ (by decide) (fun k hk => (c41 k hk).1) r41 (Or.inl (wtL_fr hpo.2.1 (by decide) i))).1)⟩⟩
theorem s_clear {Z : cZ} {j : Nat} {p1 : Int32} {g : mSt} {Φ : Int32 → mSt → Prop} (h0 : Φ 0 g) (h : ∀ g1, mFr [1280, 1344] g g1 → (∀ k, g1 1280 k = g 1280 k ∨ (g1 1280 k = 0 ∧ k / 8192 = j)) → (0 ≤ p1.toInt → p1.toInt < 8 → g1 1280 (8192 * j + p1.toInt.toNat) = 0) → Φ 0 g1) : wp_kclear Z j p1 g Φ := by
  refine ⟨fun _ => h0, fun c1 => ⟨fun _ => h0, fun c2 g9 e9 g11 e11 => h g11 (fun a ha => ?_) (fun k => ?_) (fun _ _ => ?_)⟩⟩
  · simp only [List.mem_cons, List.not_mem_nil, or_false, not_or] at ha
    rw [e11, up2_of ha.2, e9, up2_of ha.1]
  · rw [e11, up2_o (by decide), e9]
    by_cases hk : k = 8192 * j + p1.toNatClampNeg
    · right
      rw [hk, up2_i]
      exact ⟨rfl, by rw [nat_cl]; omega⟩
    · left
      exact up2_n hk
  · rw [e11, up2_o (by decide), e9, ← nat_cl, up2_i]
theorem s_ack {Z : cZ} {i d : Nat} {p1 : Int32} {g g0 : mSt} {Φ : Int32 → mSt → Prop} (hs : stp g0 g i d) (h : ∀ g1, stp g0 g1 i d → Φ 0 g1) : wp_kacknowledge Z i p1 g Φ := by
  intro v1 e1 _
  refine ⟨fun _ g3 => stp g0 g3 i d, fun a g3 _ _ _ s3 => ⟨fun g4 => stp g0 g4 i d, fun g4 _ _ s4 g5 e5 v6 e6 _ t6 g7 e7 => h g7 ((s4.up e5 (by decide)).up e7 (by decide)), fun _ => s3, fun _ v11 e11 _ => ⟨fun _ => s3, fun _ v16 e16 _ t16 => s_clear (fun _ v18 _ _ _ => s3) (fun g17 k17 q17 _ _ v18 _ _ _ => s3.fr2 k17 (by decide) (fl_le (by rw [k17 164 (by decide)]) (fun j hj => ?_)) (fun j hj => (q17 _).imp id And.left) (fun x _ => by rw [k17 1248 (by decide)]))⟩⟩, hs⟩
  rcases q17 (8192 * (2 * i) + j) with z | z
  · exact Or.inl z
  · right
    show (g17 1280 (8192 * (2 * i) + j)).toInt ≠ 19
    rw [z.1]
    decide
theorem s_mark {Z : cZ} {i d : Nat} {p1 p2 p3 : Int32} {g g0 : mSt} {Φ : Int32 → mSt → Prop} (hs : stp g0 g i d) (h : ∀ g1, stp g0 g1 i d → Φ 0 g1) : wp_kmarkAgain Z i p1 p2 p3 g Φ := by
  intro v1 e1 _ v2 _ _
  exact ⟨fun _ g4 => stp g0 g4 i d, fun a g4 _ _ _ s4 => ⟨fun g5 => stp g0 g5 i d, fun g5 _ _ s5 => h g5 s5, fun _ => s4, fun _ v9 e9 _ => ⟨fun _ => s4, fun _ v15 e15 _ t15 v16 e16 _ => ⟨fun g17 => stp g0 g17 i d, fun g17 _ _ s17 v18 _ _ _ => s17, fun _ => s4, fun _ g23 e23 => s4.up e23 (by decide)⟩⟩⟩, hs⟩
theorem s_wordAt {Z : cZ} {q1 : Nat} {p2 : Int32} {g : mSt} {Φ : Int32 → mSt → Prop} (h : ∀ r, Φ r g) : wp_kwordAt_16 Z q1 p2 g Φ := by
  unfold wp_kwordAt_16
  repeat' first
    | exact h _
    | exact trivial
    | refine ⟨?_, ?_⟩
    | intro _
theorem s_gap {Z : cZ} {i d : Nat} {p1 p2 p3 : Int32} {g g0 : mSt} {Φ : Int32 → mSt → Prop} (hs : stp g0 g i d) (h : ∀ r g1, stp g0 g1 i d → Φ r g1) : wp_kgapCame Z i p1 p2 p3 g Φ := by
  intro v1 e1 _
  exact ⟨fun _ => h _ _ hs, fun _ => ⟨fun _ => h _ _ hs, fun _ => ⟨fun _ => h _ _ hs, fun _ v11 e11 _ => ⟨fun _ => s_ack hs (fun g15 s15 _ v16 _ _ v17 _ _ => s_mark s15 (fun g18 s18 _ => h _ _ s18)), fun _ => h _ _ hs⟩⟩⟩⟩
theorem s_status {Z : cZ} {i d q1 : Nat} {p2 p3 p4 : Int32} {g g0 : mSt} {Φ : Int32 → mSt → Prop} (hs : stp g0 g i d) (h : ∀ r g1, stp g0 g1 i d → Φ r g1) : wp_kstatusCame Z i q1 p2 p3 p4 g Φ := by
  intro v1 e1 _ t1
  refine s_wordAt (fun v4 _ v5 e5 _ => ⟨fun _ => h _ _ hs, fun _ v9 e9 _ => ⟨fun _ => h _ _ hs, fun _ v13 e13 _ => ⟨fun _ => h _ _ hs, fun _ v17 e17 _ => ⟨fun _ => ⟨fun _ _ g21 => stp g0 g21 i d, fun a b g21 _ _ _ _ s21 => ⟨fun _ => s_ack s21 (fun g23 s23 _ g24 e24 g25 e25 => ⟨fun _ g27 => stp g0 g27 i d, fun a7 g27 _ _ _ s27 v28 _ _ _ => ⟨fun _ => h _ _ s27, fun _ v34 _ _ _ => s_wordAt (fun v37 _ v38 _ _ _ => s_wordAt (fun v41 _ => s_mark s27 (fun g42 s42 _ v43 _ _ _ => s42)))⟩, (s23.up e24 (by decide)).up e25 (by decide)⟩), fun _ v47 _ _ _ => s_wordAt (fun v50 _ => ⟨fun _ => h _ _ s21, fun _ => ⟨fun _ v57 _ _ _ v59 _ _ _ => s21, fun _ => h _ _ s21⟩⟩)⟩, hs⟩, fun _ => h _ _ hs⟩⟩⟩⟩)
theorem s_timers {Z : cZ} {i d : Nat} {p1 : Int32} {g g0 : mSt} {Φ : Int32 → mSt → Prop} (hd : cOut Z.n i = d) (hs : stp g0 g i d) (h : ∀ r g1, stp g0 g1 i d → Φ r g1) : wp_ktimers Z i p1 g Φ := by
  intro v1 e1 _
  refine ⟨fun c0 => ⟨fun _ g6 => stp g0 g6 i d, fun a6 g6 _ _ _ s6 => ⟨fun g7 => stp g0 g7 i d, fun g7 _ _ s7 => h _ _ s7, fun _ => s6, fun _ => ?_⟩, fun c2 v17 _ _ v18 _ _ => ⟨fun _ v21 _ _ v22 _ _ v23 _ _ v24 _ _ => ⟨fun _ g26 => stp g0 g26 i d, fun b g26 _ _ _ s26 => ⟨fun _ => s26, fun _ => s_poll hd s26 (fun g30 s30 _ => s30)⟩, fun _ => hs, fun _ => hs⟩, fun _ => hs⟩, fun c2 v35 _ _ v36 _ _ => ⟨fun _ g38 => g38 = g, fun b g38 _ _ _ q38 => ⟨fun _ g40 => g40 = g, fun b2 g40 _ _ _ q40 => ⟨fun g41 => stp g0 g41 i d, fun g41 _ _ s41 => s41, fun _ => ?_, fun _ => ⟨fun _ => ?_, fun _ => ?_⟩⟩, ⟨fun g49 => g49 = g, fun g49 _ _ q49 => q49, fun _ => q38, fun _ v53 _ _ => ⟨fun _ => q38, fun _ => q38⟩⟩⟩, fun _ => rfl, fun _ => rfl⟩⟩, fun _ => h _ _ hs⟩
  · rw [hd]
    refine s_sendUnit (by rw [show uLn g6 d = 0 from s6.2.2.1]; decide) (fun g13 hu2 hq hpo2 => s_cut (fun g14 c14 _ w14 r14 hpo => ?_))
    rw [uL_nil s6.2.2.1, List.nil_append] at hq
    have e1 : qL g14 (2 * d) = qL g13 (2 * d) := qL_fr hpo.2.1 ⟨⟨by decide, by decide⟩, by decide, by decide⟩ _
    have hf := fl_cl (fun k hk => (c14 k hk).1)
    refine stp.gen (g1 := g6) (u := w4 ((3 : Int32) <<< ((24 : Int32) &&& 31) ||| 1)) s6 ?_ good4.2.1 good4.2.2 good4.1 ?_ (Or.inr hf) (by rw [w14]; exact Nat.zero_le _) (by rw [uLn_fr hpo.2.1 (by decide)]; exact hu2) (fun q => ⟨by rw [r14.1, r14.2]; decide, fun k hk => by rw [(c14 k hk).1]; decide, (by rw [w14]; exact fun x hx => absurd hx (List.not_mem_nil)), by rw [hpo.2.1 832 (by decide), hpo2.2.1 832 (by decide)]; exact q.2.2.2.1, by rw [hpo.2.1 1248 (by decide), hpo2.2.1 1248 (by decide)]; exact q.2.2.2.2⟩)
    · unfold emi
      rw [e1]
      exact hq
    · rw [hf]
      exact uLt4K
  · rw [show g40 = g from q40]
    exact hs
  · rw [show g40 = g from q40]
    exact hs
  · rw [show g40 = g from q40]
    exact s_askAgain hd hs (fl_st (by rw [← e1]; omega)) (fun g48 s48 _ _ => s48)
