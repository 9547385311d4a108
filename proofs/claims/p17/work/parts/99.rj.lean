/-! any line: what comes ahead; which units end all calls -/
theorem s_wordAny {Z : cZ} {d : Nat} {p1 : Int32} {g : mSt} {Φ : Int32 → mSt → Prop} (h : ∀ g1, Φ 0 g1) : wp_kword Z d p1 g Φ :=
  ⟨fun _ _ => True, fun _ _ _ _ _ _ _ _ _ => ⟨fun _ => True, fun g3 _ _ _ => h g3, fun _ => trivial, fun _ => ⟨fun _ => trivial, fun _ _ _ _ _ _ _ _ _ _ _ _ _ _ _ _ _ _ _ => trivial⟩⟩, trivial⟩
theorem s_fillAny {Z : cZ} {q1 : Nat} {p2 p3 p4 : Int32} {g : mSt} {Φ : Int32 → mSt → Prop} (h : ∀ g1, Φ 0 g1) : wp_kfill_24 Z q1 p2 p3 p4 g Φ :=
  ⟨fun _ => ⟨fun _ => ⟨fun _ _ => ⟨fun _ _ => True, fun _ g4 _ _ _ _ => ⟨fun _ => h g4, fun _ _ _ _ _ _ _ => trivial⟩, trivial⟩, fun _ => trivial⟩, fun _ => trivial⟩, fun _ => trivial⟩
theorem s_closeAny {Z : cZ} {q1 : Nat} {p2 : Int32} {g : mSt} {Φ : Int32 → mSt → Prop} (h : ∀ r g1, Φ r g1) : wp_kcloseFrame_24 Z q1 p2 g Φ :=
  ⟨fun _ => h _ _, fun _ => ⟨fun _ => h _ _, fun _ => s_cellsFor (fun _ _ _ _ _ _ _ => s_fillAny (fun _ _ _ _ _ _ _ _ _ _ _ _ _ _ _ _ _ _ _ _ _ _ _ _ => s_crcOf (fun _ _ => ⟨fun _ _ _ => True, fun _ _ _ _ _ _ _ _ => ⟨fun _ => h _ _, fun _ _ _ _ _ _ _ _ _ _ _ _ _ _ _ _ _ => trivial⟩, trivial⟩)))⟩⟩
theorem s_qaddAny {Z : cZ} {i0 q2 : Nat} {p1 p3 : Int32} {g : mSt} {Φ : Int32 → mSt → Prop} (h : ∀ r g1, Φ r g1) : wp_kqadd_24 Z i0 p1 q2 p3 g Φ :=
  fun _ _ _ => ⟨fun _ => h _ _, fun _ => ⟨fun _ => trivial, fun _ _ _ _ _ => ⟨fun _ _ _ _ _ _ _ _ _ _ _ _ _ _ _ _ _ _ _ _ _ _ _ _ _ _ => h _ _, fun _ => h _ _⟩⟩⟩
theorem s_sendAny {Z : cZ} {d : Nat} {p1 p2 : Int32} {g : mSt} {Φ : Int32 → mSt → Prop} (h : ∀ g1, Φ 0 g1) : wp_ksendUnit Z d p1 p2 g Φ :=
  fun _ _ _ _ _ _ => s_wordAny (fun _ _ _ _ _ => s_closeAny (fun _ _ _ _ _ _ _ _ _ _ _ _ => ⟨fun _ => ⟨fun _ _ => True, fun _ _ _ _ _ _ => ⟨fun _ => h _, fun _ _ _ _ _ => ⟨fun _ _ _ _ _ _ _ _ => s_qaddAny (fun _ _ _ _ _ _ _ => trivial), fun _ _ _ _ _ _ _ _ => s_qaddAny (fun _ _ _ _ _ _ _ => trivial)⟩⟩, trivial⟩, fun _ _ _ _ _ _ _ _ _ => h _⟩))
/-- places ahead: kept or cleared -/
def aS (g g1 : mSt) (i : Nat) : Prop := (∀ k, k < 8 → ahd g1 i k = ahd g i k ∨ ahd g1 i k = 0) ∧ ((g1 170 i).toInt = (g 170 i).toInt ∨ (g1 170 i).toInt = 0)
theorem aS.rf {g : mSt} {i : Nat} : aS g g i := ⟨fun _ _ => Or.inl rfl, Or.inl rfl⟩
theorem aS.tr {g g1 g2 : mSt} {i : Nat} (h : aS g g1 i) (k : aS g1 g2 i) : aS g g2 i := by
  refine ⟨fun j hj => ?_, ?_⟩
  · rcases k.1 j hj with z | z
    · rw [z]
      exact h.1 j hj
    · exact Or.inr z
  · rcases k.2 with z | z
    · rw [z]
      exact h.2
    · exact Or.inr z
theorem aS.fr {M : List Nat} {g g1 g2 : mSt} {i : Nat} (h : aS g g1 i) (k : mFr M g1 g2) (hM : 170 ∉ M ∧ 1280 ∉ M) : aS g g2 i := h.tr ⟨fun j _ => by unfold ahd; rw [k 1280 hM.2]; exact Or.inl rfl, by rw [k 170 hM.1]; exact Or.inl rfl⟩
theorem aS.cl {g g1 : mSt} {i : Nat} (h : ∀ k, k < 8 → snt g1 i k = 0 ∧ ahd g1 i k = 0) (hr : g1 170 i = 0 ∧ g1 171 i = 0) : aS g g1 i := ⟨fun k hk => Or.inr (h k hk).2, Or.inr (by rw [hr.1]; decide)⟩
theorem aS.up {g g1 g2 : mSt} {i j k : Nat} {v : Int32} (h : aS g g1 i) (e : g2 = up2 g1 j k v) (hj : 170 ∉ [j] ∧ 1280 ∉ [j]) : aS g g2 i := h.fr (M := [j]) (fun a ha => by rw [e, up2_of (by simpa using ha)]) hj
theorem a_begin {Z : cZ} {i : Nat} {p1 p2 : Int32} {g : mSt} {Φ : Int32 → mSt → Prop} (h : ∀ r g1, aS g g1 i → Φ r g1) : wp_kbeginCame Z i p1 p2 g Φ := by
  intro v1 e1 _
  refine ⟨fun _ g3 => aS g g3 i, fun b g3 _ _ _ s3 => ⟨fun _ g5 => aS g g5 i, fun b5 g5 _ _ _ s5 g6 e6 => ⟨fun g7 => aS g g7 i, fun g7 _ _ s7 v10 e10 _ v11 e11 _ t11 => s_wordAny (fun g12 hpo => s_sendAny (fun g13 hpo2 => ⟨fun _ g15 => aS g g15 i, fun b15 g15 _ _ _ s15 => h b15 g15 s15, fun _ => (s7.fr hpo.2.1 (by decide)).fr hpo2.2.1 (by decide), fun _ => (s7.fr hpo.2.1 (by decide)).fr hpo2.2.1 (by decide)⟩)), fun _ => s5.up e6 (by decide), fun _ => s_becomeReady (fun g22 c22 _ r22 hpo => aS.cl c22 r22)⟩, ⟨fun g23 => aS g g23 i, fun g23 _ _ s23 => s23, fun _ => s3, fun _ => ⟨fun g28 => aS g g28 i, fun g28 _ _ s28 => s28, fun _ => s3, fun _ => ⟨fun _ => s3, fun _ => ⟨fun _ => s3, fun _ => s3⟩⟩⟩⟩⟩, ⟨fun g38 => aS g g38 i, fun g38 _ _ s38 => s38, fun _ => aS.rf, fun _ v41 e41 _ => ⟨fun _ => aS.rf, fun _ => aS.rf⟩⟩⟩
theorem a_end {Z : cZ} {i : Nat} {g : mSt} {Φ : Int32 → mSt → Prop} (h : ∀ r g1, aS g g1 i → Φ r g1) : wp_kendCame Z i g Φ := by
  intro v1 e1 _
  refine ⟨fun b g3 => aS g g3 i, fun b g3 _ _ _ s3 => ⟨fun g4 => aS g g4 i, fun g4 _ _ s4 => s_sendAny (fun g7 hpo => ⟨fun _ g9 => aS g g9 i, fun b9 g9 _ _ _ s9 => h b9 g9 s9, fun _ => s4.fr hpo.2.1 (by decide), fun _ => s4.fr hpo.2.1 (by decide)⟩), fun c => s3, fun c => s_cut (fun g16 c16 _ w16 r16 hpo => aS.cl c16 r16)⟩, fun c => aS.rf, fun c => aS.rf⟩
theorem a_answer {Z : cZ} {i : Nat} {p1 p2 : Int32} {g : mSt} {Φ : Int32 → mSt → Prop} (h : ∀ r g1, aS g g1 i → Φ r g1) : wp_kanswerCame Z i p1 p2 g Φ := by
  have hs : aS g g i := aS.rf
  refine ⟨fun _ v2 e2 _ => ⟨fun _ g4 => aS g g4 i, fun b g4 _ _ _ s4 => ⟨fun g5 => aS g g5 i, fun g5 _ _ s5 => h 0 g5 s5, fun _ => s4, fun _ => s_becomeReady (fun g9 c9 _ r9 hpo => aS.cl c9 r9)⟩, ⟨fun g10 => aS g g10 i, fun g10 _ _ s10 => s10, ⟨fun g11 => aS g g11 i, fun g11 _ _ s11 => ⟨fun g13 => aS g g13 i, fun g13 _ _ s13 => ⟨fun g15 => aS g g15 i, fun g15 _ _ s15 => s15, fun _ => s13, fun _ v18 e18 _ => ⟨fun _ => s13, fun _ => ⟨fun _ => s13, fun _ => s13⟩⟩⟩, fun _ => s11, fun _ v25 e25 _ => ⟨fun _ => s11, fun _ => ⟨fun _ => s11, fun _ => s11⟩⟩⟩, fun _ => hs, fun _ => ⟨fun _ => hs, fun _ => hs⟩⟩⟩⟩, fun _ v35 e35 _ => ⟨fun g36 => aS g g36 i, fun g36 _ _ s36 => h 0 g36 s36, fun _ => hs, fun _ g40 e40 => s_anew (fun g41 c41 r41 hpo => aS.cl c41 r41)⟩⟩
theorem a_ack {Z : cZ} {i : Nat} {p1 : Int32} {g : mSt} {Φ : Int32 → mSt → Prop} (h : ∀ g1, aS g g1 i → Φ 0 g1) : wp_kacknowledge Z i p1 g Φ := by
  intro v1 e1 _
  refine ⟨fun _ g3 => aS g g3 i, fun a g3 _ _ _ s3 => ⟨fun g4 => aS g g4 i, fun g4 _ _ s4 g5 e5 v6 e6 _ t6 g7 e7 => h g7 ((s4.up e5 (by decide)).up e7 (by decide)), fun _ => s3, fun _ v11 e11 _ => ⟨fun _ => s3, fun _ v16 e16 _ t16 => s_clear (fun _ v18 _ _ _ => s3) (fun g17 k17 q17 _ _ v18 _ _ _ => s3.tr ⟨fun j hj => ?_, by rw [k17 170 (by decide)]; exact Or.inl rfl⟩)⟩⟩, aS.rf⟩
  rcases q17 (8192 * (2 * i + 1) + j) with z | z
  · exact Or.inl z
  · exact Or.inr z.1
theorem a_mark {Z : cZ} {i : Nat} {p1 p2 p3 : Int32} {g : mSt} {Φ : Int32 → mSt → Prop} (h : ∀ g1, Φ 0 g1) : wp_kmarkAgain Z i p1 p2 p3 g Φ := by
  intro v1 e1 _ v2 _ _
  exact ⟨fun _ g4 => True, fun a g4 _ _ _ s4 => ⟨fun g5 => True, fun g5 _ _ s5 => h g5, fun _ => trivial, fun _ v9 e9 _ => ⟨fun _ => trivial, fun _ v15 e15 _ t15 v16 e16 _ => ⟨fun g17 => True, fun g17 _ _ s17 v18 _ _ _ => trivial, fun _ => trivial, fun _ g23 e23 => trivial⟩⟩⟩, trivial⟩
theorem a_gap {Z : cZ} {i : Nat} {p1 p2 p3 : Int32} {g : mSt} {Φ : Int32 → mSt → Prop} (h : ∀ r g1, aS g g1 i → Φ r g1) : wp_kgapCame Z i p1 p2 p3 g Φ := by
  intro v1 e1 _
  exact ⟨fun _ => h _ _ aS.rf, fun _ => ⟨fun _ => h _ _ aS.rf, fun _ => ⟨fun _ => h _ _ aS.rf, fun _ v11 e11 _ => ⟨fun _ => a_ack (fun g15 s15 _ v16 _ _ v17 _ _ => a_mark (fun g18 hpo => h _ _ (s15.fr hpo.2.1 (by decide)))), fun _ => h _ _ aS.rf⟩⟩⟩⟩
theorem a_reset {Z : cZ} {i : Nat} {p1 p2 p3 : Int32} {g : mSt} {Φ : Int32 → mSt → Prop} (h : ∀ r g1, aS g g1 i → Φ r g1) : wp_kresetCame Z i p1 p2 p3 g Φ := by
  intro v1 e1 _
  refine ⟨fun b g3 => aS g g3 i, fun b g3 _ _ _ s3 g4 e4 => ⟨fun g6 => aS g g6 i, fun g6 _ _ s6 => ⟨fun g8 => aS g g8 i, fun g8 _ _ s8 => ⟨fun g9 => aS g g9 i, fun g9 _ _ s9 v12 e12 _ v13 e13 _ t13 => s_wordAny (fun g14 hpo => ⟨fun b g16 => aS g g16 i, fun b g16 _ _ _ q16 => s_sendAny (fun g17 hpo2 => h _ _ (q16.fr hpo2.2.1 (by decide))), fun _ => s9.fr hpo.2.1 (by decide), fun _ => s9.fr hpo.2.1 (by decide)⟩), fun _ => s8, fun _ => s_becomeReady (fun g23 c23 _ r23 hpo => aS.cl c23 r23)⟩, fun _ => s6, fun _ => ⟨fun _ => s6, fun _ => h 0 g6 s6⟩⟩, fun _ => s3.up e4 (by decide), fun c => s_sendAny (fun g34 hpo => (s3.up e4 (by decide)).fr hpo.2.1 (by decide))⟩, ⟨fun g35 => aS g g35 i, fun g35 _ _ s35 => s35, fun _ => aS.rf, fun _ v38 e38 _ => ⟨fun _ => aS.rf, fun _ => aS.rf⟩⟩⟩
theorem a_status {Z : cZ} {i q1 : Nat} {p2 p3 p4 : Int32} {g : mSt} {Φ : Int32 → mSt → Prop} (h : ∀ r g1, aS g g1 i → Φ r g1) : wp_kstatusCame Z i q1 p2 p3 p4 g Φ := by
  intro v1 e1 _ t1
  refine s_wordAt (fun v4 _ v5 e5 _ => ⟨fun _ => h _ _ aS.rf, fun _ v9 e9 _ => ⟨fun _ => h _ _ aS.rf, fun _ v13 e13 _ => ⟨fun _ => h _ _ aS.rf, fun _ v17 e17 _ => ⟨fun _ => ⟨fun _ _ g21 => g21 = g, fun a b g21 _ _ _ _ q21 => ?_, rfl⟩, fun _ => h _ _ aS.rf⟩⟩⟩⟩)
  rw [show g21 = g from q21]
  exact ⟨fun _ => a_ack (fun g23 s23 _ g24 e24 g25 e25 => ⟨fun _ g27 => aS g g27 i, fun a7 g27 _ _ _ s27 v28 _ _ _ => ⟨fun _ => h _ _ s27, fun _ v34 _ _ _ => s_wordAt (fun v37 _ v38 _ _ _ => s_wordAt (fun v41 _ => a_mark (fun g42 hpo v43 _ _ _ => s27.fr hpo.2.1 (by decide))))⟩, (s23.up e24 (by decide)).up e25 (by decide)⟩), fun _ v47 _ _ _ => s_wordAt (fun v50 _ => ⟨fun _ => h _ _ aS.rf, fun _ => ⟨fun _ v57 _ _ _ v59 _ _ _ => rfl, fun _ => h _ _ aS.rf⟩⟩)⟩
/-- one place ahead is filled -/
def aD (g g1 : mSt) (i : Nat) (n : Int32) : Prop := (g1 170 i = g 170 i) ∧ ∃ p, p < 8 ∧ ahd g1 i p = n ∧ ∀ k, k < 8 → k ≠ p → ahd g1 i k = ahd g i k
theorem s_put16D {Z : cZ} {j q2 : Nat} {p1 p3 p4 : Int32} {g : mSt} {Φ : Int32 → mSt → Prop} (h0 : Φ 0 g) (h : ∀ g1, mFr [1248, 1280] g g1 → 0 ≤ p1.toInt ∧ p1.toInt < 8 → g1 1280 (8192 * j + p1.toInt.toNat) = p4 → (∀ k, k ≠ 8192 * j + p1.toInt.toNat → g1 1280 k = g 1280 k) → Φ 0 g1) : wp_kput_16 Z j p1 q2 p3 p4 g Φ := by
  refine ⟨fun _ => h0, fun c1 => ⟨fun _ => h0, fun c2 => ⟨fun _ => h0, fun _ => ⟨fun _ => h0, fun _ => ⟨fun _ => trivial, fun _ v15 e15 _ t15 => ⟨fun _ v19 e19 _ t19 g21 e21 g23 e23 => h g23 (fun a ha => ?_) ⟨c1, c2⟩ ?_ (fun k hk => ?_), fun _ => h0⟩⟩⟩⟩⟩⟩
  · simp only [List.mem_cons, List.not_mem_nil, or_false, not_or] at ha
    rw [e23, up2_of ha.2, e21, cCpy_o ha.1]
  · rw [e23, ← nat_cl, up2_i]
  · rw [e23, up2_n (by rw [nat_cl]; exact hk), e21, cCpy_r (by decide)]
theorem a_data {Z : cZ} {i q1 : Nat} {p2 p3 : Int32} {g : mSt} {Φ : Int32 → mSt → Prop} (h : ∀ g1, aS g g1 i ∨ aD g g1 i p2 → Φ 0 g1) : wp_kdataCame Z i q1 p2 p3 g Φ := by
  intro v1 e1 r1
  refine ⟨fun g2 => g2 = g, fun g2 _ _ s2 => by rw [show g2 = g from s2]; exact h _ (Or.inl aS.rf), fun _ => rfl, fun c1 v7 e7 _ t7 => ⟨fun c2 v10 e10 _ => ⟨fun g11 => True, fun g11 k11 _ _ v13 e13 _ t13 v15 _ m15 g16 e16 v18 e18 _ t18 => ?_, fun _ => trivial, fun _ => s_wordAny (fun _ _ => s_wordAny (fun _ _ => s_wordAny (fun _ _ => s_sendAny (fun _ _ => trivial))))⟩, fun _ => rfl⟩⟩
  have k16 : mFr [67, 108, 111, 171, 544, 576, 768] g g16 := fun a ha => by
    simp only [List.mem_cons, List.not_mem_nil, or_false, not_or] at ha
    rw [e16, up2_of (by omega), k11 a (by simp only [List.mem_cons, List.not_mem_nil, or_false, not_or]; omega)]
  refine s_put16D (fun _ => h _ (Or.inl (aS.rf.fr k16 (by decide)))) (fun g20 k20 hp a20 b20 _ => h _ (Or.inr ⟨by rw [k20 170 (by decide), k16 170 (by decide)], v18.toInt.toNat, by omega, a20, fun k hk hne => ?_⟩))
  unfold ahd
  rw [b20 _ (by omega), k16 1280 (by decide)]
theorem s_tellAny {Z : cZ} {i : Nat} {g : mSt} {Φ : Int32 → mSt → Prop} (h : ∀ g1, Φ 0 g1) : wp_ktellList Z i g Φ :=
  fun _ _ _ => s_wordAny (fun _ _ _ _ _ _ => ⟨fun _ _ _ _ => True, fun _ _ _ _ _ _ _ _ _ _ _ _ _ => ⟨fun _ => True, fun _ _ _ _ => ⟨fun _ => True, fun g13 _ _ _ => h g13, fun _ => trivial, fun _ => s_wordAny (fun _ _ => trivial)⟩, fun _ => trivial, fun _ => ⟨fun _ => trivial, fun _ _ _ _ _ _ _ _ => ⟨fun _ _ => True, fun _ _ _ _ _ _ => ⟨fun _ _ _ => True, fun _ _ _ _ _ _ _ _ _ _ _ _ => trivial, fun _ => trivial, fun _ => s_wordAny (fun _ _ _ _ _ _ => trivial)⟩, fun _ => trivial, fun _ => trivial⟩⟩⟩, trivial⟩)
theorem s_pollAny {Z : cZ} {i : Nat} {p1 p2 : Int32} {g : mSt} {Φ : Int32 → mSt → Prop} (h : ∀ g1, Φ 0 g1) : wp_kpollCame Z i p1 p2 g Φ :=
  fun _ _ _ _ _ _ _ _ _ _ _ _ _ _ _ _ _ _ => ⟨fun _ => True, fun _ _ _ _ => s_wordAny (fun _ _ => s_wordAny (fun _ _ => s_sendAny (fun g16 _ => h g16))), fun _ => trivial, fun _ => s_tellAny (fun _ _ => trivial)⟩
set_option maxHeartbeats 2000000 in
theorem a_unit {Z : cZ} {i q1 : Nat} {p2 p3 : Int32} {g : mSt} {Φ : Int32 → mSt → Prop} (h : ∀ (r : Int32) g1, (aS g g1 i ∨ ∃ n : Int32, n.toInt = p2.toInt - 4 ∧ aD g g1 i n) → Φ r g1) : wp_kunitCame Z i q1 p2 p3 g Φ := by
  unfold wp_kunitCame
  refine s_isUnit (fun v2 _ => ?_)
  refine ⟨?_, fun _ => h _ _ (Or.inl aS.rf)⟩
  intro c2 v8 e8 r8 t8
  refine s_wordAt (fun v11 _ => ?_)
  repeat' first
    | exact h _ _ (Or.inl aS.rf)
    | exact trivial
    | refine s_wordAt (fun _ _ => ?_)
    | exact a_begin (fun r g1 s _ => h _ _ (Or.inl s))
    | exact a_end (fun r g1 s _ => h _ _ (Or.inl s))
    | exact a_reset (fun _ g1 s _ => h _ _ (Or.inl s))
    | exact a_answer (fun _ g1 s _ => h _ _ (Or.inl s))
    | exact a_data (fun g1 s _ => h _ _ (s.imp id (fun z => ⟨v8, t8, z⟩)))
    | exact s_pollAny (fun g1 hpo => h _ _ (Or.inl (aS.rf.fr hpo.2.1 (by decide))))
    | exact a_status (fun r g1 s _ => ⟨fun _ => h _ _ (Or.inl s), fun _ => h _ _ (Or.inl s)⟩)
    | exact a_gap (fun r g1 s _ => ⟨fun _ => h _ _ (Or.inl s), fun _ => h _ _ (Or.inl s)⟩)
    | refine ⟨?_, ?_⟩
    | intro _
