/-! a message comes to the switch -/
/-- nothing ends, or one call of the side f ends, or a pair is made (of a SETUP) -/
def cmR (n : Nat) (t : Int) (f : Nat) (su : Prop) (Z : cZ) (g : mSt) (Z1 : cZ) (g1 : mSt) : Prop := (Z1 = Z ∧ ∃ k, k ≤ 1 ∧ sst n (Z.w 2) t g g1 (16 * k) ∧ opL g1 (n + f) + k ≤ opL g (n + f)) ∨ (su ∧ Z1.w 2 = Z.w 2 + 2 ∧ Z1.w 3 = Z.w 3 ∧ prS n (Z.w 2) t g g1 f ∧ rS Z g Z1 g1)
theorem cleared_op {Z : cZ} {N f c q2 : Nat} {p3 : Int32} {g : mSt} {Φ : Int32 → mSt → Prop} (hci : CI Z.n N g) (ht : 0 ≤ p3.toInt ∧ p3.toInt ≤ 1000000000) (hf : f < Z.n) {p : Nat} (hp : p < lsZ g (Z.n + f)) (ec : lsE g (Z.n + f) p = c) (ho : (g 36 c).toInt ≠ 0) (h : ∀ g1, sst Z.n N p3.toInt g g1 16 → opL g1 (Z.n + f) + 1 ≤ opL g (Z.n + f) → Φ 0 g1) : wp_kcleared_10 Z f c q2 p3 g Φ := by
  have hc : (Z.n : Int) ≤ (g 32 c).toInt ∧ c < N := by
    obtain ⟨a, b, _⟩ := (hci.1 f hf).2.1 p hp
    rw [ec] at a b
    exact ⟨by rw [b]; omega, a⟩
  intro v1 _ _
  refine ⟨fun g2 => sst Z.n N p3.toInt g g2 0 ∧ g2 36 = g 36, fun g2 _ _ _ s2 v3 _ _ => ⟨fun _ g5 => g5 = g2, fun b g5 _ _ _ _ q5 => ?_, fun _ v20 _ _ => rfl, fun _ v23 _ _ => rfl⟩, fun _ => ⟨sst.rf hci, rfl⟩, fun _ v28 _ _ v29 _ _ v30 _ _ => wt_ksayCause_10 (fun _ g31 hpo => ⟨(sst.rf hci).say hpo.1, hpo.2.1 36 (by decide)⟩)⟩
  rw [show g5 = g2 from q5]
  have e32 := s2.1.row 32 (by decide)
  refine s_finM s2.1 (by rw [e32]; exact hc) (fun g6 m6 a6 f6 _ v7 e7 => ?_)
  have fin : ∀ g1, sst Z.n N p3.toInt g g1 (0 + lf g2 p3.toInt c) → noO g6 g1 → Φ 0 g1 := fun g1 s1 n1 => by
    refine h g1 (s1.le (by have := @lf_16 g2 p3.toInt c; omega)) (opL_lt s1.2.2.2 (s1.row 386 (by decide)) (s1.row 1728 (by decide)) hp ?_ ?_)
    · rw [ec]
      exact ho
    · rw [ec]
      exact n1 c (by rw [a6]; rfl)
  exact ⟨fun z => fin _ (m6.none e7 z) (fun _ z => z), fun z v16 _ _ => s_rel m6 ht e7 z (fun g1 s1 n1 => fin g1 s1 n1)⟩
theorem s_came10 {Z : cZ} {f q1 n1 n2 : Nat} {p2 : Int32} {g : mSt} {Φ : Int32 → cZ → mSt → Prop} (hN2 : Z.w 2 ≤ 900000) (hf : f < Z.n) (hci : CI Z.n (Z.w 2) g) (ht : 0 ≤ p2.toInt ∧ p2.toInt ≤ 1000000000) (hsg : (g 288 q1).toInt = 5 → 0 ≤ (g 291 q1).toInt ∧ (g 290 q1).toInt ≠ 0) (hg1 : gNd g (Z.n + f) n1) (hg2 : (g 291 q1).toInt.toNat < Z.n → (g 291 q1).toInt.toNat ≠ f → gNd g (Z.n + (g 291 q1).toInt.toNat) n2) (hsz : ∀ s, s < 2 * Z.n → 0 ≤ (g 386 s).toInt ∧ (g 386 s).toInt ≤ 10000000) (h : ∀ (Z1 : cZ) g1, cmR Z.n p2.toInt f ((g 288 q1).toInt = 5) Z g Z1 g1 → Φ 0 Z1 g1) : wp_kcame_10 n1 n2 Z f q1 p2 g Φ := by
  have hs0 : ∀ g1, sst Z.n (Z.w 2) p2.toInt g g1 0 → Φ 0 Z g1 := fun g1 s => h Z g1 (Or.inl ⟨rfl, 0, by omega, s, opL_le s.2.2.2 (s.row 386 (by decide)) (s.row 1728 (by decide))⟩)
  have h0 : Φ 0 Z g := hs0 g (sst.rf hci)
  have hc1 : ∀ {v14 : Int32} {p : Nat}, p < lsZ g (Z.n + f) → lsE g (Z.n + f) p = v14.toInt.toNat → (g 36 v14.toInt.toNat).toInt ≠ 0 → wp_kcleared_10 Z f v14.toInt.toNat q1 p2 g (fun _ g24 => po_kcleared_10 Z f v14.toInt.toNat q1 p2 g 0 g24 → Φ 0 Z g24) := fun hp ec ho => cleared_op hci ht hf hp ec ho (fun g1 s1 o1 _ => h Z g1 (Or.inl ⟨rfl, 1, by omega, s1, o1⟩))
  have hcc : ∀ {v14 : Int32} {p : Nat}, p < lsZ g (Z.n + f) → lsE g (Z.n + f) p = v14.toInt.toNat → (Z.n : Int) ≤ (g 32 v14.toInt.toNat).toInt ∧ v14.toInt.toNat < Z.w 2 := fun {v14 p} hp ec => by
    obtain ⟨a, b, _⟩ := (hci.1 f hf).2.1 p hp
    rw [ec] at a b
    exact ⟨by rw [b]; omega, a⟩
  have hpg : ∀ {v14 : Int32} {p : Nat}, p < lsZ g (Z.n + f) → lsE g (Z.n + f) p = v14.toInt.toNat → wp_kprogress_10 Z f v14.toInt.toNat q1 p2 g (fun _ g34 => po_kprogress_10 Z f v14.toInt.toNat q1 p2 g 0 g34 → Φ 0 Z g34) := fun hp ec => s_progress10 (sst.rf (d := 0) hci) ht (hcc hp ec) (fun g1 s1 _ => hs0 g1 s1)
  have hsy : ∀ {a b c d : Int32}, wp_ksayCause_10 Z f a b c d g (fun _ g52 => po_ksayCause_10 Z f a b c d g 0 g52 → Φ 0 Z g52) := wt_ksayCause_10 (fun _ g52 hpo => hs0 g52 ((sst.rf hci).say hpo.1))
  have hst : (g 288 q1).toInt = 5 → (∀ r, fst_ g (Z.n + f) (g 289 q1) 0 r → 0 ≤ r.toInt → (g 36 (lsE g (Z.n + f) r.toInt.toNat)).toInt = 0) → wp_ksetupCame_10 n1 n2 Z f q1 p2 g (fun _ Z57 g57 => po_ksetupCame_10 Z f q1 p2 g 0 Z57 g57 → cZg Z Z57 4 (36 + n1 + n2) → ∀ Z58 : cZ, Z58 = Z57 → Φ 0 Z58 g57) := fun h5 hpl => s_setup10 rfl hN2 hf hci ht (hsg h5).1 hpl hg1 hg2 hsz (fun g1 s1 _ _ Z2 e2 => by rw [e2]; exact hs0 g1 s1) (fun Z1 g1 w2 p r w3 _ _ Z2 e2 => by rw [e2]; exact h Z1 g1 (Or.inr ⟨h5, w2, w3, p, r⟩))
  have uniq : ∀ {x o r r' : Int32}, fst_ g (Z.n + f) x o r → fst_ g (Z.n + f) x o r' → 0 ≤ r'.toInt → 0 ≤ r.toInt ∧ r.toInt.toNat = r'.toInt.toNat := fun {x o r r'} a b hr => by
    rcases b with b | ⟨b1, b2, b3, b4⟩
    · omega
    · rcases a with ⟨a1, a2⟩ | ⟨a1, a2, a3, a4⟩
      · exact absurd b3 (a2 _ b2)
      · refine ⟨a1, ?_⟩
        rcases Nat.lt_trichotomy r.toInt.toNat r'.toInt.toNat with w | w | w
        · exact absurd a3 (b4 _ w)
        · exact w
        · exact absurd b3 (a4 _ w)
  intro v1 e1 _ v2 e2 _
  refine ⟨fun z2 => s_place10 (fun v7 f7 _ => ⟨fun c7 => s_lgetX (fun v14 e14 hpo => ?_), fun c7 v59 e59 _ => ⟨fun _ => ⟨fun _ => h0, fun _ => ⟨fun _ => hsy, fun _ => trivial⟩⟩, fun z => hst (by rw [← e59]; exact z) (fun r fr hr => ?_)⟩⟩), fun z2 => s_place10 (fun v80 f80 _ => ⟨fun c80 => s_lgetX (fun v87 e87 hpo => ?_), fun c80 v59 e59 _ => ⟨fun _ => ⟨fun _ => h0, fun _ => ⟨fun _ => trivial, fun _ => hsy⟩⟩, fun z => ?_⟩⟩)⟩
  · have hp : v7.toInt.toNat < lsZ g (Z.n + f) := by
      rcases f7 with w | w
      · omega
      · exact w.2.1
    have ec : lsE g (Z.n + f) v7.toInt.toNat = v14.toInt.toNat := by
      unfold lsE
      rw [← e14]
    refine s_isOpenX (fun z0 _ => ⟨fun z => absurd rfl z, fun _ v40 e40 _ => ⟨fun _ => ⟨fun _ => h0, fun _ => ⟨fun _ => hsy, fun _ => trivial⟩⟩, fun z => hst (by rw [← e40]; exact z) (fun r fr hr => ?_)⟩⟩) (fun z0 _ => ⟨fun _ v20 e20 _ => ⟨fun _ => hc1 hp ec z0, fun _ => ⟨fun _ => ⟨fun _ => h0, fun _ => hpg hp ec⟩, fun _ => hc1 hp ec z0⟩⟩, fun z => absurd z (by decide)⟩)
    rw [e1] at f7
    obtain ⟨_, ev⟩ := uniq f7 fr hr
    rw [← ev, ec]
    exact z0
  · rw [e1] at f7
    have := (uniq f7 fr hr).1
    omega
  · have hp : v80.toInt.toNat < lsZ g (Z.n + f) := by
      rcases f80 with w | w
      · omega
      · exact w.2.1
    have ec : lsE g (Z.n + f) v80.toInt.toNat = v87.toInt.toNat := by
      unfold lsE
      rw [← e87]
    refine s_isOpenX (fun z0 _ => ⟨fun z => absurd rfl z, fun _ v40 e40 _ => ⟨fun _ => ⟨fun _ => h0, fun _ => ⟨fun _ => trivial, fun _ => hsy⟩⟩, fun z => ?_⟩⟩) (fun z0 _ => ⟨fun _ v20 e20 _ => ⟨fun _ => hc1 hp ec z0, fun _ => ⟨fun _ => ⟨fun _ => h0, fun _ => hpg hp ec⟩, fun _ => hc1 hp ec z0⟩⟩, fun z => absurd z (by decide)⟩)
    exact absurd (by rw [← e2]; exact z2) (hsg (by rw [← e40]; exact z)).2
  · exact absurd (by rw [← e2]; exact z2) (hsg (by rw [← e59]; exact z)).2
