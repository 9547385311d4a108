/-! a tick's cells are put on the wire, whatever spoils them -/
def dm (g : mSt) (q : Nat) : Nat := (g 106 q).toInt.toNat + qSz g (2 * q + 1)
def OK7 (g : mSt) (q : Nat) : Prop := ∀ i, i < 8 → (g 640 (8192 * q + i)).toInt = 1 → oct (g 736 (8192 * q + i))
theorem s_putHA {Z : cZ} {q z : Nat} {p1 : Int32} {g : mSt} {Φ : Int32 → mSt → Prop} (hz : (g 101 q).toInt = (z : Int)) (h : ∀ g1, ((p1 = 1 ∨ p1 = 80 ∨ p1 = 82) → (W6 g1 q z = 0 ∧ W6 g1 q (z + 1) = 0 ∧ W6 g1 q (z + 2) = 0) ∧ W6 g1 q (z + 3) = p1 ∧ W6 g1 q (z + 4) = hc p1) → (∀ x, z ≤ x → x < z + 5 → oct (W6 g1 q x)) → (∀ x, x < z ∨ z + 5 ≤ x → W6 g1 q x = W6 g q x) → Φ 0 g1) : wp_kputHeader Z q p1 g Φ := by
  intro z0 e0 r0 v3 e3 r3 g4 e4 v6 _ _ t6 v7 e7 _ v8 e8 r8 g9 e9 v11 _ _ t11 v12 e12 _ v13 e13 r13 g14 e14 v16 _ _ t16 v17 e17 r17 g18 e18 v20 _ _ t20 v21 e21 _ g22 e22
  have hz0 : z0.toInt = (z : Int) := by rw [e0]; exact hz
  rw [nat_cl, show z0.toInt.toNat = z by omega] at e4
  rw [nat_cl, show v6.toInt.toNat = z + 1 by omega] at e9
  rw [nat_cl, show v11.toInt.toNat = z + 2 by omega] at e14
  rw [nat_cl, show v16.toInt.toNat = z + 3 by omega] at e18
  rw [nat_cl, show v20.toInt.toNat = z + 4 by omega] at e22
  have w0 : W6 g22 q z = v3 := by
    unfold W6
    rw [e22, up2_n (by omega), e18, up2_n (by omega), e14, up2_n (by omega), e9, up2_n (by omega), e4, up2_i]
  have w1 : W6 g22 q (z + 1) = v8 := by
    unfold W6
    rw [e22, up2_n (by omega), e18, up2_n (by omega), e14, up2_n (by omega), e9, up2_i]
  have w2 : W6 g22 q (z + 2) = v13 := by
    unfold W6
    rw [e22, up2_n (by omega), e18, up2_n (by omega), e14, up2_i]
  have w3 : W6 g22 q (z + 3) = v17 := by
    unfold W6
    rw [e22, up2_n (by omega), e18, up2_i]
  have w4 : W6 g22 q (z + 4) = v21 := by
    unfold W6
    rw [e22, up2_i]
  refine h g22 (fun hh => ?_) (fun x h1 h2 => ?_) (fun x hx => ?_)
  · obtain ⟨s1, s2, s3, s4⟩ := sm_hd hh
    exact ⟨⟨by rw [w0, e3, s1], by rw [w1, e8, e7, s2], by rw [w2, e13, e12, s3]⟩, by rw [w3, e17, s4], by rw [w4, e21]⟩
  · have c : x = z ∨ x = z + 1 ∨ x = z + 2 ∨ x = z + 3 ∨ x = z + 4 := by omega
    rcases c with c | c | c | c | c
    · rw [c, w0]
      exact r3
    · rw [c, w1]
      exact r8
    · rw [c, w2]
      exact r13
    · rw [c, w3]
      exact r17
    · rw [c, w4, e21]
      exact oct_hc p1
  · unfold W6
    rw [e22, up2_n (by omega), e18, up2_n (by omega), e14, up2_n (by omega), e9, up2_n (by omega), e4, up2_n (by omega)]
/-- damages of one cell: none, or there are fewer -/
theorem s_spoil {Z : cZ} {q z : Nat} {g : mSt} {Φ : Int32 → mSt → Prop} (hz : (g 101 q).toInt = (z : Int)) (h0 : 0 ≤ (g 106 q).toInt ∧ (g 106 q).toInt ≤ 8) (hm : OK7 g q) (hw : ∀ x, x < z + 53 → oct (W6 g q x)) (h : ∀ (r : Int32) g1, OK7 g1 q → (∀ x, x < z + 53 → oct (W6 g1 q x)) → ((r.toInt = 53 ∧ (g1 106 q).toInt = (g 106 q).toInt ∧ ∀ x, W6 g1 q x = W6 g q x) ∨ (0 ≤ (g1 106 q).toInt ∧ (g1 106 q).toInt + 1 ≤ (g 106 q).toInt)) → Φ r g1) : wp_kspoilCell Z q g Φ := by
  intro z0 e0 _
  have tz : z0.toInt = (z : Int) := by rw [e0]; exact hz
  have i53 : (53 : Int32).toInt = 53 := by decide
  have i0 : (0 : Int32).toInt = 0 := by decide
  refine ⟨fun a b c g4 => (0 ≤ b.toInt ∧ b.toInt ≤ c.toInt ∧ c.toInt ≤ (g 106 q).toInt) ∧ OK7 g4 q ∧ (∀ x, x < z + 53 → oct (W6 g4 q x)) ∧ (b.toInt = c.toInt → a.toInt = 53 ∧ ∀ x, W6 g4 q x = W6 g q x), fun a b c g4 k4 _ _ ra rb rc ⟨⟨p1, p2, p3⟩, p4, p5, p6⟩ v5 e5 _ => ?_, ⟨⟨by decide, by decide, by rw [i0]; exact h0.1⟩, hm, hw, fun _ => ⟨by decide, fun _ => rfl⟩⟩⟩
  have t5 : v5.toInt = (g 106 q).toInt := by rw [e5, k4 106 (by decide)]
  refine ⟨fun c1 g7 e7 => ?_, fun c1 v11 e11 _ v12 e12 _ => ?_⟩
  · have k7 : mFr [106] g4 g7 := fun x hx => by rw [e7, up2_of (by simpa using hx)]
    have w7 : ∀ x, W6 g7 q x = W6 g4 q x := fun x => by unfold W6; rw [k7 608 (by decide)]
    refine h a g7 (fun i hi => by rw [k7 736 (by decide), k7 640 (by decide)]; exact p4 i hi) (fun x hx => by rw [w7]; exact p5 x hx) ?_
    have a7 : g7 106 q = b := by rw [e7, up2_i]
    by_cases e : b.toInt = c.toInt
    · obtain ⟨x1, x2⟩ := p6 e
      exact Or.inl ⟨x1, by rw [a7]; omega, fun x => by rw [w7]; exact x2 x⟩
    · exact Or.inr (by rw [a7]; omega)
  · have rc : 0 ≤ c.toInt ∧ c.toInt ≤ 8 := rc
    refine ⟨fun a1 b1 g15 => (0 ≤ b1.toInt ∧ b1.toInt ≤ c.toInt + 1) ∧ OK7 g15 q ∧ (∀ x, x < z + 53 → oct (W6 g15 q x)) ∧ (b1.toInt = c.toInt + 1 → a1.toInt = 53 ∧ ∀ x, W6 g15 q x = W6 g q x), fun a1 b1 g15 _ _ _ _ _ ⟨⟨q1, q2⟩, q3, q4, q5⟩ v16 _ _ t16 => ⟨⟨q1, by omega, by omega⟩, q3, q4, fun e => q5 (by omega)⟩, fun c2 v19 e19 _ => ⟨fun c3 => ?_, fun c3 v37 e37 r37 v38 e38 _ t38 v39 e39 _ v41 e41 _ v42 e42 _ g43 e43 => ?_⟩, fun c2 v46 e46 _ g47 e47 g49 e49 v51 e51 _ g52 e52 v55 e55 _ g56 e56 v57 _ _ t57 => ?_⟩
    · refine ⟨fun _ g24 => g24 = g4, fun b24 g24 _ _ _ _ e24 v25 _ _ => ?_, fun _ => rfl, fun _ => rfl⟩
      rw [e24]
      exact ⟨⟨p1, by omega⟩, p4, p5, fun e => by exfalso; omega⟩
    · have r37 : 0 ≤ v37.toInt ∧ v37.toInt ≤ 52 := r37
      have k43 : mFr [608] g4 g43 := fun x hx => by rw [e43, up2_of (by simpa using hx)]
      refine ⟨⟨p1, by omega⟩, fun i hi => by rw [k43 736 (by decide), k43 640 (by decide)]; exact p4 i hi, fun x hx => ?_, fun e => by exfalso; omega⟩
      by_cases w : x = v38.toInt.toNat
      · have : W6 g43 q x = v42 := by unfold W6; rw [e43, nat_cl, w, up2_i]
        rw [this, e42]
        refine oct_xor ?_ ?_
        · rw [e39, nat_cl]
          exact p5 _ (by omega)
        · rw [e41, nat_cl]
          exact p4 _ (by omega) (by rw [← nat_cl, ← e19]; exact c3)
      · have : W6 g43 q x = W6 g4 q x := by unfold W6; rw [e43, nat_cl, up2_n (by omega)]
        rw [this]
        exact p5 x hx
    · have w56 : ∀ x, W6 g56 q x = W6 g4 q x := fun x => by
        unfold W6
        rw [e56, up2_o (by decide), e52, up2_o (by decide), e49, up2_o (by decide), e47, up2_o (by decide)]
      have m52 : g52 736 = g4 736 := by rw [e52, up2_of (by decide), e49, up2_of (by decide), e47, up2_of (by decide)]
      refine ⟨⟨by omega, by omega⟩, fun i hi hk => ?_, fun x hx => by rw [w56]; exact p5 x hx, fun e => ?_⟩
      · have k56 : ∀ x, g56 640 x = g47 640 x := fun x => by rw [e56, up2_o (by decide), e52, up2_o (by decide), e49, up2_o (by decide)]
        rw [k56] at hk
        by_cases w : i = b.toInt.toNat
        · rw [e56, nat_cl, w, up2_i, e55, nat_cl, m52]
          refine p4 _ (by omega) ?_
          rw [e47, w, nat_cl, up2_i, e46, nat_cl] at hk
          exact hk
        · rw [e56, nat_cl, up2_n (by omega), m52]
          refine p4 i hi ?_
          rw [e47, nat_cl, up2_n (by omega)] at hk
          exact hk
      · obtain ⟨x1, x2⟩ := p6 (by omega)
        exact ⟨x1, fun x => by rw [w56]; exact x2 x⟩
/-- k cells are on the wire -/
def PB (g g1 : mSt) (q k : Nat) : Prop := (g1 106 q = g 106 q ∧ g1 67 (2 * q + 1) = g 67 (2 * q + 1)) ∧ ∀ c, c < k → wcell g1 q c (cAt (qL g (2 * q)) c)
def PA (g g1 : mSt) (q k : Nat) : Prop := qL g1 (2 * q) = (qL g (2 * q)).drop k ∧ OK7 g1 q ∧ ((0 ≤ (g1 106 q).toInt ∧ (g1 106 q).toInt ≤ (g 106 q).toInt) ∧ qSz g1 (2 * q + 1) ≤ qSz g (2 * q + 1)) ∧ ∃ z : Nat, ((g1 101 q).toInt = (z : Int) ∧ z ≤ 53 * k ∧ ∀ x, x < z → oct (W6 g1 q x)) ∧ ((z = 53 * k ∧ PB g g1 q k) ∨ dm g1 q + 1 ≤ dm g q)
theorem oc_of {g1 : mSt} {q z : Nat} {oc : List Int32} {v : Int32} (hv : v.toInt = (z : Int) + 5) (w : oc48 g1 608 (8192 * q + v.toInt.toNat) = oc) (ho : ∀ x ∈ oc, oct x) : ∀ x, z + 5 ≤ x → x < z + 53 → oct (W6 g1 q x) := fun x h1 h2 => by
  refine ho _ ?_
  rw [← w]
  refine List.mem_of_getElem? (i := x - (z + 5)) ?_
  show ((List.range 48).map fun i => g1 608 (8192 * q + v.toInt.toNat + i))[x - (z + 5)]? = _
  rw [get48 (by omega)]
  unfold W6
  congr 2
  omega
set_option maxHeartbeats 4000000 in
theorem s_putA {Z : cZ} {q : Nat} {g : mSt} {Φ : Int32 → mSt → Prop} (h106 : 0 ≤ (g 106 q).toInt ∧ (g 106 q).toInt ≤ 8) (hm : OK7 g q) (hg : ∀ c ∈ qL g (2 * q), gcell c) (ho : ∀ x, x / 8192 = 2 * q + 1 → oct (g 544 x)) (h : ∀ r g1, PA g g1 q 4 → Φ r g1) : wp_kputCells Z q g Φ := by
  intro g1 e1
  have k1 : mFr [101] g g1 := fun a ha => by rw [e1, up2_of (by simpa using ha)]
  have dm0 : ∀ {a b : mSt}, a 106 q = b 106 q → a 67 (2 * q + 1) = b 67 (2 * q + 1) → dm a q = dm b q := fun {a b} x y => by unfold dm qSz; rw [x, y]
  refine ⟨fun _ k g4 => PA g g4 q k.toInt.toNat, fun b k g4 k4 _ _ _ rk pc z4 e4 rz4 => ?_, ⟨by rw [qL_fr k1 ⟨⟨by decide, by decide⟩, by decide, by decide⟩]; rfl, fun i hi => by rw [k1 736 (by decide), k1 640 (by decide)]; exact hm i hi, ⟨by rw [k1 106 (by decide)]; exact ⟨h106.1, Int.le_refl _⟩, by unfold qSz; rw [k1 67 (by decide)]; exact Nat.le_refl _⟩, 0, ⟨by rw [e1, up2_i]; rfl, Nat.zero_le _, fun x hx => absurd hx (Nat.not_lt_zero _)⟩, Or.inl ⟨rfl, ⟨by rw [k1 106 (by decide)], by rw [k1 67 (by decide)]⟩, fun c hc => absurd hc (Nat.not_lt_zero _)⟩⟩⟩
  have rk : 0 ≤ k.toInt ∧ k.toInt ≤ 4 := rk
  have pc : PA g g4 q k.toInt.toNat := pc
  refine ⟨fun c => h b g4 (by rw [show k.toInt.toNat = 4 by omega] at pc; exact pc), fun c v10 e10 _ => ?_⟩
  obtain ⟨K, eK⟩ : ∃ x, x = k.toInt.toNat := ⟨_, rfl⟩
  rw [← eK] at pc
  obtain ⟨p4, pm, ⟨pd, pq⟩, z, ⟨pz, pzl, pw⟩, pb⟩ := pc
  have t4 : z4.toInt = (z : Int) := by rw [e4]; exact pz
  have e544 : g4 544 = g 544 := by rw [k4 544 (by decide), k1 544 (by decide)]
  refine ⟨fun _ hd13 g13 => qL g13 (2 * q) = (qL g (2 * q)).drop (K + 1) ∧ (g13 101 q = g4 101 q ∧ g13 106 q = g4 106 q ∧ g13 736 = g4 736 ∧ g13 640 = g4 640) ∧ qSz g13 (2 * q + 1) ≤ qSz g (2 * q + 1) ∧ (∀ x, x < z ∨ (z + 5 ≤ x ∧ x < z + 53) → oct (W6 g13 q x)) ∧ ((z = 53 * K ∧ (hd13 = (cAt (qL g (2 * q)) K).1 ∧ (hd13 = 1 ∨ hd13 = 80 ∨ hd13 = 82)) ∧ (g13 106 q = g 106 q ∧ g13 67 (2 * q + 1) = g 67 (2 * q + 1)) ∧ (∀ c, c < K → wcell g13 q c (cAt (qL g (2 * q)) c)) ∧ ∀ j, j < 48 → (cAt (qL g (2 * q)) K).2[j]? = some (W6 g13 q (53 * K + 5 + j))) ∨ dm g13 q + 1 ≤ dm g q), fun b13 hd13 g13 _ _ _ _ _ q13 => ?_, fun c10 v35 e35 _ => ⟨fun c35 v40 _ _ t40 v43 _ _ t43 => s_fill19 (by omega) (by omega) (by omega) (fun g46 f46 o46 hpo46 v47 _ _ => ?_), fun c35 v52 _ _ t52 => s_qtake (by omega) (fun zz _ => ?_) (fun g61 hd oc q61 w61 u61 hpo61 => ?_)⟩, fun c10 v59 _ _ t59 => s_qtake (by omega) (fun zz _ => ?_) (fun g61 hd oc q61 w61 u61 hpo61 => ?_)⟩
  · obtain ⟨y4, ⟨y1, y2, y7, y8⟩, y3, y5, y6⟩ := q13
    refine s_putHA (z := z) (by rw [y1]; exact pz) (fun g14 a14 b14 c14 hpo14 v16 e16 _ => ?_)
    have w14 : ∀ x, x < z + 53 → oct (W6 g14 q x) := fun x hx => by
      by_cases w : z ≤ x ∧ x < z + 5
      · exact b14 x w.1 w.2
      · rw [c14 x (by omega)]
        exact y5 x (by omega)
    have f14 : ∀ j, j ≠ 608 → g14 j = g13 j := fun j hj => hpo14.2.1 j (by simpa using hj)
    have d14 : dm g14 q = dm g13 q := dm0 (by rw [f14 106 (by decide)]) (by rw [f14 67 (by decide)])
    have l14 : qL g14 (2 * q) = (qL g (2 * q)).drop (K + 1) := by
      rw [qL_fr hpo14.2.1 ⟨⟨by decide, by decide⟩, by decide, by decide⟩, y4]
    have n14 : (g14 106 q).toInt = (g4 106 q).toInt := by rw [f14 106 (by decide), y2]
    have x14 : z = 53 * K ∧ hd13 = (cAt (qL g (2 * q)) K).1 ∧ PB g g14 q (K + 1) ∨ dm g14 q + 1 ≤ dm g q := by
      rcases y6 with ⟨x0, ⟨x1, x2⟩, ⟨x3, x4⟩, x5, x6⟩ | y6
      · left
        obtain ⟨⟨s0, s1, s2⟩, s3, s4⟩ := a14 x2
        refine ⟨x0, x1, ⟨by rw [f14 106 (by decide)]; exact x3, by rw [f14 67 (by decide)]; exact x4⟩, fun c hc => ?_⟩
        by_cases e : c = K
        · subst e
          rw [x0] at s0 s1 s2 s3 s4 c14
          refine ⟨⟨s0, s1, s2⟩, ⟨by rw [s3, x1], by rw [s4, x1]⟩, fun j hj => ?_⟩
          rw [c14 _ (by omega)]
          exact x6 j hj
        · exact wcell_eq (x5 c (by omega)) (fun y h1 h2 => c14 _ (by omega))
      · right
        rw [d14]
        exact y6
    -- what the damages leave
    refine ⟨fun b18 g18 => qL g18 (2 * q) = (qL g (2 * q)).drop (K + 1) ∧ OK7 g18 q ∧ g18 101 q = g4 101 q ∧ ((0 ≤ (g18 106 q).toInt ∧ (g18 106 q).toInt ≤ (g 106 q).toInt) ∧ qSz g18 (2 * q + 1) ≤ qSz g (2 * q + 1)) ∧ (∀ x, x < z + 53 → oct (W6 g18 q x)) ∧ ((z = 53 * K ∧ b18.toInt = 53 ∧ PB g g18 q (K + 1)) ∨ dm g18 q + 1 ≤ dm g q), fun b18 g18 _ _ _ rb q18 v19 _ _ t19 g20 e20 v21 _ _ v22 _ _ g23 e23 v24 _ _ t24 => ?_, fun _ => ⟨l14, fun i hi => by rw [f14 736 (by decide), f14 640 (by decide), y7, y8]; exact pm i hi, by rw [f14 101 (by decide), y1], ⟨by omega, by unfold qSz; rw [f14 67 (by decide)]; exact y3⟩, w14, x14.imp (fun x => ⟨x.1, by decide, x.2.2⟩) id⟩, fun c16 => s_spoil (z := z) (by rw [f14 101 (by decide), y1]; exact pz) (by omega) (fun i hi => by rw [f14 736 (by decide), f14 640 (by decide), y7, y8]; exact pm i hi) w14 (fun r g30 a30 b30 c30 hpo30 => ?_)⟩
    · obtain ⟨l18, m18, z18, n18, o18, x18⟩ := q18
      have rb : 0 ≤ b18.toInt ∧ b18.toInt ≤ 53 := rb
      have k23 : mFr [101, 107] g18 g23 := fun a ha => by
        simp only [List.mem_cons, List.not_mem_nil, or_false, not_or] at ha
        rw [e23, up2_of (by omega), e20, up2_of (by omega)]
      have w23 : ∀ y, W6 g23 q y = W6 g18 q y := fun y => by
        unfold W6
        rw [k23 608 (by decide)]
      have d23 : dm g23 q = dm g18 q := dm0 (by rw [k23 106 (by decide)]) (by rw [k23 67 (by decide)])
      have e101 : (g23 101 q).toInt = ((z + b18.toInt.toNat : Nat) : Int) := by
        rw [e23, up2_o (by decide), e20, up2_i]
        omega
      rw [show v24.toInt.toNat = K + 1 by omega]
      refine ⟨by rw [qL_fr k23 ⟨⟨by decide, by decide⟩, by decide, by decide⟩]; exact l18, fun i hi => by rw [k23 736 (by decide), k23 640 (by decide)]; exact m18 i hi, ⟨by rw [k23 106 (by decide)]; exact n18.1, by unfold qSz; rw [k23 67 (by decide)]; exact n18.2⟩, _, ⟨e101, by omega, fun x hx => by rw [w23]; exact o18 x (by omega)⟩, ?_⟩
      rcases x18 with ⟨u1, u2, ⟨u3, u4⟩, u5⟩ | x18
      · left
        exact ⟨by omega, ⟨by rw [k23 106 (by decide)]; exact u3, by rw [k23 67 (by decide)]; exact u4⟩, fun c hc => wcell_eq (u5 c hc) (fun y _ _ => w23 y)⟩
      · right
        rw [d23]
        exact x18
    · have f30 : ∀ j, j ∉ [106, 608, 640, 672, 704, 736] → g30 j = g14 j := fun j hj => hpo30.2.1 j hj
      refine ⟨by rw [qL_fr hpo30.2.1 ⟨⟨by decide, by decide⟩, by decide, by decide⟩]; exact l14, a30, by rw [f30 101 (by decide), f14 101 (by decide), y1], ⟨by omega, by unfold qSz; rw [f30 67 (by decide), f14 67 (by decide)]; exact y3⟩, b30, ?_⟩
      rcases c30 with ⟨s1, s2, s3⟩ | ⟨s0, s1⟩
      · have d30 : dm g30 q = dm g14 q := dm0 (Int32.toInt_inj.mp s2) (by rw [f30 67 (by decide)])
        rcases x14 with ⟨u1, _, ⟨u3, u4⟩, u5⟩ | x14
        · left
          exact ⟨u1, s1, ⟨(Int32.toInt_inj.mp s2).trans u3, by rw [f30 67 (by decide)]; exact u4⟩, fun c hc => wcell_eq (u5 c hc) (fun y _ _ => s3 y)⟩
        · right
          rw [d30]
          exact x14
      · right
        have q30 : qSz g30 (2 * q + 1) ≤ qSz g (2 * q + 1) := by
          unfold qSz
          rw [f30 67 (by decide), f14 67 (by decide)]
          exact y3
        unfold dm
        omega
  · -- an idle cell
    have sz : qSz g4 (2 * q) = 0 := by
      unfold qSz
      rw [← e10]
      omega
    have nil : qL g4 (2 * q) = [] := List.length_eq_zero_iff.mp (by rw [qL_len]; exact sz)
    have hK : (qL g (2 * q)).length ≤ K := by
      have := congrArg List.length (p4.symm.trans nil)
      rw [List.length_drop] at this
      simp at this
      omega
    have hc : cAt (qL g (2 * q)) K = iC := by
      unfold cAt
      rw [List.getElem?_eq_none hK]
      rfl
    have f46' : ∀ j, j ≠ 608 → g46 j = g4 j := fun j hj => hpo46.2.1 j (by simpa using hj)
    refine ⟨?_, ⟨by rw [f46' 101 (by decide)], by rw [f46' 106 (by decide)], f46' 736 (by decide), f46' 640 (by decide)⟩, by unfold qSz; rw [f46' 67 (by decide)]; exact pq, fun x hx => ?_, ?_⟩
    · rw [qL_fr hpo46.2.1 ⟨⟨by decide, by decide⟩, by decide, by decide⟩, nil, List.drop_eq_nil_of_le (by omega)]
    · by_cases w : x < z
      · have : W6 g46 q x = W6 g4 q x := o46 _ (fun j h3 h4 => by omega)
        rw [this]
        exact pw x w
      · have : W6 g46 q x = 106 := f46 x (by omega) (by omega)
        rw [this]
        exact ⟨by decide, by decide⟩
    · rcases pb with ⟨u1, ⟨u3, u4⟩, u5⟩ | pb
      · left
        refine ⟨u1, ⟨by rw [hc]; rfl, Or.inl rfl⟩, ⟨by rw [f46' 106 (by decide)]; exact u3, by rw [f46' 67 (by decide)]; exact u4⟩, fun c hc' => wcell_eq (u5 c hc') (fun y h1 h2 => o46 _ (fun j h3 h4 => by omega)), fun j hj => ?_⟩
        rw [hc]
        have : W6 g46 q (53 * K + 5 + j) = 106 := f46 (53 * K + 5 + j) (by omega) (by omega)
        rw [this]
        show (List.replicate 48 (106 : Int32))[j]? = some 106
        rw [List.getElem?_replicate, if_pos hj]
      · right
        rw [dm0 (by rw [f46' 106 (by decide)]) (by rw [f46' 67 (by decide)])]
        exact pb
  · exfalso
    have : (g4 67 (2 * q + 1)).toInt.toNat = 0 := zz
    rw [← e35] at this
    omega
  · -- a data cell
    have f61 : ∀ j, j ∉ [66, 67, 608] → g61 j = g4 j := fun j hj => hpo61.2.1 j hj
    have sz : qSz g61 (2 * q + 1) + 1 = qSz g4 (2 * q + 1) := by
      have := congrArg List.length q61
      rw [List.length_cons, qL_len, qL_len] at this
      omega
    have szK : qSz g4 (2 * q) = 0 := by
      unfold qSz
      rw [← e10]
      omega
    have l61 : qL g61 (2 * q) = qL g4 (2 * q) := by
      refine qL_ext ?_ (fun i hi => ?_)
      · unfold qSz
        rw [hpo61.1.out (by simp [mOut, im_kqtake])]
      · rw [szK] at hi
        exact absurd hi (Nat.not_lt_zero _)
    have nil : qL g4 (2 * q) = [] := List.length_eq_zero_iff.mp (by rw [qL_len]; exact szK)
    have hK : (qL g (2 * q)).length ≤ K := by
      have := congrArg List.length (p4.symm.trans nil)
      rw [List.length_drop] at this
      simp at this
      omega
    have hoc : ∀ x ∈ oc, oct x := fun x hx => by
      have hd0 : qC g4 (2 * q + 1) 0 = (hd, oc) := by
        have h1 : (qL g4 (2 * q + 1))[0]? = some (hd, oc) := by rw [q61]; rfl
        unfold qL at h1
        rw [List.getElem?_map, List.getElem?_range (by omega)] at h1
        exact Option.some.inj h1
      have h2 : oc = (qC g4 (2 * q + 1) 0).2 := by rw [hd0]
      rw [h2] at hx
      unfold qC at hx
      obtain ⟨j, hj, ej⟩ := List.mem_map.mp hx
      have hj := List.mem_range.mp hj
      rw [← ej, e544]
      refine ho _ ?_
      have : qPl g4 (2 * q + 1) 0 < 40 := Nat.mod_lt _ (by decide)
      omega
    have d61 : dm g61 q + 1 ≤ dm g q := by
      unfold dm
      rw [f61 106 (by decide)]
      omega
    refine ⟨by rw [l61, nil, List.drop_eq_nil_of_le (by omega)], ⟨by rw [f61 101 (by decide)], by rw [f61 106 (by decide)], f61 736 (by decide), f61 640 (by decide)⟩, by omega, fun x hx => ?_, Or.inr d61⟩
    by_cases w : x < z
    · have : W6 g61 q x = W6 g4 q x := u61 _ (by omega)
      rw [this]
      exact pw x w
    · exact oc_of (z := z) (by omega) w61 hoc x (by omega) (by omega)
  · exfalso
    have : (g4 67 (2 * q)).toInt.toNat = 0 := zz
    rw [← e10] at this
    omega
  · -- a cell of the queue
    have hl : (qL g (2 * q)).drop K = (hd, oc) :: qL g61 (2 * q) := by rw [← p4]; exact q61
    have hget : (qL g (2 * q))[K]? = some (hd, oc) := by
      have := congrArg (fun l => l[0]?) hl
      simpa [List.getElem?_drop] using this
    have hc : cAt (qL g (2 * q)) K = (hd, oc) := by
      unfold cAt
      rw [hget]
      rfl
    have gc := hg (hd, oc) (List.mem_of_getElem? hget)
    have f61 : ∀ j, j ∉ [66, 67, 608] → g61 j = g4 j := fun j hj => hpo61.2.1 j hj
    have s61 : g61 67 (2 * q + 1) = g4 67 (2 * q + 1) := hpo61.1.out (by simp [mOut, im_kqtake])
    refine ⟨?_, ⟨by rw [f61 101 (by decide)], by rw [f61 106 (by decide)], f61 736 (by decide), f61 640 (by decide)⟩, by unfold qSz; rw [s61]; exact pq, fun x hx => ?_, ?_⟩
    · have := congrArg List.tail hl
      rw [List.tail_drop] at this
      rw [this]
      rfl
    · by_cases w : x < z
      · have : W6 g61 q x = W6 g4 q x := u61 _ (by omega)
        rw [this]
        exact pw x w
      · exact oc_of (z := z) (by omega) w61 gc.2.2 x (by omega) (by omega)
    · rcases pb with ⟨u1, ⟨u3, u4⟩, u5⟩ | pb
      · left
        refine ⟨u1, ⟨by rw [hc], Or.inr gc.1⟩, ⟨by rw [f61 106 (by decide)]; exact u3, s61.trans u4⟩, fun c hc' => wcell_eq (u5 c hc') (fun y h1 h2 => u61 _ (by omega)), fun j hj => ?_⟩
        rw [hc, ← w61]
        show ((List.range 48).map fun i => g61 608 (8192 * q + v59.toInt.toNat + i))[j]? = _
        rw [get48 hj]
        unfold W6
        congr 2
        omega
      · right
        rw [dm0 (by rw [f61 106 (by decide)]) s61]
        exact pb
