/-! a tick's cells are put on the wire: no damage, no data -/
theorem s_fill19 {Z : cZ} {q1 : Nat} {p2 p3 p4 : Int32} {g : mSt} {Φ : Int32 → mSt → Prop} (h2 : 0 ≤ p2.toInt) (h3 : p2.toInt ≤ p3.toInt) (h4 : p3.toInt ≤ 212) (h : ∀ g1, (∀ j : Nat, p2.toInt ≤ (j : Int) → (j : Int) < p3.toInt → g1 608 (8192 * q1 + j) = p4) → (∀ i, (∀ j : Nat, p2.toInt ≤ (j : Int) → (j : Int) < p3.toInt → i ≠ 8192 * q1 + j) → g1 608 i = g 608 i) → Φ 0 g1) : wp_kfill_19 Z q1 p2 p3 p4 g Φ := by
  have k240 : (212 : Int32).toInt = 212 := by decide
  refine ⟨fun c => ⟨fun c1 => ⟨fun c2 hpo => ?_, fun _ => trivial⟩, fun _ => trivial⟩, fun _ => trivial⟩
  refine ⟨fun a g4 => p2.toInt ≤ a.toInt ∧ a.toInt ≤ p3.toInt ∧ (∀ j : Nat, p2.toInt ≤ (j : Int) → (j : Int) < a.toInt → g4 608 (8192 * q1 + j) = p4) ∧ (∀ i, (∀ j : Nat, p2.toInt ≤ (j : Int) → (j : Int) < a.toInt → i ≠ 8192 * q1 + j) → g4 608 i = g 608 i), fun a g4 _ _ ra hP => ⟨fun c3 => ?_, fun c3 g8 e8 v9 e9 r9 t9 => ?_⟩, ⟨Int.le_refl _, h3, fun j a b => absurd a (by omega), fun _ _ => rfl⟩⟩
  · obtain ⟨a1, a2, a3, a4⟩ := hP
    have e : a.toInt = p3.toInt := by omega
    rw [e] at a3 a4
    exact h g4 a3 a4
  · obtain ⟨a1, a2, a3, a4⟩ := hP
    refine ⟨by omega, by omega, fun j hj1 hj2 => ?_, fun i hi => ?_⟩
    · by_cases hj : (j : Int) = a.toInt
      · have : 8192 * q1 + j = 8192 * q1 + a.toNatClampNeg := by rw [nat_cl]; omega
        rw [e8, this, up2_i]
      · rw [e8, up2_n (by rw [nat_cl]; omega)]
        exact a3 j hj1 (by omega)
    · have hne : i ≠ 8192 * q1 + a.toNatClampNeg := by
        have := hi a.toInt.toNat (by omega) (by omega)
        rw [nat_cl]
        exact this
      rw [e8, up2_n hne]
      exact a4 i (fun j hj1 hj2 => hi j hj1 (by omega))
def W6 (g : mSt) (q x : Nat) : Int32 := g 608 (8192 * q + x)
def iC : Int32 × List Int32 := (1, List.replicate 48 106)
def cAt (l : List (Int32 × List Int32)) (c : Nat) : Int32 × List Int32 := (l[c]?).getD iC
def wcell (g : mSt) (q c : Nat) (x : Int32 × List Int32) : Prop := (W6 g q (53 * c) = 0 ∧ W6 g q (53 * c + 1) = 0 ∧ W6 g q (53 * c + 2) = 0) ∧ (W6 g q (53 * c + 3) = x.1 ∧ W6 g q (53 * c + 4) = hc x.1) ∧ ∀ j, j < 48 → x.2[j]? = some (W6 g q (53 * c + 5 + j))
/-- a cell of a line: its head, its octets -/
def gcell (c : Int32 × List Int32) : Prop := (c.1 = 80 ∨ c.1 = 82) ∧ okC c.2 ∧ ∀ x ∈ c.2, oct x
theorem sm_hd {h : Int32} (hh : h = 1 ∨ h = 80 ∨ h = 82) : (h.toUInt32 >>> ((24 : Int32).toUInt32 &&& Int32.toUInt32 31)).toInt32 = 0 ∧ (h.toUInt32 >>> ((16 : Int32).toUInt32 &&& Int32.toUInt32 31)).toInt32 &&& (255 : Int32) = 0 ∧ (h.toUInt32 >>> ((8 : Int32).toUInt32 &&& Int32.toUInt32 31)).toInt32 &&& (255 : Int32) = 0 ∧ h &&& (255 : Int32) = h := by
  rcases hh with e | e | e <;> subst e <;> decide
theorem s_putH {Z : cZ} {q z : Nat} {p1 : Int32} {g : mSt} {Φ : Int32 → mSt → Prop} (hh : p1 = 1 ∨ p1 = 80 ∨ p1 = 82) (hz : (g 101 q).toInt = (z : Int)) (h : ∀ g1, (W6 g1 q z = 0 ∧ W6 g1 q (z + 1) = 0 ∧ W6 g1 q (z + 2) = 0) → (W6 g1 q (z + 3) = p1 ∧ W6 g1 q (z + 4) = hc p1) → (∀ x, x < z ∨ z + 5 ≤ x → W6 g1 q x = W6 g q x) → Φ 0 g1) : wp_kputHeader Z q p1 g Φ := by
  obtain ⟨s1, s2, s3, s4⟩ := sm_hd hh
  intro z0 e0 r0 v3 e3 _ g4 e4 v6 _ _ t6 v7 e7 _ v8 e8 _ g9 e9 v11 _ _ t11 v12 e12 _ v13 e13 _ g14 e14 v16 _ _ t16 v17 e17 _ g18 e18 v20 _ _ t20 v21 e21 _ g22 e22
  have hz0 : z0.toInt = (z : Int) := by rw [e0]; exact hz
  rw [nat_cl, show z0.toInt.toNat = z by omega] at e4
  rw [nat_cl, show v6.toInt.toNat = z + 1 by omega] at e9
  rw [nat_cl, show v11.toInt.toNat = z + 2 by omega] at e14
  rw [nat_cl, show v16.toInt.toNat = z + 3 by omega] at e18
  rw [nat_cl, show v20.toInt.toNat = z + 4 by omega] at e22
  refine h g22 ⟨?_, ?_, ?_⟩ ⟨?_, ?_⟩ (fun x hx => ?_)
  · unfold W6
    rw [e22, up2_n (by omega), e18, up2_n (by omega), e14, up2_n (by omega), e9, up2_n (by omega), e4, up2_i, e3, s1]
  · unfold W6
    rw [e22, up2_n (by omega), e18, up2_n (by omega), e14, up2_n (by omega), e9, up2_i, e8, e7, s2]
  · unfold W6
    rw [e22, up2_n (by omega), e18, up2_n (by omega), e14, up2_i, e13, e12, s3]
  · unfold W6
    rw [e22, up2_n (by omega), e18, up2_i, e17, s4]
  · unfold W6
    rw [e22, up2_i, e21]
  · unfold W6
    rw [e22, up2_n (by omega), e18, up2_n (by omega), e14, up2_n (by omega), e9, up2_n (by omega), e4, up2_n (by omega)]
def PC (g g1 : mSt) (q k : Nat) : Prop := ((g1 101 q).toInt = ((53 * k : Nat) : Int) ∧ g1 106 q = g 106 q ∧ g1 67 (2 * q + 1) = g 67 (2 * q + 1)) ∧ qL g1 (2 * q) = (qL g (2 * q)).drop k ∧ ∀ c, c < k → wcell g1 q c (cAt (qL g (2 * q)) c)
theorem wcell_eq {g g1 : mSt} {q c : Nat} {x : Int32 × List Int32} (h : wcell g q c x) (k : ∀ y, 53 * c ≤ y → y < 53 * c + 53 → W6 g1 q y = W6 g q y) : wcell g1 q c x := by
  obtain ⟨⟨a0, a1, a2⟩, ⟨a3, a4⟩, a5⟩ := h
  refine ⟨⟨by rw [k _ (by omega) (by omega)]; exact a0, by rw [k _ (by omega) (by omega)]; exact a1, by rw [k _ (by omega) (by omega)]; exact a2⟩, ⟨by rw [k _ (by omega) (by omega)]; exact a3, by rw [k _ (by omega) (by omega)]; exact a4⟩, fun j hj => by rw [k _ (by omega) (by omega)]; exact a5 j hj⟩
set_option maxHeartbeats 2000000 in
theorem s_putC {Z : cZ} {q : Nat} {g : mSt} {Φ : Int32 → mSt → Prop} (h106 : (g 106 q).toInt = 0) (hd : (g 67 (2 * q + 1)).toInt ≤ 0) (hg : ∀ c ∈ qL g (2 * q), gcell c) (h : ∀ r g1, PC g g1 q 4 → Φ r g1) : wp_kputCells Z q g Φ := by
  intro g1 e1
  have k1 : mFr [101] g g1 := fun a ha => by rw [e1, up2_of (by simpa using ha)]
  refine ⟨fun _ k g4 => PC g g4 q k.toInt.toNat, fun b k g4 _ _ _ _ rk pc z4 e4 _ => ?_, ⟨⟨by rw [e1, up2_i]; rfl, by rw [k1 106 (by decide)], by rw [k1 67 (by decide)]⟩, by rw [qL_fr k1 ⟨⟨by decide, by decide⟩, by decide, by decide⟩]; rfl, fun c hc => absurd hc (Nat.not_lt_zero _)⟩⟩
  have rk : 0 ≤ k.toInt ∧ k.toInt ≤ 4 := rk
  obtain ⟨⟨p1, p2, p3⟩, p4, p5⟩ := pc
  have t4 : z4.toInt = ((53 * k.toInt.toNat : Nat) : Int) := by rw [e4]; exact p1
  refine ⟨fun c => h b g4 (by rw [show k.toInt.toNat = 4 by omega] at p1 p4 p5; exact ⟨⟨p1, p2, p3⟩, p4, p5⟩), fun c v10 e10 _ => ?_⟩
  obtain ⟨K, eK⟩ : ∃ x, x = k.toInt.toNat := ⟨_, rfl⟩
  rw [← eK] at p1 p4 p5 t4
  refine ⟨fun _ hd13 g13 => (hd13 = (cAt (qL g (2 * q)) K).1 ∧ (hd13 = 1 ∨ hd13 = 80 ∨ hd13 = 82)) ∧ ((g13 101 q).toInt = ((53 * K : Nat) : Int) ∧ g13 106 q = g 106 q ∧ g13 67 (2 * q + 1) = g 67 (2 * q + 1)) ∧ qL g13 (2 * q) = (qL g (2 * q)).drop (K + 1) ∧ (∀ c, c < K → wcell g13 q c (cAt (qL g (2 * q)) c)) ∧ ∀ j, j < 48 → (cAt (qL g (2 * q)) K).2[j]? = some (W6 g13 q (53 * K + 5 + j)), fun b13 hd13 g13 _ _ _ _ _ q13 => ?_, fun c10 v35 e35 _ => ⟨fun _ v40 _ _ t40 v43 _ _ t43 => s_fill19 (by omega) (by omega) (by omega) (fun g46 f46 o46 hpo46 v47 _ _ => ?_), fun c35 => ?_⟩, fun c10 v59 _ _ t59 => s_qtake (by omega) (fun z _ => ?_) (fun g61 hd oc q61 w61 u61 hpo61 => ?_)⟩
  · obtain ⟨⟨x1, x2⟩, ⟨y1, y2, y3⟩, y4, y5, y6⟩ := q13
    refine s_putH x2 y1 (fun g14 a14 b14 c14 hpo14 v16 e16 _ => ⟨fun b18 g18 => g18 = g14 ∧ b18.toInt = 53, fun b18 g18 _ _ _ _ q18 v19 _ _ t19 g20 e20 v21 _ _ v22 _ _ g23 e23 v24 _ _ t24 => ?_, fun _ => ⟨rfl, by decide⟩, fun c16 => ?_⟩)
    · obtain ⟨eg, eb⟩ := q18
      rw [eg] at e20
      have k23 : mFr [101, 107] g14 g23 := fun a ha => by
        simp only [List.mem_cons, List.not_mem_nil, or_false, not_or] at ha
        rw [e23, up2_of (by omega), e20, up2_of (by omega)]
      have w23 : ∀ y, W6 g23 q y = W6 g14 q y := fun y => by
        unfold W6
        rw [k23 608 (by decide)]
      rw [show v24.toInt.toNat = K + 1 by omega]
      refine ⟨⟨?_, ?_, ?_⟩, ?_, fun c hc => ?_⟩
      · rw [e23, up2_o (by decide), e20, up2_i]
        omega
      · rw [k23 106 (by decide), hpo14.2.1 106 (by decide), y2]
      · rw [k23 67 (by decide), hpo14.2.1 67 (by decide), y3]
      · rw [qL_fr k23 ⟨⟨by decide, by decide⟩, by decide, by decide⟩, qL_fr hpo14.2.1 ⟨⟨by decide, by decide⟩, by decide, by decide⟩, y4]
      · by_cases e : c = K
        · subst e
          refine ⟨by rw [w23, w23, w23]; exact a14, ⟨by rw [w23, b14.1, x1], by rw [w23, b14.2, x1]⟩, fun j hj => ?_⟩
          rw [w23, c14 _ (by omega)]
          exact y6 j hj
        · exact wcell_eq (y5 c (by omega)) (fun y h1 h2 => by rw [w23, c14 _ (by omega)])
    · exfalso
      rw [e16, hpo14.2.1 106 (by decide), y2, h106] at c16
      omega
  · -- an idle cell
    have sz : qSz g4 (2 * q) = 0 := by
      unfold qSz
      rw [← e10]
      omega
    have nil : qL g4 (2 * q) = [] := List.length_eq_zero_iff.mp (by rw [qL_len]; exact sz)
    have hK : (qL g (2 * q)).length ≤ K := by
      have := congrArg List.length (p4.symm.trans nil)
      rw [List.length_drop] at this
      simp at this
      omega
    have hc : cAt (qL g (2 * q)) K = iC := by
      unfold cAt
      rw [List.getElem?_eq_none hK]
      rfl
    refine ⟨⟨by rw [hc]; rfl, Or.inl rfl⟩, ⟨by rw [hpo46.2.1 101 (by decide)]; exact p1, by rw [hpo46.2.1 106 (by decide)]; exact p2, by rw [hpo46.2.1 67 (by decide)]; exact p3⟩, ?_, fun c hc' => wcell_eq (p5 c hc') (fun y h1 h2 => ?_), fun j hj => ?_⟩
    · rw [qL_fr hpo46.2.1 ⟨⟨by decide, by decide⟩, by decide, by decide⟩, nil, List.drop_eq_nil_of_le (by omega)]
    · exact o46 _ (fun j h3 h4 => by omega)
    · rw [hc]
      unfold W6
      rw [show 8192 * q + (53 * K + 5 + j) = 8192 * q + (53 * K + 5 + j) from rfl, f46 (53 * K + 5 + j) (by omega) (by omega)]
      show (List.replicate 48 (106 : Int32))[j]? = some 106
      rw [List.getElem?_replicate, if_pos hj]
  · exfalso
    rw [e35, p3] at c35
    omega
  · exfalso
    have : (g4 67 (2 * q)).toInt.toNat = 0 := z
    rw [← e10] at this
    omega
  · -- a cell of the queue
    have hl : (qL g (2 * q)).drop K = (hd, oc) :: qL g61 (2 * q) := by rw [← p4]; exact q61
    have hget : (qL g (2 * q))[K]? = some (hd, oc) := by
      have := congrArg (fun l => l[0]?) hl
      simpa [List.getElem?_drop] using this
    have hc : cAt (qL g (2 * q)) K = (hd, oc) := by
      unfold cAt
      rw [hget]
      rfl
    have gc := hg (hd, oc) (List.mem_of_getElem? hget)
    refine ⟨⟨by rw [hc], Or.inr gc.1⟩, ⟨by rw [hpo61.2.1 101 (by decide)]; exact p1, by rw [hpo61.2.1 106 (by decide)]; exact p2, ?_⟩, ?_, fun c hc' => wcell_eq (p5 c hc') (fun y h1 h2 => ?_), fun j hj => ?_⟩
    · rw [hpo61.1.out (by simp [mOut, im_kqtake]), p3]
    · have := congrArg List.tail hl
      rw [List.tail_drop] at this
      rw [this]
      rfl
    · exact u61 _ (by omega)
    · rw [hc, ← w61]
      show ((List.range 48).map fun i => g61 608 (8192 * q + v59.toInt.toNat + i))[j]? = _
      rw [get48 hj]
      unfold W6
      congr 2
      omega
