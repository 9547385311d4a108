/-! SETUPs that lie ahead -/
def pAt (g : mSt) (i p j : Nat) : Int32 := g 1248 (8192 * (2 * i + 1) + (60 * p + j))
def OH (g : mSt) (i : Nat) : Prop := ∀ k, k < 480 → oct (g 1248 (8192 * (2 * i + 1) + k))
def OA (g : mSt) (q : Nat) : Prop := ∀ k, k < 240 → oct (g 512 (8192 * q + k))
def OM (g : mSt) (r : Int32) : Prop := ∀ j : Nat, (j : Int) < r.toInt → oct (msg g 0 j)
abbrev su19 (g : mSt) (i p : Nat) : Prop := (ahd g i p).toInt = 19 ∧ suB (pAt g i p)
def osp (g : mSt) (i : Nat) : Nat := smN 8 fun p => if su19 g i p then 1 else 0
/-- the unit is DATA of an end's SETUP -/
def SU (g : mSt) (q : Nat) (p2 : Int32) : Prop := p2.toInt = 23 ∧ suB (fun j => g 512 (8192 * q + j)) ∧ (g 512 (8192 * q + 19)).toInt = 8
def uR (g g1 : mSt) (i q : Nat) (p2 : Int32) : Prop := (osp g1 i ≤ osp g i ∨ (SU g q p2 ∧ osp g1 i ≤ osp g i + 1)) ∧ (OH g i → OH g1 i)
theorem osp_8 {g : mSt} {i : Nat} : osp g i ≤ 8 := by
  have : smN 8 (fun p => if su19 g i p then 1 else 0) ≤ smN 8 (fun _ => 1) := smN_le (fun c _ => by split <;> omega)
  exact this
theorem ite1_le {a b : Prop} [Decidable a] [Decidable b] (h : a → b) : (if a then 1 else 0) ≤ (if b then 1 else 0 : Nat) := by
  by_cases z : a
  · rw [if_pos z, if_pos (h z)]
    exact Nat.le_refl _
  · rw [if_neg z]
    exact Nat.zero_le _
theorem aS.osp {g g1 : mSt} {i : Nat} (h : aS g g1 i) (k : g1 1248 = g 1248) : osp g1 i ≤ osp g i := by
  refine smN_le (fun p hp => ite1_le (fun z => ?_))
  obtain ⟨z1, z2⟩ := z
  refine ⟨?_, ?_⟩
  · rcases h.1 p hp with w | w
    · rw [← w]
      exact z1
    · rw [w] at z1
      exact absurd z1 (by decide)
  · unfold pAt at z2 ⊢
    rw [← k]
    exact z2
theorem aS.uR {g g1 : mSt} {i q : Nat} {p2 : Int32} (h : aS g g1 i) (k : g1 1248 = g 1248) : uR g g1 i q p2 := ⟨Or.inl (h.osp k), fun z => by unfold OH; rw [k]; exact z⟩
theorem s_put16C {Z : cZ} {j q2 : Nat} {p1 p3 p4 : Int32} {g : mSt} {Φ : Int32 → mSt → Prop} (h0 : Φ 0 g) (h : ∀ g1, mFr [1248, 1280] g g1 → 0 ≤ p1.toInt ∧ p1.toInt < 8 → 0 ≤ p4.toInt ∧ p4.toInt ≤ 60 → p3.toInt + p4.toInt ≤ 240 → g1 1280 (8192 * j + p1.toInt.toNat) = p4 → (∀ k, k ≠ 8192 * j + p1.toInt.toNat → g1 1280 k = g 1280 k) → (∀ k, k < p4.toInt.toNat → g1 1248 (8192 * j + (60 * p1.toInt.toNat + k)) = g 512 (8192 * q2 + (p3.toInt.toNat + k))) → (∀ x, (x < 8192 * j + 60 * p1.toInt.toNat ∨ 8192 * j + 60 * p1.toInt.toNat + p4.toInt.toNat ≤ x) → g1 1248 x = g 1248 x) → Φ 0 g1) : wp_kput_16 Z j p1 q2 p3 p4 g Φ := by
  refine ⟨fun _ => h0, fun c1 => ⟨fun _ => h0, fun c2 => ⟨fun _ => h0, fun c3 => ⟨fun _ => h0, fun c4 => ⟨fun _ => trivial, fun c5 v15 e15 _ t15 => ⟨fun c6 v19 e19 _ t19 g21 e21 g23 e23 => h g23 (fun a ha => ?_) ⟨c1, c2⟩ ⟨c3, c4⟩ (by omega) ?_ (fun k hk => ?_) (fun k hk => ?_) (fun x hx => ?_), fun _ => h0⟩⟩⟩⟩⟩⟩
  · simp only [List.mem_cons, List.not_mem_nil, or_false, not_or] at ha
    rw [e23, up2_of ha.2, e21, cCpy_o ha.1]
  · rw [e23, ← nat_cl, up2_i]
  · rw [e23, up2_n (by rw [nat_cl]; exact hk), e21, cCpy_r (by decide)]
  · have e : v19.toNatClampNeg = 60 * p1.toInt.toNat := by
      rw [nat_cl]
      omega
    rw [e23, up2_o (by decide), e21, e, nat_cl, nat_cl, cCpy_y (by omega)]
    congr 1
    omega
  · have e : v19.toNatClampNeg = 60 * p1.toInt.toNat := by
      rw [nat_cl]
      omega
    rw [e23, up2_o (by decide), e21, e, nat_cl, nat_cl, cCpy_x (by omega)]
theorem ww_data {Z : cZ} {i q1 : Nat} {p2 p3 : Int32} {g : mSt} {Φ : Int32 → mSt → Prop} (ho : OA g q1) (h : ∀ g1, (osp g1 i ≤ osp g i ∨ ((p2.toInt = 19 ∧ suB (fun j => g 512 (8192 * q1 + j))) ∧ osp g1 i ≤ osp g i + 1)) ∧ (OH g i → OH g1 i) → Φ 0 g1) : wp_kdataCame Z i q1 p2 p3 g Φ := by
  have same : ∀ g1, g1 1280 = g 1280 → g1 1248 = g 1248 → Φ 0 g1 := fun g1 a b => h g1 ⟨Or.inl (smN_le (fun p _ => ite1_le (fun z => by
    unfold su19 ahd pAt at z ⊢
    rw [← a, ← b]
    exact z))), fun z => by unfold OH; rw [b]; exact z⟩
  intro v1 e1 r1
  refine ⟨fun g2 => g2 = g, fun g2 _ _ s2 => by rw [show g2 = g from s2]; exact same g rfl rfl, fun _ => rfl, fun c1 v7 e7 _ t7 => ⟨fun c2 v10 e10 _ => ⟨fun g11 => True, fun g11 k11 _ _ v13 e13 _ t13 v15 _ m15 g16 e16 v18 e18 _ t18 => ?_, fun _ => trivial, fun _ => s_wordAny (fun _ _ => s_wordAny (fun _ _ => s_wordAny (fun _ _ => s_sendAny (fun _ _ => trivial))))⟩, fun _ => rfl⟩⟩
  have k16 : mFr [67, 108, 111, 171, 544, 576, 768] g g16 := fun a ha => by
    simp only [List.mem_cons, List.not_mem_nil, or_false, not_or] at ha
    rw [e16, up2_of (by omega), k11 a (by simp only [List.mem_cons, List.not_mem_nil, or_false, not_or]; omega)]
  have z0 : (0 : Int32).toInt.toNat = 0 := by decide
  refine s_put16C (fun _ => same g16 (k16 1280 (by decide)) (k16 1248 (by decide))) (fun g20 k20 hp hl hl2 a20 b20 c20 d20 _ => ?_)
  rw [k16 1280 (by decide)] at b20
  rw [k16 512 (by decide), z0] at c20
  rw [k16 1248 (by decide)] at d20
  obtain ⟨pl, epl⟩ : ∃ x, x = v18.toInt.toNat := ⟨_, rfl⟩
  rw [← epl] at a20 b20 c20 d20
  have hpl : pl < 8 := by omega
  have oth : ∀ q, q < 8 → q ≠ pl → (su19 g20 i q → su19 g i q) := fun q hq hne z => by
    obtain ⟨z1, z2⟩ := z
    refine ⟨?_, ?_⟩
    · unfold ahd at z1 ⊢
      rw [← b20 _ (by omega)]
      exact z1
    · unfold suB pAt at z2 ⊢
      have e : ∀ j, j < 20 → g20 1248 (8192 * (2 * i + 1) + (60 * q + j)) = g 1248 (8192 * (2 * i + 1) + (60 * q + j)) := fun j hj => d20 _ (by omega)
      rw [e 0 (by omega), e 1 (by omega), e 5 (by omega), e 6 (by omega), e 8 (by omega), e 9 (by omega), e 10 (by omega), e 12 (by omega), e 14 (by omega), e 15 (by omega), e 17 (by omega)] at z2
      exact z2
  have oh : OH g i → OH g20 i := fun z k hk => by
    by_cases w : k < 60 * pl ∨ 60 * pl + p2.toInt.toNat ≤ k
    · rw [d20 _ (by omega)]
      exact z k hk
    · have := c20 (k - 60 * pl) (by omega)
      rw [show 60 * pl + (k - 60 * pl) = k by omega] at this
      rw [this]
      exact ho _ (by omega)
  have su : su19 g20 i pl → p2.toInt = 19 ∧ suB (fun j => g 512 (8192 * q1 + j)) := fun z => by
    obtain ⟨z1, z2⟩ := z
    have l : p2.toInt = 19 := by
      unfold ahd at z1
      rw [a20] at z1
      exact z1
    refine ⟨l, ?_⟩
    unfold suB pAt at z2
    have e : ∀ j, j < 19 → g20 1248 (8192 * (2 * i + 1) + (60 * pl + j)) = g 512 (8192 * q1 + j) := fun j hj => by rw [c20 j (by omega), Nat.zero_add]
    rw [e 0 (by omega), e 1 (by omega), e 5 (by omega), e 6 (by omega), e 8 (by omega), e 9 (by omega), e 10 (by omega), e 12 (by omega), e 14 (by omega), e 15 (by omega), e 17 (by omega)] at z2
    exact z2
  refine h g20 ⟨?_, oh⟩
  by_cases z : su19 g20 i pl
  · exact Or.inr ⟨su z, smN_one (s := pl) (fun q hq hne => ite1_le (oth q hq hne)) (fun _ => by split <;> omega)⟩
  · refine Or.inl (smN_le (fun q hq => ite1_le (fun w => ?_)))
    by_cases e : q = pl
    · rw [e] at w
      exact absurd w z
    · exact oth q hq e w
set_option maxHeartbeats 2000000 in
theorem ww_unit {Z : cZ} {i q1 : Nat} {p2 p3 : Int32} {g : mSt} {Φ : Int32 → mSt → Prop} (ho : OA g q1) (h : ∀ (r : Int32) g1, uR g g1 i q1 p2 → Φ r g1) : wp_kunitCame Z i q1 p2 p3 g Φ := by
  have h0 : ∀ r, Φ r g := fun r => h _ _ (aS.rf.uR rfl)
  have hu : ∀ (r : Int32) g1, aS g g1 i → g1 1248 = g 1248 → Φ r g1 := fun r g1 s k => h r g1 (s.uR k)
  unfold wp_kunitCame
  refine s_isUnitX (fun v2 hk _ => ?_)
  refine ⟨?_, fun _ => h0 _⟩
  intro c2 v8 e8 r8 t8
  refine s_wordX (fun v11 hv11 _ => ?_)
  intro v12 e12 r12 v13 e13 r13
  obtain ⟨c4, w, k, ew, ek, k1, k3⟩ := hk c2
  have r8 : 0 ≤ v8.toInt ∧ v8.toInt ≤ 236 := r8
  have hd : v12.toInt = 8 → ∀ g1, (osp g1 i ≤ osp g i ∨ ((v8.toInt = 19 ∧ suB (fun j => g 512 (8192 * q1 + j))) ∧ osp g1 i ≤ osp g i + 1)) ∧ (OH g i → OH g1 i) → Φ 0 g1 := fun z g1 q => by
    refine h 0 g1 ⟨q.1.imp id (fun w => ⟨⟨by omega, w.1.2, ?_⟩, w.2⟩), q.2⟩
    have e := hv11 (by omega) (by omega)
    rw [show v8.toInt.toNat = 19 by have := w.1.1; omega] at e
    unfold wd at e
    have tp := wd_top (ho 19 (by decide)) (ho 20 (by decide)) (ho 21 (by decide)) (ho 22 (by decide))
    rw [← tp]
    rw [e12, e] at z
    exact z
  clear hk hv11 ek ew k1 k3 e12
  repeat' first
    | exact h0 _
    | exact trivial
    | refine s_wordAt (fun _ _ => ?_)
    | exact a_begin (fun r g1 s hpo => hu _ _ s (hpo.2.1 1248 (by decide)))
    | exact a_end (fun r g1 s hpo => hu _ _ s (hpo.2.1 1248 (by decide)))
    | exact a_reset (fun _ g1 s hpo => hu _ _ s (hpo.2.1 1248 (by decide)))
    | exact a_answer (fun _ g1 s hpo => hu _ _ s (hpo.2.1 1248 (by decide)))
    | exact ww_data ho (fun g1 s _ => hd (by assumption) g1 s)
    | exact s_pollAny (fun g1 hpo => hu _ _ (aS.rf.fr hpo.2.1 (by decide)) (hpo.2.1 1248 (by decide)))
    | exact a_status (fun r g1 s hpo => ⟨fun _ => hu _ _ s (hpo.2.1 1248 (by decide)), fun _ => hu _ _ s (hpo.2.1 1248 (by decide))⟩)
    | exact a_gap (fun r g1 s hpo => ⟨fun _ => hu _ _ s (hpo.2.1 1248 (by decide)), fun _ => hu _ _ s (hpo.2.1 1248 (by decide))⟩)
    | refine ⟨?_, ?_⟩
    | intro _
theorem s_clear2 {Z : cZ} {j : Nat} {p1 : Int32} {g : mSt} {Φ : Int32 → mSt → Prop} (hp : 0 ≤ p1.toInt ∧ p1.toInt < 8) (h : ∀ g1, mFr [1280, 1344] g g1 → (∀ k, k ≠ 8192 * j + p1.toInt.toNat → g1 1280 k = g 1280 k) → g1 1280 (8192 * j + p1.toInt.toNat) = 0 → Φ 0 g1) : wp_kclear Z j p1 g Φ := by
  refine ⟨fun z => by exfalso; omega, fun _ => ⟨fun z => by exfalso; omega, fun _ g9 e9 g11 e11 => h g11 (fun a ha => ?_) (fun k hk => ?_) ?_⟩⟩
  · simp only [List.mem_cons, List.not_mem_nil, or_false, not_or] at ha
    rw [e11, up2_of ha.2, e9, up2_of ha.1]
  · rw [e11, up2_o (by decide), e9, up2_n (by rw [nat_cl]; exact hk)]
  · rw [e11, up2_o (by decide), e9, nat_cl, up2_i]
/-- the next message is taken: its octets -/
def tkR (g g1 : mSt) (i : Nat) (r : Int32) : Prop := (occ g1 i + 1 ≤ occ g i ∧ osp g1 i ≤ osp g i ∧ (r.toInt = 19 → suB (msg g1 0) → osp g1 i + 1 ≤ osp g i)) ∧ (OH g i → OM g1 r) ∧ g1 1248 = g 1248
theorem ww_take {Z : cZ} {i : Nat} {g : mSt} {Φ : Int32 → mSt → Prop} (h0 : Φ 0 g) (h : ∀ (r : Int32) g1, 1 ≤ r.toInt → tkR g g1 i r → (g1 170 i).toInt = (g 170 i).toInt + 1 → Φ r g1) : wp_ktakeNext Z i 0 g Φ := by
  intro v1 e1 r1 v2 e2 r2 t2 v6 e6 r6
  refine ⟨fun _ => h0, fun c1 => ⟨fun c60 v12 e12 _ t12 g14 e14 => ?_, fun _ => trivial⟩⟩
  have r2 : 0 ≤ v2.toInt ∧ v2.toInt ≤ 7 := r2
  obtain ⟨pl, epl⟩ : ∃ x, x = v2.toInt.toNat := ⟨_, rfl⟩
  have e12n : v12.toNatClampNeg = 60 * pl := by
    rw [nat_cl]
    omega
  have k14 : ∀ j, j ≠ 1088 → g14 j = g j := fun j hj => by rw [e14, cCpy_o hj]
  have m14 : ∀ j, j < v6.toInt.toNat → g14 1088 j = g 1248 (8192 * (2 * i + 1) + (60 * pl + j)) := fun j hj => by
    have z : (0 : Int32).toNatClampNeg = 0 := by decide
    rw [e14, e12n, z, nat_cl, cCpy_y (by omega)]
    congr 1
    omega
  have n14 : ∀ j, v6.toInt.toNat ≤ j → g14 1088 j = g 1088 j := fun j hj => by
    have z : (0 : Int32).toNatClampNeg = 0 := by decide
    rw [e14, e12n, z, nat_cl, cCpy_x (by omega)]
  have key : ∀ g15, mFr [1280, 1344] g14 g15 → (∀ k, k < 8 → k ≠ pl → g15 1280 (8192 * (2 * i + 1) + k) = g14 1280 (8192 * (2 * i + 1) + k)) → g15 1280 (8192 * (2 * i + 1) + pl) = 0 → ∀ (v17 : Int32), v17 = v1 + (1 : Int32) → rg (1) (2000000001) v17 → v17.toInt = v1.toInt + 1 → ∀ (g20 : mSt), g20 = up2 g15 170 i v17 → ∀ (v21 : Int32), v21 = g20 171 i → rg (-2147483648) (2147483647) v21 → ∀ (v23 : Int32), rg (1) (2147483647) v23 → v21.toInt ≤ v23.toInt ∧ v17.toInt ≤ v23.toInt ∧ (v23.toInt = v21.toInt ∨ v23.toInt = v17.toInt) → ∀ (g24 : mSt), g24 = up2 g20 171 i v23 → Φ v6 g24 := fun g15 k15 a15 b15 v17 _ _ t17 g20 e20 v21 _ _ v23 _ _ g24 e24 => by
    have K : ∀ j, j ∉ [170, 171, 1088, 1280, 1344] → g24 j = g j := fun j hj => by
      simp only [List.mem_cons, List.not_mem_nil, or_false, not_or] at hj
      rw [e24, up2_of (by omega), e20, up2_of (by omega), k15 j (by simp only [List.mem_cons, List.not_mem_nil, or_false, not_or]; omega), k14 j (by omega)]
    have M : g24 1088 = g14 1088 := by rw [e24, up2_of (by decide), e20, up2_of (by decide), k15 1088 (by decide)]
    have A : g24 1280 = g15 1280 := by rw [e24, up2_of (by decide), e20, up2_of (by decide)]
    have ao : ∀ k, k < 8 → k ≠ pl → ahd g24 i k = ahd g i k := fun k hk hne => by
      unfold ahd
      rw [A, a15 k hk hne, k14 1280 (by decide)]
    have ap : ahd g24 i pl = 0 := by
      unfold ahd
      rw [A, b15]
    have ag : ahd g i pl = v6 := by
      unfold ahd
      rw [e6, epl, nat_cl]
    have q1248 : g24 1248 = g 1248 := K 1248 (by decide)
    have so : ∀ k, k < 8 → k ≠ pl → (su19 g24 i k → su19 g i k) := fun k hk hne z => by
      unfold su19 pAt at z ⊢
      rw [ao k hk hne, q1248] at z
      exact z
    have sp : ¬ su19 g24 i pl := fun z => by
      have := z.1
      rw [ap] at this
      exact absurd this (by decide)
    refine h v6 g24 c1 ⟨⟨?_, ?_, fun l19 hb => ?_⟩, fun oh j hj => ?_, q1248⟩ ?_
    · exact (occ_take c1 ⟨pl, by omega, ag, ap, ao⟩).1
    · refine smN_le (fun k hk => ite1_le (fun z => ?_))
      by_cases e : k = pl
      · rw [e] at z
        exact absurd z sp
      · exact so k hk e z
    · refine smN_lt (s := pl) (fun k hk => ite1_le (fun z => ?_)) (by omega) ?_
      · by_cases e : k = pl
        · rw [e] at z
          exact absurd z sp
        · exact so k hk e z
      · have sg : su19 g i pl := by
          refine ⟨by rw [ag]; exact l19, ?_⟩
          unfold suB msg at hb
          unfold suB pAt
          have e : ∀ j, j < 19 → g24 1088 (8192 * 0 + j) = g 1248 (8192 * (2 * i + 1) + (60 * pl + j)) := fun j hj => by rw [M, show 8192 * 0 + j = j by omega, m14 j (by omega)]
          rw [e 0 (by omega), e 1 (by omega), e 5 (by omega), e 6 (by omega), e 8 (by omega), e 9 (by omega), e 10 (by omega), e 12 (by omega), e 14 (by omega), e 15 (by omega), e 17 (by omega)] at hb
          exact hb
        rw [if_neg sp, if_pos sg]
        exact Nat.le_refl _
    · unfold msg
      rw [M, show 8192 * 0 + j = j by omega, m14 j (by omega)]
      exact oh _ (by omega)
    · rw [e24, up2_o (by decide), e20, up2_i, t17, e1]
  refine s_clear2 (by omega) (fun g15 k15 a15 b15 _ => key g15 k15 ?_ ?_)
  · intro k hk hne
    exact a15 _ (by omega)
  · rw [epl]
    exact b15
