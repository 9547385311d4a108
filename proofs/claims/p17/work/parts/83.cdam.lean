/-! the class's damages -/
/-- the class's: a row of cells' numbers, and the number of the next cell -/
def cVw (g : mSt) (q : Nat) : List Int32 := (List.range (min 8 (g 106 q).toInt.toNat)).map fun i => g 672 (8192 * q + i)
def cDm (g : mSt) (q : Nat) : List Int32 := (cVw g q).map fun v => v - g 107 q
def ffc (c v : Int32) : Option Int32 := if v = c then none else some v
theorem cVw_eq {g g1 : mSt} {q : Nat} (h1 : g1 106 q = g 106 q) (h2 : ∀ i, i < 8 → g1 672 (8192 * q + i) = g 672 (8192 * q + i)) : cVw g1 q = cVw g q := by
  unfold cVw
  rw [h1]
  exact List.map_congr_left (fun k hk => h2 k (by have := List.mem_range.mp hk; omega))
theorem cDm_eq {g g1 : mSt} {q : Nat} (h1 : g1 106 q = g 106 q) (h2 : ∀ i, i < 8 → g1 672 (8192 * q + i) = g 672 (8192 * q + i)) (h3 : g1 107 q = g 107 q) : cDm g1 q = cDm g q := by
  unfold cDm
  rw [cVw_eq h1 h2, h3]
theorem cDm_fr {M : List Nat} {g g1 : mSt} (h : mFr M g g1) (k : 106 ∉ M ∧ 107 ∉ M ∧ 672 ∉ M) (q : Nat) : cDm g1 q = cDm g q := cDm_eq (by rw [h 106 k.1]) (fun i _ => by rw [h 672 k.2.2]) (by rw [h 107 k.2.1])
theorem cDm_step {g g1 g2 : mSt} {q : Nat} (h1 : cVw g1 q = (cVw g q).filterMap (ffc (g 107 q))) (h2 : cVw g2 q = cVw g1 q) (h3 : g2 107 q = g 107 q + 1) : cDm g2 q = dStep (cDm g q) := by
  unfold cDm dStep
  rw [h2, h1, h3, List.map_filterMap, List.filterMap_map]
  refine congrArg (fun f => List.filterMap f (cVw g q)) (funext fun v => ?_)
  show (ffc (g 107 q) v).map (fun x => x - (g 107 q + 1)) = (if v - g 107 q = 0 then none else some (v - g 107 q - 1))
  unfold ffc
  by_cases e : v = g 107 q
  · rw [if_pos e, if_pos (by rw [e, Int32.sub_self])]
    rfl
  · rw [if_neg e, if_neg (fun z => e ?_), Int32.sub_sub]
    · rfl
    · have a := Int32.sub_add_cancel v (g 107 q)
      rw [z, Int32.zero_add] at a
      exact a.symm
/-- spoilCell keeps what is not of this cell -/
theorem s_spoilD {Z : cZ} {q : Nat} {g : mSt} {Φ : Int32 → mSt → Prop} (h0 : 0 ≤ (g 106 q).toInt ∧ (g 106 q).toInt ≤ 8) (h : ∀ (r : Int32) g1, cVw g1 q = (cVw g q).filterMap (ffc (g 107 q)) → Φ r g1) : wp_kspoilCell Z q g Φ := by
  intro z0 e0 _
  have i0 : (0 : Int32).toInt = 0 := by decide
  refine ⟨fun _ b c g4 => (0 ≤ b.toInt ∧ b.toInt ≤ c.toInt ∧ c.toInt ≤ (g 106 q).toInt) ∧ cpI (ffc (g 107 q)) (fun i => g 672 (8192 * q + i)) (fun i => g4 672 (8192 * q + i)) b.toInt.toNat c.toInt.toNat, fun a b c g4 k4 _ _ ra rb rc ⟨⟨p1, p2, p3⟩, p4⟩ v5 e5 _ => ?_, ⟨⟨by decide, by decide, by rw [i0]; exact h0.1⟩, cpI.z⟩⟩
  have t5 : v5.toInt = (g 106 q).toInt := by rw [e5, k4 106 (by decide)]
  refine ⟨fun c1 g7 e7 => ?_, fun c1 v11 e11 _ v12 e12 _ => ?_⟩
  · have k7 : mFr [106] g4 g7 := fun x hx => by rw [e7, up2_of (by simpa using hx)]
    refine h a g7 ?_
    have a7 : g7 106 q = b := by rw [e7, up2_i]
    have ec : c.toInt = (g 106 q).toInt := by omega
    unfold cVw
    rw [a7, k7 672 (by decide), show min 8 b.toInt.toNat = b.toInt.toNat by omega, show min 8 (g 106 q).toInt.toNat = c.toInt.toNat by omega]
    exact p4.1
  · have rc : 0 ≤ c.toInt ∧ c.toInt ≤ 8 := rc
    have e12' : v12 = g 107 q := by rw [e12, k4 107 (by decide)]
    have e11' : v11 = g4 672 (8192 * q + c.toInt.toNat) := e11
    refine ⟨fun _ b1 g15 => (0 ≤ b1.toInt ∧ b1.toInt ≤ c.toInt + 1) ∧ cpI (ffc (g 107 q)) (fun i => g 672 (8192 * q + i)) (fun i => g15 672 (8192 * q + i)) b1.toInt.toNat (c.toInt.toNat + 1), fun a1 b1 g15 _ _ _ _ _ ⟨⟨q1, q2⟩, q3⟩ v16 _ _ t16 => ⟨⟨q1, by omega, by omega⟩, ?_⟩, fun c2 v19 e19 _ => ⟨fun c3 => ?_, fun c3 v37 e37 r37 v38 e38 _ t38 v39 e39 _ v41 e41 _ v42 e42 _ g43 e43 => ?_⟩, fun c2 v46 e46 _ g47 e47 g49 e49 v51 e51 _ g52 e52 v55 e55 _ g56 e56 v57 _ _ t57 => ?_⟩
    · rw [show v16.toInt.toNat = c.toInt.toNat + 1 by omega]
      exact q3
    · refine ⟨fun _ g24 => g24 = g4, fun b24 g24 _ _ _ _ e24 v25 _ _ => ?_, fun _ => rfl, fun _ => rfl⟩
      rw [e24]
      refine ⟨⟨p1, by omega⟩, p4.drop ?_⟩
      show ffc (g 107 q) (g4 672 (8192 * q + c.toInt.toNat)) = none
      rw [← e11', ← e12', Int32.toInt_inj.mp c2]
      exact if_pos rfl
    · have k43 : mFr [608] g4 g43 := fun x hx => by rw [e43, up2_of (by simpa using hx)]
      refine ⟨⟨p1, by omega⟩, ?_⟩
      rw [k43 672 (by decide)]
      refine p4.drop ?_
      show ffc (g 107 q) (g4 672 (8192 * q + c.toInt.toNat)) = none
      rw [← e11', ← e12', Int32.toInt_inj.mp c2]
      exact if_pos rfl
    · have k56 : g56 672 = g49 672 := by rw [e56, up2_of (by decide), e52, up2_of (by decide)]
      have k47 : g47 672 = g4 672 := by rw [e47, up2_of (by decide)]
      refine ⟨⟨by omega, by omega⟩, ?_⟩
      rw [show v57.toInt.toNat = b.toInt.toNat + 1 by omega, k56]
      refine p4.keep (w := v11) (by omega) ?_ ?_ (fun k hk => ?_)
      · show ffc (g 107 q) (g4 672 (8192 * q + c.toInt.toNat)) = some v11
        rw [← e11', ← e12']
        exact if_neg (fun z => c2 (by rw [z]))
      · show g49 672 (8192 * q + b.toInt.toNat) = v11
        rw [e49, ntc, up2_i]
      · show g49 672 (8192 * q + k) = g4 672 (8192 * q + k)
        rw [e49, ntc, up2_n (by omega), k47]
/-- a tick's cells of a direction -/
theorem s_putD {Z : cZ} {q : Nat} {g : mSt} {Φ : Int32 → mSt → Prop} (h : ∀ (r : Int32) g1, cDm g1 q = dIt 4 (cDm g q) → Φ r g1) : wp_kputCells Z q g Φ := by
  intro g1 e1
  have k1 : mFr [101] g g1 := fun a ha => by rw [e1, up2_of (by simpa using ha)]
  refine ⟨fun _ k g4 => cDm g4 q = dIt k.toInt.toNat (cDm g q), fun b k g4 k4 _ _ _ rk pc z4 e4 rz4 => ?_, by show cDm g1 q = cDm g q; exact cDm_fr k1 (by decide) q⟩
  have rk : 0 ≤ k.toInt ∧ k.toInt ≤ 4 := rk
  have pc : cDm g4 q = dIt k.toInt.toNat (cDm g q) := pc
  refine ⟨fun c => h b g4 (by rw [show k.toInt.toNat = 4 by omega] at pc; exact pc), fun c v10 e10 _ => ?_⟩
  refine ⟨fun _ _ _ => True, fun b13 hd13 g13 k13 _ _ _ _ _ => wt_kputHeader (fun r14 g14 hpo14 v16 e16 r16 => ?_), fun c10 v35 e35 _ => ⟨fun c35 v40 _ _ t40 v43 _ _ t43 => wt_kfill_19 (fun _ _ _ _ _ _ => trivial), fun c35 v52 _ _ t52 => wt_kqtake (fun _ _ _ => trivial)⟩, fun c10 v59 _ _ t59 => wt_kqtake (fun _ _ _ => trivial)⟩
  have r16 : 0 ≤ v16.toInt ∧ v16.toInt ≤ 8 := r16
  have k14 : mFr [608] g13 g14 := hpo14.2.1
  have d14 : cDm g14 q = cDm g4 q := (cDm_fr k14 (by decide) q).trans (cDm_fr k13 (by decide) q)
  refine ⟨fun _ g18 => cVw g18 q = (cVw g14 q).filterMap (ffc (g14 107 q)), fun b18 g18 k18 _ _ _ q18 v19 _ _ _ g20 e20 v21 e21 _ v22 e22 _ g23 e23 v24 _ _ t24 => ?_, fun c16 => ?_, fun c16 => s_spoilD (by rw [← e16]; exact r16) (fun r g30 q30 _ => q30)⟩
  · show cDm g23 q = dIt v24.toInt.toNat (cDm g q)
    rw [show v24.toInt.toNat = k.toInt.toNat + 1 by omega]
    show cDm g23 q = dStep (dIt k.toInt.toNat (cDm g q))
    rw [← pc, ← d14]
    refine cDm_step q18 (cVw_eq ?_ (fun i _ => ?_)) ?_
    · rw [e23, up2_o (by decide), e20, up2_o (by decide)]
    · rw [e23, up2_o (by decide), e20, up2_o (by decide)]
    · rw [e23, up2_i, e22, e21, e20, up2_o (by decide), k18 107 (by decide)]
  · show cVw g14 q = (cVw g14 q).filterMap (ffc (g14 107 q))
    have : cVw g14 q = [] := by
      unfold cVw
      rw [← e16, show min 8 v16.toInt.toNat = 0 by omega]
      rfl
    rw [this]
    rfl
/-! so many ticks are over, and of this tick the cells of the directions below d are put -/
theorem tkP_z {n k : Nat} {D : Nat → List Int32} (h : k = 0) : tkP n k 0 D D := fun q => by
  subst h
  rw [if_neg (Nat.not_lt_zero _)]
  split <;> rfl
theorem tkP_d {n k k1 d d1 : Nat} {D D1 : Nat → List Int32} (h : tkP n k d D D1) (e : d1 = d) (e2 : k1 = k) : tkP n k1 d1 D D1 := by
  subst e
  subst e2
  exact h
theorem tkP_fr {n k d : Nat} {D D1 D2 : Nat → List Int32} (h : tkP n k d D D1) (e : ∀ q, D2 q = D1 q) : tkP n k d D D2 := fun q => by
  rw [e q, h q]
theorem tkP_next {n k d : Nat} {D D1 : Nat → List Int32} (h : tkP n k d D D1) (hd : 2 * n ≤ d) : tkP n (k + 1) 0 D D1 := fun q => by
  rw [h q]
  by_cases w : q < 2 * n
  · rw [if_pos w, if_pos w, if_pos (by omega), if_neg (Nat.not_lt_zero _), show 4 * k + 4 = 4 * (k + 1) + 0 by omega]
  · rw [if_neg w, if_neg w]
theorem tkP_put {n k d d1 q0 : Nat} {D D1 D2 : Nat → List Int32} (h : tkP n k d D D1) (hq : q0 = d) (hn : q0 < 2 * n) (hd : d1 = d + 1) (h1 : D2 q0 = dIt 4 (D1 q0)) (h2 : ∀ q, q ≠ q0 → D2 q = D1 q) : tkP n k d1 D D2 := fun q => by
  subst hq
  subst hd
  by_cases z : q = q0
  · rw [z, h1, h q0, if_pos hn, if_pos hn, if_neg (Nat.lt_irrefl _), if_pos (Nat.lt_succ_self _), dIt_add]
  · rw [h2 q z, h q]
    by_cases w : q < 2 * n
    · rw [if_pos w, if_pos w]
      by_cases c : q < q0
      · rw [if_pos c, if_pos (by omega)]
      · rw [if_neg c, if_neg (by omega)]
    · rw [if_neg w, if_neg w]
theorem tkP_end {n k : Nat} {p1 : Int32} {D D1 : Nat → List Int32} (h : tkP n k 0 D D1) (hk : k = p1.toInt.toNat) : ∀ q : Nat, D1 q = if (q : Int) < 2 * (n : Int) then dIt (4 * p1.toInt.toNat) (D q) else D q := fun q => by
  rw [h q, ← hk, if_neg (Nat.not_lt_zero _)]
  by_cases w : q < 2 * n
  · rw [if_pos w, if_pos (by omega)]
    rfl
  · rw [if_neg w, if_neg (by omega)]
