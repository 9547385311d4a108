/-! the switch lets a call through -/
def CLl (N : Nat) (g : mSt) (s f : Nat) : Prop := (∀ p q, p < lsZ g s → q < lsZ g s → lsE g s p = lsE g s q → p = q) ∧ (∀ p, p < lsZ g s → lsE g s p < N ∧ (g 32 (lsE g s p)).toInt = (s : Int) ∧ 1 ≤ (g 38 (lsE g s p)).toInt ∧ ((g 34 (lsE g s p)).toInt = 1 → (g 33 (lsE g s p)).toInt ≤ (g 323 f).toInt)) ∧ rtL g s ≤ 3
theorem CLl.calls {N N1 : Nat} {g g1 : mSt} {s f : Nat} (h : CLl N g s f) (hN : N ≤ N1) (e1 : g1 386 = g 386) (e2 : g1 1728 = g 1728) (hr : ∀ j k, j = 32 ∨ j = 33 ∨ j = 34 ∨ j = 36 ∨ j = 38 → k < N → g1 j k = g j k) (h3 : (g 323 f).toInt ≤ (g1 323 f).toInt) : CLl N1 g1 s f := by
  have ez : lsZ g1 s = lsZ g s := by
    unfold lsZ
    rw [e1]
  have el : ∀ p, lsE g1 s p = lsE g s p := fun p => by
    unfold lsE
    rw [e2]
  obtain ⟨a, b, c⟩ := h
  refine ⟨fun p q hp hq => by rw [el, el]; rw [ez] at hp hq; exact a p q hp hq, fun p hp => ?_, ?_⟩
  · rw [ez] at hp
    obtain ⟨b1, b2, b3, b4⟩ := b p hp
    rw [el, hr 32 _ (by omega) b1, hr 38 _ (by omega) b1, hr 34 _ (by omega) b1, hr 33 _ (by omega) b1]
    exact ⟨by omega, b2, b3, fun z => Int.le_trans (b4 z) h3⟩
  · refine Nat.le_trans (Nat.le_of_eq ?_) c
    unfold rtL
    rw [ez]
    refine smN_eq (fun p hp => ?_)
    have b1 := (b p hp).1
    rw [el, hr 36 _ (by omega) b1, hr 38 _ (by omega) b1]
theorem CLl.put {N N0 : Nat} {g g1 : mSt} {s f c p : Nat} (h : CLl N g s f) (k : put1 g g1 s c p) (h0 : ∀ q, q < lsZ g s → lsE g s q < N0) (hc : N0 ≤ c ∧ c < N) (hz : p < lsZ g s → (g 36 (lsE g s p)).toInt = 0) (hr : ∀ j, j = 32 ∨ j = 33 ∨ j = 34 ∨ j = 36 ∨ j = 38 ∨ j = 323 → g1 j = g j) (c1 : (g 32 c).toInt = (s : Int)) (c2 : 1 ≤ (g 38 c).toInt) (c3 : (g 34 c).toInt = 1 → (g 33 c).toInt ≤ (g 323 f).toInt) (c4 : (rtL g s : Int) + (g 38 c).toInt ≤ 3) : CLl N g1 s f := by
  have hs := k.sum (w := fun x => if (g 36 x).toInt = 0 then 0 else (g 38 x).toInt.toNat) (fun z => by rw [if_pos (hz z)])
  obtain ⟨k1, k2, k3, _⟩ := k
  obtain ⟨a, b, d⟩ := h
  have en : ∀ q, q < lsZ g1 s → q = p ∨ (q < lsZ g s ∧ q ≠ p ∧ lsE g1 s q = lsE g s q) := fun q hq => by
    by_cases e : q = p
    · exact Or.inl e
    · have : q < lsZ g s := by omega
      exact Or.inr ⟨this, e, k3 q this e⟩
  refine ⟨fun x y hx hy hxy => ?_, fun x hx => ?_, ?_⟩
  · rcases en x hx with ex | ⟨x1, x2, x3⟩
    · rcases en y hy with ey | ⟨y1, y2, y3⟩
      · omega
      · rw [ex, k2, y3] at hxy
        have := h0 y y1
        omega
    · rcases en y hy with ey | ⟨y1, y2, y3⟩
      · rw [ey, k2, x3] at hxy
        have := h0 x x1
        omega
      · rw [x3, y3] at hxy
        exact a x y x1 y1 hxy
  · rw [hr 32 (by omega), hr 38 (by omega), hr 34 (by omega), hr 33 (by omega), hr 323 (by omega)]
    rcases en x hx with ex | ⟨x1, x2, x3⟩
    · rw [ex, k2]
      exact ⟨hc.2, c1, c2, c3⟩
    · rw [x3]
      exact b x x1
  · unfold rtL
    rw [hr 36 (by omega), hr 38 (by omega), hs]
    unfold rtL at c4
    show _ + (if (g 36 c).toInt = 0 then 0 else (g 38 c).toInt.toNat) ≤ 3
    split
    · exact d
    · omega
theorem CLl.oth {N : Nat} {g g1 : mSt} {s s' f c p : Nat} (h : CLl N g s' f) (k : put1 g g1 s c p) (hs : s' ≠ s) (hz : lsZ g s' ≤ 16777216) (hr : ∀ j, j = 32 ∨ j = 33 ∨ j = 34 ∨ j = 36 ∨ j = 38 ∨ j = 323 → g1 j = g j) : CLl N g1 s' f := by
  obtain ⟨ez, el⟩ := k.2.2.2 s' hs
  obtain ⟨a, b, d⟩ := h
  refine ⟨fun p q hp hq => ?_, fun p hp => ?_, ?_⟩
  · rw [ez] at hp hq
    rw [el p (by omega), el q (by omega)]
    exact a p q hp hq
  · rw [ez] at hp
    rw [el p (by omega), hr 32 (by omega), hr 38 (by omega), hr 34 (by omega), hr 33 (by omega), hr 323 (by omega)]
    exact b p hp
  · refine Nat.le_trans (Nat.le_of_eq ?_) d
    unfold rtL
    rw [ez, hr 36 (by omega), hr 38 (by omega)]
    exact smN_eq (fun p hp => by rw [el p (by omega)])
/-- a list may have grown -/
theorem kS.step {n : Nat} {Z Z1 : cZ} {g g1 : mSt} {s : Nat} (h : kS Z g Z1 g1 s) (hs : s < 2 * n) (h0 : 0 ≤ (g 386 s).toInt) : (∃ d, d ≤ 1 ∧ szT n g1 = szT n g + d ∧ Z1.w 0 ≤ Z.w 0 + d) ∧ (capI n g → capI n g1) := by
  obtain ⟨_, b, c⟩ := h
  refine ⟨?_, fun q r hr => ?_⟩
  · rcases c with ⟨c1, _, c3⟩ | ⟨c1, c2, _⟩
    · refine ⟨0, by omega, smN_upd (s := s) (fun q hq => ?_) hs ?_, by omega⟩
      · rw [(b q hq).1]
      · rw [c1]
        rfl
    · refine ⟨1, by omega, smN_upd (s := s) (fun q hq => ?_) hs ?_, c2⟩
      · rw [(b q hq).1]
      · omega
  · have q0 := q r hr
    by_cases e : r = s
    · subst e
      rcases c with ⟨c1, c2, _⟩ | ⟨c1, _, c3⟩
      · rw [c1, c2]
        exact q0
      · rcases c3 with c3 | ⟨c3, c4⟩
        · omega
        · omega
    · rw [(b r e).1, (b r e).2]
      exact q0
/-- what a pair that is let through may change -/
def own2 (n N : Nat) (g : mSt) (j k : Nat) : Prop := ownS n g j k ∨ (32 ≤ j ∧ j < 50 ∧ N ≤ k) ∨ j = 323 ∨ ((j = 384 ∨ j = 385 ∨ j = 386 ∨ j = 1729) ∧ n ≤ k) ∨ (j = 1728 ∧ n ≤ k / 16777216)
/-- calls that were made are the switch's; what no call is stays -/
def NC (n N0 : Nat) (g0 : mSt) (N : Nat) (g : mSt) : Prop := (∀ c, N0 ≤ c → c < N → (n : Int) ≤ (g 32 c).toInt) ∧ ∀ c, N ≤ c → g 32 c = g0 32 c ∧ g 43 c = g0 43 c
theorem NC.rf {n N : Nat} {g : mSt} : NC n N g N g := ⟨fun c h1 h2 => by exfalso; omega, fun c _ => ⟨rfl, rfl⟩⟩
theorem NC.eq {n N0 N : Nat} {g0 g g1 : mSt} (h : NC n N0 g0 N g) (a : g1 32 = g 32) (b : g1 43 = g 43) : NC n N0 g0 N g1 := by
  unfold NC
  rw [a, b]
  exact h
theorem NC.tr {n N0 N N1 : Nat} {g0 g g1 : mSt} (h : NC n N0 g0 N g) (hN : N ≤ N1) (k : NC n N g N1 g1) (e : ∀ c, c < N → g1 32 c = g 32 c) : NC n N0 g0 N1 g1 := by
  refine ⟨fun c h1 h2 => ?_, fun c hc => ?_⟩
  · by_cases w : c < N
    · rw [e c w]
      exact h.1 c h1 w
    · exact k.1 c (by omega) h2
  · rw [(k.2 c hc).1, (k.2 c hc).2]
    exact h.2 c (by omega)
def prS (n N : Nat) (t : Int) (g g1 : mSt) (f : Nat) : Prop := (∀ j k, ¬ own2 n N g j k → g1 j k = g j k) ∧ CI n (N + 2) g1 ∧ LT n g t + 32 ≤ LT n g1 t ∧ opL g1 (n + f) ≤ opL g (n + f) + 1 ∧ NC n N g (N + 2) g1
theorem cRows_r {j : Nat} (h : j ∈ cRows) : 36 ≤ j ∧ j < 49 ∧ j ≠ 38 ∧ j ≠ 39 ∧ j ≠ 43 := by
  simp only [cRows, List.mem_cons, List.not_mem_nil, or_false] at h
  omega
set_option maxHeartbeats 4000000 in
theorem s_setup10 {Z : cZ} {N f q1 n1 n2 : Nat} {p2 : Int32} {g : mSt} {Φ : Int32 → cZ → mSt → Prop} (hN : N = Z.w 2) (hN2 : N ≤ 900000) (hf : f < Z.n) (hci : CI Z.n N g) (ht : 0 ≤ p2.toInt ∧ p2.toInt ≤ 1000000000) (hq : 0 ≤ (g 291 q1).toInt) (hpl : ∀ r, fst_ g (Z.n + f) (g 289 q1) 0 r → 0 ≤ r.toInt → (g 36 (lsE g (Z.n + f) r.toInt.toNat)).toInt = 0) (hg1 : gNd g (Z.n + f) n1) (hg2 : (g 291 q1).toInt.toNat < Z.n → (g 291 q1).toInt.toNat ≠ f → gNd g (Z.n + (g 291 q1).toInt.toNat) n2) (hsz : ∀ s, s < 2 * Z.n → 0 ≤ (g 386 s).toInt ∧ (g 386 s).toInt ≤ 10000000) (h0 : ∀ g1, sst Z.n N p2.toInt g g1 0 → Φ 0 Z g1) (h : ∀ (Z1 : cZ) g1, Z1.w 2 = N + 2 → prS Z.n N p2.toInt g g1 f → rS Z g Z1 g1 → Z1.w 3 = Z.w 3 → Φ 0 Z1 g1) : wp_ksetupCame_10 n1 n2 Z f q1 p2 g Φ := by
  refine s_refusal (N := N) hci.1 hf hq (fun r hr _ => ⟨fun z => absurd z hr, fun _ v48 _ _ => wt_ksayCause_10 (fun _ g49 hpo => h0 _ ((sst.rf hci).say hpo.1))⟩) (fun ht1 ht2 hr ha hb _ => ⟨fun _ v8 e8 _ v10 e10 _ v11 e11 _ g12 e12 v14 e14 _ sd16 es16 Z15 eZ15 Za v15 g15 hv15 hz15 hw15 hw315 hJ15 al15 e15 sd20 es20 Z19 eZ19 Zb v19 g19 hv19 hz19 hw19 hw319 hJ19 al19 e19 g21 e21 g23 e23 v25 e25 _ g26 e26 v27 e27 _ g28 e28 g30 e30 => ?_, fun z => absurd rfl z⟩)
  subst eZ15
  subst eZ19
  replace hg2 := hg2 ht1 ht2
  have hna : Z19.n = Z15.n := hz15.1
  have hnb : Zb.n = Z15.n := hz19.1.trans hna
  obtain ⟨to, eto⟩ : ∃ x, x = v8.toInt.toNat := ⟨_, rfl⟩
  rw [← e8] at ht1 ht2 hb hg2
  rw [← eto] at ht1 ht2 hb hg2 es20 e12 e10 ⊢
  obtain ⟨c1, ec1⟩ : ∃ x, x = v15.toInt.toNat := ⟨_, rfl⟩
  obtain ⟨c2, ec2⟩ : ∃ x, x = v19.toInt.toNat := ⟨_, rfl⟩
  have n1' : c1 = N := by omega
  have n2' : c2 = N + 1 := by omega
  have ne12 : c1 ≠ c2 := by omega
  have i15 : v15.toInt = (N : Int) := by omega
  have i19 : v19.toInt = ((N + 1 : Nat) : Int) := by omega
  refine wt_kleastChannel (fun v32 g31 hpo31 g33 e33 => wt_kleastChannel (fun v35 g34 hpo34 g36 e36 => s_enterX (fun g37 f37 a37 b37 d37 hpo37 v38 e38 _ => s_enterX (fun g39 f39 a39 b39 d39 hpo39 => ?_))))
  have e31 := mFr_nil hpo31.2.1
  have e34 := mFr_nil hpo34.2.1
  rw [← ec1] at e15 e21 e28 e33 f37 a37 b37 d37
  rw [← ec2] at e19 e23 e26 e30 e36 f39 a39 b39 d39
  -- what stands before the lists take them
  have A : ∀ j k, (k ≠ c1 ∧ k ≠ c2) ∨ j < 32 ∨ 50 ≤ j → j ≠ 323 → g39 j k = g j k := fun j k hk h3 => by
    rw [f39 j k (fun z => by have := cRows_r z.2; omega), f37 j k (fun z => by have := cRows_r z.2; omega), e36, up2_c (by omega), e34, e33, up2_c (by omega), e31, e30, up2_c (by omega), e28, up2_c (by omega), e26, up2_c (by omega), e23, up2_c (by omega), e21, up2_c (by omega), e19, gNew_o (by omega), e15, gNew_o (by omega), e12, up2_c (by omega)]
  have A3 : g39 323 = g12 323 := funext fun k => by
    rw [f39 323 k (fun z => absurd z.2 (by decide)), f37 323 k (fun z => absurd z.2 (by decide)), e36, up2_o (by decide), e34, e33, up2_o (by decide), e31, e30, up2_o (by decide), e28, up2_o (by decide), e26, up2_o (by decide), e23, up2_o (by decide), e21, up2_o (by decide), e19, gNew_o (by omega), e15, gNew_o (by omega)]
  have D : ∀ j k, j = 32 ∨ j = 33 ∨ j = 34 → g39 j k = g19 j k := fun j k hj => by
    rw [f39 j k (fun z => by have := cRows_r z.2; omega), f37 j k (fun z => by have := cRows_r z.2; omega), e36, up2_c (by omega), e34, e33, up2_c (by omega), e31, e30, up2_c (by omega), e28, up2_c (by omega), e26, up2_c (by omega), e23, up2_c (by omega), e21, up2_c (by omega)]
  have D43 : ∀ k, g39 43 k = g23 43 k := fun k => by
    rw [f39 43 k (fun z => absurd z.2 (by decide)), f37 43 k (fun z => absurd z.2 (by decide)), e36, up2_o (by decide), e34, e33, up2_o (by decide), e31, e30, up2_o (by decide), e28, up2_o (by decide), e26, up2_o (by decide)]
  have D38 : ∀ k, g39 38 k = g30 38 k := fun k => by
    rw [f39 38 k (fun z => absurd z.2 (by decide)), f37 38 k (fun z => absurd z.2 (by decide)), e36, up2_o (by decide), e34, e33, up2_o (by decide), e31]
  have N19 : ∀ j, 32 ≤ j → j < 50 → g19 j c1 = g15 j c1 := fun j _ _ => by rw [e19, gNew_o (by omega)]
  have w32a : (g39 32 c1).toInt = ((Z15.n + f : Nat) : Int) := by
    rw [D 32 c1 (by omega), N19 32 (by omega) (by omega), e15]
    unfold gNew
    rw [if_pos ⟨rfl, by decide, by decide⟩]
    exact es16
  have w33a : g39 33 c1 = v14 := by
    rw [D 33 c1 (by omega), N19 33 (by omega) (by omega), e15]
    unfold gNew
    rw [if_pos ⟨rfl, by decide, by decide⟩]
    rfl
  have w34a : g39 34 c1 = 0 := by
    rw [D 34 c1 (by omega), N19 34 (by omega) (by omega), e15]
    unfold gNew
    rw [if_pos ⟨rfl, by decide, by decide⟩]
    rfl
  have w32b : (g39 32 c2).toInt = ((Z15.n + to : Nat) : Int) := by
    rw [D 32 c2 (by omega), e19]
    unfold gNew
    rw [if_pos ⟨rfl, by decide, by decide⟩]
    rw [← hna]
    exact es20
  have w33b : g39 33 c2 = v11 := by
    rw [D 33 c2 (by omega), e19]
    unfold gNew
    rw [if_pos ⟨rfl, by decide, by decide⟩]
    rfl
  have w34b : g39 34 c2 = 1 := by
    rw [D 34 c2 (by omega), e19]
    unfold gNew
    rw [if_pos ⟨rfl, by decide, by decide⟩]
    rfl
  have w43a : g39 43 c1 = v19 := by rw [D43, e23, up2_n ne12, e21, up2_i]
  have w43b : g39 43 c2 = v15 := by rw [D43, e23, up2_i]
  have r27 : v27 = g 293 q1 := by
    rw [e27, e26, up2_o (by decide), e23, up2_o (by decide), e21, up2_o (by decide), e19, gNew_o (by omega), e15, gNew_o (by omega), e12, up2_o (by decide)]
  have w38a : g39 38 c1 = v27 := by rw [D38, e30, up2_n ne12, e28, up2_i]
  have w38b : g39 38 c2 = v27 := by rw [D38, e30, up2_i]
  have w36a : g39 36 c1 = 3 := by rw [f39 36 c1 (fun z => ne12 z.1), a37]
  have w41a : g39 41 c1 = 0 := by rw [f39 41 c1 (fun z => ne12 z.1), b37]
  have r14 : v14 = g 289 q1 := by rw [e14, e12, up2_o (by decide)]
  have l323 : v10 = g 323 to := e10
  have b323 := (hci.1 to ht1).2.2.2
  have i11 : v11.toInt = (g 323 to).toInt + 1 := by rw [e11, l323]; exact add_t (k := 1) (m := 1) rfl ⟨by decide, by decide⟩ (by omega)
  have q323 : ∀ x, (g 323 x).toInt ≤ (g39 323 x).toInt ∧ (x ≠ to → g39 323 x = g 323 x) := fun x => by
    rw [A3, e12]
    by_cases e : x = to
    · rw [e, up2_i]
      exact ⟨by omega, fun z => absurd rfl z⟩
    · rw [up2_n e]
      exact ⟨Int.le_refl _, fun _ => rfl⟩
  have e386 : g39 386 = g 386 := funext fun k => A 386 k (by omega) (by decide)
  have e1728 : g39 1728 = g 1728 := funext fun k => A 1728 k (by omega) (by decide)
  have e1729 : g39 1729 = g 1729 := funext fun k => A 1729 k (by omega) (by decide)
  have ez39 : ∀ s, lsZ g39 s = lsZ g s := fun s => by
    unfold lsZ
    rw [e386]
  have el39 : ∀ s p, lsE g39 s p = lsE g s p := fun s p => by
    unfold lsE
    rw [e1728]
  have old : ∀ j k, k < N → j ≠ 323 → g39 j k = g j k := fun j k hk h3 => A j k (by omega) h3
  have zb : ∀ x, x < Z15.n → lsZ g (Z15.n + x) ≤ 10000000 := fun x hx => by
    unfold lsZ
    have := hsz (Z15.n + x) (by omega)
    omega
  have CL39 : ∀ x, x < Z15.n → CLl (N + 2) g39 (Z15.n + x) x := fun x hx => by
    obtain ⟨u1, u2, u3, _⟩ := hci.1 x hx
    exact CLl.calls (N := N) ⟨u1, u2, u3⟩ (by omega) e386 e1728 (fun j k hj hk => old j k hk (by omega)) (q323 x).1
  have ent : ∀ x, x < Z15.n → ∀ q, q < lsZ g39 (Z15.n + x) → lsE g39 (Z15.n + x) q < N := fun x hx q hq => by
    rw [el39]
    rw [ez39] at hq
    exact ((hci.1 x hx).2.1 q hq).1
  have rt39 : ∀ x, x < Z15.n → rtL g39 (Z15.n + x) = rtL g (Z15.n + x) := fun x hx => by
    unfold rtL
    rw [ez39]
    refine smN_eq (fun p hp => ?_)
    have := ((hci.1 x hx).2.1 p hp).1
    rw [el39, old 36 _ this (by decide), old 38 _ this (by decide)]
  have lf39 : ∀ x, x < Z15.n → lfL g39 p2.toInt (Z15.n + x) = lfL g p2.toInt (Z15.n + x) := fun x hx => by
    unfold lfL
    rw [ez39]
    refine smN_eq (fun p hp => ?_)
    have := ((hci.1 x hx).2.1 p hp).1
    rw [el39, lf_eq (old 36 _ this (by decide)) (old 41 _ this (by decide)) (old 42 _ this (by decide))]
  have op39 : opL g39 (Z15.n + f) = opL g (Z15.n + f) := by
    unfold opL
    rw [ez39]
    refine smN_eq (fun p hp => ?_)
    have := ((hci.1 f hf).2.1 p hp).1
    rw [el39, old 36 _ this (by decide)]
  refine s_keep10 (by rw [hnb]; unfold gNd; rw [e386, e1729]; exact hg1) (by rw [hnb, e386]; exact hsz _ (by omega)) (fun r1 Z41 g41 h41 p41 k41 o41 s41 hpo41 _ Z42 eZ42 => ?_)
  rw [← ec1, hnb] at p41
  rw [← ec1, hnb] at h41
  rw [hnb] at o41 s41
  have hn42 : Z42.n = Z15.n := by rw [eZ42]; exact s41.1.1.trans hnb
  obtain ⟨pa, epa⟩ : ∃ x, x = (if r1.toInt < 0 then lsZ g39 (Z15.n + f) else r1.toInt.toNat) := ⟨_, rfl⟩
  rw [← epa] at p41
  have ne_s : Z15.n + to ≠ Z15.n + f := by omega
  have pz := p41.2.2.2 (Z15.n + to) ne_s
  have ez41 : g41 386 (Z15.n + to) = g 386 (Z15.n + to) := by rw [(s41.2.1 _ ne_s).1, e386]
  have ec41 : g41 1729 (Z15.n + to) = g 1729 (Z15.n + to) := by rw [(s41.2.1 _ ne_s).2, e1729]
  refine s_keep10 (by rw [hn42]; unfold gNd; rw [ez41, ec41]; exact hg2) (by rw [hn42, ez41]; exact hsz _ (by omega)) (fun r2 Z43 g43 h43 p43 k43 o43 s43 hpo43 _ Z44 eZ44 => wt_ksayProceeding (fun _ g44 hpo44 => wt_ksaySetup_10 (fun _ g45 hpo45 => ?_)))
  rw [← ec2, hn42] at p43
  rw [← ec2, hn42] at h43
  rw [hn42] at o43 s43
  obtain ⟨pb, epb⟩ : ∃ x, x = (if r2.toInt < 0 then lsZ g41 (Z15.n + to) else r2.toInt.toNat) := ⟨_, rfl⟩
  rw [← epb] at p43
  have K41 : ∀ j, j ∉ [384, 385, 386, 1728, 1729] → g41 j = g39 j := k41
  have K43 : ∀ j, j ∉ [384, 385, 386, 1728, 1729] → g43 j = g39 j := fun j hj => (k43 j hj).trans (k41 j hj)
  -- the places
  have cl1 : pa < lsZ g39 (Z15.n + f) → (g39 36 (lsE g39 (Z15.n + f) pa)).toInt = 0 := fun z => by
    have hh : 0 ≤ r1.toInt := by
      rcases Int.lt_or_le r1.toInt 0 with w | w
      · rw [if_pos w] at epa
        omega
      · exact w
    rw [if_neg (by omega)] at epa
    have hfst : fst_ g (Z15.n + f) (g 289 q1) 0 r1 := by
      unfold fst_ mt at h41 ⊢
      rw [w33a, w34a, r14, ez39] at h41
      rcases h41 with h41 | ⟨u1, u2, u3, u4⟩
      · omega
      · refine Or.inr ⟨u1, u2, ?_, fun p hp w => u4 p hp ?_⟩
        · have := ((hci.1 f hf).2.1 _ u2).1
          rw [el39, old 33 _ this (by decide), old 34 _ this (by decide)] at u3
          exact u3
        · have := ((hci.1 f hf).2.1 p (by omega)).1
          rw [el39, old 33 _ this (by decide), old 34 _ this (by decide)]
          exact w
    have := hpl r1 hfst hh
    rw [epa, el39, old 36 _ ((hci.1 f hf).2.1 _ (by rw [epa, ez39] at z; exact z)).1 (by decide)]
    exact this
  have ent41 : ∀ q, q < lsZ g41 (Z15.n + to) → lsE g41 (Z15.n + to) q = lsE g (Z15.n + to) q ∧ q < lsZ g (Z15.n + to) := fun q hq => by
    rw [pz.1, ez39] at hq
    have := zb to ht1
    rw [pz.2 q (by omega), el39]
    exact ⟨rfl, hq⟩
  have cl2 : ¬ pb < lsZ g41 (Z15.n + to) := fun z => by
    rcases Int.lt_or_le r2.toInt 0 with w | w
    · rw [if_pos w] at epb
      omega
    · rw [if_neg (by omega)] at epb
      unfold fst_ mt at h43
      rcases h43 with h43 | ⟨u1, u2, u3, u4⟩
      · omega
      · rw [K41 33 (by decide), K41 34 (by decide), w33b, w34b] at u3
        obtain ⟨x1, x2⟩ := ent41 _ u2
        obtain ⟨y1, y2, y3, y4⟩ := (hci.1 to ht1).2.1 _ x2
        rw [x1, old 33 _ y1 (by decide), old 34 _ y1 (by decide)] at u3
        have := y4 (by rw [u3.2]; decide)
        omega
  have rows41 : ∀ j, j = 32 ∨ j = 33 ∨ j = 34 ∨ j = 36 ∨ j = 38 ∨ j = 323 → g41 j = g39 j := fun j hj => K41 j (by
    simp only [List.mem_cons, List.not_mem_nil, or_false, not_or]
    omega)
  have rows43 : ∀ j, j = 32 ∨ j = 33 ∨ j = 34 ∨ j = 36 ∨ j = 38 ∨ j = 323 → g43 j = g41 j := fun j hj => k43 j (by
    simp only [List.mem_cons, List.not_mem_nil, or_false, not_or]
    omega)
  have CL41 : ∀ x, x < Z15.n → CLl (N + 2) g41 (Z15.n + x) x := fun x hx => by
    by_cases e : x = f
    · subst e
      refine (CL39 x hx).put (N0 := N) p41 (ent x hx) (by omega) cl1 rows41 w32a ?_ ?_ ?_
      · rw [w38a, r27]
        exact hr.1
      · rw [w34a]
        exact fun z => absurd z (by decide)
      · rw [rt39 x hx, w38a, r27]
        exact ha
    · exact (CL39 x hx).oth p41 (by omega) (by rw [ez39]; have := zb x hx; omega) rows41
  have lz41 : ∀ x, x < Z15.n → lsZ g41 (Z15.n + x) ≤ 10000001 := fun x hx => by
    by_cases e : x = f
    · subst e
      have := zb x hx
      have := ez39 (Z15.n + x)
      rcases p41.1 with w | w <;> omega
    · rw [(p41.2.2.2 (Z15.n + x) (by omega)).1, ez39]
      have := zb x hx
      omega
  have CL43 : ∀ x, x < Z15.n → CLl (N + 2) g43 (Z15.n + x) x := fun x hx => by
    by_cases e : x = to
    · subst e
      refine (CL41 x hx).put (N0 := N) p43 (fun q hq => ?_) (by omega) (fun z => absurd z cl2) rows43 ?_ ?_ ?_ ?_
      · obtain ⟨x1, x2⟩ := ent41 q hq
        rw [x1]
        exact ((hci.1 x hx).2.1 _ x2).1
      · rw [rows41 32 (by omega)]
        exact w32b
      · rw [rows41 38 (by omega), w38b, r27]
        exact hr.1
      · rw [rows41 33 (by omega), rows41 323 (by omega), w33b, A3, e12, up2_i]
        exact fun _ => Int.le_refl _
      · rw [rows41 38 (by omega), w38b, r27]
        have : rtL g41 (Z15.n + x) = rtL g (Z15.n + x) := by
          rw [← rt39 x hx]
          unfold rtL
          rw [pz.1, rows41 36 (by omega), rows41 38 (by omega)]
          refine smN_eq (fun p hp => ?_)
          rw [pz.2 p (by have := zb x hx; have := ez39 (Z15.n + x); omega)]
        rw [this]
        exact hb
    · exact (CL41 x hx).oth p43 (by omega) (by have := lz41 x hx; omega) rows43
  have hCI : CI Z15.n (N + 2) g43 := by
    refine ⟨fun x hx => ?_, fun c hc hs hp => ?_⟩
    · obtain ⟨u1, u2, u3⟩ := CL43 x hx
      refine ⟨u1, u2, u3, ?_⟩
      have b := (hci.1 x hx).2.2.2
      rw [rows43 323 (by omega), rows41 323 (by omega)]
      by_cases e : x = to
      · rw [e, A3, e12, up2_i]
        rw [e] at b
        omega
      · rw [(q323 x).2 e]
        omega
    · rw [rows43 32 (by omega), rows41 32 (by omega)] at hs
      rw [K43 43 (by decide)] at hp
      rw [K43 43 (by decide), rows43 32 (by omega), rows41 32 (by omega)]
      have dy : ∀ x, dyg g43 x ↔ dyg g39 x := fun x => dyg_eq (by rw [K43 36 (by decide)])
      rw [dy, dy]
      have d1 : ¬ dyg g39 c1 := fun z => by
        unfold dyg at z
        rw [w36a] at z
        have : (3 : Int32).toInt = 3 := by decide
        omega
      have d2 : ¬ dyg g39 c2 := fun z => by
        unfold dyg at z
        rw [a39] at z
        have : (6 : Int32).toInt = 6 := by decide
        omega
      by_cases x1 : c = c1
      · subst x1
        rw [w43a]
        rw [show v19.toInt.toNat = c2 from ec2.symm]
        refine ⟨by omega, by rw [w32b]; omega, by rw [w43b]; omega, iff_of_false d1 d2⟩
      · by_cases x2 : c = c2
        · subst x2
          rw [w43b]
          rw [show v15.toInt.toNat = c1 from ec1.symm]
          refine ⟨by omega, by rw [w32a]; omega, by rw [w43a]; omega, iff_of_false d2 d1⟩
        · have hcN : c < N := by omega
          rw [old 32 c hcN (by decide)] at hs
          rw [old 43 c hcN (by decide)] at hp ⊢
          obtain ⟨y1, y2, y3, y4⟩ := hci.2 c hcN hs hp
          rw [old 32 _ y1 (by decide), old 43 _ y1 (by decide), dyg_eq (old 36 c hcN (by decide)), dyg_eq (old 36 _ y1 (by decide))]
          exact ⟨by omega, y2, y3, y4⟩
  have lfa : lf g39 p2.toInt c1 = 16 := lf_new (by rw [w36a]; decide) (Or.inl (by rw [w41a]; rfl))
  have lfb : lf g39 p2.toInt c2 = 16 := by
    have e := add_t (p := p2) (k := 8) (m := 8) rfl ⟨by decide, by decide⟩ ht
    have a : (6 : Int32).toInt = 6 := by decide
    have b : (0 : Int32).toInt = 0 := by decide
    refine lf_new (by rw [a39]; decide) (Or.inr ?_)
    unfold cEx
    rw [a39, b39, d39, e38, e, a, b, if_pos (by omega)]
    omega
  have lfc : ∀ gg, (gg 36 = g39 36 ∧ gg 41 = g39 41 ∧ gg 42 = g39 42) → ∀ x, lf gg p2.toInt x = lf g39 p2.toInt x := fun gg e x => lf_eq (by rw [e.1]) (by rw [e.2.1]) (by rw [e.2.2])
  have lf41 := lfc g41 ⟨K41 36 (by decide), K41 41 (by decide), K41 42 (by decide)⟩
  have lf43 := lfc g43 ⟨K43 36 (by decide), K43 41 (by decide), K43 42 (by decide)⟩
  have L39 : LT Z15.n g39 p2.toInt = LT Z15.n g p2.toInt := smN_eq (fun x hx => lf39 x hx)
  have L41 : LT Z15.n g41 p2.toInt = LT Z15.n g39 p2.toInt + 16 := by
    have e1 : lfL g41 p2.toInt (Z15.n + f) = lfL g39 p2.toInt (Z15.n + f) + 16 := by
      have hs := p41.sum (w := fun x => lf g39 p2.toInt x) (fun z => by show lf g39 p2.toInt _ = 0; unfold lf; rw [if_pos (cl1 z)])
      rw [lfa] at hs
      unfold lfL
      rw [← hs]
      exact smN_eq (fun q _ => lf41 _)
    have e2 : ∀ x, x < Z15.n → x ≠ f → lfL g41 p2.toInt (Z15.n + x) = lfL g39 p2.toInt (Z15.n + x) := fun x hx hxf => by
      have o := p41.2.2.2 (Z15.n + x) (by omega)
      unfold lfL
      rw [o.1]
      refine smN_eq (fun q hq => ?_)
      rw [o.2 q (by have := zb x hx; have := ez39 (Z15.n + x); omega)]
      exact lf41 _
    have := smN_updn (n := Z15.n) (F := fun x => lfL g39 p2.toInt (Z15.n + x)) (F1 := fun x => lfL g41 p2.toInt (Z15.n + x)) (s := f) (d := 16) e2 hf e1
    exact this
  have L43 : LT Z15.n g43 p2.toInt = LT Z15.n g41 p2.toInt + 16 := by
    have e1 : lfL g43 p2.toInt (Z15.n + to) = lfL g41 p2.toInt (Z15.n + to) + 16 := by
      have hs := p43.sum (w := fun x => lf g39 p2.toInt x) (fun z => absurd z cl2)
      rw [lfb] at hs
      have u1 : lfL g43 p2.toInt (Z15.n + to) = smN (lsZ g43 (Z15.n + to)) (fun q => lf g39 p2.toInt (lsE g43 (Z15.n + to) q)) := smN_eq (fun q _ => lf43 _)
      have u2 : lfL g41 p2.toInt (Z15.n + to) = smN (lsZ g41 (Z15.n + to)) (fun q => lf g39 p2.toInt (lsE g41 (Z15.n + to) q)) := smN_eq (fun q _ => lf41 _)
      rw [u1, u2]
      exact hs
    have e2 : ∀ x, x < Z15.n → x ≠ to → lfL g43 p2.toInt (Z15.n + x) = lfL g41 p2.toInt (Z15.n + x) := fun x hx hxf => by
      have o := p43.2.2.2 (Z15.n + x) (by omega)
      unfold lfL
      rw [o.1]
      refine smN_eq (fun q hq => ?_)
      rw [o.2 q (by have := lz41 x hx; omega), lf43, lf41]
    exact smN_updn (n := Z15.n) (F := fun x => lfL g41 p2.toInt (Z15.n + x)) (F1 := fun x => lfL g43 p2.toInt (Z15.n + x)) (s := to) (d := 16) e2 ht1 e1
  have O43 : opL g43 (Z15.n + f) ≤ opL g (Z15.n + f) + 1 := by
    have o := p43.2.2.2 (Z15.n + f) (by omega)
    have u1 : opL g43 (Z15.n + f) = smN (lsZ g41 (Z15.n + f)) (fun q => (fun x => if (g39 36 x).toInt = 0 then 0 else 1) (lsE g41 (Z15.n + f) q)) := by
      unfold opL
      rw [o.1, K43 36 (by decide)]
      refine smN_eq (fun q hq => ?_)
      rw [o.2 q (by have := lz41 f hf; omega)]
    have hs := p41.sum (w := fun x => if (g39 36 x).toInt = 0 then 0 else 1) (fun z => by rw [if_pos (cl1 z)])
    rw [u1, hs, ← op39]
    unfold opL
    have : (fun x => if (g39 36 x).toInt = 0 then 0 else 1) c1 ≤ 1 := by
      show (if (g39 36 c1).toInt = 0 then 0 else 1) ≤ 1
      split <;> omega
    exact Nat.add_le_add_left this _
  -- what was said
  have hsd := ((sst.rf (t := p2.toInt) (d := 0) hCI).say (f := f) (by
    have := hpo44.1
    unfold im_ksayProceeding at this
    rw [show Z44.n = Z15.n by rw [eZ44]; exact s43.1.1.trans hn42] at this
    exact this)).say (f := to) (by
    have := hpo45.1
    unfold im_ksaySetup_10 at this
    rw [show Z44.n = Z15.n by rw [eZ44]; exact s43.1.1.trans hn42] at this
    exact this)
  have hw42 : Z42.w 2 = N + 2 ∧ Z42.w 3 = Z15.w 3 := by
    have := s41.1.2.2
    rw [← eZ42] at this
    omega
  have hw44 : Z44.w 2 = N + 2 ∧ Z44.w 3 = Z15.w 3 := by
    have := s43.1.2.2
    rw [← eZ44] at this
    omega
  have hNC : NC Z15.n N g (N + 2) g45 := by
    unfold NC
    rw [hsd.row 32 (by decide), hsd.row 43 (by decide), K43 32 (by decide), K43 43 (by decide)]
    refine ⟨fun c hc1 hc2 => ?_, fun c hc => ⟨A 32 c (by omega) (by decide), A 43 c (by omega) (by decide)⟩⟩
    by_cases x1 : c = c1
    · rw [x1, w32a]
      omega
    · rw [show c = c2 by omega, w32b]
      omega
  refine h Z44 g45 hw44.1 ⟨fun j k hn => ?_, hsd.2.1, ?_, ?_, hNC⟩ ?_ hw44.2
  · have u0 : g45 j k = g43 j k := by
      refine hsd.1 j k (fun z => hn (Or.inl ?_))
      rcases z with ⟨z1, z2⟩ | z
      · left
        refine ⟨z1, ?_⟩
        rw [rows43 32 (by omega), rows41 32 (by omega)] at z2
        by_cases hk : k < N
        · rw [old 32 k hk (by decide)] at z2
          exact z2
        · exfalso
          have := cRows_r z1
          exact hn (Or.inr (Or.inl ⟨by omega, by omega, by omega⟩))
      · exact Or.inr z
    have u1 : g43 j k = g41 j k := by
      by_cases hj : j ∈ [384, 385, 386, 1728, 1729]
      · simp only [List.mem_cons, List.not_mem_nil, or_false] at hj
        unfold own2 at hn
        rcases hj with e | e | e | e | e
        · subst e
          exact (o43 k 0 (by omega)).2.1
        · subst e
          exact (o43 k 0 (by omega)).2.2
        · subst e
          exact (s43.2.1 k (by omega)).1
        · subst e
          have := (o43 (k / 16777216) (k % 16777216) (by omega)).1 (by omega)
          rw [show 16777216 * (k / 16777216) + k % 16777216 = k from Nat.div_add_mod k 16777216] at this
          exact this
        · subst e
          exact (s43.2.1 k (by omega)).2
      · rw [k43 j hj]
    have u2 : g41 j k = g39 j k := by
      by_cases hj : j ∈ [384, 385, 386, 1728, 1729]
      · simp only [List.mem_cons, List.not_mem_nil, or_false] at hj
        unfold own2 at hn
        rcases hj with e | e | e | e | e
        · subst e
          exact (o41 k 0 (by omega)).2.1
        · subst e
          exact (o41 k 0 (by omega)).2.2
        · subst e
          exact (s41.2.1 k (by omega)).1
        · subst e
          have := (o41 (k / 16777216) (k % 16777216) (by omega)).1 (by omega)
          rw [show 16777216 * (k / 16777216) + k % 16777216 = k from Nat.div_add_mod k 16777216] at this
          exact this
        · subst e
          exact (s41.2.1 k (by omega)).2
      · rw [k41 j hj]
    rw [u0, u1, u2]
    unfold own2 at hn
    exact A j k (by omega) (by omega)
  · have := hsd.2.2.1
    omega
  · refine Nat.le_trans (opL_le hsd.2.2.2 (hsd.row 386 (by decide)) (hsd.row 1728 (by decide))) O43
  · obtain ⟨⟨x1, x2, x3, x4⟩, x5⟩ := s41.step (n := Z15.n) (by omega) (by rw [e386]; exact (hsz _ (by omega)).1)
    obtain ⟨⟨y1, y2, y3, y4⟩, y5⟩ := s43.step (n := Z15.n) (by omega) (by rw [ez41]; exact (hsz _ (by omega)).1)
    have z45 : szT Z15.n g45 = szT Z15.n g43 := by
      unfold szT
      rw [hsd.row 386 (by decide)]
    have z39 : szT Z15.n g39 = szT Z15.n g := by
      unfold szT
      rw [e386]
    have w0a := hz15.2.2.2.1
    have w0b := hz19.2.2.2.1
    rw [← eZ42] at x4
    rw [← eZ44] at y4
    refine ⟨by rw [eZ44]; exact s43.1.1.trans hn42, fun q => ?_, by omega, by omega⟩
    unfold capI
    rw [hsd.row 386 (by decide), hsd.row 1729 (by decide)]
    refine y5 (x5 ?_)
    unfold capI
    rw [e386, e1729]
    exact q
