/-! cells are put on the links; the room -/
theorem dN_eq {N e : Nat} {g g1 : mSt} (a : g1 32 = g 32) (b : g1 48 = g 48) (c : g1 49 = g 49) : dN N g1 e = dN N g e := smN_eq (fun q _ => by rw [a, dW_eq (by rw [b]) (by rw [c])])
theorem MV.put {t u : Int} {R B : Nat → Nat} {p : Nat → Prop} {Z : cZ} {g g1 : mSt} {f : Nat} {r : Int32} (h : MV t R B u p Z g) (hJ : cJ Z g) (hf : f < Z.n) (hp : ¬ p f) (k : PA g g1 (2 * f) 4) (hpo : po_kputCells Z (2 * f) g r g1) : MV t R B u (fun x => x = f ∨ p x) Z g1 := by
  have kk := hpo.2.1
  obtain ⟨q1, q2, ⟨q3, q4⟩, z, ⟨q5, q6, q7⟩, q8⟩ := k
  have ss := put_sS (n := Z.n) (f := f) hpo
  have sc := put_sC (n := Z.n) (N := Z.w 2) hpo
  have := h.one (δ := 0) (R1 := R) (B1 := B) (p1 := fun x => x = f ∨ p x) (Z1 := Z) (g1 := g1) hf (sc.ci h.hc (cJ_z hJ)) (rS.rf (kk 386 (by decide)) (kk 1729 (by decide))) (kk 1216 (by decide)) (fun e he hne => ⟨put_sE (by omega) hpo, put_sS hpo, put_sD (by omega) hpo⟩) (fun x hx => ⟨rfl, rfl, ⟨fun z => z.elim (fun w => absurd w hx) id, Or.inr⟩⟩) (fun h0 k1 k2 k3 k4 k5 k6 => ?_)
  · rw [Int.add_zero] at this
    exact this
  · have p0 := k3 hp
    have hE := put_E (N := Z.w 2) hpo q1 h0.1
    have ev : EV g1 (R f) f := by
      obtain ⟨⟨a, b, c, d⟩, x, y⟩ := k4
      refine ⟨⟨li_fr kk (by decide) f a, fun c' hc' => ?_, by rw [uLn_fr kk (by decide)]; exact c, fun c' hc' => d c' (List.mem_of_mem_drop (by rw [q1] at hc'; exact hc'))⟩, by rw [kk 135 (by decide)]; exact x, by rw [ro_eq (kk 170 (by decide)) (kk 1280 (by decide))]; exact y⟩
      rw [kk 32 (by decide)] at hc'
      rw [kk 43 (by decide)]
      exact b c' hc'
    have od : OD g1 f := ⟨⟨q3.1, by have := k6.1.2; omega⟩, q2, fun x hx => by rw [kk 544 (by decide)]; exact k6.2.2 x hx⟩
    have e1 : dN (Z.w 2) g1 f = dN (Z.w 2) g f := dN_eq (kk 32 (by decide)) (kk 48 (by decide)) (kk 49 (by decide))
    have e2 : asN (Z.w 2) g1 f = asN (Z.w 2) g f := asN_eq (kk 32 (by decide)) (kk 36 (by decide)) (kk 46 (by decide))
    have e3 : LT Z.n g1 t = LT Z.n g t := sc.lt h.hc (cJ_z hJ)
    rcases q8 with ⟨qz, ⟨qa, qb⟩, qc⟩ | qd
    · refine ⟨(h0.1, h0.2.1, h0.2.2.1, altL h0.1 (lt4 (qL g (2 * (2 * f)))), 6000 * (altN h0.1 (lt4 (qL g (2 * (2 * f)))) : Int)), ⟨ev, k5.sm ss, od⟩, k1.sm ss k5.2.2.1.2.2, fun _ => Or.inl ⟨qL g (2 * (2 * f)), k4.1.2.2.2, qc, by rw [q5, qz]; rfl, rfl, rfl⟩, fun z => absurd (Or.inl rfl) z, ?_⟩
      have e4 : dm g1 (2 * f) = dm g (2 * f) := by
        unfold dm qSz
        rw [qa, qb]
      unfold uF XI
      dsimp only
      rw [e1, e2, e3, e4, ss.lk, ss.lf, kk 135 (by decide), p0.1, p0.2]
      omega
    · refine ⟨(h0.1, h0.2.1, h0.2.2.1, altL h0.1 (lt4 (qL g (2 * (2 * f)))), 10700), ⟨ev, k5.sm ss, od⟩, k1.sm ss k5.2.2.1.2.2, fun _ => Or.inr ⟨z, q5, by omega, fun x hx => q7 x hx, rfl⟩, fun z => absurd (Or.inl rfl) z, ?_⟩
      unfold uF XI
      dsimp only
      rw [e1, e2, e3, ss.lk, ss.lf, kk 135 (by decide), p0.1, p0.2]
      omega
theorem MV.odd {t u : Int} {R B : Nat → Nat} {p : Nat → Prop} {Z : cZ} {g g1 : mSt} {d : Nat} {r : Int32} (h : MV t R B u p Z g) (hJ : cJ Z g) (hd : d % 2 = 1) (hpo : po_kputCells Z d g r g1) : MV t R B u p Z g1 := by
  have kk := hpo.2.1
  have sc := put_sC (n := Z.n) (N := Z.w 2) hpo
  have hn := h.hn
  have se : ∀ e, sE e (Z.w 2) g (Z.w 2) g1 := fun e => put_sE (by omega) hpo
  have ss : ∀ e, sS Z.n e g g1 := fun e => put_sS hpo
  have sd : ∀ e, sD e g g1 := fun e => put_sD (by omega) hpo
  have := h.one (δ := 0) (R1 := R) (B1 := B) (p1 := p) (Z1 := Z) (g1 := g1) (s := 0) (by omega) (sc.ci h.hc (cJ_z hJ)) (rS.rf (kk 386 (by decide)) (kk 1729 (by decide))) (kk 1216 (by decide)) (fun e _ _ => ⟨se e, ss e, sd e⟩) (fun _ _ => ⟨rfl, rfl, Iff.rfl⟩) (fun h0 k1 k2 k3 k4 k5 k6 => ⟨h0, ⟨k4.sm (se 0).1, k5.sm (ss 0), (sd 0).od k6⟩, k1.sm (ss 0) k5.2.2.1.2.2, fun z => (k2 z).sm (sd 0), k3, ?_⟩)
  · rw [Int.add_zero] at this
    exact this
  · rw [uF.sm (se 0) (ss 0) (sd 0)]
    unfold XI
    rw [sc.lt h.hc (cJ_z hJ)]
    omega
/-- time and the number of idle cells don't count -/
theorem MV.fr {t u : Int} {R B : Nat → Nat} {p : Nat → Prop} {Z : cZ} {g g1 : mSt} {M : List Nat} (h : MV t R B u p Z g) (k : mFr M g g1) (hM : (M.all fun j => (decide (131 ≤ j) && decide (j ≤ 134)) || (decide (340 < j) && decide (j < 380)) || (decide (1088 ≤ j) && decide (j ≤ 1184))) = true) : MV t R B u p Z g1 := by
  have q : ∀ j, ¬ ((131 ≤ j ∧ j ≤ 134) ∨ (340 < j ∧ j < 380) ∨ (1088 ≤ j ∧ j ≤ 1184)) → g1 j = g j := fun j hj => k j (fun z => hj (by
    have := List.all_eq_true.mp hM j z
    simp only [Bool.or_eq_true, Bool.and_eq_true, decide_eq_true_eq] at this
    omega))
  have hn := h.hn
  have se : ∀ e, sE e (Z.w 2) g (Z.w 2) g1 := fun e => by
    refine ⟨⟨fun j hj => by rw [q j (by omega)], fun j x hj _ => by rw [q j (by omega)], fun j x hj _ => by rw [q j (by omega)], ⟨by rw [q 66 (by omega)], by rw [q 67 (by omega)], fun j x hj _ => by rw [q j (by omega)]⟩, by rw [q 111 (by omega)], Nat.le_refl _, fun c _ => ⟨by rw [q 32 (by omega)], by rw [q 43 (by omega)], fun _ => ⟨by rw [q 36 (by omega)], by rw [q 42 (by omega)], by rw [q 46 (by omega)]⟩⟩, fun c h1 h2 => by exfalso; omega, fun c _ => ⟨by rw [q 32 (by omega)], by rw [q 43 (by omega)]⟩⟩, fun c _ _ => ⟨by rw [q 48 (by omega)], by rw [q 49 (by omega)]⟩⟩
  have ss : ∀ e, sS Z.n e g g1 := fun e => ⟨fun j hj => by rw [q j (by omega)], fun j x hj _ => by rw [q j (by omega)], fun j h1 h2 => by rw [q j (by omega)], fun j x hj _ => by rw [q j (by omega)]⟩
  have sd : ∀ e, sD e g g1 := fun e => ⟨⟨by rw [q 106 (by omega)], by rw [q 101 (by omega)], by rw [q 67 (by omega)]⟩, fun x _ => by rw [q 544 (by omega)], fun j x hj _ => by rw [q j (by omega)]⟩
  have ci : CI Z.n (Z.w 2) g1 ∧ LT Z.n g1 t = LT Z.n g t := by
    have r : ∀ j, j ∈ coreR → g1 j = g j := fun j hj => q j (by
      unfold coreR at hj
      simp only [List.mem_cons, List.not_mem_nil, or_false] at hj
      omega)
    constructor
    · have hc := h.hc
      unfold CI CL CP rtL lsZ lsE dyg at hc ⊢
      rw [r 32 (by decide), r 33 (by decide), r 34 (by decide), r 36 (by decide), r 38 (by decide), r 43 (by decide), r 323 (by decide), r 386 (by decide), r 1728 (by decide)]
      exact hc
    · unfold LT lfL lf lsZ lsE cEx
      rw [r 36 (by decide), r 41 (by decide), r 42 (by decide), r 386 (by decide), r 1728 (by decide)]
  have := h.one (δ := 0) (R1 := R) (B1 := B) (p1 := p) (Z1 := Z) (g1 := g1) (s := 0) (by omega) ci.1 (rS.rf (q 386 (by omega)) (q 1729 (by omega))) (q 1216 (by omega)) (fun e _ _ => ⟨se e, ss e, sd e⟩) (fun _ _ => ⟨rfl, rfl, Iff.rfl⟩) (fun h0 k1 k2 k3 k4 k5 k6 => ⟨h0, ⟨k4.sm (se 0).1, k5.sm (ss 0), (sd 0).od k6⟩, k1.sm (ss 0) k5.2.2.1.2.2, fun z => (k2 z).sm (sd 0), k3, ?_⟩)
  · rw [Int.add_zero] at this
    exact this
  · rw [uF.sm (se 0) (ss 0) (sd 0)]
    unfold XI
    rw [ci.2]
    omega
/-! the room -/
theorem uF_lb {n N f : Nat} {t : Int} {g : mSt} {h : Gh} (hw : 0 ≤ h.2.2.2.2) (h40 : (g 135 f).toInt ≤ 40) : -63360 ≤ uF n N g t h f := by
  have a := @lkT_b h.1 h.2.1 g (n + f)
  have b := @lfG_20 g t (n + f)
  unfold uF
  omega
theorem smN_c {n k : Nat} {F z : Nat → Nat} (h : ∀ x, x < n → F x ≤ k * z x) : smN n F ≤ k * smN n z := by
  induction n with
  | zero => exact Nat.zero_le _
  | succ n ih =>
    show smN n F + F n ≤ k * (smN n z + z n)
    rw [Nat.mul_add]
    exact Nat.add_le_add (ih (fun x hx => h x (by omega))) (h n (by omega))
theorem smN_b {n k : Nat} {F : Nat → Nat} (h : ∀ x, x < n → F x ≤ k) : smN n F ≤ n * k := by
  induction n with
  | zero => exact Nat.zero_le _
  | succ n ih =>
    show smN n F + F n ≤ (n + 1) * k
    rw [Nat.add_mul, Nat.one_mul]
    exact Nat.add_le_add (ih (fun x hx => h x (by omega))) (h n (by omega))
theorem LT_b {n N : Nat} {t : Int} {g : mSt} (h : CL n N g) (hn : n ≤ 4) : LT n g t ≤ 192 := by
  have : LT n g t ≤ n * 48 := smN_b (fun f hf => by
    have a : lfL g t (n + f) ≤ 16 * opL g (n + f) := smN_c (fun p _ => by
      have := @lf_16 g t (lsE g (n + f) p)
      split
      · rename_i z
        unfold lf
        rw [if_pos z]
        exact Nat.zero_le _
      · omega)
    have b := opL_3 h hf
    omega)
  omega
theorem MV.bd {t u : Int} {R B : Nat → Nat} {p : Nat → Prop} {Z : cZ} {g : mSt} (h : MV t R B u p Z g) : 5 * XI Z.n t Z g + 6 * (Z.w 3 : Int) ≤ u + 253440 := by
  obtain ⟨G, hn, _, _, _, ev, hG, hU⟩ := h
  have hw : ∀ f, f < Z.n → 0 ≤ (G f).2.2.2.2 := fun f hf => by
    obtain ⟨_, a, b⟩ := hG f hf
    by_cases q : p f
    · rcases a q with ⟨l, _, _, _, _, e⟩ | ⟨z, _, _, _, e⟩
      · rw [e]
        omega
      · rw [e]
        omega
    · rw [(b q).2]
      omega
  have lb := smZ_lb (n := Z.n) (F := fun f => uF Z.n (Z.w 2) g t (G f) f) (b := -63360) (fun f hf => uF_lb (hw f hf) (ev f hf).1.2.1)
  unfold UU at hU
  omega
theorem smN_lin {n : Nat} {F z : Nat → Nat} (h : ∀ x, x < n → 8 * F x ≤ 39 * z x + 348) : 8 * smN n F ≤ 39 * smN n z + 348 * n := by
  induction n with
  | zero => exact Nat.zero_le _
  | succ n ih =>
    have a := ih (fun x hx => h x (by omega))
    have b := h n (by omega)
    show 8 * (smN n F + F n) ≤ 39 * (smN n z + z n) + 348 * (n + 1)
    omega
theorem RM_of {TC TS : Nat} {Z : cZ} {g : mSt} (hJ : cJ Z g) (hn : 2 ≤ Z.n ∧ Z.n ≤ 4) (hcap : capI Z.n g) (hsz : szT Z.n g ≤ Z.w 2) (hw0 : 121 * Z.w 0 ≤ 121 * (Z.w 2 + szT Z.n g) + Z.w 3) (hK : 120 * (Z.w 2 : Int) + 6 * (Z.w 3 : Int) ≤ 35800000) (hTC : 596700 ≤ TC) (hTS : 6826000 ≤ TS) : RM Z g TC TS := by
  have hd5 := hJ.2.2.2.2.1
  have hw := hd5.1
  have one : ∀ s, s < 2 * Z.n → 8 * Z.w (10 + s) ≤ 39 * (g 386 s).toInt.toNat + 348 ∧ ∃ n, gNd g s n ∧ 8 * (Z.w (10 + s) + n) ≤ 39 * (g 386 s).toInt.toNat + 348 := fun s hs => by
    have a := (hd5.2 s hs).2
    have b := hJ.2.2.1 s hs
    have c := hcap s hs
    have z1 : (g 386 s).toInt.toNat ≤ szT Z.n g := by
      have : ∀ m, s < m → (g 386 s).toInt.toNat ≤ smN m (fun s => (g 386 s).toInt.toNat) := fun m => by
        induction m with
        | zero => exact fun z => absurd z (Nat.not_lt_zero _)
        | succ m ih =>
          intro hm
          show _ ≤ smN m (fun s => (g 386 s).toInt.toNat) + (g 386 m).toInt.toNat
          by_cases e : s = m
          · rw [e]
            omega
          · have := ih (by omega)
            omega
      exact this (2 * Z.n) hs
    have l6 : (g 386 s).toInt ≤ 6000000 := by omega
    refine ⟨by omega, ?_⟩
    by_cases q : (g 386 s).toInt = (g 1729 s).toInt
    · exact ⟨((g 386 s).toInt.toNat * 3 + 1) / 2 + 10, ⟨l6, fun _ => ⟨by omega, by omega⟩⟩, by omega⟩
    · exact ⟨0, ⟨l6, fun z => absurd z q⟩, by omega⟩
  have sums : Z.w 10 + Z.w 11 + Z.w 12 + Z.w 13 + Z.w 14 + Z.w 15 + Z.w 16 + Z.w 17 = smN (2 * Z.n) (fun x => Z.w (10 + x)) := by
    have z := hw.2.2.2.2
    rcases (by omega : Z.n = 2 ∨ Z.n = 3 ∨ Z.n = 4) with e | e | e
    · rw [e] at z ⊢
      have := z 14 (by omega) (by omega)
      have := z 15 (by omega) (by omega)
      have := z 16 (by omega) (by omega)
      have := z 17 (by omega) (by omega)
      show _ = 0 + Z.w 10 + Z.w 11 + Z.w 12 + Z.w 13
      omega
    · rw [e] at z ⊢
      have := z 16 (by omega) (by omega)
      have := z 17 (by omega) (by omega)
      show _ = 0 + Z.w 10 + Z.w 11 + Z.w 12 + Z.w 13 + Z.w 14 + Z.w 15
      omega
    · rw [e]
      show _ = 0 + Z.w 10 + Z.w 11 + Z.w 12 + Z.w 13 + Z.w 14 + Z.w 15 + Z.w 16 + Z.w 17
      omega
  have hw1 := hw.2.2.1
  rw [sums] at hw1
  have lin := smN_lin (n := 2 * Z.n) (F := fun x => Z.w (10 + x)) (z := fun x => (g 386 x).toInt.toNat) (fun x hx => (one x hx).1)
  have ez : smN (2 * Z.n) (fun x => (g 386 x).toInt.toNat) = szT Z.n g := rfl
  rw [ez] at lin
  refine ⟨by omega, by omega, by omega, fun s s' hne hs hs' => ?_⟩
  obtain ⟨_, n1, x1, x2⟩ := one s hs
  obtain ⟨_, n2, y1, y2⟩ := one s' hs'
  refine ⟨n1, n2, x1, y1, ?_⟩
  have f1 := smN_updn (n := 2 * Z.n) (F := fun x => Z.w (10 + x)) (F1 := fun x => if x = s then Z.w (10 + s) + n1 else Z.w (10 + x)) (s := s) (d := n1) (fun q _ hq => if_neg hq) hs (if_pos rfl)
  have f2 := smN_updn (n := 2 * Z.n) (F := fun x => if x = s then Z.w (10 + s) + n1 else Z.w (10 + x)) (F1 := fun x => if x = s' then Z.w (10 + s') + n2 else if x = s then Z.w (10 + s) + n1 else Z.w (10 + x)) (s := s') (d := n2) (fun q _ hq => if_neg hq) hs' (by
    show (if s' = s' then Z.w (10 + s') + n2 else _) = (if s' = s then _ else Z.w (10 + s')) + n2
    rw [if_pos rfl, if_neg (fun z => hne z.symm)])
  have lin2 := smN_lin (n := 2 * Z.n) (F := fun x => if x = s' then Z.w (10 + s') + n2 else if x = s then Z.w (10 + s) + n1 else Z.w (10 + x)) (z := fun x => (g 386 x).toInt.toNat) (fun x hx => by
    show 8 * (if x = s' then Z.w (10 + s') + n2 else if x = s then Z.w (10 + s) + n1 else Z.w (10 + x)) ≤ _
    by_cases c1 : x = s'
    · rw [if_pos c1, c1]
      exact y2
    · rw [if_neg c1]
      by_cases c2 : x = s
      · rw [if_pos c2, c2]
        exact x2
      · rw [if_neg c2]
        exact (one x hx).1)
  rw [ez] at lin2
  omega
/-- a world that grew from one that is counted -/
theorem MV.rx {TC TS : Nat} {t u : Int} {R B : Nat → Nat} {p : Nat → Prop} {Z Z1 : cZ} {g g1 : mSt} (h : MV t R B u p Z g) (hu : u ≤ 35543000) (hTC : 596700 ≤ TC) (hTS : 6826000 ≤ TS) (hJ : cJ Z1 g1) (hrs : rS Z g Z1 g1) (hci : CI Z.n (Z1.w 2) g1) (hx : 5 * XI Z.n t Z1 g1 + 6 * (Z1.w 3 : Int) ≤ 5 * XI Z.n t Z g + 6 * (Z.w 3 : Int) + 2000) : RM Z1 g1 TC TS := by
  have bd := h.bd
  obtain ⟨G, hn, _, ⟨c1, c2, c3⟩, _⟩ := h
  have n1 : Z1.n = Z.n := hrs.1
  have r1 := hrs.2.2.1
  have r2 := hrs.2.2.2
  have lb := LT_b (t := t) hci.1 hn.2
  refine RM_of hJ (by rw [n1]; exact hn) (by rw [n1]; exact hrs.2.1 c1) (by rw [n1]; omega) (by rw [n1]; omega) ?_ hTC hTS
  have e : XI Z.n t Z1 g1 = 24 * (Z1.w 2 : Int) - (LT Z.n g1 t : Int) := rfl
  omega
theorem MV.rm {TC TS : Nat} {t u : Int} {R B : Nat → Nat} {p : Nat → Prop} {Z : cZ} {g : mSt} (h : MV t R B u p Z g) (hJ : cJ Z g) (hu : u ≤ 35543000) (hTC : 596700 ≤ TC) (hTS : 6826000 ≤ TS) : RM Z g TC TS := h.rx hu hTC hTS hJ (rS.rf rfl rfl) h.hc (by omega)
