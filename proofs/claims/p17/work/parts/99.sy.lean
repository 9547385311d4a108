/-! damages, and lines that are asked to begin anew or to end -/
theorem s_addDam {Z : cZ} {d : Nat} {p1 p2 p3 p4 : Int32} {g : mSt} {Φ : Int32 → mSt → Prop} (hm : p1.toInt = 1 → oct p4) (h0 : Φ (-3) g) (h : ∀ r g1, ((g1 106 d).toInt = (g 106 d).toInt + 1 ∧ (g1 106 d).toInt ≤ 8) → (OK7 g d → OK7 g1 d) → Φ r g1) : wp_kaddDamage Z d p1 p2 p3 p4 g Φ := by
  intro v1 e1 r1
  refine ⟨fun c g6 e6 v9 _ _ v10 _ _ g11 e11 g14 e14 g18 e18 v20 _ r20 t20 g22 e22 => h v20 g22 ⟨by rw [e22, up2_i, t20, e1], ?_⟩ (fun ok i hi hk => ?_), fun _ => h0⟩
  · rw [e22, up2_i]
    exact r20.2
  · have a640 : ∀ x, g22 640 x = g6 640 x := fun x => by rw [e22, up2_o (by decide), e18, up2_o (by decide), e14, up2_o (by decide), e11, up2_o (by decide)]
    have a736 : ∀ x, g22 736 x = g18 736 x := fun x => by rw [e22, up2_o (by decide)]
    have b736 : ∀ x, g14 736 x = g 736 x := fun x => by rw [e14, up2_o (by decide), e11, up2_o (by decide), e6, up2_o (by decide)]
    rw [a640, e6] at hk
    rw [a736, e18]
    by_cases w : 8192 * d + i = 8192 * d + v1.toNatClampNeg
    · rw [w, up2_i] at hk
      rw [w, up2_i]
      exact hm hk
    · rw [up2_n w] at hk
      rw [up2_n w, b736]
      exact ok i hi hk
theorem MV.m1 {t u : Int} {R B : Nat → Nat} {p : Nat → Prop} {Z : cZ} {g g1 : mSt} {d : Nat} (h : MV t R B u p Z g) (hJ : cJ Z g) (hd : d < 2 * Z.n) (hx : (g1 106 d).toInt = (g 106 d).toInt + 1 ∧ (g1 106 d).toInt ≤ 8) (hok : OK7 g d → OK7 g1 d) (k : mFr [106, 640, 672, 704, 736] g g1) (hi : mFi [(106, d, 1), (640, d, 8192), (672, d, 8192), (704, d, 8192), (736, d, 8192)] g g1) (hpp : ∀ f, ¬ p f) : MV t R B (u + 10700) p Z g1 := by
  have hn := h.hn
  have se : ∀ e, sE e (Z.w 2) g (Z.w 2) g1 := fun e => ⟨⟨fun j hj => by rcases hj with hj | hj | hj | hj | hj | hj <;> subst hj <;> rw [k _ (by decide)], fun j x hj _ => by rcases hj with hj | hj <;> subst hj <;> rw [k _ (by decide)], fun j x hj _ => by rcases hj with hj | hj <;> subst hj <;> rw [k _ (by decide)], ⟨by rw [k 66 (by decide)], by rw [k 67 (by decide)], fun j x hj _ => by rcases hj with hj | hj <;> subst hj <;> rw [k _ (by decide)]⟩, by rw [k 111 (by decide)], Nat.le_refl _, fun c _ => ⟨by rw [k 32 (by decide)], by rw [k 43 (by decide)], fun _ => ⟨by rw [k 36 (by decide)], by rw [k 42 (by decide)], by rw [k 46 (by decide)]⟩⟩, fun c h1 h2 => by exfalso; omega, fun c _ => ⟨by rw [k 32 (by decide)], by rw [k 43 (by decide)]⟩⟩, fun c _ _ => ⟨by rw [k 48 (by decide)], by rw [k 49 (by decide)]⟩⟩
  have ss : ∀ f, sS Z.n f g g1 := fun f => ⟨fun j hj => by rcases hj with hj | hj | hj | hj <;> subst hj <;> rw [k _ (by decide)], fun j x hj _ => by rcases hj with hj | hj <;> subst hj <;> rw [k _ (by decide)], fun j h1 h2 => by rw [k j (by simp only [List.mem_cons, List.not_mem_nil, or_false]; omega)], fun j x hj _ => by rcases hj with hj | hj <;> subst hj <;> rw [k _ (by decide)]⟩
  have sc : sC Z.n (Z.w 2) g (Z.w 2) g1 := ⟨Nat.le_refl _, fun c _ => ⟨by rw [k 32 (by decide)], fun _ j hj => by rw [k j (by simp only [List.mem_cons, List.not_mem_nil, or_false]; omega)]⟩, fun c h1 h2 => by exfalso; omega, fun f _ => ⟨by rw [k 323 (by decide)], by rw [k 386 (by decide)], fun p _ => by rw [k 1728 (by decide)]⟩⟩
  have sd : ∀ f, 2 * f ≠ d → sD f g g1 := fun f hf => ⟨⟨hi.out (by simp [mOut]; omega), by rw [k 101 (by decide)], by rw [k 67 (by decide)]⟩, fun x _ => by rw [k 544 (by decide)], fun j x hj hx => by rcases hj with hj | hj | hj <;> subst hj <;> exact hi.out (by simp [mOut]; try omega)⟩
  by_cases par : d % 2 = 0
  · obtain ⟨f, ef⟩ : ∃ f, d = 2 * f := ⟨d / 2, by omega⟩
    subst ef
    refine h.one (δ := 10700) (R1 := R) (B1 := B) (p1 := p) (Z1 := Z) (g1 := g1) (s := f) (by omega) (sc.ci h.hc (cJ_z hJ)) (rS.rf (k 386 (by decide)) (k 1729 (by decide))) (k 1216 (by decide)) (fun e _ hne => ⟨se e, ss e, sd e (by omega)⟩) (fun _ _ => ⟨rfl, rfl, Iff.rfl⟩) (fun h0 k1 k2 k3 k4 k5 k6 => ⟨h0, ⟨k4.sm (se f).1, k5.sm (ss f), ⟨by have := k6.1; omega, hok k6.2.1, by rw [k 544 (by decide)]; exact k6.2.2⟩⟩, k1.sm (ss f) k5.2.2.1.2.2, fun z => absurd z (hpp f), k3, ?_⟩)
    have e1 : dm g1 (2 * f) ≤ dm g (2 * f) + 1 := by
      unfold dm qSz
      rw [k 67 (by decide)]
      omega
    unfold uF XI
    rw [(se f).1.pe, (se f).d, (se f).1.pa, (se f).1.1 135 (by omega), (ss f).lk, (ss f).lf, sc.lt h.hc (cJ_z hJ)]
    omega
  · refine h.one (δ := 10700) (R1 := R) (B1 := B) (p1 := p) (Z1 := Z) (g1 := g1) (s := 0) (by omega) (sc.ci h.hc (cJ_z hJ)) (rS.rf (k 386 (by decide)) (k 1729 (by decide))) (k 1216 (by decide)) (fun e _ hne => ⟨se e, ss e, sd e (by omega)⟩) (fun _ _ => ⟨rfl, rfl, Iff.rfl⟩) (fun h0 k1 k2 k3 k4 k5 k6 => ⟨h0, ⟨k4.sm (se 0).1, k5.sm (ss 0), (sd 0 (by omega)).od k6⟩, k1.sm (ss 0) k5.2.2.1.2.2, fun z => absurd z (hpp 0), k3, ?_⟩)
    rw [uF.sm (se 0) (ss 0) (sd 0 (by omega))]
    unfold XI
    rw [sc.lt h.hc (cJ_z hJ)]
    omega
theorem i_damage {K : Nat} {Z : cZ} {p1 p2 p3 p4 p5 : Int32} {g : mSt} {Φ : Int32 → mSt → Prop} (h : MI K Z g) (hJ : cJ Z g) (k : ∀ r g1, MI (K + 1) Z g1 → Φ r g1) : wp_kdamage Z 0 p1 p2 p3 p4 p5 g Φ := by
  have k0 : ∀ r, Φ r g := fun r => k r g h.sc
  obtain ⟨t, ht, mv, h362, hT⟩ := h
  have fin : ∀ r g1, p1.toInt.toNat < 2 * Z.n → ((g1 106 p1.toInt.toNat).toInt = (g 106 p1.toInt.toNat).toInt + 1 ∧ (g1 106 p1.toInt.toNat).toInt ≤ 8) → (OK7 g p1.toInt.toNat → OK7 g1 p1.toInt.toNat) → po_kaddDamage Z p1.toInt.toNat p2 p3 p4 p5 g r g1 → Φ r g1 := fun r g1 hd hx hok hpo => k r g1 (MI.go ht (mv.m1 hJ hd hx hok hpo.2.1 hpo.1 (fun _ z => z)) (by rw [tp_eq (hpo.2.1 361 (by decide))]; omega) (by rw [hpo.2.1 362 (by decide)]; exact h362) (by rw [hpo.2.1 1152 (by decide)]; exact hT))
  refine s_isDir (fun _ => ⟨fun _ => k0 _, fun z => absurd rfl z⟩) (fun _ cn _ => ⟨fun z => absurd z (by decide), fun _ => ⟨fun _ => k0 _, fun _ => ⟨fun _ => k0 _, fun _ => ⟨fun _ => k0 _, fun _ => ⟨fun _ => ⟨fun n1 => s_addDam (fun z => absurd z n1) (fun _ => k0 _) (fun r g1 a b hpo => fin r g1 cn a b hpo), fun _ => ⟨fun _ => k0 _, fun _ => ⟨fun _ => k0 _, fun _ => ⟨fun _ => k0 _, fun c5 => ⟨fun c255 => s_addDam (fun _ => ⟨by omega, c255⟩) (fun _ => k0 _) (fun r g1 a b hpo => fin r g1 cn a b hpo), fun _ => k0 _⟩⟩⟩⟩⟩, fun _ => k0 _⟩⟩⟩⟩⟩)
theorem e_askR {Z : cZ} {e : Nat} {p1 p2 p3 : Int32} {g g0 : mSt} {Ψ : mSt → Prop} (he : e < Z.n) (hp : p1.toInt ≠ 2) (ef : efR e (Z.w 2) g0 g) (h : ∀ g1, efR e (Z.w 2) g0 g1 → (∀ j, j = 362 ∨ j = 1152 ∨ j = 361 → g1 j = g j) → Ψ g1) : wp_kask Z e p1 p2 p3 g (fun _ g1 => po_kask Z e p1 p2 p3 g 0 g1 → Ψ g1) := by
  refine wc_kask (Φ := fun _ g1 => po_kask Z e p1 p2 p3 g 0 g1 → eSt (Z.w 2) e g0 g1) (Ψ := fun _ _ => True) (fun r g1 a _ hpo => ?_) (e_ask he hp ef.1 (fun g1 s => s)) (wt_kask (fun _ _ => trivial))
  have k1 := hpo.2.1
  refine h g1 ⟨a hpo, ef.2.1.tr (fB_ask he hpo.1 k1), by rw [ro_eq (k1 170 (by decide)) (k1 1280 (by decide))]; exact ef.2.2.1, by rw [k1 386 (by decide)]; exact ef.2.2.2.1, by rw [k1 1729 (by decide)]; exact ef.2.2.2.2.1, by rw [k1 135 (by decide)]; exact ef.2.2.2.2.2⟩ (fun j hj => ?_)
  rcases hj with hj | hj | hj <;> subst hj <;> exact k1 _ (by decide)
/-- a side of the switch, with some lives less -/
def sfD (δ n N f : Nat) (t : Int) (g g1 : mSt) : Prop := (CI n N g1 ∧ lnI t g1 (n + f)) ∧ 5 * LT n g t + 12 * lfG g t (n + f) ≤ 5 * LT n g1 t + 12 * lfG g1 t (n + f) + δ ∧ ((∀ x, x / 8192 = 2 * (n + f) + 1 → g1 1248 x = g 1248 x ∧ g1 1280 x = g 1280 x) ∧ FA n f N g g1) ∧ (g1 32 = g 32 ∧ g1 43 = g 43) ∧ g1 386 = g 386 ∧ g1 1729 = g 1729 ∧ g1 1216 = g 1216 ∧ ∀ j, (225 ≤ j ∧ j ≤ 235) ∨ j = 800 ∨ j = 512 → g1 j = g j
theorem MV.s2 {t u : Int} {R B : Nat → Nat} {p : Nat → Prop} {Z : cZ} {g g1 : mSt} {f δ : Nat} (h : MV t R B u p Z g) (hf : f < Z.n) (k : sfD δ Z.n (Z.w 2) f t g g1) : MV t R B (u + (δ : Int)) p Z g1 := by
  obtain ⟨⟨hci, hln⟩, hlt, ⟨hah, fa⟩, ⟨h32, h43⟩, h386, h1729, h1216, hrw⟩ := k
  have nc : NC Z.n (Z.w 2) g (Z.w 2) g1 := NC.rf.eq h32 h43
  have se : ∀ e, e < Z.n → sE e (Z.w 2) g (Z.w 2) g1 := fun e he => FA_sE he fa (Nat.le_refl _) nc
  have sd : ∀ e, sD e g g1 := fun e => FA_sD fa
  have hrb : ∀ B0, RB B0 g (2 * f) → RB B0 g1 (2 * f) := fun B0 z => by
    unfold RB OA OPl at z ⊢
    rw [hrw 233 (by omega), hrw 225 (by omega), hrw 232 (by omega), hrw 512 (by omega), hrw 800 (by omega)]
    exact z
  have oh : OH g (Z.n + f) → OH g1 (Z.n + f) := fun z x hx => by
    rw [(hah _ (by omega)).1]
    exact z x hx
  have ah : ∀ p, p < 8 → ahd g1 (Z.n + f) p = ahd g (Z.n + f) p := fun p hp => (hah _ (by omega)).2
  have eoc : occ g1 (Z.n + f) = occ g (Z.n + f) := by
    unfold occ
    exact List.countP_congr (fun k hk => by rw [ah k (List.mem_range.mp hk)])
  have eos : osp g1 (Z.n + f) = osp g (Z.n + f) := by
    refine smN_eq (fun p hp => ?_)
    have b : ∀ j, j < 60 → pAt g1 (Z.n + f) p j = pAt g (Z.n + f) p j := fun j hj => (hah _ (by omega)).1
    have : su19 g1 (Z.n + f) p ↔ su19 g (Z.n + f) p := by
      unfold su19 suB
      rw [ah p hp, b 0 (by omega), b 1 (by omega), b 5 (by omega), b 6 (by omega), b 8 (by omega), b 9 (by omega), b 10 (by omega), b 12 (by omega), b 14 (by omega), b 15 (by omega), b 17 (by omega)]
    by_cases w : su19 g (Z.n + f) p
    · rw [if_pos w, if_pos (this.mpr w)]
    · rw [if_neg w, if_neg (fun z => w (this.mp z))]
  refine h.one (δ := (δ : Int)) (R1 := R) (B1 := B) (p1 := p) (Z1 := Z) (g1 := g1) hf hci (rS.rf h386 h1729) h1216 (fun e he hne => ⟨se e he, FA_sS hne fa, sd e⟩) (fun f _ => ⟨rfl, rfl, Iff.rfl⟩) (fun h0 k1 k2 k3 k4 k5 k6 => ⟨h0, ⟨k4.sm (se f hf).1, ⟨hln, oh k5.2.1, hrb _ k5.2.2⟩, (sd f).od k6⟩, ?_, fun z => (k2 z).sm (sd f), k3, ?_⟩)
  · unfold GH AG GP tiW at k1 ⊢
    rw [hrw 225 (by omega), hrw 231 (by omega), hrw 232 (by omega), hrw 233 (by omega), hrw 234 (by omega), hrw 800 (by omega)]
    exact k1
  · unfold uF XI lkT
    rw [(se f hf).1.pe, (se f hf).d, (se f hf).1.pa, (se f hf).1.1 135 (by omega), (sd f).d, eoc, eos]
    omega
/-- what a step of a side of the switch's leaves -/
def sfB (n N f : Nat) (t : Int) (g g1 : mSt) : Prop := (lnI t g1 (n + f) ∧ lfG g t (n + f) ≤ lfG g1 t (n + f)) ∧ FA n f N g g1 ∧ ∀ j, j ∈ coreR ∨ j = 1248 ∨ j = 1280 ∨ j = 1729 ∨ j = 1216 ∨ j = 362 ∨ j = 1152 ∨ j = 361 ∨ (225 ≤ j ∧ j ≤ 235) ∨ j = 800 ∨ j = 512 → g1 j = g j
theorem sfB.to {n N f : Nat} {t : Int} {g g1 : mSt} (h : sfB n N f t g g1) (hc : CI n N g) : sfD 0 n N f t g g1 := by
  obtain ⟨⟨a, b⟩, c, r⟩ := h
  have e : ∀ j, j ∈ coreR → g1 j = g j := fun j hj => r j (Or.inl hj)
  have lt : LT n g1 t = LT n g t := by
    unfold LT lfL lf lsZ lsE cEx
    rw [e 36 (by decide), e 41 (by decide), e 42 (by decide), e 386 (by decide), e 1728 (by decide)]
  refine ⟨⟨?_, a⟩, by omega, ⟨fun x _ => ⟨by rw [r 1248 (by omega)], by rw [r 1280 (by omega)]⟩, c⟩, ⟨e 32 (by decide), e 43 (by decide)⟩, e 386 (by decide), r 1729 (by omega), r 1216 (by omega), fun j hj => r j (by omega)⟩
  unfold CI CL CP rtL lsZ lsE dyg at hc ⊢
  rw [e 32 (by decide), e 33 (by decide), e 34 (by decide), e 36 (by decide), e 38 (by decide), e 43 (by decide), e 323 (by decide), e 386 (by decide), e 1728 (by decide)]
  exact hc
theorem s_askS {Z : cZ} {f N : Nat} {p1 p2 p3 : Int32} {g g0 : mSt} {Ψ : mSt → Prop} (hp : 0 ≤ p3.toInt) (hp1 : p1.toInt ≠ 2) (b : sfB Z.n N f p3.toInt g0 g) (h : ∀ g1, sfB Z.n N f p3.toInt g0 g1 → Ψ g1) : wp_kask Z (Z.n + f) p1 p2 p3 g (fun _ g1 => po_kask Z (Z.n + f) p1 p2 p3 g 0 g1 → Ψ g1) := by
  refine l_ask (g0 := g) hp hp1 b.1.1 (fun g1 s1 _ hpo => h g1 ⟨⟨s1.1, Nat.le_trans b.1.2 s1.2⟩, b.2.1.tr (Nat.le_refl _) (FA_ask hpo.1), fun j hj => ?_⟩)
  rw [hpo.2.1 j (fun z => ?_)]
  · exact b.2.2 j hj
  · unfold coreR at hj
    simp only [List.mem_cons, List.not_mem_nil, or_false] at hj z
    omega
theorem i_reset {K : Nat} {Z : cZ} {p1 : Int32} {g : mSt} {Φ : Int32 → mSt → Prop} (h : MI K Z g) (hJ : cJ Z g) (k : ∀ r g1, MI (K + 1) Z g1 → Φ r g1) : wp_kreset Z 0 p1 g Φ := by
  have k0 : ∀ r, Φ r g := fun r => k r g h.sc
  obtain ⟨t, ht, mv, h362, hT⟩ := h
  refine s_isSide (fun _ => ⟨fun z => absurd rfl z, fun _ => k0 _⟩) (fun _ cn _ => ⟨fun _ => ⟨fun ce v12 _ _ => ⟨fun _ v16 _ _ => ?_, fun _ => k0 _⟩, fun cs v20 _ _ => ⟨fun _ v24 e24 _ => ?_, fun _ => k0 _⟩⟩, fun z => absurd z (by decide)⟩)
  · exact e_askR ce (by decide) ⟨eSt.rf (mv.ev ce).1.1.2.2.1, fB.rf, Nat.le_refl _, rfl, rfl, rfl⟩ (fun g1 ef fr => k _ g1 (MI.go ht (mv.e1 hJ ce ef) (by rw [tp_eq (fr 361 (by omega))]; omega) (by rw [fr 362 (by omega)]; exact h362) (by rw [fr 1152 (by omega)]; exact hT)))
  · have e24 : v24.toInt = (t : Int) := by rw [e24]; exact h362
    have hf : p1.toInt.toNat - Z.n < Z.n := by omega
    refine s_askS (N := Z.w 2) (g0 := g) (by omega) (by decide) ⟨⟨by rw [e24]; exact (mv.ev hf).2.1.1, Nat.le_refl _⟩, FA.rf, fun _ _ => rfl⟩ (fun g1 b => ?_)
    have d := b.to (by exact mv.hc)
    rw [e24] at d
    exact k _ g1 (MI.go ht (mv.s2 hf d) (by rw [tp_eq (b.2.2 361 (by omega))]; omega) (by rw [b.2.2 362 (by omega)]; exact h362) (by rw [b.2.2 1152 (by omega)]; exact hT))
set_option maxHeartbeats 2000000 in
theorem fB_clr {Z : cZ} {e N : Nat} {b : Bool} {g g1 : mSt} (h : mFi (im_kclearAll_6 Z e) g g1) (hM : mFr [197, 198, 864, 928] g g1) : fB e N b g N g1 := fB.fi h hM (by decide) (fun j k w => by
  refine mOut_all (fun t ht e0 => ?_)
  subst e0
  simp only [im_kclearAll_6, List.mem_cons, List.not_mem_nil, or_false] at ht
  rcases ht with ht | ht | ht | ht
  all_goals
    subst ht
    refine ⟨by simp, fun z => w ?_⟩
    dsimp only at z ⊢
    first
      | exact oB_any (by decide)
      | exact oB_197 z
      | exact oB_198 z
      | exact oB_83 (by decide) z)
set_option maxHeartbeats 2000000 in
theorem FA_clr {Z : cZ} {f N : Nat} {g g1 : mSt} (h : mFi (im_kclearAll_6 Z (Z.n + f)) g g1) : FA Z.n f N g g1 := FA.fi h (fun j k w => by
  refine mOut_all (fun t ht e0 => ?_)
  subst e0
  simp only [im_kclearAll_6, List.mem_cons, List.not_mem_nil, or_false] at ht
  rcases ht with ht | ht | ht | ht
  all_goals
    subst ht
    refine ⟨by simp, fun z => w ?_⟩
    dsimp only at z ⊢
    first
      | exact oA_any (by decide)
      | exact oA_197 z
      | exact oA_198 z
      | exact oA_83 (by decide) z)
theorem stp.w0 {g g1 : mSt} {i d : Nat} (hu : uLn g d = 0) (k : mFr [197, 198, 864, 928] g g1) (h : g1 198 i = 0) : stp g g1 i d := by
  have hw : wtL g1 i = [] := by
    unfold wtL
    rw [h]
    rfl
  refine ⟨fun m => ?_, fun c hc => Or.inl (by rw [← qL_fr k ⟨⟨by decide, by decide⟩, by decide, by decide⟩]; exact hc), by rw [uLn_fr k (by decide)]; exact hu, fun q => ⟨by rw [k 170 (by decide), k 171 (by decide)]; exact q.1, fun j hj => by unfold snt; rw [k 1280 (by decide)]; exact q.2.1 j hj, fun x hx => absurd (show x ∈ ([] : List Int32) by rw [← hw]; exact hx) List.not_mem_nil, by rw [k 832 (by decide)]; exact q.2.2.2.1, by rw [k 1248 (by decide)]; exact q.2.2.2.2⟩⟩
  unfold pot
  rw [qL_fr k ⟨⟨by decide, by decide⟩, by decide, by decide⟩, fl_fr k ⟨by decide, by decide⟩, hw]
  have : n19 [] = 0 := rfl
  omega
theorem i_quit {K : Nat} {Z : cZ} {p1 : Int32} {g : mSt} {Φ : Int32 → mSt → Prop} (h : MI K Z g) (hJ : cJ Z g) (hK : K ≤ 511) (k : ∀ r g1, MI (K + 1) Z g1 → Φ r g1) : wp_kquit Z 0 p1 g Φ := by
  have k0 : ∀ r, Φ r g := fun r => k r g h.sc
  obtain ⟨t, ht, mv, h362, hT⟩ := h
  have alN : ∀ c, Z.al 1 c → c < Z.w 2 := fun c hc => hJ.2.2.2.2.1.1.2.1 c hc
  refine s_isSide (fun _ => ⟨fun z => absurd rfl z, fun _ => k0 _⟩) (fun _ cn _ => ⟨fun _ => ⟨fun ce v12 _ _ => ⟨fun _ => s_clearAll6 (fun g17 h17 hpo17 v18 _ _ => ?_), fun _ => k0 _⟩, fun cs v26 _ _ => ⟨fun _ => s_clearAll6 (fun g31 h31 hpo31 v32 e32 _ => ?_), fun _ => k0 _⟩⟩, fun z => absurd z (by decide)⟩)
  · have k17 := hpo17.2.1
    have hu := (mv.ev ce).1.1.2.2.1
    have s17 : eSt (Z.w 2) p1.toInt.toNat g g17 := (eSt.rf hu).line (stp.w0 hu k17 h17) k17 (by decide)
    refine e_askR ce (by decide) ⟨s17, fB_clr hpo17.1 k17, Nat.le_of_eq (ro_eq (k17 170 (by decide)) (k17 1280 (by decide))), k17 386 (by decide), k17 1729 (by decide), k17 135 (by decide)⟩ (fun g19 ef fr => s_allOverE (N := Z.w 2) (M := Z.w 2) cst.rf (ef.1.2.2.2.2.1 (mv.ev ce).1.1.2.1) (fun g23 s23 hpo23 => ?_))
    have ef2 : efR p1.toInt.toNat (Z.w 2) g g23 := ⟨ef.1.calls s23, ef.2.1.tr (f4.cst s23).fB, by rw [ro_eq (hpo23.2.1 170 (by decide)) (hpo23.2.1 1280 (by decide))]; exact ef.2.2.1, by rw [hpo23.2.1 386 (by decide)]; exact ef.2.2.2.1, by rw [hpo23.2.1 1729 (by decide)]; exact ef.2.2.2.2.1, by rw [hpo23.2.1 135 (by decide)]; exact ef.2.2.2.2.2⟩
    exact k _ g23 (MI.go ht (mv.e1 hJ ce ef2) (by rw [tp_eq (g := g) (g1 := g23) (by rw [hpo23.2.1 361 (by decide), fr 361 (by omega), k17 361 (by decide)])]; omega) (by rw [hpo23.2.1 362 (by decide), fr 362 (by omega), k17 362 (by decide)]; exact h362) (by rw [hpo23.2.1 1152 (by decide), fr 1152 (by omega), k17 1152 (by decide)]; exact hT))
  · have k31 := hpo31.2.1
    have e32 : v32.toInt = (t : Int) := by rw [e32, k31 362 (by decide)]; exact h362
    have hf : p1.toInt.toNat - Z.n < Z.n := by omega
    have l0 : lnI v32.toInt g (Z.n + (p1.toInt.toNat - Z.n)) := by rw [e32]; exact (mv.ev hf).2.1.1
    refine s_askS (N := Z.w 2) (g0 := g) (by omega) (by decide) ⟨⟨?_, ?_⟩, FA_clr hpo31.1, fun j hj => k31 j (fun z => ?_)⟩ (fun g33 b => ?_)
    · unfold lnI at l0 ⊢
      rw [k31 177 (by decide), k31 178 (by decide), k31 180 (by decide)]
      exact l0
    · unfold lfG
      rw [k31 164 (by decide), k31 177 (by decide), k31 178 (by decide), k31 180 (by decide)]
      exact Nat.le_refl _
    · unfold coreR at hj
      simp only [List.mem_cons, List.not_mem_nil, or_false] at hj z
      omega
    · have d := b.to (by exact mv.hc)
      refine s_allOverO hf alN (sst.rf (d := 0) d.1.1) (by omega) (fun g37 x hx _ s37 hpo37 => ?_)
      rw [Nat.zero_add] at s37
      have r : ∀ j, j ∉ cRows ∧ j ≠ 198 ∧ j ≠ 832 ∧ j ≠ 864 → g37 j = g33 j := fun j hj => s37.row j hj
      have d2 : sfD 240 Z.n (Z.w 2) (p1.toInt.toNat - Z.n) v32.toInt g g37 := by
        obtain ⟨⟨a1, a2⟩, a3, ⟨a4, a5⟩, ⟨a6, a7⟩, a8, a9, a10, a11⟩ := d
        have lt := s37.2.2.1
        have lg : lfG g37 v32.toInt (Z.n + (p1.toInt.toNat - Z.n)) = lfG g33 v32.toInt (Z.n + (p1.toInt.toNat - Z.n)) := by
          unfold lfG
          rw [r 164 (by decide), r 177 (by decide), r 178 (by decide), r 180 (by decide)]
        refine ⟨⟨s37.2.1, ?_⟩, by omega, ⟨fun y hy => by rw [r 1248 (by decide), r 1280 (by decide)]; exact a4 y hy, a5.tr (Nat.le_refl _) (FA.sst s37)⟩, ⟨by rw [r 32 (by decide)]; exact a6, by rw [r 43 (by decide)]; exact a7⟩, by rw [r 386 (by decide)]; exact a8, by rw [r 1729 (by decide)]; exact a9, by rw [r 1216 (by decide)]; exact a10, fun j hj => by rw [r j ⟨fun z => by have := cRows_r z; omega, by omega, by omega, by omega⟩]; exact a11 j hj⟩
        unfold lnI at a2 ⊢
        rw [r 177 (by decide), r 178 (by decide), r 180 (by decide)]
        exact a2
      rw [e32] at d2
      exact k _ g37 (MI.go ht (mv.s2 hf d2) (by rw [tp_eq (g := g) (g1 := g37) (by rw [r 361 (by decide), b.2.2 361 (by omega)])]; omega) (by rw [r 362 (by decide), b.2.2 362 (by omega)]; exact h362) (by rw [r 1152 (by decide), b.2.2 1152 (by omega)]; exact hT))
theorem i_tick {TC TS K : Nat} {Z : cZ} {p1 : Int32} {g : mSt} {Φ : Int32 → cZ → mSt → Prop} (h : MI K Z g) (hK : K ≤ 511) (hTC : 596700 ≤ TC) (hTS : 6826000 ≤ TS) (k : ∀ r Z1 g1, MI (K + 1) Z1 g1 → tkD (Z.n : Int) p1 (cDm g) (cDm g1) → Φ r Z1 g1) : wp_ktick TC TS Z 0 p1 g Φ := by
  obtain ⟨t, ht, mv, h362, hT⟩ := h
  have tb := tp_b g
  refine k_tick (i0 := 0) (t0 := (t : Int)) (u0 := 6000 + 69400 * (K : Int) - 32708 * tp g) (R0 := 212 * t) (B0 := 265 * t) ⟨?_, ?_⟩ (by omega) (by omega) (by omega) (by omega) hTC hTS (fun r Z1 g1 ⟨x, hx, mv1, t1⟩ ⟨e1152, e361⟩ htk => k r Z1 g1 ⟨t + x, by omega, ?_, ?_, by rw [e1152]; exact hT⟩ htk)
  · have e : (t : Int) + ((0 : Nat) : Int) = (t : Int) := by omega
    rw [e]
    exact mv.le (by omega) (fun _ _ => Nat.le_refl _) (fun _ _ => Nat.le_refl _) (fun _ _ => Iff.rfl)
  · rw [h362]
    omega
  · have e : ((t + x : Nat) : Int) = (t : Int) + (x : Int) := by omega
    rw [e]
    rw [tp_eq e361]
    exact mv1.le (by omega) (fun _ _ => by omega) (fun _ _ => by omega) (fun _ _ => Iff.rfl)
  · rw [t1]
    omega
