/-! the switch's calls: what each method does to them -/
theorem up2_c {g : mSt} {j0 i0 j k : Nat} {v : Int32} (h : ¬ (j = j0 ∧ k = i0)) : up2 g j0 i0 v j k = g j k := if_neg h
theorem add_t {p : Int32} {k : Int32} {m : Int} (hk : k.toInt = m) (hm : 0 ≤ m ∧ m ≤ 1000) (h : 0 ≤ p.toInt ∧ p.toInt ≤ 1000000000) : (p + k).toInt = p.toInt + m := by
  rw [Int32.toInt_add, hk]
  exact Int.bmod_eq_of_le (by omega) (by omega)
theorem s_enterX {Z : cZ} {c : Nat} {p1 p2 : Int32} {g : mSt} {Φ : Int32 → mSt → Prop} (h : ∀ g1, (∀ j k, ¬ (k = c ∧ j ∈ cRows) → g1 j k = g j k) → g1 36 c = p1 → g1 41 c = p2 → g1 42 c = 0 → Φ 0 g1) : wp_kenter Z c p1 p2 g Φ := by
  intro g1 e1 g2 e2 g3 e3
  have f3 : ∀ j k, ¬ (k = c ∧ j ∈ cRows) → g3 j k = g j k := fun j k hn => by
    rw [e3, up2_c (fun z => hn ⟨z.2, by rw [z.1]; decide⟩), e2, up2_c (fun z => hn ⟨z.2, by rw [z.1]; decide⟩), e1, up2_c (fun z => hn ⟨z.2, by rw [z.1]; decide⟩)]
  have a3 : g3 36 c = p1 := by rw [e3, up2_o (by decide), e2, up2_o (by decide), e1, up2_i]
  have b3 : g3 41 c = p2 := by rw [e3, up2_o (by decide), e2, up2_i]
  have c3 : g3 42 c = 0 := by rw [e3, up2_i]
  refine ⟨fun _ => h _ f3 a3 b3 c3, fun _ g6 e6 g8 e8 g10 e10 g12 e12 => h _ (fun j k hn => ?_) ?_ ?_ ?_⟩
  · rw [e12, up2_c (fun z => hn ⟨z.2, by rw [z.1]; decide⟩), e10, up2_c (fun z => hn ⟨z.2, by rw [z.1]; decide⟩), e8, up2_c (fun z => hn ⟨z.2, by rw [z.1]; decide⟩), e6, up2_c (fun z => hn ⟨z.2, by rw [z.1]; decide⟩)]
    exact f3 j k hn
  · rw [e12, up2_o (by decide), e10, up2_o (by decide), e8, up2_o (by decide), e6, up2_o (by decide)]
    exact a3
  · rw [e12, up2_o (by decide), e10, up2_o (by decide), e8, up2_o (by decide), e6, up2_o (by decide)]
    exact b3
  · rw [e12, up2_o (by decide), e10, up2_o (by decide), e8, up2_o (by decide), e6, up2_o (by decide)]
    exact c3
theorem chw_c {n : Nat} {g g1 : mSt} {c : Nat} (h : ∀ j k, ¬ (k = c ∧ j ∈ cRows) → g1 j k = g j k) : chw n g g1 c := fun j k q => h j k (fun z => q (Or.inl z))
theorem s_finishX {Z : cZ} {n c : Nat} {p1 : Int32} {g : mSt} {Φ : Int32 → mSt → Prop} (h : ∀ g1, chw n g g1 c → g1 36 c = 0 → Φ 0 g1) : wp_kfinish Z c p1 g Φ := by
  intro g1 e1
  refine s_enterX (fun g2 f2 a2 _ _ _ => h _ (chw_c (fun j k hn => ?_)) a2)
  rw [f2 j k hn, e1, up2_c (fun z => hn ⟨z.2, by rw [z.1]; decide⟩)]
theorem mo_say10 {n f : Nat} (j k : Nat) (h : ¬ ((j = 198 ∧ n ≤ k) ∨ ((j = 832 ∨ j = 864) ∧ n ≤ k / 8192))) : mOut [(198, (n + f), 1), (832, (n + f), 8192), (864, (n + f), 8192)] j k := by
  refine ⟨fun z => ⟨by show 1 ≠ 0; decide, fun w => h (Or.inl ⟨z.symm, ?_⟩)⟩, fun z => ⟨by show 8192 ≠ 0; decide, fun w => h (Or.inr ⟨Or.inl z.symm, by rw [w]; exact Nat.le_add_right _ _⟩)⟩, fun z => ⟨by show 8192 ≠ 0; decide, fun w => h (Or.inr ⟨Or.inr z.symm, by rw [w]; exact Nat.le_add_right _ _⟩)⟩, trivial⟩
  have w : k / 1 = n + f := w
  rw [Nat.div_one] at w
  omega
/-- something said by the switch's side f -/
theorem chw_say {n f c : Nat} {g g1 : mSt} (h : mFi [(198, (n + f), 1), (832, (n + f), 8192), (864, (n + f), 8192)] g g1) : chw n g g1 c := fun j k q => h.out (mo_say10 j k (fun z => q (Or.inr z)))
theorem s_releaseX {Z : cZ} {c : Nat} {p1 p2 : Int32} {g : mSt} {Φ : Int32 → mSt → Prop} (hc : (Z.n : Int) ≤ (g 32 c).toInt) (h0 : dyg g c → Φ 0 g) (h : ∀ g1, ¬ dyg g c → chw Z.n g g1 c → g1 36 c = 11 → g1 41 c = p2 + 10 → g1 42 c = 0 → Φ 0 g1) : wp_krelease Z c p1 p2 g Φ := by
  intro v1 e1 _
  refine ⟨fun z => h0 (Or.inl (by rw [← e1]; exact z)), fun n0 => ⟨fun n1 g9 e9 v10 e10 _ => ?_, fun z => h0 (Or.inr (by rw [← e1]; exact z))⟩⟩
  have hnd : ¬ dyg g c := fun z => by
    rcases z with z | z
    · exact n0 (by rw [e1]; exact z)
    · exact n1 (by rw [e1]; exact z)
  refine s_enterX (fun g11 f11 a11 b11 c11 hpo v12 e12 => ?_)
  have f9 : ∀ j k, ¬ (k = c ∧ j ∈ cRows) → g11 j k = g j k := fun j k hn => by rw [f11 j k hn, e9, up2_c (fun z => hn ⟨z.2, by rw [z.1]; decide⟩)]
  have t12 : Z.n ≤ v12.toInt.toNat := by
    rw [e12, f9 32 c (fun z => absurd z.2 (by decide))]
    omega
  refine ⟨fun z => by exfalso; omega, fun _ v19 _ _ v20 _ _ => wt_ksayCause_10 (fun _ g21 hpo21 => ?_)⟩
  have k21 := hpo21.2.1
  refine h g21 hnd ((chw_c f9).tr (chw_say hpo21.1)) ?_ ?_ ?_
  · rw [k21 36 (by decide)]
    exact a11
  · rw [k21 41 (by decide), b11, e10]
  · rw [k21 42 (by decide)]
    exact c11
theorem lf_0 {g : mSt} {t : Int} {c : Nat} (h : g 36 c = 0) : lf g t c = 0 := by
  unfold lf
  rw [h]
  rfl
theorem lf_11 {g : mSt} {p : Int32} {c : Nat} (ht : 0 ≤ p.toInt ∧ p.toInt ≤ 1000000000) (h : g 36 c = 11) (k : g 41 c = p + 10) (l : g 42 c = 0) : lf g p.toInt c = 16 := by
  have e := add_t (k := 10) (m := 10) rfl ⟨by decide, by decide⟩ ht
  have a : (11 : Int32).toInt = 11 := by decide
  have b : (0 : Int32).toInt = 0 := by decide
  refine lf_new (by rw [h]; decide) (Or.inr ?_)
  unfold cEx
  rw [h, k, l, e, a, b, if_neg (by omega), if_pos (by omega)]
  omega
theorem mFr_nil2 {g g1 : mSt} (h : mFr [] g g1) : g1 = g := mFr_nil h
/-- a call goes; its partner is not told yet -/
def mid (n N : Nat) (t : Int) (g0 g6 : mSt) (c d : Nat) : Prop := ∃ g d0 d1, d = d0 + d1 ∧ sst n N t g0 g d0 ∧ chw n g g6 c ∧ ((n : Int) ≤ (g 32 c).toInt ∧ c < N) ∧ dyg g6 c ∧ ((g 36 c).toInt = 0 → (g6 36 c).toInt = 0) ∧ lf g t c ≤ lf g6 t c + d1
theorem mid.none {n N : Nat} {t : Int} {g0 g6 : mSt} {c d : Nat} {v : Int32} (h : mid n N t g0 g6 c d) (e : v = g6 43 c) (hv : v.toInt < 0) : sst n N t g0 g6 d := by
  obtain ⟨g, d0, d1, ed, hs, f6, hc, _, h0, hl⟩ := h
  rw [ed]
  exact hs.one f6 hc h0 (Or.inl (by rw [← f6.cs1.1 43 (by decide), ← e]; exact hv)) hl
theorem s_rel {Z : cZ} {N c d : Nat} {p2 p4 v : Int32} {g0 g6 : mSt} {Ψ : mSt → Prop} (h : mid Z.n N p2.toInt g0 g6 c d) (ht : 0 ≤ p2.toInt ∧ p2.toInt ≤ 1000000000) (e : v = g6 43 c) (hv : 0 ≤ v.toInt) (k : ∀ g1, sst Z.n N p2.toInt g0 g1 d → noO g6 g1 → Ψ g1) : wp_krelease Z v.toInt.toNat p4 p2 g6 (fun _ g17 => po_krelease Z v.toInt.toNat p4 p2 g6 0 g17 → Ψ g17) := by
  obtain ⟨g, d0, d1, ed, hs, f6, hc, d6, h0, hl⟩ := h
  have e43 : v = g 43 c := by rw [e, f6.cs1.1 43 (by decide)]
  have hp := hs.2.1.2 c hc.2 hc.1 (by rw [← e43]; exact hv)
  rw [← e43] at hp
  have e1 : (g 43 c).toInt = (v.toInt.toNat : Int) := by rw [← e43]; omega
  refine s_releaseX (by rw [f6.cs1.1 32 (by decide)]; exact hp.2.1) (fun z2 _ => ?_) (fun g17 nd f17 a17 b17 c17 _ => ?_)
  · have f0 : chw Z.n g6 g6 v.toInt.toNat := fun _ _ _ => rfl
    have := hs.two (d2 := 0) f6 f0 hc e1 h0 id d6 z2 hl (Nat.le_refl _)
    exact k _ (by rw [ed]; exact this) (fun _ z => z)
  · have l17 := lf_11 ht a17 b17 c17
    have d17 : dyg g17 v.toInt.toNat := Or.inr (by rw [a17]; rfl)
    have := hs.two (d2 := 0) f6 f17 hc e1 h0 (fun z3 => absurd (Or.inl z3) nd) (by
      by_cases ee : c = v.toInt.toNat
      · rw [ee]
        exact d17
      · exact (dyg_eq (f17.cs1.2 c ee).1).mpr d6) d17 hl (by rw [l17]; exact lf_16)
    exact k _ (by rw [ed]; exact this) (f17.no (fun z => absurd (Or.inl z) nd))
theorem s_finM {Z : cZ} {N c d : Nat} {t : Int} {p1 : Int32} {g g0 : mSt} {Φ : Int32 → mSt → Prop} (hs : sst Z.n N t g0 g d) (hc : (Z.n : Int) ≤ (g 32 c).toInt ∧ c < N) (h : ∀ g1, mid Z.n N t g0 g1 c (d + lf g t c) → g1 36 c = 0 → chw Z.n g g1 c → Φ 0 g1) : wp_kfinish Z c p1 g Φ :=
  s_finishX (n := Z.n) (fun g6 f6 a6 => h g6 ⟨g, d, lf g t c, rfl, hs, f6, hc, Or.inl (by rw [a6]; rfl), fun _ => by rw [a6]; rfl, Nat.le_add_left _ _⟩ a6 f6)
theorem sst.say {n N d f : Nat} {t : Int} {g0 g g1 : mSt} (hs : sst n N t g0 g d) (h : mFi [(198, (n + f), 1), (832, (n + f), 8192), (864, (n + f), 8192)] g g1) : sst n N t g0 g1 d := by
  have k : ∀ j, j ≠ 198 → j ≠ 832 → j ≠ 864 → g1 j = g j := fun j a b c => funext fun x => h.out (mo_say10 j x (by omega))
  refine (hs.tr (d1 := 0) ⟨fun a b q => h.out (mo_say10 a b (fun z => q (Or.inr z))), ?_, ?_, fun c z => by rw [k 36 (by decide) (by decide) (by decide)]; exact z⟩)
  · have := hs.2.1
    unfold CI CL CP dyg rtL lsE lsZ at this ⊢
    rw [k 32 (by decide) (by decide) (by decide), k 33 (by decide) (by decide) (by decide), k 34 (by decide) (by decide) (by decide), k 36 (by decide) (by decide) (by decide), k 38 (by decide) (by decide) (by decide), k 43 (by decide) (by decide) (by decide), k 323 (by decide) (by decide) (by decide), k 386 (by decide) (by decide) (by decide), k 1728 (by decide) (by decide) (by decide)]
    exact this
  · have : ∀ s, lfL g1 t s = lfL g t s := fun s => by
      unfold lfL lf cEx lsE lsZ
      rw [k 36 (by decide) (by decide) (by decide), k 41 (by decide) (by decide) (by decide), k 42 (by decide) (by decide) (by decide), k 386 (by decide) (by decide) (by decide), k 1728 (by decide) (by decide) (by decide)]
    unfold LT
    simp only [this]
    exact Nat.le_refl _
/-- RELEASE or COMPLETE came -/
theorem s_cleared10 {Z : cZ} {N i0 c q2 d : Nat} {p3 : Int32} {g g0 : mSt} {Φ : Int32 → mSt → Prop} (hs : sst Z.n N p3.toInt g0 g d) (ht : 0 ≤ p3.toInt ∧ p3.toInt ≤ 1000000000) (hc : (Z.n : Int) ≤ (g 32 c).toInt ∧ c < N) (h : ∀ g1, sst Z.n N p3.toInt g0 g1 (d + 16) → Φ 0 g1) : wp_kcleared_10 Z i0 c q2 p3 g Φ := by
  intro v1 _ _
  refine ⟨fun g2 => sst Z.n N p3.toInt g0 g2 d ∧ g2 32 = g 32, fun g2 _ _ _ s2 v3 _ _ => ⟨fun _ g5 => g5 = g2, fun b g5 _ _ _ _ q5 => ?_, fun _ v20 _ _ => rfl, fun _ v23 _ _ => rfl⟩, fun _ => ⟨hs, rfl⟩, fun _ v28 _ _ v29 _ _ v30 _ _ => wt_ksayCause_10 (fun _ g31 hpo => ⟨hs.say hpo.1, hpo.2.1 32 (by decide)⟩)⟩
  rw [show g5 = g2 from q5]
  refine s_finM s2.1 (by rw [s2.2]; exact hc) (fun g6 m6 _ _ _ v7 e7 => ?_)
  have h16 : ∀ g1, sst Z.n N p3.toInt g0 g1 (d + lf g2 p3.toInt c) → Φ 0 g1 := fun g1 s1 => h g1 (s1.le (by have := @lf_16 g2 p3.toInt c; omega))
  exact ⟨fun z => h16 _ (m6.none e7 z), fun z v16 _ _ => s_rel m6 ht e7 z (fun g1 s1 _ => h16 g1 s1)⟩
/-- all calls of a side end: so much of their lives is left -/
def opL (g : mSt) (s : Nat) : Nat := smN (lsZ g s) fun p => if (g 36 (lsE g s p)).toInt = 0 then 0 else 1
theorem opL_3 {n N f : Nat} {g : mSt} (h : CL n N g) (hf : f < n) : opL g (n + f) ≤ 3 := by
  refine Nat.le_trans (smN_le (fun p hp => ?_)) (h f hf).2.2.1
  have := ((h f hf).2.1 p hp).2.2.1
  split
  · exact Nat.le_refl _
  · omega
theorem smN_lt {n : Nat} {F F1 : Nat → Nat} {s : Nat} (h : ∀ q, q < n → F1 q ≤ F q) (hs : s < n) (k : F1 s + 1 ≤ F s) : smN n F1 + 1 ≤ smN n F := by
  induction n with
  | zero => omega
  | succ n ih =>
    show smN n F1 + F1 n + 1 ≤ smN n F + F n
    by_cases e : s = n
    · subst e
      have : smN s F1 ≤ smN s F := smN_le (fun c hc => h c (by omega))
      omega
    · have a := ih (fun q hq => h q (by omega)) (by omega)
      have b := h n (by omega)
      omega
theorem opL_le {g g1 : mSt} {s : Nat} (h : noO g g1) (e1 : g1 386 = g 386) (e2 : g1 1728 = g 1728) : opL g1 s ≤ opL g s := by
  unfold opL lsZ lsE
  rw [e1, e2]
  refine smN_le (fun p _ => ?_)
  by_cases z : (g 36 (g 1728 (16777216 * s + p)).toInt.toNat).toInt = 0
  · rw [if_pos (h _ z)]
    exact Nat.zero_le _
  · rw [if_neg z]
    split <;> omega
theorem opL_lt {g g1 : mSt} {s p : Nat} (h : noO g g1) (e1 : g1 386 = g 386) (e2 : g1 1728 = g 1728) (hp : p < lsZ g s) (h1 : (g 36 (lsE g s p)).toInt ≠ 0) (h2 : (g1 36 (lsE g s p)).toInt = 0) : opL g1 s + 1 ≤ opL g s := by
  unfold opL
  have ez : lsZ g1 s = lsZ g s := by
    unfold lsZ
    rw [e1]
  have el : ∀ q, lsE g1 s q = lsE g s q := fun q => by
    unfold lsE
    rw [e2]
  rw [ez]
  refine smN_lt (s := p) (fun q _ => ?_) hp ?_
  · rw [el]
    by_cases z : (g 36 (lsE g s q)).toInt = 0
    · rw [if_pos (h _ z)]
      exact Nat.zero_le _
    · rw [if_neg z]
      split <;> omega
  · rw [el, if_pos h2, if_neg h1]
    exact Nat.le_refl _
/-- which call stands at a place of a list -/
theorem s_lgetX {Z : cZ} {i : Nat} {p1 : Int32} {g : mSt} {Φ : Int32 → mSt → Prop} (h : ∀ r, r = g 1728 (16777216 * i + p1.toInt.toNat) → Φ r g) : wp_klget Z i p1 g Φ := by
  intro v1 _ _
  unfold wp_kcheckIndex wp_kcheckIndex0
  repeat' first
    | exact trivial
    | exact h _ (by assumption)
    | refine ⟨?_, ?_⟩
    | intro _
theorem s_isOpenX {Z : cZ} {i : Nat} {g : mSt} {Φ : Int32 → mSt → Prop} (h0 : (g 36 i).toInt = 0 → Φ 0 g) (h1 : (g 36 i).toInt ≠ 0 → Φ 1 g) : wp_kisOpen Z i g Φ := by
  intro v1 e1 _
  exact ⟨fun z => h0 (by rw [← e1]; exact z), fun z => h1 (by rw [← e1]; exact z)⟩
theorem s_allOver10 {Z : cZ} {N f d : Nat} {p1 : Int32} {g g0 : mSt} {Φ : Int32 → mSt → Prop} (hf : f < Z.n) (hN : ∀ c, Z.al 1 c → c < N) (hs : sst Z.n N p1.toInt g0 g d) (ht : 0 ≤ p1.toInt ∧ p1.toInt ≤ 1000000000) (h : ∀ g1 k, k ≤ 3 → sst Z.n N p1.toInt g0 g1 (d + 16 * k) → Φ 0 g1) : wp_kallOver_10 Z f p1 g Φ := by
  have h3 := opL_3 hs.2.1.1 hf
  refine ⟨fun _ g2 => ∃ k, opL g2 (Z.n + f) + k ≤ opL g (Z.n + f) ∧ sst Z.n N p1.toInt g0 g2 (d + 16 * k), fun a g2 _ _ _ ra ⟨k, hk, s2⟩ => ?_, ⟨0, Nat.le_refl _, hs⟩⟩
  intro v5 e5 _ _
  refine ⟨fun _ => h g2 k (by omega) s2, fun c5 => s_lgetX (fun v11 e11 hpo => s_isOpenX (fun z0 _ => ?_) (fun z0 _ => ?_))⟩
  · exact ⟨fun g14 => ∃ k, opL g14 (Z.n + f) + k ≤ opL g (Z.n + f) ∧ sst Z.n N p1.toInt g0 g14 (d + 16 * k), fun g14 _ _ _ q14 v15 _ _ _ => q14, fun z => absurd rfl z, fun _ => ⟨k, hk, s2⟩⟩
  · have hq := hpo.2.2.2
    have hra : 0 ≤ a.toInt := ra.1
    have hp : a.toInt.toNat < lsZ g2 (Z.n + f) := by
      unfold lsZ
      rw [← e5]
      omega
    have hcl : lsE g2 (Z.n + f) a.toInt.toNat = v11.toInt.toNat := by
      unfold lsE
      rw [← e11]
    refine ⟨fun g14 => ∃ k, opL g14 (Z.n + f) + k ≤ opL g (Z.n + f) ∧ sst Z.n N p1.toInt g0 g14 (d + 16 * k), fun g14 _ _ _ q14 v15 _ _ _ => q14, fun _ => s_finM s2 ⟨by rw [hq.2.2]; omega, hN _ hq.2.1⟩ (fun g19 m19 a19 f19 _ v20 e20 => ?_), fun z => absurd z (by decide)⟩
    have hz := @lf_16 g2 p1.toInt v11.toInt.toNat
    have fin : ∀ g1, sst Z.n N p1.toInt g0 g1 (d + 16 * k + lf g2 p1.toInt v11.toInt.toNat) → noO g19 g1 → g1 386 = g2 386 → g1 1728 = g2 1728 → ∃ k, opL g1 (Z.n + f) + k ≤ opL g (Z.n + f) ∧ sst Z.n N p1.toInt g0 g1 (d + 16 * k) := fun g1 s1 n1 e1 e2 => by
      have n2 : noO g2 g19 := f19.no (fun _ => by rw [a19]; rfl)
      have := opL_lt (s := Z.n + f) (fun x z => n1 x (n2 x z)) e1 e2 hp (by rw [hcl]; exact z0) (by rw [hcl]; exact n1 _ (by rw [a19]; rfl))
      exact ⟨k + 1, by omega, s1.le (by omega)⟩
    refine ⟨fun z => fin _ (m19.none e20 z) (fun _ z => z) (f19.cs1.1 386 (by decide)) (f19.cs1.1 1728 (by decide)), fun z => s_rel m19 ht e20 z (fun g1 s1 n1 => fin g1 s1 n1 ?_ ?_)⟩
    · rw [s1.row 386 (by decide), ← s2.row 386 (by decide)]
    · rw [s1.row 1728 (by decide), ← s2.row 1728 (by decide)]
