/-! the switch's lists: exactly -/
/-- the call at a place has this reference -/
def mt (g : mSt) (s p : Nat) (x o : Int32) : Prop := (g 33 (lsE g s p)).toInt = x.toInt ∧ (g 34 (lsE g s p)).toInt = o.toInt
def fst_ (g : mSt) (s : Nat) (x o r : Int32) : Prop := (r.toInt < 0 ∧ ∀ p, p < lsZ g s → ¬ mt g s p x o) ∨ (0 ≤ r.toInt ∧ r.toInt.toNat < lsZ g s ∧ mt g s r.toInt.toNat x o ∧ ∀ p, p < r.toInt.toNat → ¬ mt g s p x o)
theorem s_place10 {Z : cZ} {f : Nat} {p1 p2 : Int32} {g : mSt} {Φ : Int32 → mSt → Prop} (h : ∀ r, fst_ g (Z.n + f) p1 p2 r → Φ r g) : wp_kplaceOfReference_10 Z f p1 p2 g Φ := by
  refine ⟨fun a g2 => g2 = g ∧ ∀ p, p < a.toInt.toNat → ¬ mt g (Z.n + f) p p1 p2, fun a g2 _ _ _ ra q2 => ?_, ⟨rfl, fun p hp => absurd hp (Nat.not_lt_zero _)⟩⟩
  obtain ⟨eg, q⟩ := q2
  rw [eg]
  have h0 : 0 ≤ a.toInt := ra.1
  intro v5 e5 _ _
  have ez : lsZ g (Z.n + f) = v5.toInt.toNat := by
    unfold lsZ
    rw [← e5]
  refine ⟨fun z => h _ (Or.inl ⟨by decide, fun p hp => q p (by omega)⟩), fun z => s_lgetX (fun v11 e11 _ v12 e12 _ => ?_)⟩
  have el : lsE g (Z.n + f) a.toInt.toNat = v11.toInt.toNat := by
    unfold lsE
    rw [← e11]
  have nx : ¬ mt g (Z.n + f) a.toInt.toNat p1 p2 → ∀ v : Int32, v.toInt = a.toInt + 1 → ∀ p, p < v.toInt.toNat → ¬ mt g (Z.n + f) p p1 p2 := fun hn v hv p hp => by
    by_cases e : p = a.toInt.toNat
    · rw [e]
      exact hn
    · exact q p (by omega)
  refine ⟨fun g13 => g13 = g ∧ ¬ mt g (Z.n + f) a.toInt.toNat p1 p2, fun g13 _ _ _ q13 v14 _ _ t14 => ⟨q13.1, nx q13.2 v14 t14⟩, fun z => ⟨rfl, fun w => z (by rw [e12, ← el]; exact w.1)⟩, fun z v16 e16 _ => ⟨fun z2 => ⟨rfl, fun w => z2 (by rw [e16, ← el]; exact w.2)⟩, fun z2 => h _ (Or.inr ⟨h0, by omega, ⟨by rw [el, ← e12]; exact z, by rw [el, ← e16]; exact z2⟩, q⟩)⟩⟩
theorem add_i {a b : Int32} (h : -1000000000 ≤ a.toInt + b.toInt ∧ a.toInt + b.toInt ≤ 1000000000) : (a + b).toInt = a.toInt + b.toInt := by
  rw [Int32.toInt_add]
  exact Int.bmod_eq_of_le (by omega) (by omega)
theorem s_rates {Z : cZ} {N f : Nat} {g : mSt} {Φ : Int32 → mSt → Prop} (hl : CL Z.n N g) (hf : f < Z.n) (h : ∀ r : Int32, r.toInt = (rtL g (Z.n + f) : Int) → Φ r g) : wp_krates Z f g Φ := by
  have h3 := (hl f hf).2.2.1
  refine ⟨fun b a g3 => g3 = g ∧ a.toInt.toNat ≤ lsZ g (Z.n + f) ∧ b.toInt = (smN a.toInt.toNat (fun p => if (g 36 (lsE g (Z.n + f) p)).toInt = 0 then 0 else (g 38 (lsE g (Z.n + f) p)).toInt.toNat) : Nat), fun b a g3 _ _ _ _ ra q3 => ?_, ⟨rfl, Nat.zero_le _, rfl⟩⟩
  obtain ⟨eg, qa, qb⟩ := q3
  rw [eg]
  have h0 : 0 ≤ a.toInt := ra.1
  intro v6 e6 _ _
  have ez : lsZ g (Z.n + f) = v6.toInt.toNat := by
    unfold lsZ
    rw [← e6]
  refine ⟨fun z => h _ (by rw [qb]; unfold rtL; rw [show lsZ g (Z.n + f) = a.toInt.toNat by omega]), fun z => s_lgetX (fun v12 e12 _ => ?_)⟩
  have el : lsE g (Z.n + f) a.toInt.toNat = v12.toInt.toNat := by
    unfold lsE
    rw [← e12]
  have hp : a.toInt.toNat < lsZ g (Z.n + f) := by omega
  have hr := ((hl f hf).2.1 _ hp).2.2.1
  rw [el] at hr
  have hm : ∀ k, k ≤ lsZ g (Z.n + f) → smN k (fun p => if (g 36 (lsE g (Z.n + f) p)).toInt = 0 then 0 else (g 38 (lsE g (Z.n + f) p)).toInt.toNat) ≤ 3 := fun k hk => Nat.le_trans (smN_mono hk) h3
  have m1 := hm (a.toInt.toNat + 1) hp
  have fin : ∀ (x : Int32), x.toInt = ((if (g 36 v12.toInt.toNat).toInt = 0 then 0 else (g 38 v12.toInt.toNat).toInt.toNat : Nat) : Int) → ∀ v17 v18 : Int32, v17 = b + x → v18.toInt = a.toInt + 1 → g = g ∧ v18.toInt.toNat ≤ lsZ g (Z.n + f) ∧ v17.toInt = (smN v18.toInt.toNat (fun p => if (g 36 (lsE g (Z.n + f) p)).toInt = 0 then 0 else (g 38 (lsE g (Z.n + f) p)).toInt.toNat) : Nat) := fun x hx v17 v18 e17 t18 => by
    have e18 : v18.toInt.toNat = a.toInt.toNat + 1 := by omega
    rw [e18]
    have es : smN (a.toInt.toNat + 1) (fun p => if (g 36 (lsE g (Z.n + f) p)).toInt = 0 then 0 else (g 38 (lsE g (Z.n + f) p)).toInt.toNat) = smN a.toInt.toNat (fun p => if (g 36 (lsE g (Z.n + f) p)).toInt = 0 then 0 else (g 38 (lsE g (Z.n + f) p)).toInt.toNat) + (if (g 36 v12.toInt.toNat).toInt = 0 then 0 else (g 38 v12.toInt.toNat).toInt.toNat) := by
      rw [← el]
      rfl
    rw [es] at m1 ⊢
    refine ⟨rfl, hp, ?_⟩
    rw [e17, add_i (by omega)]
    omega
  refine s_isOpenX (fun z0 _ => ⟨fun x g16 => g16 = g ∧ x = 0, fun x g16 _ _ _ _ q16 v17 e17 _ v18 _ _ t18 => ?_, fun _ => ⟨rfl, rfl⟩, fun z => absurd rfl z⟩) (fun z0 _ => ⟨fun x g16 => g16 = g ∧ x = g 38 v12.toInt.toNat, fun x g16 _ _ _ _ q16 v17 e17 _ v18 _ _ t18 => ?_, fun z => absurd z (by decide), fun _ v25 e25 _ => ⟨rfl, e25⟩⟩)
  · obtain ⟨ea, ex⟩ := q16
    rw [ea]
    exact fin x (by rw [ex, if_pos z0]; rfl) v17 v18 e17 t18
  · obtain ⟨ea, ex⟩ := q16
    rw [ea]
    exact fin x (by rw [ex, if_neg z0]; omega) v17 v18 e17 t18
theorem s_refusal {Z : cZ} {N f q1 : Nat} {g : mSt} {Φ : Int32 → mSt → Prop} (hl : CL Z.n N g) (hf : f < Z.n) (hq : 0 ≤ (g 291 q1).toInt) (h0 : ∀ r : Int32, r.toInt ≠ 0 → Φ r g) (h : (g 291 q1).toInt.toNat < Z.n → (g 291 q1).toInt.toNat ≠ f → 1 ≤ (g 293 q1).toInt ∧ (g 293 q1).toInt ≤ 3 → (rtL g (Z.n + f) : Int) + (g 293 q1).toInt ≤ 3 → (rtL g (Z.n + (g 291 q1).toInt.toNat) : Int) + (g 293 q1).toInt ≤ 3 → Φ 0 g) : wp_krefusal Z f q1 g Φ := by
  have a3 := (hl f hf).2.2.1
  intro v1 e1 _ v3 e3 _
  refine ⟨fun _ => h0 _ (by decide), fun c1 v8 e8 _ => ⟨fun c8 v10 e10 _ => ⟨fun _ => h0 _ (by decide), fun c10 => ⟨fun c11 => wt_kopenCalls_10 (fun v20 g19 hpo => ?_), fun _ => h0 _ (by decide)⟩⟩, fun _ => h0 _ (by decide)⟩⟩
  rw [mFr_nil hpo.2.1]
  rw [← e1] at hq
  have ht : v1.toInt.toNat < Z.n := by omega
  have b3 := (hl v1.toInt.toNat ht).2.2.1
  refine ⟨fun _ => h0 _ (by decide), fun _ => wt_kopenCalls_10 (fun v25 g24 hpo2 => ?_)⟩
  rw [mFr_nil hpo2.2.1]
  refine ⟨fun _ => s_rates hl hf (fun v29 t29 _ v31 e31 _ => ⟨fun _ => h0 _ (by decide), fun c31 => s_rates hl ht (fun v37 t37 _ v39 e39 _ => ⟨fun _ => h0 _ (by decide), fun c39 => ?_⟩)⟩), fun _ => h0 _ (by decide)⟩
  rw [e31, add_i (by omega)] at c31
  rw [e39, add_i (by omega)] at c39
  rw [e1] at ht c8 t37
  rw [e10] at c10 c11 c31 c39
  exact h ht (by rw [← e1] at c8 ⊢; omega) ⟨c10, c11⟩ (by omega) (by omega)
/-- a call takes a place in a list: a new one behind the others, or that of the first with its reference -/
def put1 (g g1 : mSt) (s c p : Nat) : Prop := ((p < lsZ g s ∧ lsZ g1 s = lsZ g s) ∨ (p = lsZ g s ∧ lsZ g1 s = lsZ g s + 1)) ∧ lsE g1 s p = c ∧ (∀ q, q < lsZ g s → q ≠ p → lsE g1 s q = lsE g s q) ∧ ∀ s', s' ≠ s → lsZ g1 s' = lsZ g s' ∧ ∀ q, q < 16777216 → lsE g1 s' q = lsE g s' q
theorem s_keep10 {Z : cZ} {f n1 : Nat} {p1 : Int32} {g : mSt} {Φ : Int32 → cZ → mSt → Prop} (hg : gNd g (Z.n + f) n1) (hz : 0 ≤ (g 386 (Z.n + f)).toInt ∧ (g 386 (Z.n + f)).toInt ≤ 10000000) (h : ∀ r Z1 g1, fst_ g (Z.n + f) (g 33 p1.toInt.toNat) (g 34 p1.toInt.toNat) r → put1 g g1 (Z.n + f) p1.toInt.toNat (if r.toInt < 0 then lsZ g (Z.n + f) else r.toInt.toNat) → mFr [384, 385, 386, 1728, 1729] g g1 → (∀ s k, s ≠ Z.n + f → (k < 16777216 → g1 1728 (16777216 * s + k) = g 1728 (16777216 * s + k)) ∧ g1 384 s = g 384 s ∧ g1 385 s = g 385 s) → kS Z g Z1 g1 (Z.n + f) → Φ 0 Z1 g1) : wp_kkeep_10 n1 Z f p1 g Φ := by
  intro v1 e1 _ v2 e2 _
  rw [e1, e2]
  refine s_place10 (fun v4 h4 _ => ⟨fun c4 => ?_, fun c4 => ⟨hg, fun Z1 g16 hw h3 h2 hpo hz2 Z2 eZ => ?_⟩⟩)
  · intro v _ _
    unfold wp_kcheckIndex wp_kcheckIndex0 wp_kelementData
    have key : ∀ g9, g9 = up2 g 1728 (16777216 * (Z.n + f) + v4.toNatClampNeg) p1 → Φ 0 Z g9 := fun g9 e9 => by
      have hr : v4.toInt.toNat < lsZ g (Z.n + f) := by
        rcases h4 with h4 | h4
        · omega
        · exact h4.2.1
      have hb : v4.toInt.toNat < 16777216 := by
        unfold lsZ at hr
        omega
      have k9 : ∀ j, j ≠ 1728 → g9 j = g j := fun j hj => by rw [e9, up2_of hj]
      have ez : ∀ s, lsZ g9 s = lsZ g s := fun s => by
        unfold lsZ
        rw [k9 386 (by decide)]
      have ne : ∀ s k, s ≠ Z.n + f → k < 16777216 → g9 1728 (16777216 * s + k) = g 1728 (16777216 * s + k) := fun s k hs hk => by
        rw [e9, up2_n]
        show 16777216 * s + k ≠ 16777216 * (Z.n + f) + v4.toInt.toNat
        omega
      refine h v4 Z g9 h4 ⟨?_, ?_, fun q hq hne => ?_, fun s' hs => ⟨ez s', fun q hq => ?_⟩⟩ (fun a ha => k9 a (fun z => ha (by rw [z]; decide))) (fun s k hs => ⟨ne s k hs, by rw [k9 384 (by decide)], by rw [k9 385 (by decide)]⟩) ⟨⟨rfl, fun _ _ z => z, rfl, rfl⟩, fun q _ => ⟨by rw [k9 386 (by decide)], by rw [k9 1729 (by decide)]⟩, Or.inl ⟨by rw [k9 386 (by decide)], by rw [k9 1729 (by decide)], rfl⟩⟩
      · rw [if_neg (by omega)]
        exact Or.inl ⟨hr, ez _⟩
      · rw [if_neg (by omega)]
        unfold lsE
        rw [e9]
        exact congrArg (fun x : Int32 => x.toInt.toNat) up2_i
      · rw [if_neg (by omega)] at hne
        unfold lsE
        rw [e9, up2_n]
        show 16777216 * (Z.n + f) + q ≠ 16777216 * (Z.n + f) + v4.toInt.toNat
        omega
      · unfold lsE
        rw [ne s' q hs hq]
    repeat' first
      | exact trivial
      | (intro g9 e9 _ _ Z1 eZ; rw [eZ]; exact key g9 e9)
      | refine ⟨?_, ?_⟩
      | intro _
  · rw [eZ]
    have hfr := hw.1
    have ne : ∀ s k, s ≠ Z.n + f → k < 16777216 → g16 1728 (16777216 * s + k) = g 1728 (16777216 * s + k) := fun s k hs hk => hfr.out (by simp [mOut]; omega)
    have e386 : ∀ s, s ≠ Z.n + f → g16 386 s = g 386 s := fun s hs => hfr.out (by simp [mOut]; omega)
    refine h v4 Z1 g16 h4 ⟨?_, ?_, fun q hq hne => ?_, fun s' hs => ⟨?_, fun q hq => ?_⟩⟩ hpo.2.1 (fun s k hs => ⟨ne s k hs, hfr.out (by simp [mOut]; omega), hfr.out (by simp [mOut]; omega)⟩) (hw.kS h3 h2 hz2)
    · rw [if_pos c4]
      right
      refine ⟨rfl, ?_⟩
      unfold lsZ
      rw [hw.2.2.2.1]
      omega
    · rw [if_pos c4]
      unfold lsE lsZ
      rw [hw.2.1]
    · unfold lsE
      unfold lsZ at hq
      rw [hw.2.2.1 q (by omega)]
    · unfold lsZ
      rw [e386 s' hs]
    · unfold lsE
      rw [ne s' q hs hq]
/-- sums over a list in which a call took a place -/
theorem put1.sum {g g1 : mSt} {s c p : Nat} {w : Nat → Nat} (h : put1 g g1 s c p) (hw : p < lsZ g s → w (lsE g s p) = 0) : smN (lsZ g1 s) (fun q => w (lsE g1 s q)) = smN (lsZ g s) (fun q => w (lsE g s q)) + w c := by
  obtain ⟨a, b, d, _⟩ := h
  rcases a with ⟨a1, a2⟩ | ⟨a1, a2⟩
  · rw [a2]
    have : ∀ n, p < n → n ≤ lsZ g s → smN n (fun q => w (lsE g1 s q)) = smN n (fun q => w (lsE g s q)) + w c := fun n => by
      induction n with
      | zero => intro z; omega
      | succ n ih =>
        intro z1 z2
        show smN n _ + w (lsE g1 s n) = smN n _ + w (lsE g s n) + w c
        by_cases e : p = n
        · subst e
          rw [b, hw a1, smN_eq (n := p) (F := fun q => w (lsE g s q)) (F1 := fun q => w (lsE g1 s q)) (fun q hq => by
            show w (lsE g1 s q) = w (lsE g s q)
            rw [d q (by omega) (by omega)])]
          omega
        · rw [ih (by omega) (by omega), d n (by omega) (by omega)]
          omega
    exact this _ a1 (Nat.le_refl _)
  · rw [a2]
    show smN (lsZ g s) _ + w (lsE g1 s (lsZ g s)) = _
    rw [← a1]
    rw [b, smN_eq (n := p) (F := fun q => w (lsE g s q)) (F1 := fun q => w (lsE g1 s q)) (fun q hq => by
      show w (lsE g1 s q) = w (lsE g s q)
      rw [d q (by omega) (by omega)])]
theorem smN_updn {n : Nat} {F F1 : Nat → Nat} {s d : Nat} (h : ∀ q, q < n → q ≠ s → F1 q = F q) (hs : s < n) (k : F1 s = F s + d) : smN n F1 = smN n F + d := by
  induction n with
  | zero => omega
  | succ n ih =>
    show smN n F1 + F1 n = smN n F + F n + d
    by_cases e : s = n
    · subst e
      rw [smN_eq (fun q hq => h q (by omega) (by omega)), k]
      omega
    · rw [ih (fun q hq => h q (by omega)) (by omega), h n (by omega) (by omega)]
      omega
