/-! the switch's calls: how long each lives at least -/
def lsE (g : mSt) (s p : Nat) : Nat := (g 1728 (16777216 * s + p)).toInt.toNat
def lsZ (g : mSt) (s : Nat) : Nat := (g 386 s).toInt.toNat
def dyg (g : mSt) (c : Nat) : Prop := (g 36 c).toInt = 0 ∨ (g 36 c).toInt = 11
def cEx (g : mSt) (c : Nat) : Int := if (g 36 c).toInt = 6 ∧ (g 42 c).toInt = 0 then 8 else if (g 36 c).toInt = 11 ∧ (g 42 c).toInt = 0 then 10 else if (g 36 c).toInt = 9 then 20 else 0
/-- ticks till a timer can end a call, 16 at most -/
def lf (g : mSt) (t : Int) (c : Nat) : Nat := if (g 36 c).toInt = 0 then 0 else if (g 41 c).toInt = 0 then 16 else min 16 ((g 41 c).toInt - t + cEx g c).toNat
theorem lf_16 {g : mSt} {t : Int} {c : Nat} : lf g t c ≤ 16 := by
  unfold lf
  split
  · omega
  · split
    · omega
    · omega
theorem lf_eq {g g1 : mSt} {t : Int} {c : Nat} (h : g1 36 c = g 36 c) (k : g1 41 c = g 41 c) (l : g1 42 c = g 42 c) : lf g1 t c = lf g t c := by
  unfold lf cEx
  rw [h, k, l]
theorem lf_tick {g : mSt} {t : Int} {c : Nat} : lf g t c ≤ lf g (t + 1) c + (if (g 36 c).toInt = 0 then 0 else 1) := by
  unfold lf
  split
  · omega
  · split
    · omega
    · omega
theorem lf_new {g : mSt} {t : Int} {c : Nat} (h : (g 36 c).toInt ≠ 0) (k : (g 41 c).toInt = 0 ∨ 16 ≤ (g 41 c).toInt - t + cEx g c) : lf g t c = 16 := by
  unfold lf
  rw [if_neg h]
  split
  · rfl
  · omega
theorem smN_one {n : Nat} {F F1 : Nat → Nat} {s d : Nat} (h : ∀ q, q < n → q ≠ s → F q ≤ F1 q) (k : s < n → F s ≤ F1 s + d) : smN n F ≤ smN n F1 + d := by
  induction n with
  | zero => exact Nat.zero_le _
  | succ n ih =>
    show smN n F + F n ≤ smN n F1 + F1 n + d
    by_cases e : s = n
    · subst e
      have : smN s F ≤ smN s F1 := smN_le (fun c hc => h c (by omega) (by omega))
      have := k (by omega)
      omega
    · have a := ih (fun q hq hs => h q (by omega) hs) (fun hs => k (by omega))
      have b := h n (by omega) (by omega)
      omega
theorem smN_eq {n : Nat} {F F1 : Nat → Nat} (h : ∀ q, q < n → F1 q = F q) : smN n F1 = smN n F := Nat.le_antisymm (smN_le (fun c hc => Nat.le_of_eq (h c hc))) (smN_le (fun c hc => Nat.le_of_eq (h c hc).symm))
def lfL (g : mSt) (t : Int) (s : Nat) : Nat := smN (lsZ g s) fun p => lf g t (lsE g s p)
def LT (n : Nat) (g : mSt) (t : Int) : Nat := smN n fun f => lfL g t (n + f)
def rtL (g : mSt) (s : Nat) : Nat := smN (lsZ g s) fun p => if (g 36 (lsE g s p)).toInt = 0 then 0 else (g 38 (lsE g s p)).toInt.toNat
/-- what the lists of the switch keep to -/
def CL (n N : Nat) (g : mSt) : Prop := ∀ f, f < n → (∀ p q, p < lsZ g (n + f) → q < lsZ g (n + f) → lsE g (n + f) p = lsE g (n + f) q → p = q) ∧ (∀ p, p < lsZ g (n + f) → lsE g (n + f) p < N ∧ (g 32 (lsE g (n + f) p)).toInt = ((n + f : Nat) : Int) ∧ 1 ≤ (g 38 (lsE g (n + f) p)).toInt ∧ ((g 34 (lsE g (n + f) p)).toInt = 1 → (g 33 (lsE g (n + f) p)).toInt ≤ (g 323 f).toInt)) ∧ rtL g (n + f) ≤ 3 ∧ 0 ≤ (g 323 f).toInt ∧ (g 323 f).toInt ≤ (N : Int)
/-- partners: each other's, and both are going or neither -/
def CP (n N : Nat) (g : mSt) : Prop := ∀ c, c < N → (n : Int) ≤ (g 32 c).toInt → 0 ≤ (g 43 c).toInt → (g 43 c).toInt.toNat < N ∧ (n : Int) ≤ (g 32 (g 43 c).toInt.toNat).toInt ∧ (g 43 (g 43 c).toInt.toNat).toInt = (c : Int) ∧ (dyg g c ↔ dyg g (g 43 c).toInt.toNat)
def CI (n N : Nat) (g : mSt) : Prop := CL n N g ∧ CP n N g
/-- the call c alone has changed -/
def cs1 (g g1 : mSt) (c : Nat) : Prop := (∀ j, j ∈ [32, 33, 34, 38, 43, 323, 386, 1728] → g1 j = g j) ∧ ∀ k, k ≠ c → g1 36 k = g 36 k ∧ g1 41 k = g 41 k ∧ g1 42 k = g 42 k
theorem cs1.ls {g g1 : mSt} {c : Nat} (h : cs1 g g1 c) (s p : Nat) : lsE g1 s p = lsE g s p := by
  unfold lsE
  rw [h.1 1728 (by decide)]
theorem cs1.lz {g g1 : mSt} {c : Nat} (h : cs1 g g1 c) (s : Nat) : lsZ g1 s = lsZ g s := by
  unfold lsZ
  rw [h.1 386 (by decide)]
theorem cs1.LT {n N : Nat} {g g1 : mSt} {c d : Nat} {t : Int} (h : cs1 g g1 c) (hl : CL n N g) (hd : lf g t c ≤ lf g1 t c + d) : LT n g t ≤ LT n g1 t + d := by
  refine smN_one (s := (g 32 c).toInt.toNat - n) (fun f hf hne => ?_) ?_
  · unfold lfL
    rw [h.lz]
    refine smN_le (fun p hp => ?_)
    rw [h.ls]
    have hs := ((hl f hf).2.1 p hp).2.1
    have hc : lsE g (n + f) p ≠ c := fun z => hne (by rw [← z, hs]; omega)
    obtain ⟨a, b, e⟩ := h.2 _ hc
    rw [lf_eq a b e]
    exact Nat.le_refl _
  · intro hf
    unfold lfL
    rw [h.lz]
    by_cases hx : ∃ p, p < lsZ g (n + ((g 32 c).toInt.toNat - n)) ∧ lsE g (n + ((g 32 c).toInt.toNat - n)) p = c
    · obtain ⟨p0, hp0, e0⟩ := hx
      refine smN_one (s := p0) (fun p hp hne => ?_) (fun _ => ?_)
      · rw [h.ls]
        have hc : lsE g (n + ((g 32 c).toInt.toNat - n)) p ≠ c := fun z => hne ((hl _ hf).1 p p0 hp hp0 (z.trans e0.symm))
        obtain ⟨a, b, e⟩ := h.2 _ hc
        rw [lf_eq a b e]
        exact Nat.le_refl _
      · rw [h.ls, e0]
        exact hd
    · refine Nat.le_trans (smN_le (fun p hp => ?_)) (Nat.le_add_right _ _)
      rw [h.ls]
      have hc : lsE g (n + ((g 32 c).toInt.toNat - n)) p ≠ c := fun z => hx ⟨p, hp, z⟩
      obtain ⟨a, b, e⟩ := h.2 _ hc
      rw [lf_eq a b e]
      exact Nat.le_refl _
/-- no call is opened anew: the lists' rules stay -/
theorem cs1.CL {n N : Nat} {g g1 : mSt} {c : Nat} (h : cs1 g g1 c) (hl : CL n N g) (h0 : (g 36 c).toInt = 0 → (g1 36 c).toInt = 0) : CL n N g1 := by
  intro f hf
  obtain ⟨a1, a2, a3, a4⟩ := hl f hf
  refine ⟨fun p q hp hq => by rw [h.ls, h.ls]; rw [h.lz] at hp hq; exact a1 p q hp hq, fun p hp => ?_, Nat.le_trans ?_ a3, ?_⟩
  · rw [h.lz] at hp
    rw [h.ls, h.1 32 (by decide), h.1 38 (by decide), h.1 34 (by decide), h.1 33 (by decide), h.1 323 (by decide)]
    exact a2 p hp
  · unfold rtL
    rw [h.lz]
    refine smN_le (fun p hp => ?_)
    rw [h.ls, h.1 38 (by decide)]
    by_cases e : lsE g (n + f) p = c
    · rw [e]
      by_cases z : (g 36 c).toInt = 0
      · rw [if_pos (h0 z)]
        exact Nat.zero_le _
      · rw [if_neg z]
        split
        · exact Nat.zero_le _
        · exact Nat.le_refl _
    · rw [(h.2 _ e).1]
      exact Nat.le_refl _
  · rw [h.1 323 (by decide)]
    exact a4
theorem dyg_eq {g g1 : mSt} {c : Nat} (h : g1 36 c = g 36 c) : dyg g1 c ↔ dyg g c := by
  unfold dyg
  rw [h]
theorem cs1.CPs {n N : Nat} {g g1 : mSt} {c : Nat} (h : cs1 g g1 c) (hp : CP n N g) (hd : (g 43 c).toInt < 0 ∨ (dyg g1 c ↔ dyg g c)) (hc : (n : Int) ≤ (g 32 c).toInt ∧ c < N) : CP n N g1 := by
  intro k hk h1 h2
  rw [h.1 32 (by decide)] at h1
  rw [h.1 43 (by decide)] at h2
  obtain ⟨a1, a2, a3, a4⟩ := hp k hk h1 h2
  rw [h.1 43 (by decide), h.1 32 (by decide)]
  refine ⟨a1, a2, a3, ?_⟩
  have all : ∀ x, (x = c → 0 ≤ (g 43 c).toInt) → (dyg g1 x ↔ dyg g x) := fun x hx => by
    by_cases e : x = c
    · rcases hd with hd | hd
      · have := hx e
        omega
      · rw [e]
        exact hd
    · exact dyg_eq (h.2 x e).1
  rw [all k (fun e => by rw [← e]; exact h2), all _ (fun e => by rw [← e, a3]; omega)]
  exact a4
theorem CPp {n N : Nat} {g g1 : mSt} {c p : Nat} (hp : CP n N g) (hr : g1 32 = g 32 ∧ g1 43 = g 43) (h3 : ∀ k, k ≠ c → k ≠ p → g1 36 k = g 36 k) (hc : (n : Int) ≤ (g 32 c).toInt ∧ c < N) (e : (g 43 c).toInt = (p : Int)) (hd : dyg g1 c) (hd2 : dyg g1 p) : CP n N g1 := by
  intro k hk h1 h2
  rw [hr.1] at h1
  rw [hr.2] at h2
  obtain ⟨a1, a2, a3, a4⟩ := hp k hk h1 h2
  rw [hr.1, hr.2]
  refine ⟨a1, a2, a3, ?_⟩
  have ec : (g 43 c).toInt.toNat = p := by omega
  obtain ⟨b1, b2, b3, b4⟩ := hp c hc.2 hc.1 (by omega)
  rw [ec] at b1 b2 b3 b4
  by_cases e1 : k = c
  · subst e1
    rw [ec]
    exact iff_of_true hd hd2
  · by_cases e2 : k = p
    · subst e2
      have : (g 43 k).toInt.toNat = c := by omega
      rw [this]
      exact iff_of_true hd2 hd
    · rw [dyg_eq (h3 k e1 e2), dyg_eq (h3 _ (fun z => ?_) (fun z => ?_))]
      · exact a4
      · rw [z] at a3
        omega
      · rw [z] at a3
        omega
/-- what the switch's own steps may change -/
def ownS (n : Nat) (g : mSt) (j k : Nat) : Prop := (j ∈ cRows ∧ (n : Int) ≤ (g 32 k).toInt) ∨ (j = 198 ∧ n ≤ k) ∨ ((j = 832 ∨ j = 864) ∧ n ≤ k / 8192)
/-- no call is opened anew -/
def noO (g g1 : mSt) : Prop := ∀ c, (g 36 c).toInt = 0 → (g1 36 c).toInt = 0
/-- a step of the switch's calls that makes none -/
def sst (n N : Nat) (t : Int) (g g1 : mSt) (d : Nat) : Prop := (∀ j k, ¬ ownS n g j k → g1 j k = g j k) ∧ CI n N g1 ∧ LT n g t ≤ LT n g1 t + d ∧ noO g g1
theorem sst.row {n N d : Nat} {t : Int} {g g1 : mSt} (h : sst n N t g g1 d) (j : Nat) (hj : j ∉ cRows ∧ j ≠ 198 ∧ j ≠ 832 ∧ j ≠ 864) : g1 j = g j := funext fun k => h.1 j k (fun z => by
  rcases z with z | z | z
  · exact hj.1 z.1
  · exact hj.2.1 z.1
  · rcases z.1 with w | w
    · exact hj.2.2.1 w
    · exact hj.2.2.2 w)
theorem sst.rf {n N d : Nat} {t : Int} {g : mSt} (h : CI n N g) : sst n N t g g d := ⟨fun _ _ _ => rfl, h, Nat.le_add_right _ _, fun _ z => z⟩
theorem sst.le {n N d d1 : Nat} {t : Int} {g g1 : mSt} (h : sst n N t g g1 d) (k : d ≤ d1) : sst n N t g g1 d1 := ⟨h.1, h.2.1, Nat.le_trans h.2.2.1 (Nat.add_le_add_left k _), h.2.2.2⟩
theorem sst.tr {n N d d1 : Nat} {t : Int} {g g1 g2 : mSt} (h : sst n N t g g1 d) (k : sst n N t g1 g2 d1) : sst n N t g g2 (d + d1) := by
  refine ⟨fun a b q => (k.1 a b (fun z => q ?_)).trans (h.1 a b q), k.2.1, by have := h.2.2.1; have := k.2.2.1; omega, fun c z => k.2.2.2 c (h.2.2.2 c z)⟩
  unfold ownS at z ⊢
  rw [h.row 32 (by decide)] at z
  exact z
/-- the call c, and what the switch's sides say -/
def chw (n : Nat) (g g1 : mSt) (c : Nat) : Prop := ∀ j k, ¬ ((k = c ∧ j ∈ cRows) ∨ (j = 198 ∧ n ≤ k) ∨ ((j = 832 ∨ j = 864) ∧ n ≤ k / 8192)) → g1 j k = g j k
theorem chw.cs1 {n : Nat} {g g1 : mSt} {c : Nat} (h : chw n g g1 c) : cs1 g g1 c := by
  refine ⟨fun j hj => funext fun k => h j k ?_, fun k hk => ⟨h 36 k ?_, h 41 k ?_, h 42 k ?_⟩⟩
  · simp only [List.mem_cons, List.not_mem_nil, or_false] at hj
    simp only [cRows, List.mem_cons, List.not_mem_nil, or_false]
    omega
  all_goals
    simp only [cRows, List.mem_cons, List.not_mem_nil, or_false]
    omega
theorem chw.own {n : Nat} {g g1 : mSt} {c : Nat} (h : chw n g g1 c) (hc : (n : Int) ≤ (g 32 c).toInt) : ∀ j k, ¬ ownS n g j k → g1 j k = g j k := fun j k q => h j k (fun z => q (by
  rcases z with z | z
  · left
    rw [z.1]
    exact ⟨z.2, hc⟩
  · exact Or.inr z))
theorem chw.no {n : Nat} {g g1 : mSt} {c : Nat} (h : chw n g g1 c) (h0 : (g 36 c).toInt = 0 → (g1 36 c).toInt = 0) : noO g g1 := fun x z => by
  by_cases e : x = c
  · rw [e] at z ⊢
    exact h0 z
  · rw [(h.cs1.2 x e).1]
    exact z
theorem chw.tr {n : Nat} {g g1 g2 : mSt} {c : Nat} (h : chw n g g1 c) (k : chw n g1 g2 c) : chw n g g2 c := fun a b q => (k a b q).trans (h a b q)
/-- one call steps, and is no less or no more than before -/
theorem sst.one {n N d d1 : Nat} {t : Int} {g0 g g1 : mSt} {c : Nat} (hs : sst n N t g0 g d) (h : chw n g g1 c) (hc : (n : Int) ≤ (g 32 c).toInt ∧ c < N) (h0 : (g 36 c).toInt = 0 → (g1 36 c).toInt = 0) (hd : (g 43 c).toInt < 0 ∨ (dyg g1 c ↔ dyg g c)) (hl : lf g t c ≤ lf g1 t c + d1) : sst n N t g0 g1 (d + d1) :=
  hs.tr ⟨h.own hc.1, ⟨h.cs1.CL hs.2.1.1 h0, h.cs1.CPs hs.2.1.2 hd hc⟩, h.cs1.LT hs.2.1.1 hl, h.no h0⟩
/-- a call and its partner go -/
theorem sst.two {n N d d1 d2 : Nat} {t : Int} {g0 g g1 g2 : mSt} {c p : Nat} (hs : sst n N t g0 g d) (h : chw n g g1 c) (k : chw n g1 g2 p) (hc : (n : Int) ≤ (g 32 c).toInt ∧ c < N) (e : (g 43 c).toInt = (p : Int)) (h0 : (g 36 c).toInt = 0 → (g1 36 c).toInt = 0) (h1 : (g1 36 p).toInt = 0 → (g2 36 p).toInt = 0) (hd : dyg g2 c) (hd2 : dyg g2 p) (hl : lf g t c ≤ lf g1 t c + d1) (hl2 : lf g1 t p ≤ lf g2 t p + d2) : sst n N t g0 g2 (d + (d1 + d2)) := by
  have hp := hs.2.1.2 c hc.2 hc.1 (by omega)
  have ep : (g 43 c).toInt.toNat = p := by omega
  rw [ep] at hp
  have hL := h.cs1.CL hs.2.1.1 h0
  refine hs.tr ⟨fun a b q => ?_, ⟨k.cs1.CL hL h1, CPp hs.2.1.2 ⟨?_, ?_⟩ (fun x hx hx2 => ?_) hc e hd hd2⟩, ?_, fun x z => k.no h1 x (h.no h0 x z)⟩
  · have q2 : g1 a b = g a b := h.own hc.1 a b q
    rw [← q2]
    refine k.own (by rw [h.cs1.1 32 (by decide)]; exact hp.2.1) a b (fun z => q ?_)
    unfold ownS at z ⊢
    rw [h.cs1.1 32 (by decide)] at z
    exact z
  · rw [k.cs1.1 32 (by decide), h.cs1.1 32 (by decide)]
  · rw [k.cs1.1 43 (by decide), h.cs1.1 43 (by decide)]
  · rw [(k.cs1.2 x hx2).1, (h.cs1.2 x hx).1]
  · have a := h.cs1.LT (t := t) hs.2.1.1 hl
    have b := k.cs1.LT (t := t) hL hl2
    omega
