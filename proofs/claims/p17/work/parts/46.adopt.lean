/-! a call that is made joins the world -/
def zNew (Z : cZ) (c a : Nat) : cZ := (fun K i => if K = 1 ∧ i = c then a else Z.ad K i, fun K i => Z.al K i ∨ (K = 1 ∧ i = c), Z.n, fun k => Z.w k + (if k = 0 then 1 else if k = 1 then 18 else if k = 2 then 1 else 0))
theorem zad {Z : cZ} {c a K i : Nat} (h : ¬ (K = 1 ∧ i = c)) : (zNew Z c a).ad K i = Z.ad K i := if_neg h
theorem zadK {Z : cZ} {c a K i : Nat} (h : K ≠ 1) : (zNew Z c a).ad K i = Z.ad K i := zad (fun q => h q.1)
theorem zn {Z : cZ} {c a : Nat} : (zNew Z c a).n = Z.n := rfl
theorem zw {Z : cZ} {c a k : Nat} (h : 3 ≤ k) : (zNew Z c a).w k = Z.w k := by
  show Z.w k + (if k = 0 then 1 else if k = 1 then 18 else if k = 2 then 1 else 0) = Z.w k
  rw [if_neg (by omega), if_neg (by omega), if_neg (by omega)]
  rfl
theorem zSd {Z : cZ} {c a s : Nat} : cSd (zNew Z c a) s = cSd Z s := by
  unfold cSd
  rw [zn, zadK (by decide), zadK (by decide)]
theorem zOp {Z : cZ} {c a K : Nat} {x : Int32} (h : K ≠ 1 ∨ x.toInt ≠ (c : Int)) : cOpt (zNew Z c a) K x = cOpt Z K x := by
  unfold cOpt
  by_cases hx : x.toInt < 0
  · rw [if_pos hx, if_pos hx]
  · rw [if_neg hx, if_neg hx, zad (fun q => by omega)]
def gNew (g : mSt) (c : Nat) (sd r o : Int32) : mSt := fun j i => if i = c ∧ 32 ≤ j ∧ j < 50 then (if j = 32 then sd else if j = 33 then r else if j = 34 then o else if j = 37 then -2 else if j = 39 then -2 else if j = 43 then -1 else if j = 44 then -1 else if j = 45 then -1 else if j = 46 then -1 else 0) else g j i
theorem gNew_o {g : mSt} {c j i : Nat} {sd r o : Int32} (h : ¬ (i = c ∧ 32 ≤ j ∧ j < 50)) : gNew g c sd r o j i = g j i := if_neg h
theorem zTo {Z : cZ} {c a K i f : Nat} {x : Int32} (h : K = 1 → f = 11 → x.toInt ≠ (c : Int)) : cTo (zNew Z c a) x K i f = cTo Z x K i f := by
  unfold cTo
  split
  all_goals first
    | (rw [zadK (by decide)]; done)
    | (split <;> first | (rw [zadK (by decide)]; done) | (rw [zSd]; done) | (exact zOp (Or.inl (by decide))) | (exact zOp (Or.inr (h rfl rfl))) | (rw [zn, zadK (by decide)]; done) | rfl)
    | rfl
theorem zTe {Z : cZ} {c a K i k : Nat} {x : Int32} (h : ¬ (49 ≤ K ∧ K ≤ 53) → x.toInt ≠ (c : Int)) : cTe (zNew Z c a) x K i k = cTe Z x K i k := by
  by_cases hq : 49 ≤ K ∧ K ≤ 53
  · rcases (by omega : K = 49 ∨ K = 50 ∨ K = 51 ∨ K = 52 ∨ K = 53) with e | e | e | e | e <;> subst e
    · show some ((zNew Z c a).ad 10 k) = some (Z.ad 10 k)
      rw [zadK (by decide)]
    · show some ((zNew Z c a).ad 3 k) = some (Z.ad 3 k)
      rw [zadK (by decide)]
    · show some ((zNew Z c a).ad 4 k) = some (Z.ad 4 k)
      rw [zadK (by decide)]
    · show some (cSd (zNew Z c a) k) = some (cSd Z k)
      rw [zSd]
    · show some ((zNew Z c a).ad 38 (4 * i + k)) = some (Z.ad 38 (4 * i + k))
      rw [zadK (by decide)]
  · have hx := h hq
    unfold cTe
    split
    all_goals first
      | rfl
      | (exact zOp (Or.inr hx))
      | (rw [zadK (by decide)]; done)
      | (rw [zSd]; done)
theorem cH.adopt {G : cG} {Z : cZ} {g : mSt} {H : Heap} (hM : cH G Z g H) {c a : Nat} (hc : ¬ Z.al 1 c) (hno : ∀ i, (g 43 i).toInt ≠ (c : Int) ∧ (g 1728 i).toInt ≠ (c : Int) ∧ (g 1536 i).toInt ≠ (c : Int)) (hmax : ∀ K i, Z.al K i → K ≤ 55) {sd r o : Int32} (O : t_OB a (G.1 1) 18 (G.2.1 1) H (kV (cSd Z sd.toInt.toNat) r o)) : cH G (zNew Z c a) (gNew g c sd r o) H := by
  intro K i hal
  refine ⟨fun h55 => ?_, fun h55 => by
    have hs : ¬ (K = 1 ∧ i = c) := by omega
    rw [zad hs]
    rcases hal with h | h
    · exact (hM K i h).2 h55
    · exact absurd h hs⟩
  by_cases hs : K = 1 ∧ i = c
  · obtain ⟨rfl, rfl⟩ := hs
    unfold cC
    rw [if_pos (by decide), show (zNew Z i a).ad 1 i = a from if_pos ⟨rfl, rfl⟩]
    refine O.to (fun k hk => ?_)
    have e : ∀ j, 32 ≤ j → j < 50 → gNew g i sd r o j i = (if j = 32 then sd else if j = 33 then r else if j = 34 then o else if j = 37 then -2 else if j = 39 then -2 else if j = 43 then -1 else if j = 44 then -1 else if j = 45 then -1 else if j = 46 then -1 else 0) := fun j h1 h2 => if_pos ⟨rfl, h1, h2⟩
    unfold cV
    rw [e _ (by omega) (by omega)]
    have q : k = 0 ∨ k = 1 ∨ k = 2 ∨ k = 3 ∨ k = 4 ∨ k = 5 ∨ k = 6 ∨ k = 7 ∨ k = 8 ∨ k = 9 ∨ k = 10 ∨ k = 11 ∨ k = 12 ∨ k = 13 ∨ k = 14 ∨ k = 15 ∨ k = 16 ∨ k = 17 := by omega
    rcases q with h | h | h | h | h | h | h | h | h | h | h | h | h | h | h | h | h | h <;> subst h
    · show Value.ref (cSd Z sd.toInt.toNat) = Value.ref (cSd (zNew Z i a) sd.toInt.toNat)
      rw [zSd]
    all_goals rfl
  · have hal2 : Z.al K i := by
      rcases hal with h | h
      · exact h
      · exact absurd h hs
    have hC := (hM K i hal2).1 h55
    unfold cC at hC ⊢
    rw [zad hs]
    have hN := cNn_le K
    by_cases h16 : K < 16
    · rw [if_pos h16] at hC ⊢
      refine hC.to (fun k hk => ?_)
      unfold cV
      have e : gNew g c sd r o (32 * K + k) i = g (32 * K + k) i := gNew_o (fun q => hs ⟨by omega, q.1⟩)
      rw [e, zTo (fun h1 h2 => by rw [h1, h2]; exact (hno i).1)]
      rfl
    · rw [if_neg h16] at hC ⊢
      by_cases h48 : K < 48
      · rw [if_pos h48] at hC ⊢
        rw [hC]
        have e : (fun k => g (32 * K) (8192 * i + k)) = (fun k => gNew g c sd r o (32 * K) (8192 * i + k)) := funext fun k => (gNew_o (by omega)).symm
        rw [e]
      · rw [if_neg h48] at hC ⊢
        rw [hC]
        have e1 : cLeR (zNew Z c a) (gNew g c sd r o) K i = cLeR Z g K i := by
          unfold cLeR
          rw [show gNew g c sd r o 1729 i = g 1729 i from gNew_o (by omega)]
          rfl
        have e2 : (fun k => cTe (zNew Z c a) (gNew g c sd r o (32 * K) (16777216 * i + k)) K i k) = (fun k => cTe Z (g (32 * K) (16777216 * i + k)) K i k) := funext fun k => by
          rw [gNew_o (by omega)]
          by_cases h55 : K = 55
          · subst h55; rfl
          refine zTe (fun hq => ?_)
          have hK := hmax K i hal2
          rcases (by omega : K = 48 ∨ K = 54) with h1 | h2
          · subst h1; exact (hno _).2.2
          · subst h2; exact (hno _).2.1
        rw [e1, e2]
/-- no number stands for a call that isn't there -/
theorem cD_no {Z : cZ} {g : mSt} {c : Nat} (h : cD Z g) (hc : ¬ Z.al 1 c) : ∀ i, (g 43 i).toInt ≠ (c : Int) ∧ (g 1728 i).toInt ≠ (c : Int) ∧ (g 1536 i).toInt ≠ (c : Int) := by
  have q : ∀ x : Int32, cD4 Z x → x.toInt ≠ (c : Int) := fun x hx e => by
    rcases hx with h | h
    · omega
    · rw [e] at h
      exact hc h
  intro i
  obtain ⟨h1, h2, h3⟩ := h.2.2.2.2 i
  exact ⟨q _ h1, q _ h2, q _ h3⟩
theorem zW {Z : cZ} {c a : Nat} (h : cWm Z) (hc : c = Z.w 2) : cWm (zNew Z c a) := by
  obtain ⟨a1, a2, a3, a4, a5⟩ := h
  have w0 : (zNew Z c a).w 0 = Z.w 0 + 1 := rfl
  have w1 : (zNew Z c a).w 1 = Z.w 1 + 18 := rfl
  have w2 : (zNew Z c a).w 2 = Z.w 2 + 1 := rfl
  refine ⟨fun K i hi => ?_, fun d hd => ?_, ?_, ?_, fun x h1 h2 => ?_⟩
  · rcases hi with hi | hi
    · exact a1 K i hi
    · exact ⟨by omega, fun z => by omega, fun z => by omega⟩
  · rw [w2]
    rcases hd with hd | hd
    · have := a2 d hd; omega
    · omega
  · rw [w1, w2, zw (by decide), zw (by decide), zw (by decide), zw (by decide), zw (by decide), zw (by decide), zw (by decide), zw (by decide), zw (by decide), a3]
    omega
  · rw [w0, w2, zw (by decide), a4]
    omega
  · have h1 : 10 + 2 * Z.n ≤ x := h1
    rw [zw (by omega)]
    exact a5 x h1 h2
theorem cJ_adopt {Z : cZ} {g : mSt} {c a : Nat} {sd r o : Int32} (h : cJ Z g) (hcw : c = Z.w 2) (hc : ¬ Z.al 1 c) (hsd : 0 ≤ sd.toInt ∧ sd.toInt < 2 * (Z.n : Int)) : cJ (zNew Z c a) (gNew g c sd r o) := by
  have q : ∀ j, ¬ (32 ≤ j ∧ j < 50) → gNew g c sd r o j = g j := fun j hj => funext fun i => gNew_o (fun z => hj z.2)
  have qi : ∀ j i, i ≠ c → gNew g c sd r o j i = g j i := fun j i hi => gNew_o (fun z => hi z.1)
  have al : ∀ K i, Z.al K i → (zNew Z c a).al K i := fun K i h => Or.inl h
  have m4 : ∀ x : Int32, cD4 Z x → cD4 (zNew Z c a) x := fun x hx => hx.elim Or.inl (fun h => Or.inr (al _ _ h))
  have m2 : ∀ (s : Nat) (x : Int32), cD2 Z g s x → cD2 (zNew Z c a) (gNew g c sd r o) s x := fun s x hx => by
    have hne : x.toInt.toNat ≠ c := fun z => hc (by rw [← z]; exact hx.2.1)
    exact ⟨hx.1, al _ _ hx.2.1, by rw [qi 32 _ hne]; exact hx.2.2⟩
  have n1 : (-1 : Int32).toInt < 0 := by decide
  have v : ∀ j, 32 ≤ j ∧ j < 50 → gNew g c sd r o j c = (if j = 32 then sd else if j = 33 then r else if j = 34 then o else if j = 37 then -2 else if j = 39 then -2 else if j = 43 then -1 else if j = 44 then -1 else if j = 45 then -1 else if j = 46 then -1 else 0) := fun j hj => if_pos ⟨rfl, hj⟩
  obtain ⟨h0, h1, h2, h3, h5, h4⟩ := h
  refine ⟨?_, fun c' hc' => ?_, fun s hs => ?_, fun s hs k hk => ?_, ⟨zW h5.1 hcw, fun s hs => ?_⟩, fun i => ?_⟩
  · unfold cJ0 at *
    rw [q 640 (by decide), q 704 (by decide), q 225 (by decide), q 233 (by decide)]
    refine ⟨h0.1, h0.2.1, fun i => ?_⟩
    by_cases hi : i = c
    · rw [hi, v 49 (by decide)]
      show (0 : Int32).toInt ≤ 4
      decide
    · rw [qi 49 _ hi]; exact h0.2.2 i
  · by_cases hcc : c' = c
    · subst hcc
      unfold cD1
      rw [v 32 (by decide), v 43 (by decide), v 44 (by decide), v 45 (by decide), v 46 (by decide)]
      exact ⟨hsd, Or.inl n1, Or.inl n1, Or.inl n1, Or.inl n1⟩
    · have hal : Z.al 1 c' := by
        rcases hc' with h | h
        · exact h
        · exact absurd h.2 hcc
      obtain ⟨a1, a2, a3, a4, a5⟩ := h1 c' hal
      unfold cD1
      rw [qi 32 _ hcc, qi 43 _ hcc, qi 44 _ hcc, qi 45 _ hcc, qi 46 _ hcc]
      exact ⟨a1, a2.elim Or.inl (fun h => Or.inr (al _ _ h)), a3.elim Or.inl (fun h => Or.inr ⟨h.1, al _ _ h.2.1, fun k hk => al _ _ (h.2.2 k hk)⟩), a4.elim Or.inl (fun h => Or.inr ⟨h.1, al _ _ h.2⟩), a5.elim Or.inl (fun h => Or.inr ⟨h.1, al _ _ h.2.1, al _ _ h.2.2⟩)⟩
  · obtain ⟨b1, b2, b3⟩ := h2 s hs
    rw [q 386 (by decide), q 1729 (by decide), q 1728 (by decide)]
    exact ⟨b1, b2, fun k hk => m2 _ _ (b3 k hk)⟩
  · rw [q 135 (by decide)] at hk
    rw [q 1536 (by decide)]
    exact m2 _ _ (h3 s hs k hk)
  · rw [q 385 (by decide), q 1729 (by decide), zw (by omega)]
    exact ⟨(h5.2 s hs).1.elim Or.inl (fun z => Or.inr ⟨z.1, al _ _ z.2.1, z.2.2⟩), (h5.2 s hs).2⟩
  · rw [q 1728 (by decide), q 1536 (by decide)]
    refine ⟨?_, m4 _ (h4 i).2.1, m4 _ (h4 i).2.2⟩
    by_cases hi : i = c
    · rw [hi, v 43 (by decide)]; exact Or.inl n1
    · rw [qi 43 _ hi]; exact m4 _ (h4 i).1
theorem cAp_adopt {Z : cZ} {c a : Nat} (h : cAp Z) (ha : ∀ K i, Z.al K i → Z.ad K i ≠ a) (hc : ¬ Z.al 1 c) : cAp (zNew Z c a) := by
  intro K i K' i' h1 h2 e
  have hn : ∀ K i, Z.al K i → ¬ (K = 1 ∧ i = c) := fun K i h z => hc (by rw [z.1, z.2] at h; exact h)
  rcases h1 with h1 | h1 <;> rcases h2 with h2 | h2
  · rw [zad (hn _ _ h1), zad (hn _ _ h2)] at e
    exact h K i K' i' h1 h2 e
  · rw [zad (hn _ _ h1), h2.1, h2.2, show (zNew Z c a).ad 1 c = a from if_pos ⟨rfl, rfl⟩] at e
    exact absurd e (ha K i h1)
  · rw [zad (hn _ _ h2), h1.1, h1.2, show (zNew Z c a).ad 1 c = a from if_pos ⟨rfl, rfl⟩] at e
    exact absurd e.symm (ha K' i' h2)
  · exact ⟨h1.1.trans h2.1.symm, h1.2.trans h2.2.symm⟩
theorem cSt_adopt {Z : cZ} {c a : Nat} (h : cSt Z) : cSt (zNew Z c a) := ⟨h.1, fun K i hi => Or.inl (h.2 K i hi)⟩
theorem cI_adopt {X : Int} {g : mSt} {c : Nat} {sd r o : Int32} (h : cI X g) (ho : rg 0 1 o) : cI X (gNew g c sd r o) := by
  intro j i
  by_cases hz : i = c ∧ 32 ≤ j ∧ j < 50
  · have e : gNew g c sd r o j i = (if j = 32 then sd else if j = 33 then r else if j = 34 then o else if j = 37 then -2 else if j = 39 then -2 else if j = 43 then -1 else if j = 44 then -1 else if j = 45 then -1 else if j = 46 then -1 else 0) := if_pos hz
    rw [e]
    have q : j = 32 ∨ j = 33 ∨ j = 34 ∨ j = 35 ∨ j = 36 ∨ j = 37 ∨ j = 38 ∨ j = 39 ∨ j = 40 ∨ j = 41 ∨ j = 42 ∨ j = 43 ∨ j = 44 ∨ j = 45 ∨ j = 46 ∨ j = 47 ∨ j = 48 ∨ j = 49 := by omega
    rcases q with q | q | q | q | q | q | q | q | q | q | q | q | q | q | q | q | q | q <;> subst q
    · exact rg_any sd
    · exact rg_any r
    · exact ho
    · exact rg_any (0 : Int32)
    · exact rg_any (0 : Int32)
    · exact rg_any (-2 : Int32)
    · exact rg_any (0 : Int32)
    · exact rg_any (-2 : Int32)
    · exact rg_any (0 : Int32)
    · exact rg_any (0 : Int32)
    · exact (show rg 0 1 (0 : Int32) from ⟨by decide, by decide⟩)
    · exact rg_any (-1 : Int32)
    · exact rg_any (-1 : Int32)
    · exact rg_any (-1 : Int32)
    · exact rg_any (-1 : Int32)
    · exact (show rg 0 3 (0 : Int32) from ⟨by decide, by decide⟩)
    · exact (show rg 0 4 (0 : Int32) from ⟨by decide, by decide⟩)
    · exact (show rg 0 5 (0 : Int32) from ⟨by decide, by decide⟩)
  · rw [gNew_o hz]
    exact h j i
/-- the addresses behind it: the old ones and the new one -/
theorem cAd_adopt {Z : cZ} {c a q : Nat} (h : cAd (zNew Z c a) q) : cAd Z q ∨ q = a := by
  obtain ⟨K, i, hal, n55, e⟩ := h
  by_cases hs : K = 1 ∧ i = c
  · right
    rw [e, hs.1, hs.2]
    exact if_pos ⟨rfl, rfl⟩
  · left
    rw [zad hs] at e
    exact ⟨K, i, hal.resolve_right hs, n55, e⟩
