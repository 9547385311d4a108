/-! the switch's side of a link takes a tick's octets: what is counted -/
def XI (n : Nat) (t : Int) (Z : cZ) (g : mSt) : Int := 24 * (Z.w 2 : Int) - (LT n g t : Int)
/-- w windows so far; a message in hand: c1, and that it is a SETUP: c2 -/
def AR (n f : Nat) (t : Int) (Z0 : cZ) (g0 : mSt) (bK bS : Prop) (w : Nat) (c1 c2 : Int) (Z : cZ) (g : mSt) : Prop := (Z.n = n ∧ Z0.w 2 ≤ Z.w 2 ∧ Z.w 3 = Z0.w 3 ∧ rS Z0 g0 Z g) ∧ (CI n (Z.w 2) g ∧ lnI t g (n + f) ∧ OH g (n + f) ∧ NC n (Z0.w 2) g0 (Z.w 2) g) ∧ (∃ kK kS : Nat, (kK ≤ w ∧ kS ≤ w) ∧ ((0 < kK → bK) ∧ (0 < kS → bS)) ∧ XI n t Z g + 16 * (occ g (n + f) : Int) + 16 * c1 ≤ XI n t Z0 g0 + 16 * (occ g0 (n + f) : Int) + 16 * (w : Int) + 48 * (kK : Int) ∧ XI n t Z g + 32 * (osp g (n + f) : Int) + 16 * (opL g (n + f) : Int) + 32 * c2 ≤ XI n t Z0 g0 + 32 * (osp g0 (n + f) : Int) + 16 * (opL g0 (n + f) : Int) + 32 * (kS : Int)) ∧ lfG g0 t (n + f) ≤ lfG g t (n + f) ∧ FA n f (Z0.w 2) g0 g
def coreR : List Nat := [32, 33, 34, 36, 38, 41, 42, 43, 323, 386, 1728]
def coreN (M : List Nat) : Bool := coreR.all fun j => !(M.contains j)
theorem coreN_at {M : List Nat} (h : coreN M = true) {j : Nat} (hj : j ∈ coreR) : j ∉ M := by
  unfold coreN at h
  rw [List.all_eq_true] at h
  have := h j hj
  simpa using this
theorem core_CI {M : List Nat} {n N : Nat} {g g1 : mSt} (k : mFr M g g1) (hM : coreN M = true) (h : CI n N g) : CI n N g1 := by
  unfold CI CL CP dyg rtL lsE lsZ at h ⊢
  rw [k 32 (coreN_at hM (by decide)), k 33 (coreN_at hM (by decide)), k 34 (coreN_at hM (by decide)), k 36 (coreN_at hM (by decide)), k 38 (coreN_at hM (by decide)), k 43 (coreN_at hM (by decide)), k 323 (coreN_at hM (by decide)), k 386 (coreN_at hM (by decide)), k 1728 (coreN_at hM (by decide))]
  exact h
theorem core_LT {M : List Nat} {n : Nat} {t : Int} {g g1 : mSt} (k : mFr M g g1) (hM : coreN M = true) : LT n g1 t = LT n g t := by
  unfold LT lfL lf cEx lsE lsZ
  rw [k 36 (coreN_at hM (by decide)), k 41 (coreN_at hM (by decide)), k 42 (coreN_at hM (by decide)), k 386 (coreN_at hM (by decide)), k 1728 (coreN_at hM (by decide))]
theorem core_op {M : List Nat} {s : Nat} {g g1 : mSt} (k : mFr M g g1) (hM : coreN M = true) : opL g1 s = opL g s := by
  unfold opL lsE lsZ
  rw [k 36 (coreN_at hM (by decide)), k 386 (coreN_at hM (by decide)), k 1728 (coreN_at hM (by decide))]
theorem occ_eq {g g1 : mSt} {i : Nat} (h : g1 1280 = g 1280) : occ g1 i = occ g i := by
  unfold occ ahd
  rw [h]
theorem osp_eq {g g1 : mSt} {i : Nat} (h : g1 1280 = g 1280) (k : g1 1248 = g 1248) : osp g1 i = osp g i := by
  unfold osp su19 ahd pAt
  rw [h, k]
theorem lfG_eq {M : List Nat} {g g1 : mSt} {t : Int} {i : Nat} (k : mFr M g g1) (hM : (164 ∉ M ∧ 177 ∉ M) ∧ 178 ∉ M ∧ 180 ∉ M) : lfG g1 t i = lfG g t i := by
  unfold lfG
  rw [k 164 hM.1.1, k 177 hM.1.2, k 178 hM.2.1, k 180 hM.2.2]
theorem lnI_eq {M : List Nat} {g g1 : mSt} {t : Int} {i : Nat} (k : mFr M g g1) (hM : 177 ∉ M ∧ 178 ∉ M ∧ 180 ∉ M) (h : lnI t g i) : lnI t g1 i := by
  unfold lnI at h ⊢
  rw [k 177 hM.1, k 178 hM.2.1, k 180 hM.2.2]
  exact h
/-- what leaves the calls, the line and what lies ahead as they are -/
theorem AR.fr {M : List Nat} {n f w : Nat} {t : Int} {Z0 Z : cZ} {g0 g g1 : mSt} {bK bS : Prop} {c1 c2 : Int} (h : AR n f t Z0 g0 bK bS w c1 c2 Z g) (k : mFr M g g1) (hM : coreN M = true) (hM2 : ((164 ∉ M ∧ 177 ∉ M) ∧ 178 ∉ M ∧ 180 ∉ M) ∧ (1248 ∉ M ∧ 1280 ∉ M) ∧ 1088 ∉ M ∧ 1729 ∉ M) (fa : FA n f (Z.w 2) g g1) : AR n f t Z0 g0 bK bS w c1 c2 Z g1 := by
  obtain ⟨⟨a1, a2, a3, a4⟩, ⟨b1, b2, b3, b4⟩, ⟨kK, kS, d1, d2, d3, d4⟩, e1, e2⟩ := h
  refine ⟨⟨a1, a2, a3, a4.tr (rS.rf (k 386 (coreN_at hM (by decide))) (k 1729 hM2.2.2.2))⟩, ⟨core_CI k hM b1, lnI_eq k ⟨hM2.1.1.2, hM2.1.2.1, hM2.1.2.2⟩ b2, ?_, b4.eq (k 32 (coreN_at hM (by decide))) (k 43 (coreN_at hM (by decide)))⟩, ⟨kK, kS, d1, d2, ?_, ?_⟩, ?_, e2.tr a2 fa⟩
  · unfold OH
    rw [k 1248 hM2.2.1.1]
    exact b3
  · unfold XI at d3 ⊢
    rw [core_LT k hM, occ_eq (k 1280 hM2.2.1.2)]
    exact d3
  · unfold XI at d4 ⊢
    rw [core_LT k hM, core_op k hM, osp_eq (k 1280 hM2.2.1.2) (k 1248 hM2.2.1.1)]
    exact d4
  · rw [lfG_eq k hM2.1]
    exact e1
/-- a unit came: another window -/
theorem AR.unit {M : List Nat} {n f w q : Nat} {t : Int} {Z0 Z : cZ} {g0 g g1 : mSt} {bK bS : Prop} {r p2 : Int32} (h : AR n f t Z0 g0 bK bS w 0 0 Z g) (k : mFr M g g1) (hM : coreN M = true) (hM2 : 1088 ∉ M ∧ 1729 ∉ M) (fa : FA n f (Z.w 2) g g1) (hA : aS g g1 (n + f) ∨ ∃ x : Int32, x.toInt = p2.toInt - 4 ∧ aD g g1 (n + f) x) (hK : r.toInt = 1 → bK) (hL : LnS t (n + f) g g1) (hU : uR g g1 (n + f) q p2) (hS : SU g q p2 → bS) : AR n f t Z0 g0 bK bS (w + 1) 0 0 Z g1 ∧ (r.toInt = 1 → ∃ kK kS : Nat, (kK ≤ w + 1 ∧ kS ≤ w + 1) ∧ ((0 < kK → bK) ∧ (0 < kS → bS)) ∧ XI n t Z g1 + 16 * (occ g1 (n + f) : Int) + 48 ≤ XI n t Z0 g0 + 16 * (occ g0 (n + f) : Int) + 16 * ((w + 1 : Nat) : Int) + 48 * (kK : Int) ∧ XI n t Z g1 + 32 * (osp g1 (n + f) : Int) + 16 * (opL g1 (n + f) : Int) ≤ XI n t Z0 g0 + 32 * (osp g0 (n + f) : Int) + 16 * (opL g0 (n + f) : Int) + 32 * (kS : Int)) := by
  obtain ⟨⟨a1, a2, a3, a4⟩, ⟨b1, b2, b3, b4⟩, ⟨kK, kS, d1, d2, d3, d4⟩, e1, e2⟩ := h
  have ho : occ g1 (n + f) ≤ occ g (n + f) + 1 := by
    rcases hA with z | ⟨x, _, z⟩
    · have := (occ_aS z).1
      omega
    · exact (occ_aD z).1
  have hx : XI n t Z g1 = XI n t Z g := by
    unfold XI
    rw [core_LT k hM]
  have hop := core_op (s := n + f) k hM
  have hsp : ∃ kS' : Nat, kS' ≤ w + 1 ∧ (0 < kS' → bS) ∧ XI n t Z g1 + 32 * (osp g1 (n + f) : Int) + 16 * (opL g1 (n + f) : Int) ≤ XI n t Z0 g0 + 32 * (osp g0 (n + f) : Int) + 16 * (opL g0 (n + f) : Int) + 32 * (kS' : Int) := by
    rw [hx, hop]
    rcases hU.1 with z | ⟨z1, z2⟩
    · exact ⟨kS, by omega, d2.2, by omega⟩
    · exact ⟨kS + 1, by omega, fun _ => hS z1, by omega⟩
  obtain ⟨kS', s1, s2, s3⟩ := hsp
  refine ⟨⟨⟨a1, a2, a3, a4.tr (rS.rf (k 386 (coreN_at hM (by decide))) (k 1729 hM2.2))⟩, ⟨core_CI k hM b1, hL.1, hU.2 b3, b4.eq (k 32 (coreN_at hM (by decide))) (k 43 (coreN_at hM (by decide)))⟩, ⟨kK, kS', ⟨by omega, s1⟩, ⟨d2.1, s2⟩, by rw [hx]; omega, by omega⟩, Nat.le_trans e1 hL.2, e2.tr a2 fa⟩, fun hr => ⟨kK + 1, kS', ⟨by omega, s1⟩, ⟨fun _ => hK hr, s2⟩, by rw [hx]; omega, s3⟩⟩
/-- all calls of the side are over -/
theorem AR.over {n f w d : Nat} {t : Int} {Z0 Z : cZ} {g0 g g1 : mSt} {bK bS : Prop} (h : AR n f t Z0 g0 bK bS w 0 0 Z g) (hk : ∃ kK kS : Nat, (kK ≤ w ∧ kS ≤ w) ∧ ((0 < kK → bK) ∧ (0 < kS → bS)) ∧ XI n t Z g + 16 * (occ g (n + f) : Int) + 48 ≤ XI n t Z0 g0 + 16 * (occ g0 (n + f) : Int) + 16 * (w : Int) + 48 * (kK : Int) ∧ XI n t Z g + 32 * (osp g (n + f) : Int) + 16 * (opL g (n + f) : Int) ≤ XI n t Z0 g0 + 32 * (osp g0 (n + f) : Int) + 16 * (opL g0 (n + f) : Int) + 32 * (kS : Int)) (hd : d ≤ 3) (s : sst n (Z.w 2) t g g1 (16 * d)) (ho : opL g1 (n + f) + d ≤ opL g (n + f)) : AR n f t Z0 g0 bK bS w 0 0 Z g1 := by
  obtain ⟨⟨a1, a2, a3, a4⟩, ⟨b1, b2, b3, b4⟩, _, e1, e2⟩ := h
  obtain ⟨kK, kS, d1, d2, d3, d4⟩ := hk
  have r : ∀ j, j ∉ cRows ∧ j ≠ 198 ∧ j ≠ 832 ∧ j ≠ 864 → g1 j = g j := fun j hj => s.row j hj
  have hl := s.2.2.1
  refine ⟨⟨a1, a2, a3, a4.tr (rS.rf (r 386 (by decide)) (r 1729 (by decide)))⟩, ⟨s.2.1, ?_, ?_, b4.eq (r 32 (by decide)) (r 43 (by decide))⟩, ⟨kK, kS, d1, d2, ?_, ?_⟩, ?_, e2.tr a2 (FA.sst s)⟩
  · unfold lnI at b2 ⊢
    rw [r 177 (by decide), r 178 (by decide), r 180 (by decide)]
    exact b2
  · unfold OH
    rw [r 1248 (by decide)]
    exact b3
  · unfold XI at d3 ⊢
    rw [occ_eq (r 1280 (by decide))]
    omega
  · unfold XI at d4 ⊢
    rw [osp_eq (r 1280 (by decide)) (r 1248 (by decide))]
    omega
  · unfold lfG at e1 ⊢
    rw [r 164 (by decide), r 177 (by decide), r 178 (by decide), r 180 (by decide)]
    exact e1
theorem AR.ask {M : List Nat} {n f w : Nat} {t : Int} {Z0 Z : cZ} {g0 g g1 : mSt} {bK bS : Prop} (h : AR n f t Z0 g0 bK bS w 0 0 Z g) (k : mFr M g g1) (hM : coreN M = true) (hM2 : (1248 ∉ M ∧ 1280 ∉ M) ∧ 1088 ∉ M ∧ 1729 ∉ M) (hL : LnS t (n + f) g g1) (fa : FA n f (Z.w 2) g g1) : AR n f t Z0 g0 bK bS w 0 0 Z g1 := by
  obtain ⟨⟨a1, a2, a3, a4⟩, ⟨b1, b2, b3, b4⟩, ⟨kK, kS, d1, d2, d3, d4⟩, e1, e2⟩ := h
  refine ⟨⟨a1, a2, a3, a4.tr (rS.rf (k 386 (coreN_at hM (by decide))) (k 1729 hM2.2.2))⟩, ⟨core_CI k hM b1, hL.1, ?_, b4.eq (k 32 (coreN_at hM (by decide))) (k 43 (coreN_at hM (by decide)))⟩, ⟨kK, kS, d1, d2, ?_, ?_⟩, Nat.le_trans e1 hL.2, e2.tr a2 fa⟩
  · unfold OH
    rw [k 1248 hM2.1.1]
    exact b3
  · unfold XI at d3 ⊢
    rw [core_LT k hM, occ_eq (k 1280 hM2.1.2)]
    exact d3
  · unfold XI at d4 ⊢
    rw [core_LT k hM, core_op k hM, osp_eq (k 1280 hM2.1.2) (k 1248 hM2.1.1)]
    exact d4
def cM1 (r : Int32) : Int := if 0 < r.toInt then 1 else 0
def cM2 (r : Int32) (g : mSt) : Int := if r.toInt = 19 ∧ suB (msg g 0) then 1 else 0
/-- the next message -/
theorem AR.take {M : List Nat} {n f w : Nat} {t : Int} {Z0 Z : cZ} {g0 g g1 : mSt} {bK bS : Prop} {r : Int32} (h : AR n f t Z0 g0 bK bS w 0 0 Z g) (k : mFr M g g1) (hM : coreN M = true) (hM2 : ((164 ∉ M ∧ 177 ∉ M) ∧ 178 ∉ M ∧ 180 ∉ M) ∧ 1729 ∉ M) (hr : 1 ≤ r.toInt) (hT : tkR g g1 (n + f) r) (fa : FA n f (Z.w 2) g g1) : AR n f t Z0 g0 bK bS w (cM1 r) (cM2 r g1) Z g1 := by
  obtain ⟨⟨a1, a2, a3, a4⟩, ⟨b1, b2, b3, b4⟩, ⟨kK, kS, d1, d2, d3, d4⟩, e1, e2⟩ := h
  obtain ⟨⟨t1, t2, t3⟩, t4, t5⟩ := hT
  have hx : XI n t Z g1 = XI n t Z g := by
    unfold XI
    rw [core_LT k hM]
  refine ⟨⟨a1, a2, a3, a4.tr (rS.rf (k 386 (coreN_at hM (by decide))) (k 1729 hM2.2))⟩, ⟨core_CI k hM b1, lnI_eq k ⟨hM2.1.1.2, hM2.1.2.1, hM2.1.2.2⟩ b2, by unfold OH; rw [t5]; exact b3, b4.eq (k 32 (coreN_at hM (by decide))) (k 43 (coreN_at hM (by decide)))⟩, ⟨kK, kS, d1, d2, ?_, ?_⟩, ?_, e2.tr a2 fa⟩
  · unfold cM1
    rw [hx, if_pos (by omega)]
    omega
  · unfold cM2
    rw [hx, core_op k hM]
    split
    · rename_i z
      have := t3 z.1 z.2
      omega
    · omega
  · rw [lfG_eq k hM2.1]
    exact e1
/-- what a message did -/
theorem AR.came {n f w : Nat} {t : Int} {Z0 Z Z1 : cZ} {g0 g g1 : mSt} {bK bS su : Prop} {c2 : Int} (h : AR n f t Z0 g0 bK bS w 1 c2 Z g) (hc : 0 ≤ c2) (hsu : su → c2 = 1) (m : cmR n t f su Z g Z1 g1) : AR n f t Z0 g0 bK bS w 0 0 Z1 g1 := by
  obtain ⟨⟨a1, a2, a3, a4⟩, ⟨b1, b2, b3, b4⟩, ⟨kK, kS, d1, d2, d3, d4⟩, e1, e2⟩ := h
  rcases m with ⟨eZ, k, hk, s, ho⟩ | ⟨hs, w2, w3, p, rs⟩
  · subst eZ
    have r : ∀ j, j ∉ cRows ∧ j ≠ 198 ∧ j ≠ 832 ∧ j ≠ 864 → g1 j = g j := fun j hj => s.row j hj
    have hl := s.2.2.1
    refine ⟨⟨a1, a2, a3, a4.tr (rS.rf (r 386 (by decide)) (r 1729 (by decide)))⟩, ⟨s.2.1, ?_, ?_, b4.eq (r 32 (by decide)) (r 43 (by decide))⟩, ⟨kK, kS, d1, d2, ?_, ?_⟩, ?_, e2.tr a2 (FA.sst s)⟩
    · unfold lnI at b2 ⊢
      rw [r 177 (by decide), r 178 (by decide), r 180 (by decide)]
      exact b2
    · unfold OH
      rw [r 1248 (by decide)]
      exact b3
    · unfold XI at d3 ⊢
      rw [occ_eq (r 1280 (by decide))]
      omega
    · unfold XI at d4 ⊢
      rw [osp_eq (r 1280 (by decide)) (r 1248 (by decide))]
      omega
    · unfold lfG at e1 ⊢
      rw [r 164 (by decide), r 177 (by decide), r 178 (by decide), r 180 (by decide)]
      exact e1
  · have c1 := hsu hs
    have r : ∀ j, (50 ≤ j ∧ j ≠ 198 ∧ j ≠ 323 ∧ j ≠ 384 ∧ j ≠ 385 ∧ j ≠ 386 ∧ j ≠ 832 ∧ j ≠ 864 ∧ j ≠ 1728 ∧ j ≠ 1729) → g1 j = g j := fun j hj => funext fun k => p.1 j k (fun z => by
      unfold own2 ownS at z
      rcases z with (⟨z, _⟩ | z) | z
      · have := cRows_r z
        omega
      · omega
      · omega)
    have hl := p.2.2.1
    have ho := p.2.2.2.1
    have n32 : ∀ c, c < Z.w 2 → g1 32 c = g 32 c := fun c hc => p.1 32 c (fun z => by
      unfold own2 ownS at z
      have n0 : (32 : Nat) ∉ cRows := by decide
      rcases z with (⟨z, _⟩ | z) | z
      · exact n0 z
      · omega
      · omega)
    refine ⟨⟨rs.1.trans a1, by omega, w3.trans a3, a4.tr rs⟩, ⟨by rw [w2]; exact p.2.1, ?_, ?_, by rw [w2]; exact b4.tr (by omega) p.2.2.2.2 n32⟩, ⟨kK, kS, d1, d2, ?_, ?_⟩, ?_, e2.tr a2 (FA.prS p)⟩
    · unfold lnI at b2 ⊢
      rw [r 177 (by decide), r 178 (by decide), r 180 (by decide)]
      exact b2
    · unfold OH
      rw [r 1248 (by decide)]
      exact b3
    · unfold XI at d3 ⊢
      rw [occ_eq (r 1280 (by decide)), w2]
      omega
    · unfold XI at d4 ⊢
      rw [osp_eq (r 1280 (by decide)) (r 1248 (by decide)), w2]
      omega
    · unfold lfG at e1 ⊢
      rw [r 164 (by decide), r 177 (by decide), r 178 (by decide), r 180 (by decide)]
      exact e1
theorem AR.drop {n f w : Nat} {t : Int} {Z0 Z : cZ} {g0 g : mSt} {bK bS : Prop} {c1 c2 : Int} (h : AR n f t Z0 g0 bK bS w c1 c2 Z g) (h1 : 0 ≤ c1) (h2 : 0 ≤ c2) : AR n f t Z0 g0 bK bS w 0 0 Z g := by
  obtain ⟨a, b, ⟨kK, kS, d1, d2, d3, d4⟩, e⟩ := h
  exact ⟨a, b, ⟨kK, kS, d1, d2, by omega, by omega⟩, e⟩
