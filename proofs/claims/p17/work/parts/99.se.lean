/-! the switch's side of a link takes a tick's octets -/
def RV (al na : Prop) (B : Nat) (kn : Nat → Prop) (E : Nat → Int32) (q onW y w : Nat) (g : mSt) : Prop := (TI B kn E g q y ∧ WC g q y w ∧ (al → AL g q y) ∧ (na → NA g q y)) ∧ (OA g q ∧ OPl g q) ∧ (∀ x, x < onW → g 608 (8192 * q + x) = E (53 + x)) ∧ (g 101 q).toInt = (onW : Int)
theorem RV.fr {M : List Nat} {al na : Prop} {B : Nat} {kn : Nat → Prop} {E : Nat → Int32} {q onW y w : Nat} {g g1 : mSt} (h : RV al na B kn E q onW y w g) (k : mFr M g g1) (hM : ((225 ∉ M ∧ 231 ∉ M) ∧ (232 ∉ M ∧ 233 ∉ M) ∧ 234 ∉ M ∧ 800 ∉ M) ∧ 512 ∉ M ∧ 608 ∉ M ∧ 101 ∉ M ∧ 227 ∉ M) : RV al na B kn E q onW y w g1 := by
  refine ⟨⟨h.1.1.fr k hM.1, h.1.2.1.fr k ⟨hM.1.1.1, hM.1.2.1.2⟩, fun z => (h.1.2.2.1 z).fr k ⟨hM.1.1.1, hM.1.2.1.2⟩, fun z => (h.1.2.2.2 z).fr k ⟨⟨hM.1.1.1, hM.2.2.2.2⟩, hM.1.2.1.2, hM.1.2.2.1⟩⟩, ⟨?_, ?_⟩, ?_, ?_⟩
  · unfold OA
    rw [k 512 hM.2.1]
    exact h.2.1.1
  · unfold OPl
    rw [k 800 hM.1.2.2.2]
    exact h.2.1.2
  · rw [k 608 hM.2.2.1]
    exact h.2.2.1
  · rw [k 101 hM.2.2.2.1]
    exact h.2.2.2
def RM (Z : cZ) (g : mSt) (TC TS : Nat) : Prop := Z.w 2 ≤ 900000 ∧ Z.w 0 + 4 ≤ TC ∧ Z.w 1 + 243 ≤ TS ∧ ∀ s s', s ≠ s' → s < 2 * Z.n → s' < 2 * Z.n → ∃ n1 n2, gNd g s n1 ∧ gNd g s' n2 ∧ Z.w 1 + (36 + n1 + n2) ≤ TS
theorem AR.more {n f w : Nat} {t : Int} {Z0 Z : cZ} {g0 g : mSt} {bK bS : Prop} {c1 c2 : Int} (h : AR n f t Z0 g0 bK bS w c1 c2 Z g) : AR n f t Z0 g0 bK bS (w + 1) c1 c2 Z g := by
  obtain ⟨a, b, ⟨kK, kS, d1, d2, d3, d4⟩, e⟩ := h
  exact ⟨a, b, ⟨kK, kS, by omega, d2, by omega, d4⟩, e⟩
theorem occ_8 {g : mSt} {i : Nat} : occ g i ≤ 8 := by
  unfold occ
  exact Nat.le_trans List.countP_le_length (by rw [List.length_range]; exact Nat.le_refl _)
theorem AR.bd {n f w : Nat} {t : Int} {Z0 Z : cZ} {g0 g : mSt} {bK bS : Prop} {c1 c2 : Int} (h : AR n f t Z0 g0 bK bS w c1 c2 Z g) (hw : w ≤ 4) (h1 : 0 ≤ c1) : XI n t Z g ≤ XI n t Z0 g0 + 400 := by
  obtain ⟨a, b, ⟨kK, kS, d1, d2, d3, d4⟩, e⟩ := h
  have := @occ_8 g0 (n + f)
  omega
theorem s_allOverO {Z : cZ} {N f d : Nat} {p1 : Int32} {g g0 : mSt} {Φ : Int32 → mSt → Prop} (hf : f < Z.n) (hN : ∀ c, Z.al 1 c → c < N) (hs : sst Z.n N p1.toInt g0 g d) (ht : 0 ≤ p1.toInt ∧ p1.toInt ≤ 1000000000) (h : ∀ g1 k, k ≤ 3 → opL g1 (Z.n + f) + k ≤ opL g (Z.n + f) → sst Z.n N p1.toInt g0 g1 (d + 16 * k) → Φ 0 g1) : wp_kallOver_10 Z f p1 g Φ := by
  have h3 := opL_3 hs.2.1.1 hf
  refine ⟨fun _ g2 => ∃ k, opL g2 (Z.n + f) + k ≤ opL g (Z.n + f) ∧ sst Z.n N p1.toInt g0 g2 (d + 16 * k), fun a g2 _ _ _ ra ⟨k, hk, s2⟩ => ?_, ⟨0, Nat.le_refl _, hs⟩⟩
  intro v5 e5 _ _
  refine ⟨fun _ => h g2 k (by omega) hk s2, fun c5 => s_lgetX (fun v11 e11 hpo => s_isOpenX (fun z0 _ => ?_) (fun z0 _ => ?_))⟩
  · exact ⟨fun g14 => ∃ k, opL g14 (Z.n + f) + k ≤ opL g (Z.n + f) ∧ sst Z.n N p1.toInt g0 g14 (d + 16 * k), fun g14 _ _ _ q14 v15 _ _ _ => q14, fun z => absurd rfl z, fun _ => ⟨k, hk, s2⟩⟩
  · have hq := hpo.2.2.2
    have hra : 0 ≤ a.toInt := ra.1
    have hp : a.toInt.toNat < lsZ g2 (Z.n + f) := by
      unfold lsZ
      rw [← e5]
      omega
    have hcl : lsE g2 (Z.n + f) a.toInt.toNat = v11.toInt.toNat := by
      unfold lsE
      rw [← e11]
    refine ⟨fun g14 => ∃ k, opL g14 (Z.n + f) + k ≤ opL g (Z.n + f) ∧ sst Z.n N p1.toInt g0 g14 (d + 16 * k), fun g14 _ _ _ q14 v15 _ _ _ => q14, fun _ => s_finM s2 ⟨by rw [hq.2.2]; omega, hN _ hq.2.1⟩ (fun g19 m19 a19 f19 _ v20 e20 => ?_), fun z => absurd z (by decide)⟩
    have hz := @lf_16 g2 p1.toInt v11.toInt.toNat
    have fin : ∀ g1, sst Z.n N p1.toInt g0 g1 (d + 16 * k + lf g2 p1.toInt v11.toInt.toNat) → noO g19 g1 → g1 386 = g2 386 → g1 1728 = g2 1728 → ∃ k, opL g1 (Z.n + f) + k ≤ opL g (Z.n + f) ∧ sst Z.n N p1.toInt g0 g1 (d + 16 * k) := fun g1 s1 n1 e1 e2 => by
      have n2 : noO g2 g19 := f19.no (fun _ => by rw [a19]; rfl)
      have := opL_lt (s := Z.n + f) (fun x z => n1 x (n2 x z)) e1 e2 hp (by rw [hcl]; exact z0) (by rw [hcl]; exact n1 _ (by rw [a19]; rfl))
      exact ⟨k + 1, by omega, s1.le (by omega)⟩
    refine ⟨fun z => fin _ (m19.none e20 z) (fun _ z => z) (f19.cs1.1 386 (by decide)) (f19.cs1.1 1728 (by decide)), fun z => s_rel m19 ht e20 z (fun g1 s1 n1 => fin g1 s1 n1 ?_ ?_)⟩
    · rw [s1.row 386 (by decide), ← s2.row 386 (by decide)]
    · rw [s1.row 1728 (by decide), ← s2.row 1728 (by decide)]
/-- a unit came: all that is known of it -/
theorem u_all {Z : cZ} {i q1 : Nat} {p2 p3 : Int32} {g : mSt} {Φ : Int32 → mSt → Prop} (hp : 0 ≤ p3.toInt) (hn : lnI p3.toInt g i) (ho : OA g q1) (h : ∀ (r : Int32) g1, (aS g g1 i ∨ ∃ n : Int32, n.toInt = p2.toInt - 4 ∧ aD g g1 i n) → (r.toInt = 1 → KU g q1 p2) → LnS p3.toInt i g g1 → uR g g1 i q1 p2 → Φ r g1) : wp_kunitCame Z i q1 p2 p3 g Φ :=
  wc_kunitCame (Φ := fun r g1 => ((aS g g1 i ∨ ∃ n : Int32, n.toInt = p2.toInt - 4 ∧ aD g g1 i n) ∧ (r.toInt = 1 → KU g q1 p2)) ∧ LnS p3.toInt i g g1) (Ψ := fun _ g1 => uR g g1 i q1 p2) (fun r g1 a b => h r g1 a.1.1 a.1.2 a.2 b) (wc_kunitCame (Φ := fun r g1 => (aS g g1 i ∨ ∃ n : Int32, n.toInt = p2.toInt - 4 ∧ aD g g1 i n) ∧ (r.toInt = 1 → KU g q1 p2)) (Ψ := fun _ g1 => LnS p3.toInt i g g1) (fun r g1 a b => ⟨a, b⟩) (a_unitK (fun r g1 a b => ⟨a, b⟩)) (l_unit hp hn (fun r g1 a => a))) (ww_unit ho (fun r g1 a => a))
theorem cJ_sz {Z : cZ} {g : mSt} (h : cJ Z g) : ∀ s, s < 2 * Z.n → 0 ≤ (g 386 s).toInt ∧ (g 386 s).toInt ≤ 10000000 := fun s hs => by
  have a := h.2.2.1 s hs
  have b := (h.2.2.2.2.1.2 s hs).1
  refine ⟨a.1, ?_⟩
  have := a.2.1
  omega
set_option maxHeartbeats 4000000 in
theorem k_arr {TC TS B f i0 onW : Nat} {Z0 : cZ} {p1 tI : Int32} {kn : Nat → Prop} {E : Nat → Int32} {al na bK bS : Prop} {g0 : mSt} {Φ : Int32 → cZ → mSt → Prop} (hal : al → (∀ s, 53 ≤ s → kn s) ∧ ∀ c, c < 5 → gC (clE E c)) (hf : f < Z0.n) (hp1 : p1.toInt = ((2 * f : Nat) : Int)) (ht : 0 ≤ tI.toInt ∧ tI.toInt ≤ 1000000000) (h362 : g0 362 i0 = tI) (hB : B + 265 ≤ 1000000000) (hW : onW ≤ 212) (ho : ∀ z, z < 53 + onW → oct (E z)) (hA : AR Z0.n f tI.toInt Z0 g0 bK bS 0 0 0 Z0 g0) (hR : RV al na B kn E (2 * f) onW 53 0 g0) (hun : ∀ s, ¬ kn s → bK ∧ bS) (hwS : ∀ s (g g1 : mSt) (r : Int32), kn s → 1 ≤ s ∧ s ≤ 212 → ((al → s % 53 = 0) ∧ (na → s % 53 ≠ 0)) → win E g (2 * f) s → ceR g g1 (2 * f) r → r.toInt ≠ 0 → OPl g (2 * f) → SU g1 (2 * f) (g1 2 (2 * f)) → bS) (hwK : ∀ s (g g1 : mSt) (r : Int32), kn s → 1 ≤ s ∧ s ≤ 212 → ((al → s % 53 = 0) ∧ (na → s % 53 ≠ 0)) → win E g (2 * f) s → ceR g g1 (2 * f) r → r.toInt ≠ 0 → OPl g (2 * f) → KU g1 (2 * f) (g1 2 (2 * f)) → bK) (hroom : ∀ (Z : cZ) (g : mSt), cJ Z g → Z.n = Z0.n → rS Z0 g0 Z g → Z.w 3 = Z0.w 3 → XI Z0.n tI.toInt Z g ≤ XI Z0.n tI.toInt Z0 g0 + 400 → CI Z0.n (Z.w 2) g → RM Z g TC TS) (h : ∀ (Z : cZ) (g : mSt) (w : Nat), w ≤ 4 → AR Z0.n f tI.toInt Z0 g0 bK bS w 0 0 Z g → RV al na B kn E (2 * f) onW (53 + onW) w g → Φ 0 Z g) : wp_karrive TC TS Z0 i0 p1 (2 * f) g0 Φ := by
  intro Z eZ v1 _ _ t1
  subst eZ
  refine ⟨fun z => by exfalso; omega, fun _ v145 t145 _ v146 _ _ t146 v148 _ _ t148 => ⟨fun _ => trivial, fun _ sx esx => ?_⟩⟩
  have hsx : sx = f := by omega
  rw [hsx]
  have wle : ∀ {y w : Nat} {g : mSt}, WC g (2 * f) y w → y ≤ 265 → w ≤ 4 := fun {y w g} hw hy => by
    have := hw.1
    omega
  have t362 : ∀ {Zx : cZ} {w : Nat} {c1 c2 : Int} {g : mSt}, AR Z.n f tI.toInt Z g0 bK bS w c1 c2 Zx g → g 362 i0 = tI := fun {Zx w c1 c2 g} a => by
    rw [a.2.2.2.2 362 i0 (fun w => ?_)]
    · exact h362
    · unfold ownA own2 ownS at w
      have n1 : (362 : Nat) ∉ cRows := by decide
      have n2 : (362 : Nat) ∉ anyR := by decide
      rcases w with (w | w) | w | w
      · rcases w with ⟨w, _⟩ | w
        · exact n1 w
        · omega
      · omega
      · exact n2 w
      · omega
  refine ⟨fun at_ k Zx g => ∃ w, AR Z.n f tI.toInt Z g0 bK bS w 0 0 Zx g ∧ RV al na B kn E (2 * f) onW (53 + at_.toInt.toNat) w g ∧ 0 ≤ k.toInt ∧ k.toInt ≤ at_.toInt ∧ at_.toInt ≤ (onW : Int), fun at_ k Zx g _ _ hJ hZn _ rk ⟨w, ar, rv, k0, k1, k2⟩ => ?_, ⟨0, hA, hR, by decide, by decide, by show (0 : Int) ≤ _; omega⟩⟩
  have rk : 0 ≤ k.toInt ∧ k.toInt ≤ 212 := rk
  have w4 : w ≤ 4 := wle rv.1.2.1 (by omega)
  have fin : at_.toInt = (onW : Int) → Φ 0 Zx g := fun e => by
    rw [show at_.toInt.toNat = onW by omega] at rv
    exact h Zx g w w4 ar rv
  refine ⟨fun c => fin (by omega), fun c v163 e163 _ => ⟨fun c2 => fin (by rw [e163, rv.2.2.2] at c2; omega), fun c2 => ?_⟩⟩
  have e163 : v163.toInt = (onW : Int) := by rw [e163]; exact rv.2.2.2
  -- the octets
  refine wc_ktake (Φ := fun r g1 => 1 ≤ r.toInt ∧ at_.toInt + r.toInt ≤ v163.toInt ∧ mFr [225, 226, 227, 228, 229, 230, 231, 232, 233, 234, 235, 800] g g1 ∧ tkW B kn E g1 (2 * f) (53 + at_.toInt.toNat + r.toInt.toNat) w) (Ψ := fun r g1 => (OPl g1 (2 * f) ∧ (na → NA g1 (2 * f) (53 + at_.toInt.toNat + r.toInt.toNat) ∧ ((g1 235 (2 * f)).toInt ≠ 0 → (53 + at_.toInt.toNat + r.toInt.toNat - 53) % 53 ≠ 0))) ∧ (al → AL g1 (2 * f) (53 + at_.toInt.toNat + r.toInt.toNat) ∧ ((g1 235 (2 * f)).toInt ≠ 0 → (g1 233 (2 * f)).toInt = 0))) (fun v171 g170 a b' hpo170 v172 e172 _ v173 e173 _ => ?_) (s_takeX hB (by omega) rfl (fun x hx => rv.2.2.1 x (by omega)) (fun z hz => ho z (by omega)) rv.1.1 rv.1.2.1 (fun r g1 a b c d => ⟨a, b, c, d⟩)) (wc_ktake (Φ := fun r g1 => OPl g1 (2 * f) ∧ (na → NA g1 (2 * f) (53 + at_.toInt.toNat + r.toInt.toNat) ∧ ((g1 235 (2 * f)).toInt ≠ 0 → (53 + at_.toInt.toNat + r.toInt.toNat - 53) % 53 ≠ 0))) (Ψ := fun r g1 => al → AL g1 (2 * f) (53 + at_.toInt.toNat + r.toInt.toNat) ∧ ((g1 235 (2 * f)).toInt ≠ 0 → (g1 233 (2 * f)).toInt = 0)) (fun r g1 a b => ⟨a, b⟩) (wc_ktake (Φ := fun _ g1 => OPl g1 (2 * f)) (Ψ := fun r g1 => na → NA g1 (2 * f) (53 + at_.toInt.toNat + r.toInt.toNat) ∧ ((g1 235 (2 * f)).toInt ≠ 0 → (53 + at_.toInt.toNat + r.toInt.toNat - 53) % 53 ≠ 0)) (fun r g1 a b => ⟨a, b⟩) (o_take (by omega) (fun x hx => by rw [rv.2.2.1 x (by omega)]; exact ho _ (by omega)) rv.2.1.2 (fun r g1 a => a)) (by
    by_cases hl : na
    · exact s_takeN hB (by omega) rfl rv.1.1 rv.1.2.1 (rv.1.2.2.2 hl) (fun r g1 a b _ => ⟨a, b⟩)
    · exact wt_ktake (fun r g1 z => absurd z hl))) (by
    by_cases hl : al
    · exact s_takeA (by omega) rfl (fun x hx => rv.2.2.1 x (by omega)) (fun z hz => ho z (by omega)) rv.1.1 (rv.1.2.2.1 hl) (hal hl).1 (hal hl).2 (fun r g1 a b _ => ⟨a, b⟩)
    · exact wt_ktake (fun r g1 z => absurd z hl)))
  obtain ⟨⟨b, bna⟩, bal⟩ := b'
  obtain ⟨a1, a2, a3, a4⟩ := a
  have t172 : v172.toInt = at_.toInt + v171.toInt := by rw [e172]; exact add_i (by omega)
  have ar170 : AR Z.n f tI.toInt Z g0 bK bS w 0 0 Zx g170 := ar.fr a3 (by decide) (by decide) (FA_take hpo170.1)
  have ey : 53 + at_.toInt.toNat + v171.toInt.toNat = 53 + v172.toInt.toNat := by omega
  rw [ey] at a4 bal bna
  have oa170 : OA g170 (2 * f) := by unfold OA; rw [a3 512 (by decide)]; exact rv.2.1.1
  have wi170 : (∀ x, x < onW → g170 608 (8192 * (2 * f) + x) = E (53 + x)) ∧ (g170 101 (2 * f)).toInt = (onW : Int) := by
    rw [a3 608 (by decide), a3 101 (by decide)]
    exact rv.2.2
  refine ⟨fun z173 v177 _ _ t177 => ?_, fun n173 => ?_⟩
  · rcases a4.2 with ⟨_, wc⟩ | ⟨z, _⟩
    · exact ⟨w, ar170, ⟨⟨a4.1, wc, fun z => (bal z).1, fun z => (bna z).1⟩, ⟨oa170, b⟩, wi170⟩, by omega, by omega, by omega⟩
    · exact absurd (by rw [← e173]; exact z173) z
  · obtain ⟨wc, y53, hwin⟩ : WC g170 (2 * f) (53 + v172.toInt.toNat) (w + 1) ∧ 53 ≤ 53 + v172.toInt.toNat ∧ (kn (53 + v172.toInt.toNat - 53) → win E g170 (2 * f) (53 + v172.toInt.toNat - 53)) := by
      rcases a4.2 with ⟨z, _⟩ | ⟨_, z1, z2, z3⟩
      · exact absurd z (by rw [← e173]; exact n173)
      · exact ⟨z1, z2, z3⟩
    have w5 : w + 1 ≤ 4 := wle wc (by omega)
    have rm := hroom Zx g hJ hZn ar.1.2.2.2 ar.1.2.2.1 (ar.bd w4 (by decide)) ar.2.1.1
    have hsal : al → (53 + v172.toInt.toNat - 53) % 53 = 0 := fun z => by
      obtain ⟨⟨_, x1, x2⟩, x3⟩ := bal z
      have x3 := x3 (by rw [← e173]; exact n173)
      rw [show (g170 233 (2 * f)).toInt.toNat = 0 by omega] at x1
      omega
    have hsna : na → (53 + v172.toInt.toNat - 53) % 53 ≠ 0 := fun z => (bna z).2 (by rw [← e173]; exact n173)
    have hs1 : 1 ≤ 53 + v172.toInt.toNat - 53 ∧ 53 + v172.toInt.toNat - 53 ≤ 212 := by omega
    refine ⟨⟨by have := rm.1; omega, by have := rm.2.1; omega, rm.2.2.1⟩, s_cellE (by omega) (fun v181 g180 ce hpo180 _ Zy eZy => ?_)⟩
    subst eZy
    have ar180 : AR Z.n f tI.toInt Z g0 bK bS w 0 0 Zy g180 := ar170.fr ce.1.1 (by decide) (by decide) (FA_cell ce)
    have rv180 : RV al na B kn E (2 * f) onW (53 + v172.toInt.toNat) (w + 1) g180 := by
      refine ⟨⟨a4.1.fr ce.1.1 (by decide), wc.fr ce.1.1 (by decide), fun z => (bal z).1.fr ce.1.1 (by decide), fun z => (bna z).1.fr ce.1.1 (by decide)⟩, ⟨ce.2.2.1 b oa170, ?_⟩, ?_, ?_⟩
      · unfold OPl
        rw [ce.1.1 800 (by decide)]
        exact b
      · rw [ce.1.1 608 (by decide)]
        exact wi170.1
      · rw [ce.1.1 101 (by decide)]
        exact wi170.2
    -- back to the loop's head
    have nx : ∀ (Zz : cZ) (gz : mSt) (v : Int32), AR Z.n f tI.toInt Z g0 bK bS (w + 1) 0 0 Zz gz → RV al na B kn E (2 * f) onW (53 + v172.toInt.toNat) (w + 1) gz → v.toInt = k.toInt + 1 → ∃ w, AR Z.n f tI.toInt Z g0 bK bS w 0 0 Zz gz ∧ RV al na B kn E (2 * f) onW (53 + v172.toInt.toNat) w gz ∧ 0 ≤ v.toInt ∧ v.toInt ≤ v172.toInt ∧ v172.toInt ≤ (onW : Int) := fun Zz gz v a r tv => ⟨w + 1, a, r, by omega, by omega, by omega⟩
    refine ⟨fun n181 v189 e189 _ v190 e190 _ => ?_, fun z181 v281 _ _ t281 => nx Zy g180 v281 ar180.more rv180 t281⟩
    have e190 : v190 = tI := by rw [e190]; exact t362 ar180
    rw [e190, e189]
    have hzn : Zy.n = Z.n := hZn
    have hSb : SU g180 (2 * f) (g180 2 (2 * f)) → bS := fun su => by
      by_cases hk : kn (53 + v172.toInt.toNat - 53)
      · exact hwS _ g170 g180 v181 hk hs1 ⟨hsal, hsna⟩ (hwin hk) ce n181 b su
      · exact (hun _ hk).2
    have hKb : KU g180 (2 * f) (g180 2 (2 * f)) → bK := fun ku => by
      by_cases hk : kn (53 + v172.toInt.toNat - 53)
      · exact hwK _ g170 g180 v181 hk hs1 ⟨hsal, hsna⟩ (hwin hk) ce n181 b ku
      · exact (hun _ hk).1
    rw [hzn]
    refine u_all ht.1 ar180.2.1.2.1 rv180.2.1.1 (fun v192 g191 uA uK uL uU hpo191 => ?_)
    have fau : FA Z.n f (Zy.w 2) g180 g191 := by
      have := hpo191.1
      rw [← hzn] at this ⊢
      exact FA_unit this
    obtain ⟨ar191, ov191⟩ := ar180.unit hpo191.2.1 (by decide) (by decide) fau uA (fun z => hKb (uK z)) uL uU hSb
    have rv191 : RV al na B kn E (2 * f) onW (53 + v172.toInt.toNat) (w + 1) g191 := rv180.fr hpo191.2.1 (by decide)
    have alN : ∀ c, Zy.al 1 c → c < Zy.w 2 := fun c hc => hJ.2.2.2.2.1.1.2.1 c hc
    refine ⟨fun Zz gz => AR Z.n f tI.toInt Z g0 bK bS (w + 1) 0 0 Zz gz ∧ RV al na B kn E (2 * f) onW (53 + v172.toInt.toNat) (w + 1) gz, fun Zz g193 _ _ hJ193 hZ193 ⟨ar193, rv193⟩ => ?_, fun n1 => ⟨fun _ => ⟨ar191, rv191⟩, fun _ => l_ask (g0 := g191) ht.1 (by decide) ar191.2.1.2.1 (fun g274 s274 _ hpo274 => ⟨ar191.ask hpo274.2.1 (by decide) (by decide) s274 ?_, rv191.fr hpo274.2.1 (by decide)⟩)⟩, fun z1 => s_allOverO (by rw [hzn]; exact hf) alN (sst.rf (d := 0) (by rw [hzn]; exact ar191.2.1.1)) ht (fun g278 d hd hop s278 hpo278 => ?_)⟩
    · -- the messages that have their turn
      have tk : ∀ (Zq : cZ) (gq : mSt), Zq.n = Z.n → AR Z.n f tI.toInt Z g0 bK bS (w + 1) 0 0 Zq gq → RV al na B kn E (2 * f) onW (53 + v172.toInt.toNat) (w + 1) gq → ∀ {Ψ : Int32 → mSt → Prop}, (∀ (r : Int32) (g1 : mSt), AR Z.n f tI.toInt Z g0 bK bS (w + 1) (cM1 r) (cM2 r g1) Zq g1 → RV al na B kn E (2 * f) onW (53 + v172.toInt.toNat) (w + 1) g1 → OM g1 r → Ψ r g1) → wp_ktakeNext Zq (Zq.n + f) 0 gq (fun r g1 => po_ktakeNext Zq (Zq.n + f) 0 gq r g1 → Ψ r g1) := fun Zq gq hq aq rq Ψ hΨ => by
        refine ww_take (fun _ => hΨ 0 gq aq rq (fun j hj => absurd hj (by show ¬ (j : Int) < 0; omega))) (fun r g1 hr tR _ hpo => hΨ r g1 (aq.take hpo.2.1 (by decide) (by decide) hr (by rw [← hq]; exact tR) ?_) (rq.fr hpo.2.1 (by decide)) (tR.2.1 (by rw [hq]; exact aq.2.1.2.2.1)))
        have := FA_tk (N := Zq.w 2) hpo.1
        rw [hq] at this
        exact this
      refine tk Zz g193 hZ193 ar193 rv193 (fun v200 g199 ar199 rv199 om199 => ?_)
      refine ⟨fun len m Zq gq => AR Z.n f tI.toInt Z g0 bK bS (w + 1) (cM1 len) (cM2 len gq) Zq gq ∧ RV al na B kn E (2 * f) onW (53 + v172.toInt.toNat) (w + 1) gq ∧ OM gq len, fun len m Zq g204 _ _ hJ204 hZ204 rlen _ ⟨ar204, rv204, om204⟩ => ?_, ⟨ar199, rv199, om199⟩⟩
      have c1n : 0 ≤ cM1 len := by
        unfold cM1
        split <;> omega
      have c2n : 0 ≤ cM2 len g204 := by
        unfold cM2
        split <;> omega
      refine ⟨fun _ v210 _ _ t210 => nx Zq g204 v210 (ar204.drop c1n c2n) rv204 t210, fun _ => ⟨fun _ v214 _ _ t214 => nx Zq g204 v214 (ar204.drop c1n c2n) rv204 t214, fun clen v218 _ _ t218 => ⟨fun _ => ?_, fun z => by exfalso; omega⟩⟩⟩
      refine s_sreadX om204 (fun v224 g223 hsu hpo223 => ?_)
      have ar223 : AR Z.n f tI.toInt Z g0 bK bS (w + 1) (cM1 len) (cM2 len g204) Zq g223 := ar204.fr hpo223.2.1 (by decide) (by decide) (FA_rd hpo223.1)
      have rv223 : RV al na B kn E (2 * f) onW (53 + v172.toInt.toNat) (w + 1) g223 := rv204.fr hpo223.2.1 (by decide)
      refine ⟨fun Zr gr => AR Z.n f tI.toInt Z g0 bK bS (w + 1) 0 0 Zr gr ∧ RV al na B kn E (2 * f) onW (53 + v172.toInt.toNat) (w + 1) gr, fun Zr g226 _ _ hJ226 hZ226 ⟨ar226, rv226⟩ => tk Zr g226 hZ226 ar226 rv226 (fun v233 g232 ar232 rv232 om232 v235 _ _ _ => ⟨ar232, rv232, om232⟩), fun _ => ⟨ar223.drop c1n c2n, rv223⟩, fun n224 v241 e241 _ => ?_⟩
      have e241 : v241 = tI := by rw [e241]; exact t362 ar223
      rw [e241]
      have rm2 := hroom Zq g204 hJ204 hZ204 ar204.1.2.2.2 ar204.1.2.2.1 (ar204.bd w5 c1n) ar204.2.1.1
      have e386 : g223 386 = g204 386 := hpo223.2.1 386 (by decide)
      have e1729 : g223 1729 = g204 1729 := hpo223.2.1 1729 (by decide)
      have hfq : f < Zq.n := by rw [hZ204]; exact hf
      have szq : ∀ s, s < 2 * Zq.n → 0 ≤ (g223 386 s).toInt ∧ (g223 386 s).toInt ≤ 10000000 := fun s hs => by rw [e386]; exact cJ_sz hJ204 s hs
      obtain ⟨n1, n2, hn1, hn2, hn3⟩ : ∃ n1 n2, gNd g223 (Zq.n + f) n1 ∧ ((g223 291 0).toInt.toNat < Zq.n → (g223 291 0).toInt.toNat ≠ f → gNd g223 (Zq.n + (g223 291 0).toInt.toNat) n2) ∧ Zq.w 1 + (36 + n1 + n2) ≤ TS := by
        by_cases hc : (g223 291 0).toInt.toNat < Zq.n ∧ (g223 291 0).toInt.toNat ≠ f
        · obtain ⟨n1, n2, x1, x2, x3⟩ := rm2.2.2.2 (Zq.n + f) (Zq.n + (g223 291 0).toInt.toNat) (by omega) (by omega) (by omega)
          refine ⟨n1, n2, ?_, fun _ _ => ?_, x3⟩
          · unfold gNd
            rw [e386, e1729]
            exact x1
          · unfold gNd
            rw [e386, e1729]
            exact x2
        · obtain ⟨n1, n2, x1, x2, x3⟩ := rm2.2.2.2 (Zq.n + f) 0 (by omega) (by omega) (by omega)
          refine ⟨n1, n2, ?_, fun z z1 => absurd ⟨z, z1⟩ hc, x3⟩
          unfold gNd
          rw [e386, e1729]
          exact x1
      refine ⟨n1, n2, ⟨by have := rm2.1; omega, rm2.2.1, hn3⟩, s_came10 rm2.1 hfq (by rw [hZ204]; exact ar223.2.1.1) ht (fun z5 => (hsu n224 z5).2.2) hn1 hn2 szq (fun Z1 g242 cm hpo242 _ Z2 eZ2 => ?_)⟩
      subst eZ2
      have e1 : cM1 len = 1 := if_pos clen
      rw [e1] at ar223
      rw [hZ204] at cm
      refine ⟨ar223.came c2n (fun z5 => ?_) cm, rv223.fr hpo242.2.1 (by decide)⟩
      obtain ⟨x1, x2, _⟩ := hsu n224 z5
      exact if_pos ⟨x1, x2⟩
    · have := FA_ask (N := Zy.w 2) (f := f) (Z := Zy) (by rw [hzn]; exact hpo274.1)
      rw [hzn] at this
      exact this
    · rw [hzn] at s278 hop
      rw [Nat.zero_add] at s278
      exact ⟨ar191.over (ov191 z1) hd s278 hop, rv191.fr hpo278.2.1 (by decide)⟩
