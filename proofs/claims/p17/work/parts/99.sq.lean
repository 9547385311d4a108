/-! a cell has come to an end -/
theorem s_active {Z : cZ} {e : Nat} {p1 : Int32} {g : mSt} {Φ : Int32 → mSt → Prop} (h : ∀ r : Int32, (0 ≤ r.toInt → (g 32 r.toInt.toNat).toInt = (e : Int) ∧ (g 36 r.toInt.toNat).toInt = 10) → Φ r g) : wp_kactive Z e p1 g Φ := by
  refine ⟨fun _ g2 => g2 = g, fun a g2 _ _ _ _ e2 v3 _ _ => ?_, rfl⟩
  have e2 : g2 = g := e2
  rw [e2]
  refine ⟨fun _ => h (-1) (fun z => absurd z (by decide)), fun _ v8 e8 d8 v11 e11 _ => ⟨fun g12 => g12 = g, fun g12 _ _ _ e12 v13 _ _ _ => e12, fun _ => rfl, fun c11 d20 v20 _ _ => ⟨fun _ => rfl, fun _ d => h v8 (fun _ => ⟨d.2.2, by rw [← e11]; exact c11⟩)⟩⟩⟩
theorem asN_eq {N e : Nat} {g g1 : mSt} (a : g1 32 = g 32) (b : g1 36 = g 36) (c : g1 46 = g 46) : asN N g1 e = asN N g e := smN_eq (fun q _ => by rw [a, asW_eq (by rw [b]) (by rw [c])])
/-- a step of an end in which only its assemblers have changed -/
theorem eSt.d46 {M : List Nat} {N e : Nat} {g g1 : mSt} (hu : uLn g (2 * e) = 0) (f : mFr M g g1) (hM1 : relN M = true) (hM : (32 ∉ M ∧ 36 ∉ M) ∧ 42 ∉ M ∧ 43 ∉ M ∧ 48 ∉ M ∧ 49 ∉ M) (ha : asN N g1 e ≤ asN N g e) : eSt N e g g1 := by
  have s := (stp.rf (i := e) hu).fr f hM1
  refine ⟨fun m => ?_, s.2.1, s.2.2.1, s.2.2.2, fun q c hc => ?_, ?_, ha⟩
  · have := s.1 m
    unfold ep
    rw [om_eq (fun c => ⟨by rw [f 32 hM.1.1], by rw [f 36 hM.1.2], by rw [f 42 hM.2.1]⟩)]
    omega
  · rw [f 32 hM.1.1] at hc
    rw [f 43 hM.2.2.1]
    exact q c hc
  · exact dN_le (f 32 hM.1.1) (fun c => Nat.le_of_eq (dW_eq (by rw [f 48 hM.2.2.2.1]) (by rw [f 49 hM.2.2.2.2])))
theorem s_edata {Z : cZ} {e c q2 : Nat} {p3 p4 : Int32} {g : mSt} {Φ : Int32 → cZ → mSt → Prop} (h : ∀ (r : Int32) (Z1 : cZ) g1, (Z1 = Z ∧ g1 46 = g 46) ∨ (Z1.n = Z.n ∧ Z1.w 2 = Z.w 2 ∧ Z1.w 3 = Z.w 3 + 243 ∧ (g 46 c).toInt < 0 ∧ 0 ≤ (g1 46 c).toInt) → Φ r Z1 g1) : wp_kedataCame Z e c q2 p3 p4 g Φ := by
  intro Z1 g1 hz hpo _ Z2 e2
  subst e2
  refine wt_kasmAdd (fun v4 g3 hpo3 => ?_)
  have e46 : g3 46 = g1 46 := hpo3.2.1 46 (by decide)
  have key : ∀ r gF, gF 46 = g3 46 → Φ r Z2 gF := fun r gF eF => by
    rcases hz with ⟨_, b, c'⟩ | ⟨a1, a2, a3, a4, a5⟩
    · exact h r Z2 gF (Or.inl ⟨b, by rw [eF, e46, c']⟩)
    · exact h r Z2 gF (Or.inr ⟨a5, a4, a3, a1, by rw [eF, e46, a2]; omega⟩)
  refine ⟨fun _ => key v4 g3 rfl, fun _ v10 _ _ v11 _ _ _ v14 _ _ _ v16 _ _ g17 e17 g20 e20 v22 _ _ g23 e23 g25 e25 v27 _ _ _ g30 e30 => key v4 g30 ?_⟩
  rw [e30, up2_of (by decide), e25, up2_of (by decide), e23, up2_of (by decide), e20, up2_of (by decide), e17, cCpy_o (by decide)]
def ceO (e : Nat) (Z : cZ) (g : mSt) (Z1 : cZ) (g1 : mSt) : Prop := (Z1.n = Z.n ∧ Z1.w 2 = Z.w 2 ∧ rS Z g Z1 g1) ∧ (Z.w 3 ≤ Z1.w 3 ∧ (Z1.w 3 : Int) + 243 * (asN (Z.w 2) g1 e : Int) ≤ (Z.w 3 : Int) + 243 * (asN (Z.w 2) g e : Int)) ∧ eSt (Z.w 2) e g g1 ∧ fB e (Z.w 2) false g (Z.w 2) g1 ∧ g1 170 = g 170 ∧ g1 1280 = g 1280 ∧ g1 135 = g 135
theorem s_cellO {Z : cZ} {i0 e : Nat} {p1 : Int32} {g : mSt} {Φ : Int32 → cZ → mSt → Prop} (hd : p1.toInt = ((2 * e + 1 : Nat) : Int)) (hu : uLn g (2 * e) = 0) (hJ : cJ Z g) (h : ∀ (r : Int32) (Z1 : cZ) g1, ceO e Z g Z1 g1 → Φ r Z1 g1) : wp_kcellCame Z i0 p1 (2 * e + 1) g Φ := by
  have hS : ∀ (r : Int32) g1, mFr [1, 2, 108, 109, 512] g g1 → fB e (Z.w 2) false g (Z.w 2) g1 → Φ r Z g1 := fun r g1 k fb => h r Z g1 ⟨⟨rfl, rfl, rS.rf (k 386 (by decide)) (k 1729 (by decide))⟩, ⟨Nat.le_refl _, by rw [asN_eq (k 32 (by decide)) (k 36 (by decide)) (k 46 (by decide))]; exact Int.le_refl _⟩, eSt.d46 hu k (by decide) (by decide) (Nat.le_of_eq (asN_eq (k 32 (by decide)) (k 36 (by decide)) (k 46 (by decide)))), fb, k 170 (by decide), k 1280 (by decide), k 135 (by decide)⟩
  have h0 : Φ 0 Z g := hS 0 g (fun _ _ => rfl) fB.rf
  have h108 : ∀ (gA g1 : mSt) (v : Int32), gA = g → g1 = up2 gA 108 (2 * e + 1) v → Φ 0 Z g1 := fun gA g1 v eA e1 => by
    rw [eA] at e1
    exact hS 0 g1 (fun a ha => by rw [e1, up2_of (fun z => ha (by rw [z]; decide))]) (fB.up e1 (by decide))
  have has : ∀ (p v96 : Int32) (g95 : mSt), po_kasmAdd Z (2 * e + 1) (2 * e + 1) p g v96 g95 → ((v96.toInt ≠ 2) → ((v96.toInt ≠ 1) → Φ (0 : Int32) Z g95) ∧ ((v96.toInt = 1) → Φ (1 : Int32) Z g95)) ∧ ((v96.toInt = 2) → ∀ (v108 : Int32), v108 = g95 109 (2 * e + 1) → rg (-2147483648) (2147483647) v108 → ∀ (v109 : Int32), v109 = v108 + (1 : Int32) → rg (-2147483648) (2147483647) v109 → ∀ (g110 : mSt), g110 = up2 g95 109 (2 * e + 1) v109 → ((v96.toInt ≠ 1) → Φ (0 : Int32) Z g110) ∧ ((v96.toInt = 1) → True)) := fun p v96 g95 hpo => by
    have k95 : mFr [1, 2, 108, 109, 512] g g95 := fun a ha => hpo.2.1 a (fun z => ha (by
      simp only [List.mem_cons, List.not_mem_nil, or_false] at z ⊢
      omega))
    have f95 : fB e (Z.w 2) false g (Z.w 2) g95 := fB_asm hpo.1 hpo.2.1
    refine ⟨fun _ => ⟨fun _ => hS 0 g95 k95 f95, fun _ => hS 1 g95 k95 f95⟩, fun _ v108 _ _ v109 _ _ g110 e110 => ⟨fun _ => hS 0 g110 (fun a ha => ?_) (f95.tr (fB.up e110 (by decide))), fun _ => trivial⟩⟩
    rw [e110, up2_of (fun z => ha (by rw [z]; decide))]
    exact k95 a ha
  -- data of a call
  have hE : ∀ (c : Nat) (p3 p4 r : Int32) (Z1 : cZ) (g1 gF : mSt), Z.al 1 c → (g 32 c).toInt = (e : Int) → (g 36 c).toInt = 10 → po_kedataCame Z e c (2 * e + 1) p3 p4 g r Z1 g1 → cZg Z Z1 2 243 → ((Z1 = Z ∧ g1 46 = g 46) ∨ (Z1.n = Z.n ∧ Z1.w 2 = Z.w 2 ∧ Z1.w 3 = Z.w 3 + 243 ∧ (g 46 c).toInt < 0 ∧ 0 ≤ (g1 46 c).toInt)) → mFr [109] g1 gF → fB e (Z.w 2) false g1 (Z.w 2) gF → Φ 0 Z1 gF := fun c p3 p4 r Z1 g1 gF hal hc h10 hpo hzg hz kF fF => by
    have hcN : c < Z.w 2 := hJ.2.2.2.2.1.1.2.1 c hal
    have k1 := hpo.2.1
    have kk : mFr [0, 1, 2, 46, 109, 136, 512, 960, 992, 1024, 1056] g gF := fun a ha => by
      simp only [List.mem_cons, List.not_mem_nil, or_false, not_or] at ha
      rw [kF a (by simp only [List.mem_cons, List.not_mem_nil, or_false]; omega), k1 a (by simp only [List.mem_cons, List.not_mem_nil, or_false, not_or]; omega)]
    have e46 : gF 46 = g1 46 := kF 46 (by decide)
    have o46 : ∀ x, x ≠ c → gF 46 x = g 46 x := fun x hx => by
      rw [e46]
      exact hpo.1.out (by simp [mOut, im_kedataCame]; omega)
    have fb : fB e (Z.w 2) false g (Z.w 2) gF := (fB_edata (Z := Z) hc hpo.1 hpo.2.1).tr fF
    have hst : szT Z.n gF = szT Z.n g := by
      unfold szT
      rw [kk 386 (by decide)]
    have hcap : capI Z.n g → capI Z.n gF := fun z => by
      unfold capI
      rw [kk 386 (by decide), kk 1729 (by decide)]
      exact z
    rcases hz with ⟨eZ, ea⟩ | ⟨hn, h2, h3, hm, hp⟩
    · have ha : asN (Z.w 2) gF e = asN (Z.w 2) g e := asN_eq (kk 32 (by decide)) (kk 36 (by decide)) (by rw [e46, ea])
      refine h 0 Z1 gF ⟨⟨by rw [eZ], by rw [eZ], by rw [eZ]; exact rS.rf (kk 386 (by decide)) (kk 1729 (by decide))⟩, ⟨by rw [eZ]; exact Nat.le_refl _, by rw [eZ, ha]; exact Int.le_refl _⟩, eSt.d46 hu kk (by decide) (by decide) (Nat.le_of_eq ha), fb, kk 170 (by decide), kk 1280 (by decide), kk 135 (by decide)⟩
    · have ha : asN (Z.w 2) gF e + 1 ≤ asN (Z.w 2) g e := by
        refine smN_lt (s := c) (fun q hq => ?_) hcN ?_
        · rw [kk 32 (by decide)]
          split
          · by_cases w : q = c
            · rw [w]
              have : asW gF c = 0 := by
                unfold asW
                rw [kk 36 (by decide), e46]
                exact if_neg (fun z => by have := z.2.2 h10; omega)
              rw [this]
              exact Nat.zero_le _
            · exact Nat.le_of_eq (asW_eq (by rw [kk 36 (by decide)]) (o46 q w))
          · exact Nat.le_refl _
        · rw [kk 32 (by decide), if_pos hc, if_pos hc]
          have a1 : asW gF c = 0 := by
            unfold asW
            rw [kk 36 (by decide), e46]
            exact if_neg (fun z => by have := z.2.2 h10; omega)
          have a2 : asW g c = 1 := if_pos ⟨by omega, by omega, fun _ => hm⟩
          rw [a1, a2]
          exact Nat.le_refl _
      have z0 := hzg.2.2.1
      refine h 0 Z1 gF ⟨⟨hn, h2, hn, hcap, by rw [hst, h2]; exact Nat.le_refl _, by rw [hst, h2, h3]; omega⟩, ⟨by omega, by rw [h3]; omega⟩, eSt.d46 hu kk (by decide) (by decide) (by omega), fb, kk 170 (by decide), kk 1280 (by decide), kk 135 (by decide)⟩
  intro v2 e2 _ v3 e3 _ v4 e4 _ v5 e5 _ v6 e6 _ v7 e7 _
  have hdt : ∀ v36 : Int32, v36.toInt = p1.toInt % 2 → ¬ v36.toInt = 0 := fun v36 t => by omega
  -- the roads with a call's channel
  have hA : ∀ (p : Int32) (v42 : Int32), v42.toInt = p1.toInt / 2 → ∀ (v36 : Int32), v36.toInt = p1.toInt % 2 → wp_kactive Z v42.toInt.toNat v6 g (fun (v46 : Int32) (g45 : mSt) => po_kactive Z v42.toInt.toNat v6 g v46 g45 → ((v46.toInt < 0) → ∀ (v48 : Int32), v48 = g45 108 (2 * e + 1) → rg (-2147483648) (2147483647) v48 → ∀ (v49 : Int32), v49 = v48 + (1 : Int32) → rg (-2147483648) (2147483647) v49 → ∀ (g50 : mSt), g50 = up2 g45 108 (2 * e + 1) v49 → Φ (0 : Int32) Z g50) ∧ ((0 ≤ v46.toInt) → ((v36.toInt ≠ 0) → ∀ (v54 : Int32), v54 = g45 362 i0 → rg (-2147483648) (2147483647) v54 → wp_kedataCame Z v42.toInt.toNat v46.toInt.toNat (2 * e + 1) p v54 g45 (fun (v56 : Int32) (Z_55 : cZ) (g55 : mSt) => po_kedataCame Z v42.toInt.toNat v46.toInt.toNat (2 * e + 1) p v54 g45 v56 Z_55 g55 → cZg Z Z_55 2 (243) → ∀ Z : cZ, Z = Z_55 → ((v56.toInt ≠ 2) → Φ (0 : Int32) Z g55) ∧ ((v56.toInt = 2) → ∀ (v62 : Int32), v62 = g55 109 (2 * e + 1) → rg (-2147483648) (2147483647) v62 → ∀ (v63 : Int32), v63 = v62 + (1 : Int32) → rg (-2147483648) (2147483647) v63 → ∀ (g64 : mSt), g64 = up2 g55 109 (2 * e + 1) v63 → Φ (0 : Int32) Z g64))) ∧ ((v36.toInt = 0) → True))) := fun p v42 t42 v36 t36 => by
    have ee : v42.toInt.toNat = e := by omega
    rw [ee]
    refine s_active (fun v46 h46 hpo => ⟨fun _ v48 _ _ v49 _ _ g50 e50 => h108 g g50 _ rfl e50, fun c46 => ⟨fun _ v54 _ _ => s_edata (fun r Z1 g1 hz hpo55 hzg Z2 eZ2 => ?_), fun _ => trivial⟩⟩)
    subst eZ2
    have hal := (hpo.2.2.2 c46).1
    obtain ⟨hc, h10⟩ := h46 c46
    exact ⟨fun _ => hE _ _ _ _ Z2 g1 g1 hal hc h10 hpo55 hzg hz (fun _ _ => rfl) fB.rf, fun _ v62 _ _ v63 _ _ g64 e64 => hE _ _ _ _ Z2 g1 g64 hal hc h10 hpo55 hzg hz (fun a ha => by rw [e64, up2_of (by simpa using ha)]) (fB.up e64 (by decide))⟩
  refine ⟨fun z7 => ⟨fun n4 => ⟨fun _ => ⟨fun _ v18 _ _ v19 _ _ g20 e20 => h108 g g20 _ rfl e20, fun _ => trivial⟩, fun _ => trivial⟩, fun z4 => ⟨fun n6 => ⟨fun _ => trivial, fun _ => ⟨fun n65 => ⟨fun _ => trivial, fun _ v36 _ _ t36 => ⟨fun _ v42 _ _ t42 => hA 0 v42 t42 v36 t36, fun z => absurd z (hdt v36 t36)⟩⟩, fun z65 => wt_kasmAdd (fun v96 g95 hpo => has 0 v96 g95 hpo)⟩⟩, fun _ => h0⟩⟩, fun n7 => ⟨fun n4 => ⟨fun _ => ⟨fun _ v124 _ _ v125 _ _ g126 e126 => h108 g g126 _ rfl e126, fun _ => trivial⟩, fun _ => trivial⟩, fun z4 => ⟨fun n6 => ⟨fun _ => trivial, fun _ => ⟨fun n65 => ⟨fun _ => trivial, fun _ v142 _ _ t142 => ⟨fun _ v148 _ _ t148 => hA 1 v148 t148 v142 t142, fun z => absurd z (hdt v142 t142)⟩⟩, fun z65 => wt_kasmAdd (fun v202 g201 hpo => has 1 v202 g201 hpo)⟩⟩, fun _ => h0⟩⟩⟩
/-! an end takes a tick's octets -/
def ER (e : Nat) (Z0 : cZ) (g0 : mSt) (Z : cZ) (g : mSt) : Prop := (Z.n = Z0.n ∧ rS Z0 g0 Z g) ∧ eS2 e (Z0.w 2) g0 (Z.w 2) g ∧ fB e (Z0.w 2) false g0 (Z.w 2) g ∧ Z0.w 3 ≤ Z.w 3 ∧ (Z.w 3 : Int) + 243 * ((asN (Z.w 2) g e : Int) - (g 135 e).toInt) ≤ (Z0.w 3 : Int) + 243 * ((asN (Z0.w 2) g0 e : Int) - (g0 135 e).toInt)
theorem ER.rf {e : Nat} {Z : cZ} {g : mSt} (hu : uLn g (2 * e) = 0) : ER e Z g Z g := ⟨⟨rfl, rS.rf rfl rfl⟩, (eSt.rf hu).to (Int.le_refl _), fB.rf, Nat.le_refl _, Int.le_refl _⟩
theorem ER.st {e : Nat} {Z0 Z : cZ} {g0 g g1 : mSt} (h : ER e Z0 g0 Z g) (s : eSt (Z.w 2) e g g1) (fb : fB e (Z.w 2) false g (Z.w 2) g1) (h135 : g1 135 = g 135) (h386 : g1 386 = g 386) (h1729 : g1 1729 = g 1729) : ER e Z0 g0 Z g1 := by
  refine ⟨⟨h.1.1, h.1.2.tr (rS.rf h386 h1729)⟩, h.2.1.tr (s.to (by rw [h135]; exact Int.le_refl _)), h.2.2.1.tr fb, h.2.2.2.1, ?_⟩
  have a := h.2.2.2.2
  have b := s.2.2.2.2.2.2
  rw [h135]
  omega
theorem ER.cm {e : Nat} {Z0 Z Z1 : cZ} {g0 g g1 : mSt} (h : ER e Z0 g0 Z g) (s : eS2 e (Z.w 2) g (Z1.w 2) g1) (rs : rS Z g Z1 g1) (w3 : Z1.w 3 = Z.w 3) (f : f4 e (Z.w 2) g (Z1.w 2) g1) : ER e Z0 g0 Z1 g1 := by
  refine ⟨⟨rs.1.trans h.1.1, h.1.2.tr rs⟩, h.2.1.tr s, h.2.2.1.tr f.fB, by rw [w3]; exact h.2.2.2.1, ?_⟩
  have a := h.2.2.2.2
  have b := s.2.2
  rw [w3]
  omega
theorem ER.ce {e : Nat} {Z0 Z Z1 : cZ} {g0 g g1 : mSt} (h : ER e Z0 g0 Z g) (c : ceO e Z g Z1 g1) : ER e Z0 g0 Z1 g1 := by
  obtain ⟨⟨a1, a2, a3⟩, ⟨b1, b2⟩, c1, d1, e1, e2, e3⟩ := c
  refine ⟨⟨a1.trans h.1.1, h.1.2.tr a3⟩, by rw [a2]; exact h.2.1.tr (c1.to (by rw [e3]; exact Int.le_refl _)), by rw [a2]; exact h.2.2.1.tr d1, Nat.le_trans h.2.2.2.1 b1, ?_⟩
  have a := h.2.2.2.2
  rw [a2, e3]
  omega
theorem ro_eq {g g1 : mSt} {i : Nat} (a : g1 170 = g 170) (b : g1 1280 = g 1280) : ro g1 i = ro g i := by
  unfold ro
  rw [a, occ_eq b]
theorem e_takeR2 {Z : cZ} {N e q1 : Nat} {g g0 : mSt} {Ψ : Int32 → mSt → Prop} (hs : eSt N e g0 g) (h : ∀ r g1, eSt N e g0 g1 → ro g1 e ≤ ro g e → Ψ r g1) : wp_ktakeNext Z e q1 g (fun r g1 => po_ktakeNext Z e q1 g r g1 → Ψ r g1) :=
  wc_ktakeNext (Φ := fun r g1 => po_ktakeNext Z e q1 g r g1 → eSt N e g0 g1) (Ψ := fun _ g1 => ro g1 e ≤ ro g e) (fun r g1 a b hpo => h r g1 (a hpo) b) (e_takeNext hs (fun _ _ s => s)) (a_take (Nat.le_refl _) (fun r g1 hr ht h1 => by
    have := (occ_take hr ht).1
    unfold ro
    rw [h1]
    omega))
set_option maxHeartbeats 4000000 in
theorem k_arrE {TC TS e i0 : Nat} {Z0 : cZ} {p1 : Int32} {g0 : mSt} {Φ : Int32 → cZ → mSt → Prop} (he : e < Z0.n) (hp1 : p1.toInt = ((2 * e + 1 : Nat) : Int)) (hu : uLn g0 (2 * e) = 0) (hl : li g0 e) (hn : noP g0 e) (hr : ro g0 e + 300 ≤ 16000000) (hroom : ∀ (Z : cZ) (g : mSt), cJ Z g → ER e Z0 g0 Z g → RM Z g TC TS) (h : ∀ (Z : cZ) (g : mSt), ER e Z0 g0 Z g → ro g e ≤ ro g0 e + 212 → Φ 0 Z g) : wp_karrive TC TS Z0 i0 p1 (2 * e + 1) g0 Φ := by
  intro Z eZ v1 _ _ t1
  subst eZ
  refine ⟨fun _ v7 _ _ t7 => ⟨fun _ => ?_, fun _ => trivial⟩, fun z => by exfalso; omega⟩
  have e7 : v7.toInt.toNat = e := by omega
  rw [e7]
  refine ⟨fun _ k Zx g => ER e Z g0 Zx g ∧ ro g e ≤ ro g0 e + k.toInt.toNat, fun at_ k Zx g _ _ hJ hZn _ rk ⟨er, hro⟩ => ?_, ⟨ER.rf hu, Nat.le_add_right _ _⟩⟩
  have rk : 0 ≤ k.toInt ∧ k.toInt ≤ 212 := rk
  have fin : Φ 0 Zx g := h Zx g er (by omega)
  refine ⟨fun _ => fin, fun c v21 e21 _ => ⟨fun _ => fin, fun _ => wt_ktake (fun v29 g28 hpo28 v30 _ _ v31 _ _ => ?_)⟩⟩
  have k28 := hpo28.2.1
  have er28 : ER e Z g0 Zx g28 := er.st ((eSt.rf er.2.1.1.2.2.1).fr k28 (by decide) (by decide)) (fB_take hpo28.1 k28) (k28 135 (by decide)) (k28 386 (by decide)) (k28 1729 (by decide))
  have ro28 : ro g28 e = ro g e := ro_eq (k28 170 (by decide)) (k28 1280 (by decide))
  refine ⟨fun _ v35 _ _ t35 => ⟨er28, by omega⟩, fun _ => ?_⟩
  have hJ28 : cJ Zx g28 := hpo28.2.2.2.1
  have rm := hroom Zx g28 hJ28 er28
  refine ⟨⟨by have := rm.1; omega, by have := rm.2.1; omega, rm.2.2.1⟩, s_cellO hp1 er28.2.1.1.2.2.1 hJ28 (fun v39 Z38 g38 ce hpo38 _ Zy eZy => ?_)⟩
  subst eZy
  have er38 := er28.ce ce
  have ro38 : ro g38 e = ro g28 e := ro_eq ce.2.2.2.2.1 ce.2.2.2.2.2.1
  have zn : Zy.n = Z.n := er38.1.1
  have hey : e < Zy.n := by rw [zn]; exact he
  refine ⟨fun n39 v47 _ _ v48 _ _ => ?_, fun _ v139 _ _ t139 => ⟨er38, by omega⟩⟩
  have h170 : (g38 170 e).toInt + 8 < 16777216 := by
    have : (g38 170 e).toInt.toNat ≤ ro g38 e := Nat.le_add_right _ _
    omega
  refine wc_kunitCame (Φ := fun r g1 => po_kunitCame Zy e (2 * e + 1) v47 v48 g38 r g1 → eSt (Zy.w 2) e g38 g1 ∧ ro g1 e ≤ ro g38 e + 1) (Ψ := fun _ _ => True) (fun v50 g49 a _ hpo49 => ?_) (e_unitR hey (er38.2.1.1.2.2.2.1 hl) h170 (eSt.rf er38.2.1.1.2.2.1) (fun r g1 s q => ⟨s, q⟩)) (wt_kunitCame (fun _ _ => trivial))
  obtain ⟨s49, ro49⟩ := a hpo49
  have k49 := hpo49.2.1
  have er49 : ER e Z g0 Zy g49 := er38.st s49 (fB_unit hey hpo49.1 k49) (k49 135 (by decide)) (k49 386 (by decide)) (k49 1729 (by decide))
  have tk : ∀ (Zq : cZ) (gq : mSt), ER e Z g0 Zq gq → ro gq e ≤ ro g e + 1 → ∀ {Ψ : Int32 → mSt → Prop}, (∀ (r : Int32) (g1 : mSt), ER e Z g0 Zq g1 → ro g1 e ≤ ro g e + 1 → Ψ r g1) → wp_ktakeNext Zq e 0 gq (fun r g1 => po_ktakeNext Zq e 0 gq r g1 → Ψ r g1) := fun Zq gq aq rq Ψ hΨ =>
    wc_ktakeNext (Φ := fun r g1 => po_ktakeNext Zq e 0 gq r g1 → eSt (Zq.w 2) e gq g1 ∧ ro g1 e ≤ ro gq e) (Ψ := fun _ _ => True) (fun r g1 a _ hpo => hΨ r g1 (aq.st (a hpo).1 (fB_tk hpo.1 hpo.2.1) (hpo.2.1 135 (by decide)) (hpo.2.1 386 (by decide)) (hpo.2.1 1729 (by decide))) (by have := (a hpo).2; omega)) (e_takeR2 (eSt.rf aq.2.1.1.2.2.1) (fun r g1 s q => ⟨s, q⟩)) (wt_ktakeNext (fun _ _ => trivial))
  refine ⟨fun Zz gz => ER e Z g0 Zz gz ∧ ro gz e ≤ ro g e + 1, fun Zz g51 _ _ hJ51 hZ51 ⟨er51, ro51⟩ => ?_, fun _ => ⟨fun _ => ⟨er49, by omega⟩, fun _ => ?_⟩, fun _ => ?_⟩
  · refine tk Zz g51 er51 ro51 (fun v58 g57 er57 ro57 => ?_)
    refine ⟨fun _ _ Zq gq => ER e Z g0 Zq gq ∧ ro gq e ≤ ro g e + 1, fun len m Zq g62 _ _ hJ62 hZ62 _ _ ⟨er62, ro62⟩ => ?_, ⟨er57, ro57⟩⟩
    refine ⟨fun _ v68 _ _ t68 => ⟨er62, by omega⟩, fun _ => ⟨fun _ v72 _ _ t72 => ⟨er62, by omega⟩, fun _ v76 _ _ t76 => ⟨fun z => by exfalso; omega, fun _ => wt_ksread (fun v104 g103 hpo103 => ?_)⟩⟩⟩
    have k103 := hpo103.2.1
    have er103 : ER e Z g0 Zq g103 := er62.st ((eSt.rf er62.2.1.1.2.2.1).fr k103 (by decide) (by decide)) (fB_rd hpo103.1 k103) (k103 135 (by decide)) (k103 386 (by decide)) (k103 1729 (by decide))
    have ro103 : ro g103 e = ro g62 e := ro_eq (k103 170 (by decide)) (k103 1280 (by decide))
    refine ⟨fun Zr gr => ER e Z g0 Zr gr ∧ ro gr e ≤ ro g e + 1, fun Zr g106 _ _ _ hZ106 ⟨er106, ro106⟩ => tk Zr g106 er106 ro106 (fun v113 g112 er112 ro112 v115 _ _ _ => ⟨er112, ro112⟩), fun _ => ⟨er103, by omega⟩, fun _ v121 _ _ => ?_⟩
    have hJ103 : cJ Zq g103 := cJ_fr hJ62 k103 (by decide)
    have rm2 := hroom Zq g103 hJ103 er103
    have heq : e < Zq.n := by rw [hZ62]; exact he
    obtain ⟨n1, n2, x1, x2, x3⟩ := rm2.2.2.2 e (Zq.n + e) (by omega) (by omega) (by omega)
    refine ⟨n1, ⟨by have := rm2.1; omega, by have := rm2.2.1; omega, by omega⟩, s_came4 heq er103.2.1.1.2.2.1 (er103.2.1.1.2.2.2.2.1 hn) x1 (cJ_sz hJ103 e (by omega)).1 (fun Z1 g1 s r w f hpo122 _ Z2 eZ2 => ?_)⟩
    subst eZ2
    exact ⟨er103.cm s r w f, by rw [ro_eq (hpo122.2.1 170 (by decide)) (hpo122.2.1 1280 (by decide))]; omega⟩
  · refine wc_kask (Φ := fun _ g1 => po_kask Zy e 3 9 v48 g49 0 g1 → eSt (Zy.w 2) e g49 g1) (Ψ := fun _ _ => True) (fun r g132 a _ hpo132 => ?_) (e_ask hey (by decide) (eSt.rf er49.2.1.1.2.2.1) (fun g1 s => s)) (wt_kask (fun _ _ => trivial))
    have k132 := hpo132.2.1
    exact ⟨er49.st (a hpo132) (fB_ask hey hpo132.1 k132) (k132 135 (by decide)) (k132 386 (by decide)) (k132 1729 (by decide)), by rw [ro_eq (k132 170 (by decide)) (k132 1280 (by decide))]; omega⟩
  · refine s_allOverE (N := Zy.w 2) (M := Zy.w 2) cst.rf (er49.2.1.1.2.2.2.2.1 hn) (fun g136 s136 hpo136 => ?_)
    exact ⟨er49.cm (cE er49.2.1.1.2.2.1 s136) (cR s136) rfl (f4.cst s136), by rw [ro_eq (hpo136.2.1 170 (by decide)) (hpo136.2.1 1280 (by decide))]; omega⟩
