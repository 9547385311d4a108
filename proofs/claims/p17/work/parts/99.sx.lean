/-! the other calls of a script -/
/-- whether there is something on the tape: a send takes it, and a feed must bring it -/
def tp (g : mSt) : Int := if 0 < (g 361 0).toInt then 1 else 0
theorem tp_b (g : mSt) : 0 ≤ tp g ∧ tp g ≤ 1 := by
  unfold tp
  split <;> omega
theorem tp_eq {g g1 : mSt} (h : g1 361 = g 361) : tp g1 = tp g := by
  unfold tp
  rw [h]
def MI (K : Nat) (Z : cZ) (g : mSt) : Prop := ∃ t : Nat, t ≤ 50 * K ∧ MV (t : Int) (fun _ => 212 * t) (fun _ => 265 * t) (6000 + 69400 * (K : Int) - 32708 * tp g) (fun _ => False) Z g ∧ (g 362 0).toInt = (t : Int) ∧ ∀ x, oct (g 1152 x)
theorem MI.go {K t : Nat} {u : Int} {Z1 : cZ} {g1 : mSt} (ht : t ≤ 50 * K) (m : MV (t : Int) (fun _ => 212 * t) (fun _ => 265 * t) u (fun _ => False) Z1 g1) (hu : u ≤ 6000 + 69400 * (K : Int) + 69400 - 32708 * tp g1) (h362 : (g1 362 0).toInt = (t : Int)) (h1152 : ∀ x, oct (g1 1152 x)) : MI (K + 1) Z1 g1 := ⟨t, by omega, m.le (by omega) (fun _ _ => Nat.le_refl _) (fun _ _ => Nat.le_refl _) (fun _ _ => Iff.rfl), h362, h1152⟩
theorem MI.sc {K : Nat} {Z : cZ} {g : mSt} (h : MI K Z g) : MI (K + 1) Z g := by
  obtain ⟨t, a, b, c, d⟩ := h
  exact MI.go a b (by omega) c d
theorem MI.fr {K : Nat} {Z : cZ} {g g1 : mSt} {M : List Nat} (h : MI K Z g) (k : mFr M g g1) (hM : (M.all fun j => (decide (131 ≤ j) && decide (j ≤ 134)) || (decide (340 < j) && decide (j < 380)) || (decide (1088 ≤ j) && decide (j ≤ 1184))) = true) (h362 : 362 ∉ M) (h1152 : ∀ x, oct (g1 1152 x)) : MI (K + 1) Z g1 := by
  obtain ⟨t, a, b, c, d⟩ := h
  have x := tp_b g
  have y := tp_b g1
  exact MI.go a (b.fr k hM) (by omega) (by rw [k 362 h362]; exact c) h1152
theorem s_isEnd {Z : cZ} {i : Nat} {p : Int32} {g : mSt} {Φ : Int32 → mSt → Prop} (h0 : Φ 0 g) (h1 : 0 ≤ p.toInt → p.toInt.toNat < Z.n → Φ 1 g) : wp_kisEnd Z i p g Φ := ⟨fun _ => h0, fun c v4 t4 _ => ⟨fun _ => h0, fun c4 => h1 c (by omega)⟩⟩
theorem s_isSide {Z : cZ} {i : Nat} {p : Int32} {g : mSt} {Φ : Int32 → mSt → Prop} (h0 : Φ 0 g) (h1 : 0 ≤ p.toInt → p.toInt.toNat < 2 * Z.n → Φ 1 g) : wp_kisSide Z i p g Φ := ⟨fun _ => h0, fun c v4 t4 _ => ⟨fun _ => h0, fun c4 => h1 c (by omega)⟩⟩
theorem s_isDir {Z : cZ} {i : Nat} {p : Int32} {g : mSt} {Φ : Int32 → mSt → Prop} (h0 : Φ 0 g) (h1 : 0 ≤ p.toInt → p.toInt.toNat < 2 * Z.n → Φ 1 g) : wp_kisDirection Z i p g Φ := ⟨fun _ => h0, fun c v4 t4 _ => ⟨fun _ => h0, fun c4 => h1 c (by omega)⟩⟩
theorem s_callAt {Z : cZ} {i : Nat} {p1 p2 : Int32} {g : mSt} {Φ : Int32 → mSt → Prop} (h0 : Φ (-1) g) (h : ∀ r : Int32, 0 ≤ r.toInt → p1.toInt.toNat < Z.n → cD2 Z g p1.toInt.toNat r → Φ r g) : wp_kcallAt Z i p1 p2 g Φ := s_isEnd (fun _ => ⟨fun _ => h0, fun z => absurd rfl z⟩) (fun _ cn _ => ⟨fun z => absurd z (by decide), fun _ => ⟨fun _ => h0, fun _ v14 _ _ => ⟨fun _ v19 _ d => h v19 d.1 cn d, fun _ => h0⟩⟩⟩)
theorem efR.cs {e N : Nat} {g g1 : mSt} (hu : uLn g (2 * e) = 0) (s : cst N N e g g1) : efR e N g g1 := ⟨(eSt.rf hu).calls s, (f4.cst s).fB, Nat.le_of_eq (ro_eq (s.row 170 (by decide)) (s.row 1280 (by decide))), s.row 386 (by decide), s.row 1729 (by decide), s.row 135 (by decide)⟩
/-- an end calls -/
theorem MV.c1 {t u : Int} {R B : Nat → Nat} {p : Nat → Prop} {Z Z1 : cZ} {g g1 : mSt} {e : Nat} (h : MV t R B u p Z g) (hJ : cJ Z g) (he : e < Z.n) (a1 : ∀ m, ep (Z1.w 2) g1 e m ≤ ep (Z.w 2) g e m + 4) (a2 : qL g1 (2 * (2 * e)) = qL g (2 * (2 * e))) (a3 : uLn g1 (2 * e) = 0) (a4 : li g e → li g1 e) (a5 : noP g e → noP g1 e) (a6 : (Z1.w 2 : Int) + (g 135 e).toInt ≤ (Z.w 2 : Int) + (g1 135 e).toInt) (a7 : dN (Z1.w 2) g1 e ≤ dN (Z.w 2) g e) (a8 : (asN (Z1.w 2) g1 e : Int) + (g 135 e).toInt ≤ (asN (Z.w 2) g e : Int) + (g1 135 e).toInt) (a9 : rS Z g Z1 g1) (a10 : Z1.w 3 = Z.w 3) (f : f4 e (Z.w 2) g (Z1.w 2) g1) (hro : ro g1 e = ro g e) : MV t R B (u + 24000) p Z1 g1 := by
  have fb : fB e (Z.w 2) false g (Z1.w 2) g1 := f.fB
  have sc := fB_sC he fb
  have ss : ∀ f, f < Z.n → sS Z.n f g g1 := fun f hf => fB_sS he h.hn.2 hf fb
  have sd : ∀ f, sD f g g1 := fun f => fB_sD (fun z => absurd z (by decide)) fb
  have h1216 : g1 1216 = g 1216 := funext fun x => fb.at (by decide) (by decide) (fun z => absurd z (by decide)) (by omega)
  refine h.one (δ := 24000) (R1 := R) (B1 := B) (p1 := p) (Z1 := Z1) (g1 := g1) he (sc.ci h.hc (cJ_z hJ)) a9 h1216 (fun f hf hne => ⟨fB_sE hne fb, ss f hf, sd f⟩) (fun f _ => ⟨rfl, rfl, Iff.rfl⟩) (fun h0 k1 k2 k3 k4 k5 k6 => ⟨h0, ⟨?_, k5.sm (ss e he), (sd e).od k6⟩, k1.sm (ss e he) k5.2.2.1.2.2, fun z => (k2 z).sm (sd e), k3, ?_⟩)
  · obtain ⟨⟨a, b, c, d⟩, x, y⟩ := k4
    exact ⟨⟨a4 a, a5 b, a3, by rw [a2]; exact d⟩, f.2.2.2.2 x, by rw [hro]; exact y⟩
  · have b1 := a1 h0.2.2.2.1
    have e3 : (Z1.w 3 : Int) = (Z.w 3 : Int) := by rw [a10]
    unfold uF XI
    rw [sc.lt h.hc (cJ_z hJ), (ss e he).lk, (ss e he).lf, (sd e).d]
    omega
theorem i_call {K n1 : Nat} {Z : cZ} {p1 p2 p3 : Int32} {g : mSt} {Φ : Int32 → cZ → mSt → Prop} (h : MI K Z g) (hJ : cJ Z g) (hg : p1.toInt.toNat < Z.n → gNd g p1.toInt.toNat n1) (k : ∀ r Z1 g1, MI (K + 1) Z1 g1 → Φ r Z1 g1) : wp_kxcall n1 Z 0 p1 p2 p3 g Φ := by
  have k0 : ∀ r, Φ r Z g := fun r => k r Z g h.sc
  obtain ⟨t, ht, mv, h362, hT⟩ := h
  refine s_isEnd (fun _ => ⟨fun _ => k0 _, fun z => absurd rfl z⟩) (fun c0 cn _ => ⟨fun z => absurd z (by decide), fun _ => s_isEnd (fun _ => ⟨fun _ => k0 _, fun z => absurd rfl z⟩) (fun _ _ _ => ⟨fun z => absurd z (by decide), fun _ => ⟨fun _ => k0 _, fun _ => ⟨fun _ => k0 _, fun _ => ⟨fun _ v25 _ _ => ?_, fun _ => k0 _⟩⟩⟩⟩)⟩)
  obtain ⟨⟨⟨a, b, c, d⟩, x, y⟩, _, _⟩ := mv.ev cn
  refine s_askc c cn (hg cn) (cJ_sz hJ _ (by omega)).1 (fun r Z1 g1 a1 a2 a3 a4 a5 a6 a7 a8 a9 a10 f hpo _ Z2 eZ2 => ?_)
  subst eZ2
  exact k r Z2 g1 (MI.go ht (mv.c1 hJ cn a1 a2 a3 a4 a5 a6 a7 a8 a9 a10 f (ro_eq (hpo.2.1 170 (by decide)) (hpo.2.1 1280 (by decide)))) (by rw [tp_eq (hpo.2.1 361 (by decide))]; omega) (by rw [hpo.2.1 362 (by decide)]; exact h362) (by rw [hpo.2.1 1152 (by decide)]; exact hT))
theorem i_hang {K : Nat} {Z : cZ} {p1 p2 : Int32} {g : mSt} {Φ : Int32 → mSt → Prop} (h : MI K Z g) (hJ : cJ Z g) (k : ∀ r g1, MI (K + 1) Z g1 → Φ r g1) : wp_khang Z 0 p1 p2 g Φ := by
  have k0 : ∀ r, Φ r g := fun r => k r g h.sc
  obtain ⟨t, ht, mv, h362, hT⟩ := h
  refine s_callAt (fun _ => ⟨fun _ => k0 _, fun z => absurd z (by decide)⟩) (fun v2 c2 hn d hpo => ⟨fun z => by exfalso; omega, fun _ v4 _ _ => ⟨fun _ => k0 _, fun _ => ⟨fun _ v12 _ _ => s_releaseE (N := Z.w 2) (M := Z.w 2) hn cst.rf d.2.2 (fun g13 s13 hpo13 => ?_), fun _ => k0 _⟩⟩⟩)
  exact k _ g13 (MI.go ht (mv.e1 hJ hn (efR.cs (mv.ev hn).1.1.2.2.1 s13)) (by rw [tp_eq (hpo13.2.1 361 (by decide))]; omega) (by rw [hpo13.2.1 362 (by decide)]; exact h362) (by rw [hpo13.2.1 1152 (by decide)]; exact hT))
theorem i_policy {K : Nat} {Z : cZ} {p1 p2 p3 : Int32} {g : mSt} {Φ : Int32 → mSt → Prop} (h : MI K Z g) (k : ∀ r g1, MI (K + 1) Z g1 → Φ r g1) : wp_kpolicy Z 0 p1 p2 p3 g Φ := by
  have k0 : ∀ r, Φ r g := fun r => k r g h.sc
  have k1 : ∀ (a b : mSt) (x : Nat) (v w : Int32), a = up2 g 132 x v → b = up2 a 133 x w → Φ 1 b := fun a b x v w e1 e2 => by
    have f : mFr [132, 133] g b := fun j hj => by
      simp only [List.mem_cons, List.not_mem_nil, or_false, not_or] at hj
      rw [e2, up2_of hj.2, e1, up2_of hj.1]
    refine k 1 b (h.fr f (by decide) (by decide) ?_)
    rw [f 1152 (by decide)]
    obtain ⟨_, _, _, _, d⟩ := h
    exact d
  refine s_isEnd (fun _ => ⟨fun _ => k0 _, fun z => absurd rfl z⟩) (fun _ _ _ => ⟨fun z => absurd z (by decide), fun _ => ⟨fun _ => k0 _, fun _ => ⟨fun _ => ⟨fun _ g18 e18 g19 e19 => k1 g18 g19 _ _ _ e18 e19, fun _ => ⟨fun _ => k0 _, fun _ => ⟨fun _ g29 e29 g30 e30 => k1 g29 g30 _ _ _ e29 e30, fun _ => k0 _⟩⟩⟩, fun _ => k0 _⟩⟩⟩)
/-! a frame that is sent -/
theorem s_crc38 {Z : cZ} {q1 : Nat} {p2 : Int32} {g : mSt} {Φ : Int32 → mSt → Prop} (h : ∀ r, Φ r g) : wp_kcrcOf_38 Z q1 p2 g Φ :=
  ⟨fun _ _ g' => g' = g, fun _ _ g3 _ _ _ _ h3 => ⟨fun g4 => g4 = g, fun g4 _ _ h4 v5 _ _ => by rw [show g4 = g from h4]; exact h v5, fun _ => h3, fun _ => ⟨fun _ => h3, fun _ v12 _ _ v13 _ _ v14 _ _ => ⟨fun _ _ g' => g' = g, fun _ _ g17 _ _ _ _ h17 => ⟨fun _ v20 _ _ _ => h17, fun _ => ⟨fun _ g' => g' = g, fun _ g23 _ _ _ h23 v24 _ _ _ => h23, fun _ v27 _ _ => h17, fun _ v29 _ _ v30 _ _ => h17⟩⟩, h3⟩⟩⟩, rfl⟩
def O12 (g : mSt) : Prop := ∀ x, oct (g 1216 x)
theorem O12.up {g g1 : mSt} {x : Nat} {v : Int32} (h : O12 g) (hv : oct v) (e : g1 = up2 g 1216 x v) : O12 g1 := fun y => by
  by_cases c : y = x
  · rw [e, c, up2_i]
    exact hv
  · rw [e, up2_n c]
    exact h y
theorem O12.fr {g g1 : mSt} (h : O12 g) (e : g1 1216 = g 1216) : O12 g1 := fun y => by rw [e]; exact h y
theorem o_close {Z : cZ} {q1 : Nat} {p2 : Int32} {g : mSt} {Φ : Int32 → mSt → Prop} (h1 : 1 ≤ p2.toInt) (h2 : p2.toInt ≤ 200) (ho : O12 g) (h : ∀ r g1, O12 g1 → Φ r g1) : wp_kcloseFrame_38 Z q1 p2 g Φ := by
  have z0 : (0 : Int32).toInt = 0 := by decide
  have o0 : oct (0 : Int32) := ⟨by decide, by decide⟩
  refine ⟨fun c => by exfalso; omega, fun _ => ⟨fun c => by exfalso; omega, fun _ => s_cellsFor (fun r hr hpo v11 _ r11 t11 => ?_)⟩⟩
  refine ⟨fun c => ⟨fun c1 => ⟨fun c2 hpo2 => ?_, fun _ => trivial⟩, fun _ => trivial⟩, fun _ => trivial⟩
  refine ⟨fun _ g4 => O12 g4, fun a g4 _ _ _ o4 => ⟨fun _ hpo14 v15 _ _ _ v17 e17 _ g18 e18 v19 _ _ _ v21 _ r21 g22 e22 v23 _ _ _ => s_crc38 (fun v26 hpo26 => ⟨fun _ _ g29 => O12 g29, fun a71 b71 g29 _ _ _ _ o29 => ⟨fun _ => h _ _ o29, fun _ v33 _ _ _ v34 _ r34 g35 e35 v36 _ _ v37 _ _ _ => o29.up r34 e35⟩, ?_⟩), fun _ g8 e8 v9 _ _ _ => o4.up o0 e8⟩, ho⟩
  have o18 : O12 g18 := o4.up (by rw [e17, ush8 (by omega)]; exact o0) e18
  exact o18.up r21 e22
theorem s_addF {Z : cZ} {c : Nat} {p2 : Int32} {g : mSt} {Φ : Int32 → cZ → mSt → Prop} (h49 : (g 49 c).toInt ≤ 4) (ho : O12 g) (hT : ∀ x, oct (g 1152 x)) (h0 : Φ 0 Z g) (h : ∀ (Z1 : cZ) g1, (Z1 = Z ∨ (Z1.n = Z.n ∧ Z1.w 2 = Z.w 2 ∧ Z1.w 3 = Z.w 3 + 968 ∧ Z1.w 0 = Z.w 0 + 6)) → dW g1 c ≤ dW g c + 9 → O12 g1 → Φ 1 Z1 g1) : wp_kaddFrame Z c 0 p2 g Φ := by
  intro v1 e1 r1
  have r1 : 0 ≤ v1.toInt ∧ v1.toInt ≤ 4 := r1
  have z0 : (0 : Int32).toInt = 0 := by decide
  have cp : ∀ (a b : mSt) (x y m : Nat), a 1152 = g 1152 → O12 a → b = cCpy a 1152 x 1216 y m → O12 b := fun a b x y m ea oa eb z => by
    rw [eb]
    by_cases w : y ≤ z ∧ z < y + m
    · rw [cCpy_y w, ea]
      exact hT _
    · rw [cCpy_x w]
      exact oa z
  have fr : ∀ v, O12 (gFr g c v) := fun v x => by
    unfold gFr
    rw [if_neg (by omega), if_neg (by omega)]
    split
    · exact ⟨by decide, by decide⟩
    · exact ho x
  -- new frames
  have nw : ∀ (Z1 : cZ) (v18 : Int32) (g18 : mSt), cZl Z Z1 6 968 → Z1.w 2 = Z.w 2 → Z1.w 3 = Z.w 3 + 968 → g18 = gFr g c v18 → ∀ (g19 : mSt), g19 = up2 g18 47 c (0 : Int32) → ∀ (g20 : mSt), g20 = up2 g19 49 c (0 : Int32) → ∀ (v26 : Int32), 1 ≤ p2.toInt → p2.toInt ≤ 200 → ∀ (x y m : Nat) (g32 : mSt), g32 = cCpy g20 1152 x 1216 y m → ∀ q, wp_kcloseFrame_38 Z1 q p2 g32 (fun (v41 : Int32) (g40 : mSt) => po_kcloseFrame_38 Z1 q p2 g32 v41 g40 → ∀ (g42 : mSt), g42 = up2 g40 1184 (8192 * c + v26.toNatClampNeg) v41 → ∀ (v44 : Int32), v44 = v1 + (1 : Int32) → rg (1) (4) v44 → v44.toInt = v1.toInt + 1 → ∀ (g46 : mSt), g46 = up2 g42 48 c v44 → Φ (1 : Int32) Z1 g46) := fun Z1 v18 g18 hz h2 h3 e18 g19 e19 g20 e20 v26 p1 p200 x y m g32 e32 q => by
    have o20 : O12 g20 := ((fr v18).fr (g1 := g20) (by rw [e20, up2_of (by decide), e19, up2_of (by decide), e18]))
    have q20 : g20 1152 = g 1152 := by rw [e20, up2_of (by decide), e19, up2_of (by decide), e18, gFr_r (by decide)]
    refine o_close p1 p200 (cp g20 g32 x y m q20 o20 e32) (fun v41 g40 o40 hpo40 g42 e42 v44 _ _ t44 g46 e46 => h Z1 g46 (Or.inr ⟨hz.1, h2, h3, hz.2.2.2.1⟩) ?_ (o40.fr (by rw [e46, up2_of (by decide), e42, up2_of (by decide)])))
    have f48 : g46 48 c = v44 := by rw [e46, up2_i]
    have f49 : g46 49 c = 0 := by rw [e46, up2_o (by decide), e42, up2_o (by decide), hpo40.2.1 49 (by decide), e32, cCpy_o (by decide), e20, up2_i]
    unfold dW
    rw [f48, f49, ← e1, z0]
    have : (0 : Int).toNat = 0 := rfl
    split <;> split <;> omega
  refine ⟨fun _ => h0, fun c4 => ⟨fun _ => h0, fun p1 => ⟨fun _ => h0, fun p200 => ⟨fun _ v12 _ => ⟨fun _ Z18 eZ18 Z1 v18 g18 hz h2 h3 _ e18 _ g19 e19 g20 e20 v24 _ _ _ v26 _ _ _ g32 e32 => ?_, fun _ v47 _ => ⟨fun _ Z18 eZ18 Z1 v18 g18 hz h2 h3 _ e18 _ g19 e19 g20 e20 v24 _ _ _ v26 _ _ _ g32 e32 => ?_, fun _ v82 _ _ v84 _ _ _ v85 _ _ _ g91 e91 => ?_⟩⟩, fun _ => trivial⟩⟩⟩⟩
  · subst eZ18
    exact nw Z1 v18 g18 hz h2 h3 e18 g19 e19 g20 e20 v26 p1 p200 _ _ _ g32 e32 _
  · subst eZ18
    exact nw Z1 v18 g18 hz h2 h3 e18 g19 e19 g20 e20 v26 p1 p200 _ _ _ g32 e32 _
  · refine o_close p1 p200 (cp g g91 _ _ _ rfl ho e91) (fun v100 g99 o99 hpo99 g101 e101 v103 _ _ t103 g105 e105 => h Z g105 (Or.inl rfl) ?_ (o99.fr (by rw [e105, up2_of (by decide), e101, up2_of (by decide)])))
    have f48 : g105 48 c = v103 := by rw [e105, up2_i]
    have f49 : g105 49 c = g 49 c := by rw [e105, up2_o (by decide), e101, up2_o (by decide), hpo99.2.1 49 (by decide), e91, cCpy_o (by decide)]
    unfold dW
    rw [f48, f49, ← e1]
    split <;> split <;> omega
theorem MV.f1 {t u : Int} {R B : Nat → Nat} {p : Nat → Prop} {Z Z1 : cZ} {g g1 : mSt} {e c : Nat} (h : MV t R B u p Z g) (hJ : cJ Z g) (he : e < Z.n) (hc : (g 32 c).toInt = (e : Int)) (hcN : c < Z.w 2) (hz : Z1 = Z ∨ (Z1.n = Z.n ∧ Z1.w 2 = Z.w 2 ∧ Z1.w 3 = Z.w 3 + 968 ∧ Z1.w 0 = Z.w 0 + 6)) (hd : dW g1 c ≤ dW g c + 9) (ho : O12 g1) (k : mFr [44, 45, 47, 48, 49, 361, 1184, 1216] g g1) (hw : ∀ x, x ≠ c → g1 48 x = g 48 x ∧ g1 49 x = g 49 x) : MV t R B (u + 102108) p Z1 g1 := by
  have hn := h.hn
  have w2 : Z1.w 2 = Z.w 2 := by
    rcases hz with z | z
    · rw [z]
    · exact z.2.1
  have sl : ∀ e, sL e (Z.w 2) g (Z.w 2) g1 := fun e => ⟨fun j hj => by rcases hj with hj | hj | hj | hj | hj | hj <;> subst hj <;> rw [k _ (by decide)], fun j x hj _ => by rcases hj with hj | hj <;> subst hj <;> rw [k _ (by decide)], fun j x hj _ => by rcases hj with hj | hj <;> subst hj <;> rw [k _ (by decide)], ⟨by rw [k 66 (by decide)], by rw [k 67 (by decide)], fun j x hj _ => by rcases hj with hj | hj <;> subst hj <;> rw [k _ (by decide)]⟩, by rw [k 111 (by decide)], Nat.le_refl _, fun c _ => ⟨by rw [k 32 (by decide)], by rw [k 43 (by decide)], fun _ => ⟨by rw [k 36 (by decide)], by rw [k 42 (by decide)], by rw [k 46 (by decide)]⟩⟩, fun c h1 h2 => by exfalso; omega, fun c _ => ⟨by rw [k 32 (by decide)], by rw [k 43 (by decide)]⟩⟩
  have se : ∀ e', e' ≠ e → sE e' (Z.w 2) g (Z.w 2) g1 := fun e' hne => ⟨sl e', fun c' _ hc' => hw c' (fun z => by rw [z] at hc'; omega)⟩
  have ss : ∀ f, sS Z.n f g g1 := fun f => ⟨fun j hj => by rcases hj with hj | hj | hj | hj <;> subst hj <;> rw [k _ (by decide)], fun j x hj _ => by rcases hj with hj | hj <;> subst hj <;> rw [k _ (by decide)], fun j h1 h2 => by rw [k j (by simp only [List.mem_cons, List.not_mem_nil, or_false]; omega)], fun j x hj _ => by rcases hj with hj | hj <;> subst hj <;> rw [k _ (by decide)]⟩
  have sd : ∀ f, sD f g g1 := fun f => ⟨⟨by rw [k 106 (by decide)], by rw [k 101 (by decide)], by rw [k 67 (by decide)]⟩, fun x _ => by rw [k 544 (by decide)], fun j x hj _ => by rcases hj with hj | hj | hj <;> subst hj <;> rw [k _ (by decide)]⟩
  have sc : sC Z.n (Z.w 2) g (Z.w 2) g1 := ⟨Nat.le_refl _, fun c _ => ⟨by rw [k 32 (by decide)], fun _ j hj => by rw [k j (by simp only [List.mem_cons, List.not_mem_nil, or_false]; omega)]⟩, fun c h1 h2 => by exfalso; omega, fun f _ => ⟨by rw [k 323 (by decide)], by rw [k 386 (by decide)], fun p _ => by rw [k 1728 (by decide)]⟩⟩
  have hst : szT Z.n g1 = szT Z.n g := by
    unfold szT
    rw [k 386 (by decide)]
  have hrs : rS Z g Z1 g1 := by
    rcases hz with z | ⟨z1, z2, z3, z4⟩
    · rw [z]
      exact rS.rf (k 386 (by decide)) (k 1729 (by decide))
    · refine ⟨z1, fun q => ?_, by rw [hst, z2]; exact Nat.le_refl _, by rw [hst, z2, z3, z4]; omega⟩
      unfold capI
      rw [k 386 (by decide), k 1729 (by decide)]
      exact q
  -- the octets of frames are kept apart: this step is made by hand
  obtain ⟨G, hn', hci, ⟨c1, c2, c3⟩, _, ev, hG, hU⟩ := h
  have n1 : Z1.n = Z.n := hrs.1
  have r1 := hrs.2.2.1
  have r2 := hrs.2.2.2
  refine ⟨G, by rw [n1]; exact hn', by rw [n1, w2]; exact sc.ci hci (cJ_z hJ), ⟨by rw [n1]; exact hrs.2.1 c1, by rw [n1]; omega, by rw [n1]; omega⟩, ho, fun x hx => ?_, fun f hf => ?_, ?_⟩
  · rw [n1] at hx ⊢
    obtain ⟨a, b, c⟩ := ev x hx
    exact ⟨a.sm (sl x), b.sm (ss x), (sd x).od c⟩
  · rw [n1] at hf
    obtain ⟨a, b, c⟩ := hG f hf
    exact ⟨a.sm (ss f) (ev f hf).2.1.2.2.1.2.2, fun z => (b z).sm (sd f), c⟩
  · rw [n1]
    unfold UU at hU ⊢
    have d5 : dN (Z.w 2) g1 e ≤ dN (Z.w 2) g e + 9 := by
      have := smN_tr (n := Z.w 2) (F := fun q => if (g 32 q).toInt = (e : Int) then dW g q else 0) (F1 := fun q => if (g1 32 q).toInt = (e : Int) then dW g1 q else 0) (s := c) (a := 9) (a1 := 0) (fun q _ hq => by
        show (if (g1 32 q).toInt = (e : Int) then dW g1 q else 0) = (if (g 32 q).toInt = (e : Int) then dW g q else 0)
        rw [k 32 (by decide), dW_eq (hw q hq).1 (hw q hq).2]) hcN (by
        show (if (g1 32 c).toInt = (e : Int) then dW g1 c else 0) + 0 ≤ (if (g 32 c).toInt = (e : Int) then dW g c else 0) + 9
        rw [k 32 (by decide), if_pos hc, if_pos hc]
        omega)
      exact this
    have lt : LT Z.n g1 t = LT Z.n g t := sc.lt hci (cJ_z hJ)
    have sm := smZ_one (n := Z.n) (F := fun f => uF Z.n (Z.w 2) g t (G f) f) (F1 := fun f => uF Z.n (Z1.w 2) g1 t (G f) f) (s := e) (d := 96300) (fun q hq hqs => by
      show uF Z.n (Z1.w 2) g1 t (G q) q ≤ uF Z.n (Z.w 2) g t (G q) q
      rw [w2, uF.sm (se q hqs) (ss q) (sd q)]
      exact Int.le_refl _) he (by
      show uF Z.n (Z1.w 2) g1 t (G e) e ≤ uF Z.n (Z.w 2) g t (G e) e + 96300
      unfold uF
      rw [w2, (sl e).pe, (sl e).pa, (sl e).1 135 (by omega), (ss e).lk, (ss e).lf, (sd e).d]
      omega)
    have w3 : (Z1.w 3 : Int) ≤ (Z.w 3 : Int) + 968 := by
      rcases hz with z | z
      · rw [z]
        omega
      · rw [z.2.2.1]
        omega
    have e2 : (Z1.w 2 : Int) = (Z.w 2 : Int) := by rw [w2]
    unfold XI at hU ⊢
    rw [lt]
    omega
theorem af_out {c q x : Nat} {p : Int32} {g g1 : mSt} (h : mFi (im_kaddFrame c q p) g g1) (hx : x ≠ c) : g1 48 x = g 48 x ∧ g1 49 x = g 49 x := ⟨h.out (by simp [mOut, im_kaddFrame]; omega), h.out (by simp [mOut, im_kaddFrame]; omega)⟩
theorem i_send {K : Nat} {Z : cZ} {p1 p2 : Int32} {g : mSt} {Φ : Int32 → cZ → mSt → Prop} (h : MI K Z g) (hJ : cJ Z g) (k : ∀ r Z1 g1, MI (K + 1) Z1 g1 → Φ r Z1 g1) : wp_kxsend Z 0 p1 p2 g Φ := by
  have k0 : ∀ r, Φ r Z g := fun r => k r Z g h.sc
  obtain ⟨t, ht, mv, h362, hT⟩ := h
  refine s_callAt (fun _ => ⟨fun _ => k0 _, fun z => absurd z (by decide)⟩) (fun v2 c2 hn d hpo => ⟨fun z => by exfalso; omega, fun _ v4 e4 r4 => ⟨fun c4 v7 _ _ => ⟨fun _ => s_addF (hJ.1.2.2 _) (fun x => mv.oc x) hT (fun _ _ Z2 eZ2 => ⟨fun z => absurd rfl z, fun _ => ?_⟩) (fun Z1 g13 hz hd ho hpo13 _ Z2 eZ2 => ⟨fun _ g18 e18 v19 _ _ => ?_, fun z => absurd z (by decide)⟩), fun _ => k0 _⟩, fun _ => k0 _⟩⟩)
  · rw [eZ2]
    exact k0 _
  · subst eZ2
    have k18 : mFr [44, 45, 47, 48, 49, 361, 1184, 1216] g g18 := fun j hj => by
      simp only [List.mem_cons, List.not_mem_nil, or_false, not_or] at hj
      rw [e18, up2_of (by omega), hpo13.2.1 j (by simp only [List.mem_cons, List.not_mem_nil, or_false, not_or]; omega)]
    refine k _ Z2 g18 (MI.go ht (mv.f1 hJ hn d.2.2 (hJ.2.2.2.2.1.1.2.1 _ d.2.1) hz ?_ (ho.fr (by rw [e18, up2_of (by decide)])) k18 (fun x hx => ?_)) ?_ (by rw [k18 362 (by decide)]; exact h362) (by rw [k18 1152 (by decide)]; exact hT))
    · rw [dW_eq (g := g13) (by rw [e18, up2_o (by decide)]) (by rw [e18, up2_o (by decide)])]
      exact hd
    · rw [e18, up2_o (by decide), up2_o (by decide)]
      exact af_out hpo13.1 hx
    · have t0 : tp g = 1 := if_pos (by rw [← e4]; omega)
      have t1 : tp g18 = 0 := if_neg (by rw [e18, up2_i]; decide)
      rw [t0, t1]
      omega
/-! the tape -/
theorem i_tape {Z : cZ} {p1 : Int32} {g : mSt} {Φ : Int32 → mSt → Prop} (hT : ∀ x, oct (g 1152 x)) (h : ∀ g1, (∀ x, oct (g1 1152 x)) → Φ 0 g1) : wp_kputOnTape Z 0 p1 g Φ := by
  refine ⟨fun _ g2 => ∀ x, oct (g2 1152 x), fun a g2 _ _ _ o2 z2 _ _ => ⟨fun g3 => ∀ x, oct (g3 1152 x), fun g3 _ _ o3 => h g3 o3, fun _ => o2, fun _ => ⟨fun _ => o2, fun _ v13 _ _ v14 _ r14 g15 e15 v17 _ _ _ g18 e18 v19 _ _ _ x => ?_⟩⟩, hT⟩
  rw [e18, up2_o (by decide), e15]
  by_cases c : x = 8192 * 0 + z2.toNatClampNeg
  · rw [c, up2_i]
    exact r14
  · rw [up2_n c]
    exact o2 x
theorem i_feed {K : Nat} {Z : cZ} {p1 p2 p3 p4 p5 : Int32} {g : mSt} {Φ : Int32 → mSt → Prop} (h : MI K Z g) (k : ∀ r g1, MI (K + 1) Z g1 → Φ r g1) : wp_kfeed Z 0 p1 p2 p3 p4 p5 g Φ := by
  have k0 : ∀ r, Φ r g := fun r => k r g h.sc
  have hT : ∀ x, oct (g 1152 x) := by
    obtain ⟨_, _, _, _, d⟩ := h
    exact d
  intro v1 _ _ v2 _ _ _
  refine ⟨fun _ => i_tape hT (fun g5 o5 f5 => i_tape o5 (fun g6 o6 f6 => i_tape o6 (fun g7 o7 f7 => i_tape o7 (fun g8 o8 f8 => i_tape o8 (fun g9 o9 f9 v10 _ _ => ?_))))), fun _ => k0 _⟩
  refine k _ g9 (h.fr (M := [361, 1152]) (fun j hj => ?_) (by decide) (by decide) o9)
  rw [f9.2.1 j hj, f8.2.1 j hj, f7.2.1 j hj, f6.2.1 j hj, f5.2.1 j hj]
/-- a call that leaves all that counts as it is -/
theorem MI.no {K : Nat} {Z : cZ} {g g1 : mSt} {M : List Nat} (h : MI K Z g) (k : mFr M g g1) (hM : (M.all fun j => (decide (131 ≤ j) && decide (j ≤ 134)) || (decide (340 < j) && decide (j < 380)) || (decide (1088 ≤ j) && decide (j ≤ 1184))) = true) (h362 : 362 ∉ M ∧ 1152 ∉ M) : MI (K + 1) Z g1 := h.fr k hM h362.1 (by
  rw [k 1152 h362.2]
  obtain ⟨_, _, _, _, d⟩ := h
  exact d)
