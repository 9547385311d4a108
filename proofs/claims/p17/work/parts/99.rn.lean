/-! an end asks: its potential grows by four at most -/
theorem s_askc {Z : cZ} {e n1 : Nat} {p1 p2 p3 : Int32} {g : mSt} {Φ : Int32 → cZ → mSt → Prop} (hu : uLn g (2 * e) = 0) (he : e < Z.n) (hg : gNd g e n1) (h9 : 0 ≤ (g 386 e).toInt) (h : ∀ (r : Int32) (Z1 : cZ) g1, (∀ m, ep (Z1.w 2) g1 e m ≤ ep (Z.w 2) g e m + 4) → qL g1 (2 * (2 * e)) = qL g (2 * (2 * e)) → uLn g1 (2 * e) = 0 → (li g e → li g1 e) → (noP g e → noP g1 e) → (Z1.w 2 : Int) + (g 135 e).toInt ≤ (Z.w 2 : Int) + (g1 135 e).toInt → dN (Z1.w 2) g1 e ≤ dN (Z.w 2) g e → (asN (Z1.w 2) g1 e : Int) + (g 135 e).toInt ≤ (asN (Z.w 2) g e : Int) + (g1 135 e).toInt → rS Z g Z1 g1 → Z1.w 3 = Z.w 3 → f4 e (Z.w 2) g (Z1.w 2) g1 → Φ r Z1 g1) : wp_kaskc n1 Z e p1 p2 p3 g Φ := by
  have h0 : ∀ r, Φ r Z g := fun r => h r Z g (fun m => by omega) rfl hu id id (Int.le_refl _) (Nat.le_refl _) (Int.le_refl _) (rS.rf rfl rfl) rfl f4.rf
  refine s_room4 (fun v2 hv _ => ⟨fun _ => h0 _, fun c v10 _ _ => ⟨fun _ v14 _ _ v15 _ _ g16 e16 sd20 esd Z19 eZ19 Z' v19 g19 hv19 hzl hw2 hw3 hJ al e19 g21 e21 g22 e22 v23 _ _ => ?_, fun _ => h0 _⟩⟩)
  subst eZ19
  have h40 := hv c
  have hcN : v19.toInt.toNat = Z19.w 2 := by omega
  have k16 : mFr [131] g g16 := fun a ha => by rw [e16, up2_of (by simpa using ha)]
  have u16 : uLn g16 (2 * e) = 0 := by rw [uLn_fr k16 (by decide)]; exact hu
  have s16 : eSt (Z19.w 2) e g g16 := (eSt.rf hu).fr k16 (by decide) (by decide)
  have hn := e_new (e := e) (N := Z19.w 2) u16 hcN e19
  have hr19 : ∀ j, 50 ≤ j → g19 j = g16 j := fun j hj => funext fun i => by rw [e19]; exact gNew_o (by omega)
  intro g1 e1 g2 e2 g3 e3
  refine ⟨fun z => absurd z (by decide), fun _ g6 e6 g8 e8 g10 e10 g12 e12 hpo24 => ?_⟩
  have k12 : mFr [36, 38, 39, 41, 42, 44, 45, 46, 48] g19 g12 := fun a ha => by
    simp only [List.mem_cons, List.not_mem_nil, or_false, not_or] at ha
    rw [e12, up2_of (by omega), e10, up2_of (by omega), e8, up2_of (by omega), e6, up2_of (by omega), e3, up2_of (by omega), e2, up2_of (by omega), e1, up2_of (by omega), e22, up2_of (by omega), e21, up2_of (by omega)]
  have o12 : ∀ k, k ≠ v19.toInt.toNat → g12 36 k = g19 36 k ∧ g12 42 k = g19 42 k := fun k hk => ⟨by rw [e12, up2_o (by decide), e10, up2_o (by decide), e8, up2_o (by decide), e6, up2_o (by decide), e3, up2_o (by decide), e2, up2_o (by decide), e1, up2_n hk, e22, up2_o (by decide), e21, up2_o (by decide)], by rw [e12, up2_o (by decide), e10, up2_o (by decide), e8, up2_o (by decide), e6, up2_o (by decide), e3, up2_n hk, e2, up2_o (by decide), e1, up2_o (by decide), e22, up2_o (by decide), e21, up2_o (by decide)]⟩
  have e135 : g12 135 = g 135 := by rw [k12 135 (by decide), hr19 135 (by decide), k16 135 (by decide)]
  refine s_eadd (by unfold gNd; rw [k12 386 (by decide), k12 1729 (by decide), hr19 386 (by decide), hr19 1729 (by decide), k16 386 (by decide), k16 1729 (by decide)]; exact hg) (by rw [e135]; exact h40) (fun Z26 g26 k26 t135 q26k hpo26 _ Z27 eZ27 => s_saySetup4 (fun g27 q27 hpo27 v28 _ _ => ?_))
  subst eZ27
  have hZ : Z27.w 2 ≤ Z19.w 2 + 1 := by
    have := q26k.1.2.2.1
    omega
  have k27 := hpo27.2.1
  have sM : mFr [35, 36, 38, 39, 41, 42, 44, 45, 46, 48, 135, 384, 385, 386, 1536, 1728, 1729] g19 g26 := fun a ha => by
    simp only [List.mem_cons, List.not_mem_nil, or_false, not_or] at ha
    rw [k26 a (by simp only [List.mem_cons, List.not_mem_nil, or_false, not_or]; omega), k12 a (by simp only [List.mem_cons, List.not_mem_nil, or_false, not_or]; omega)]
  have p26 : stp g19 g26 e (2 * e) := (stp.rf hn.2.2.1).fr sM (by decide)
  have q26 : qL g26 (2 * (2 * e)) = qL g (2 * (2 * e)) := by
    have f : mFr (List.range 50) g16 g19 := fun j hj => hr19 j (by rw [List.mem_range] at hj; omega)
    rw [qL_fr sM ⟨⟨by decide, by decide⟩, by decide, by decide⟩, qL_fr f ⟨⟨by decide, by decide⟩, by decide, by decide⟩, qL_fr k16 ⟨⟨by decide, by decide⟩, by decide, by decide⟩]
  have hom : om (Z19.w 2 + 1) g27 e ≤ om (Z19.w 2 + 1) g19 e + 1 := by
    refine cP_p1 (c := v19.toInt.toNat) (fun k _ hk => ?_)
    unfold omP
    rw [k27 32 (by decide), k27 36 (by decide), k27 42 (by decide), k26 32 (by decide), k26 36 (by decide), k26 42 (by decide), k12 32 (by decide), (o12 k hk).1, (o12 k hk).2]
  have hn19 : n19 (wtL g27 e) ≤ n19 (wtL g26 e) + 1 := by
    rcases q27.1 with w | ⟨y, _, w⟩
    · rw [w]
      omega
    · rw [w]
      unfold n19
      rw [List.countP_append, List.countP_singleton]
      split <;> omega
  have e386 : g12 386 = g 386 := by rw [k12 386 (by decide), hr19 386 (by decide), k16 386 (by decide)]
  have e1729 : g12 1729 = g 1729 := by rw [k12 1729 (by decide), hr19 1729 (by decide), k16 1729 (by decide)]
  have hr26 : rS Z19 g Z27 g26 := q26k.rS (by omega) h9 hzl hw2 hw3 e386 e1729
  have n26 : ∀ j k, k ≠ v19.toInt.toNat → 32 ≤ j → j < 50 → j ≠ 35 → g26 j k = g19 j k := fun j k hk h1 h2 h3 => by
    rw [k26 j (by simp only [List.mem_cons, List.not_mem_nil, or_false, not_or]; omega), e12]
    refine Eq.trans (if_neg (fun z => hk z.2)) ?_
    rw [e10]
    refine Eq.trans (if_neg (fun z => hk z.2)) ?_
    rw [e8]
    refine Eq.trans (if_neg (fun z => hk z.2)) ?_
    rw [e6]
    refine Eq.trans (if_neg (fun z => hk z.2)) ?_
    rw [e3]
    refine Eq.trans (if_neg (fun z => hk z.2)) ?_
    rw [e2]
    refine Eq.trans (if_neg (fun z => hk z.2)) ?_
    rw [e1]
    refine Eq.trans (if_neg (fun z => hk z.2)) ?_
    rw [e22]
    refine Eq.trans (if_neg (fun z => hk z.2)) ?_
    rw [e21]
    exact if_neg (fun z => hk z.2)
  have d27 : dN (Z27.w 2) g27 e ≤ dN (Z19.w 2) g e := by
    refine Nat.le_trans (smN_mono hZ) (Nat.le_trans (dN_le (g := g19) ?_ (fun k => ?_)) (Nat.le_trans hn.2.2.2.2.2.1 s16.2.2.2.2.2.1))
    · rw [k27 32 (by decide), sM 32 (by decide)]
    · rw [dW_eq (g := g26) (by rw [k27 48 (by decide)]) (by rw [k27 49 (by decide)])]
      by_cases hk : k = v19.toInt.toNat
      · rw [dW_0 (by rw [hk, k26 48 (by decide), e12, up2_i])]
        exact Nat.zero_le _
      · exact Nat.le_of_eq (dW_eq (n26 48 k hk (by decide) (by decide) (by decide)) (n26 49 k hk (by decide) (by decide) (by decide)))
  have a27 : asN (Z27.w 2) g27 e ≤ asN (Z19.w 2) g e + 1 := by
    have b0 : asN (Z27.w 2) g27 e ≤ asN (Z19.w 2 + 1) g27 e := smN_mono hZ
    have b1 : asN (Z19.w 2 + 1) g27 e ≤ asN (Z19.w 2 + 1) g19 e + 1 := asN_le1 (by rw [k27 32 (by decide), sM 32 (by decide)]) (fun k hk => Nat.le_of_eq (asW_eq (by rw [k27 36 (by decide), n26 36 k (by omega) (by decide) (by decide) (by decide)]) (by rw [k27 46 (by decide), n26 46 k (by omega) (by decide) (by decide) (by decide)])))
    have b2 := hn.2.2.2.2.2.2
    have b3 := s16.2.2.2.2.2.2
    omega
  have hZe : Z27.w 2 = Z19.w 2 + 1 := by
    have := q26k.1.2.2.1
    omega
  have c19 : (g19 32 v19.toInt.toNat).toInt = (e : Int) := by
    rw [e19]
    unfold gNew
    rw [if_pos ⟨rfl, by decide, by decide⟩]
    exact esd
  have f27 : f4 e (Z19.w 2) g (Z27.w 2) g27 := by
    rw [hZe]
    refine ⟨Nat.le_succ _, fun j k hn => ?_, fun c h1 h2 => ?_, fun c hc => ?_, fun _ => by rw [k27 135 (by decide), t135, e135]; omega⟩
    · have hk : ¬ (32 ≤ j ∧ j < 50 ∧ k = v19.toInt.toNat) := fun z => hn (Or.inr (Or.inl ⟨z.1, z.2.1, by omega⟩))
      have hn3 : ¬ ((j = 131 ∨ j = 135 ∨ j = 384 ∨ j = 385 ∨ j = 386 ∨ j = 1729) ∧ k = e) := fun z => hn (Or.inr (Or.inr (Or.inl z)))
      have hn4 : ¬ ((j = 1536 ∨ j = 1728) ∧ k / 16777216 = e) := fun z => hn (Or.inr (Or.inr (Or.inr z)))
      have hn5 : ¬ ((j = 198 ∧ k = e) ∨ ((j = 832 ∨ j = 864) ∧ k / 8192 = e)) := fun z => hn (Or.inl (Or.inr z))
      have ho : mOut (im_keadd e v19) j k := by
        unfold im_keadd
        exact mo_c (fun z => ⟨by decide, fun w => hk ⟨by omega, by omega, by rw [← w]; exact (Nat.div_one k).symm⟩⟩) (mo_c (fun z => ⟨by decide, fun w => hn3 ⟨by omega, by rw [← w]; exact (Nat.div_one k).symm⟩⟩) (mo_c (fun z => ⟨by decide, fun w => hn3 ⟨by omega, by rw [← w]; exact (Nat.div_one k).symm⟩⟩) (mo_c (fun z => ⟨by decide, fun w => hn3 ⟨by omega, by rw [← w]; exact (Nat.div_one k).symm⟩⟩) (mo_c (fun z => ⟨by decide, fun w => hn3 ⟨by omega, by rw [← w]; exact (Nat.div_one k).symm⟩⟩) (mo_c (fun z => ⟨by decide, fun w => hn4 ⟨by omega, w⟩⟩) (mo_c (fun z => ⟨by decide, fun w => hn4 ⟨by omega, w⟩⟩) (mo_c (fun z => ⟨by decide, fun w => hn3 ⟨by omega, by rw [← w]; exact (Nat.div_one k).symm⟩⟩) (mo_n))))))))
      have hs : mOut [(198, e, 1), (832, e, 8192), (864, e, 8192)] j k := mo_c (fun z => ⟨by decide, fun w => hn5 (Or.inl ⟨z.symm, by rw [← w]; exact (Nat.div_one k).symm⟩)⟩) (mo_c (fun z => ⟨by decide, fun w => hn5 (Or.inr ⟨Or.inl z.symm, w⟩)⟩) (mo_c (fun z => ⟨by decide, fun w => hn5 (Or.inr ⟨Or.inr z.symm, w⟩)⟩) mo_n))
      have q : ∀ {gg : mSt} {j0 : Nat} {v : Int32}, (32 ≤ j0 ∧ j0 < 50) → up2 gg j0 v19.toInt.toNat v j k = gg j k := fun {gg j0 v} hj => up2_q (fun z => hk ⟨by omega, by omega, z.2⟩)
      rw [hpo27.1.out hs, hpo26.1.out ho, e12, q (by decide), e10, q (by decide), e8, q (by decide), e6, q (by decide), e3, q (by decide), e2, q (by decide), e1, q (by decide), e22, q (by decide), e21, q (by decide), e19, gNew_o (fun z => hk ⟨z.2.1, z.2.2, z.1⟩), e16, up2_q (fun z => hn3 ⟨Or.inl z.1, z.2⟩)]
    · rw [show c = v19.toInt.toNat by omega, k27 32 (by decide), sM 32 (by decide)]
      exact c19
    · rw [k27 32 (by decide), k27 43 (by decide), sM 32 (by decide), sM 43 (by decide), e19, gNew_o (by omega), gNew_o (by omega), k16 32 (by decide), k16 43 (by decide)]
      exact ⟨rfl, rfl⟩
  refine h v28 Z27 g27 (fun m => ?_) ?_ ?_ (fun q => ?_) (fun q k hk => ?_) ?_ d27 ?_ (hr26.tr (rS.rf (k27 386 (by decide)) (k27 1729 (by decide)))) (q26k.1.2.2.2.trans hw3) f27
  · have a1 := hn.1 m
    have a2 := s16.1 m
    have a3 := p26.1 m
    have a4 : ep (Z27.w 2) g27 e m ≤ ep (Z19.w 2 + 1) g27 e m := ep_mono hZ
    have e1q : qL g27 (2 * (2 * e)) = qL g26 (2 * (2 * e)) := qL_fr k27 ⟨⟨by decide, by decide⟩, by decide, by decide⟩ _
    have e2q : fl g27 e = fl g26 e := fl_fr k27 ⟨by decide, by decide⟩ e
    have a5 : pot g27 e (2 * e) m ≤ pot g26 e (2 * e) m + 2 := by
      unfold pot
      rw [e1q, e2q]
      omega
    unfold ep at a1 a2 a4 ⊢
    omega
  · rw [qL_fr k27 ⟨⟨by decide, by decide⟩, by decide, by decide⟩, q26]
  · rw [uLn_fr k27 (by decide)]
    exact p26.2.2.1
  · have l26 := p26.2.2.2 (hn.2.2.2.1 (s16.2.2.2.1 q))
    refine ⟨by rw [k27 170 (by decide), k27 171 (by decide)]; exact l26.1, fun j hj => by unfold snt; rw [k27 1280 (by decide)]; exact l26.2.1 j hj, fun x hx => ?_, q27.2 l26.2.2.2.1, by rw [k27 1248 (by decide)]; exact l26.2.2.2.2⟩
    rcases q27.1 with w | ⟨y, hy, w⟩
    · rw [w] at hx
      exact l26.2.2.1 x hx
    · rw [w] at hx
      rcases List.mem_append.mp hx with z | z
      · exact l26.2.2.1 x z
      · rw [List.mem_singleton.mp z]
        omega
  · have np := hn.2.2.2.2.1 (s16.2.2.2.2.1 q)
    rw [k27 32 (by decide), sM 32 (by decide)] at hk
    rw [k27 43 (by decide), sM 43 (by decide)]
    exact np k hk
  · rw [k27 135 (by decide), t135, e135]
    omega
  · rw [k27 135 (by decide), t135, e135]
    omega
