/-! a cell has come to the switch -/
def ch5 (h : Int32) : Prop := ((h.toUInt32 >>> ((20 : Int32).toUInt32 &&& Int32.toUInt32 31)).toInt32 &&& (255 : Int32)).toInt = 0 ∧ ((h.toUInt32 >>> ((4 : Int32).toUInt32 &&& Int32.toUInt32 31)).toInt32 &&& (65535 : Int32)).toInt = 5
def OPl (g : mSt) (q : Nat) : Prop := ∀ j, j < 48 → oct (g 800 (8192 * q + j))
/-- a unit of one cell: its octets are the cell's -/
def un1 (g g1 : mSt) (q : Nat) : Prop := ∀ L : Nat, L ≤ 40 → (g1 2 q).toInt = (L : Int) → (∀ j, j < 48 → g1 512 (8192 * q + j) = g 800 (8192 * q + j)) ∧ (g 800 (8192 * q + 42)).toInt = 0 ∧ (g 800 (8192 * q + 43)).toInt = (L : Int)
def asR (g g1 : mSt) (q : Nat) (p2 r : Int32) : Prop := (OPl g q → OA g q → OA g1 q) ∧ (r.toInt = 1 → p2.toInt ≠ 0 ∧ (OPl g q → un1 g g1 q))
theorem OA.cpy {g g1 : mSt} {q n : Nat} (hn : n ≤ 192) (e : g1 = cCpy g 800 (8192 * q + 0) 512 (8192 * q + n) 48) (hp : OPl g q) (h : OA g q) : OA g1 q := fun k hk => by
  rw [e]
  by_cases w : n ≤ k ∧ k < n + 48
  · rw [cCpy_y (by omega)]
    have := hp (k - n) (by omega)
    rw [show 8192 * q + 0 + (8192 * q + k - (8192 * q + n)) = 8192 * q + (k - n) by omega]
    exact this
  · rw [cCpy_x (by omega)]
    exact h k hk
theorem s_asmX {Z : cZ} {q : Nat} {p2 : Int32} {g : mSt} {Φ : Int32 → mSt → Prop} (h : ∀ r g1, asR g g1 q p2 r → Φ r g1) : wp_kasmAdd Z q q p2 g Φ := by
  intro v1 e1 r1
  refine ⟨fun _ => h _ _ ⟨fun _ z => z, fun z => absurd z (by decide)⟩, fun c1 v7 e7 _ t7 g9 e9 v11 e11 _ t11 g13 e13 => ?_⟩
  have r1 : 0 ≤ v1.toInt ∧ v1.toInt ≤ 5 := r1
  have z0 : (0 : Int32).toNatClampNeg = 0 := by decide
  rw [z0, nat_cl, k48] at e9
  have a9 : OPl g q → OA g q → OA g9 q := fun hp ho => OA.cpy (n := v7.toInt.toNat) (by omega) e9 hp ho
  have a13 : OPl g q → OA g q → OA g13 q := fun hp ho k hk => by
    rw [e13, up2_o (by decide)]
    exact a9 hp ho k hk
  refine ⟨fun c2 g18 e18 => ⟨fun _ => trivial, fun _ => ?_⟩, fun c2 => ⟨fun _ g36 e36 => ⟨fun _ => h _ _ ⟨fun hp ho k hk => by rw [e36, up2_o (by decide)]; exact a13 hp ho k hk, fun z => absurd z (by decide)⟩, fun _ => trivial⟩, fun _ => h _ _ ⟨a13, fun z => absurd z (by decide)⟩⟩⟩
  have q18 : g18 512 = g9 512 := by rw [e18, up2_of (by decide), e13, up2_of (by decide)]
  have a18 : OPl g q → OA g q → OA g18 q := fun hp ho k hk => by
    rw [q18]
    exact a9 hp ho k hk
  -- the length, and whether the cells are as many
  intro w1 _ _ s1 w3 _ _ s3 w5 e5 _ w6 e6 _ w7 _ _ s7 w9 e9' _ w10 e10 _ g11 e11'
  have q11 : g11 512 = g18 512 := by rw [e11', up2_of (by decide)]
  have a11 : OPl g q → OA g q → OA g11 q := fun hp ho k hk => by
    rw [q11]
    exact a18 hp ho k hk
  have bad : ∀ gF, mFr [] g11 gF → ((0 : Int32).toInt = 0 → Φ 2 gF) ∧ ((0 : Int32).toInt ≠ 0 → Φ 1 gF) := fun gF k => ⟨fun _ => h _ _ ⟨fun hp ho => by rw [mFr_nil k]; exact a11 hp ho, fun z => absurd z (by decide)⟩, fun z => absurd rfl z⟩
  refine ⟨fun _ _ => bad _ (fun _ _ => rfl), fun _ => ⟨fun _ _ => bad _ (fun _ _ => rfl), fun _ => s_cellsFor (fun v22 t22 _ => ⟨fun _ _ => bad _ (fun _ _ => rfl), fun c22 v25 _ _ _ => wt_kcrcOf_16 (fun v28 g27 hpo27 => wt_kwordAt_16 (fun v30 g29 hpo29 => ⟨fun _ _ => bad _ (fun a ha => by rw [hpo29.2.1 a ha, hpo27.2.1 a ha]), fun _ _ => ⟨fun z => absurd z (by decide), fun _ => ?_⟩⟩))⟩)⟩⟩
  rw [mFr_nil hpo29.2.1, mFr_nil hpo27.2.1]
  refine h _ _ ⟨a11, fun _ => ⟨c2, fun hp L hL hl => ?_⟩⟩
  have l10 : w10.toInt = (L : Int) := by
    rw [e11', up2_i] at hl
    exact hl
  have v1z : v1.toInt = 0 := by omega
  have v7z : v7.toInt.toNat = 0 := by omega
  have byt : ∀ j, j < 48 → g9 512 (8192 * q + j) = g 800 (8192 * q + j) := fun j hj => by
    rw [e9, v7z, cCpy_y (by omega)]
    congr 1
    omega
  have b42 : w5 = g 800 (8192 * q + 42) := by
    rw [e5, nat_cl, show w3.toInt.toNat = 42 by omega, q18, byt 42 (by omega)]
  have b43 : w9 = g 800 (8192 * q + 43) := by
    rw [e9', nat_cl, show w7.toInt.toNat = 43 by omega, q18, byt 43 (by omega)]
  refine ⟨fun j hj => by rw [q11, q18]; exact byt j hj, ?_⟩
  have o42 := hp 42 (by decide)
  have o43 := hp 43 (by decide)
  have w2 := w2_nat o42 o43
  rw [← b42, ← b43] at w2 ⊢
  rw [← b42] at o42
  rw [← b43] at o43
  rw [← e6, ← e10] at w2
  have : (w10.toBitVec.toNat : Int) = (L : Int) := by
    have e : w10 = Int32.ofNat L := i32_nat l10 (by omega)
    have h1 : w10.toInt = w10.toBitVec.toInt := rfl
    rw [BitVec.toInt_eq_toNat_cond] at h1
    split at h1 <;> omega
  unfold oct at o42 o43
  omega
def upQ (g g1 : mSt) : Prop := (∀ k, k % 4 ≠ 3 → g1 67 k = g 67 k) ∧ ∀ x, x / 8192 % 4 ≠ 3 → g1 544 x = g 544 x ∧ g1 576 x = g 576 x
theorem upQ.rf {g g1 : mSt} (a : g1 67 = g 67) (b : g1 544 = g 544) (c : g1 576 = g 576) : upQ g g1 := ⟨fun k _ => by rw [a], fun x _ => ⟨by rw [b], by rw [c]⟩⟩
def aQ (g g1 : mSt) (q : Nat) : Prop := (∀ k, k ≠ q → g1 1 k = g 1 k ∧ g1 2 k = g 2 k) ∧ ∀ x, x / 8192 ≠ q → g1 512 x = g 512 x
theorem aQ.rf {g g1 : mSt} {q : Nat} (a : g1 1 = g 1) (b : g1 2 = g 2) (c : g1 512 = g 512) : aQ g g1 q := ⟨fun k _ => ⟨by rw [a], by rw [b]⟩, fun x _ => by rw [c]⟩
def ceR (g g1 : mSt) (q : Nat) (r : Int32) : Prop := (mFr [1, 2, 67, 108, 109, 512, 544, 576] g g1 ∧ aQ g g1 q) ∧ upQ g g1 ∧ (OPl g q → OA g q → OA g1 q) ∧ (r.toInt ≠ 0 → (ch5 (g 231 q) ∧ (g 231 q &&& (2 : Int32)).toInt ≠ 0) ∧ (OPl g q → un1 g g1 q))
theorem s_passX {Z : cZ} {i0 c q : Nat} {p2 : Int32} {g : mSt} {Ψ : mSt → Prop} (h : ∀ g1, mFr [67, 108, 544, 576] g g1 → upQ g g1 → Ψ g1) : wp_kpassOn Z i0 c p2 q g (fun _ g1 => po_kpassOn Z i0 c p2 q g 0 g1 → Ψ g1) := by
  have h0 : Ψ g := h g (fun _ _ => rfl) (upQ.rf rfl rfl rfl)
  have key : ∀ (g20 : mSt) (d : Nat) (a b : Int32), d % 2 = 1 → po_kaddData_25 Z d a q b g 0 g20 → Ψ g20 := fun g20 d a b hd hpo => h g20 hpo.2.1 ⟨fun k hk => hpo.1.out (by simp [mOut, im_kaddData_25]; omega), fun x hx => ⟨hpo.1.out (by simp [mOut, im_kaddData_25]; omega), hpo.1.out (by simp [mOut, im_kaddData_25]; omega)⟩⟩
  intro v1 _
  refine ⟨fun _ v5 _ _ v6 _ _ t6 v8 _ _ t8 v11 _ _ => ⟨fun _ _ => h0, fun _ v16 _ _ v17 _ _ v18 _ _ v19 _ _ => wt_kaddData_25 (fun _ g20 hpo _ => key g20 _ _ _ (by omega) hpo)⟩, fun _ v21 _ _ v22 _ _ t22 v24 _ _ t24 v27 _ _ => ⟨fun _ _ => h0, fun _ v32 _ _ v33 _ _ v34 _ _ v35 _ _ => wt_kaddData_25 (fun _ g36 hpo _ => key g36 _ _ _ (by omega) hpo)⟩⟩
theorem s_cellE {Z : cZ} {i0 q : Nat} {p1 : Int32} {g : mSt} {Φ : Int32 → cZ → mSt → Prop} (hd : p1.toInt % 2 = 0) (h : ∀ (r : Int32) g1, ceR g g1 q r → Φ r Z g1) : wp_kcellCame Z i0 p1 q g Φ := by
  have hr : ∀ (r : Int32) g1, r.toInt = 0 → mFr [108] g g1 → Φ r Z g1 := fun r g1 hz k => h r g1 ⟨⟨fun a ha => k a (fun z => ha (by simp only [List.mem_singleton] at z; subst z; decide)), aQ.rf (k 1 (by decide)) (k 2 (by decide)) (k 512 (by decide))⟩, upQ.rf (k 67 (by decide)) (k 544 (by decide)) (k 576 (by decide)), fun _ ho => by unfold OA; rw [k 512 (by decide)]; exact ho, fun z => absurd hz z⟩
  have h0 : Φ 0 Z g := hr 0 g rfl (fun _ _ => rfl)
  have h108 : ∀ (gA g1 : mSt) (v : Int32), mFr [] g gA → g1 = up2 gA 108 q v → Φ 0 Z g1 := fun gA g1 v kA e => hr 0 g1 rfl (fun a ha => by rw [e, up2_of (by simpa using ha), mFr_nil kA])
  have hps : ∀ g1, mFr [67, 108, 544, 576] g g1 → upQ g g1 → Φ 0 Z g1 := fun g1 k u => h 0 g1 ⟨⟨fun a ha => k a (fun z => ha (by
    simp only [List.mem_cons, List.not_mem_nil, or_false] at z ⊢
    omega)), aQ.rf (k 1 (by decide)) (k 2 (by decide)) (k 512 (by decide))⟩, u, fun _ ho => by unfold OA; rw [k 512 (by decide)]; exact ho, fun z => absurd rfl z⟩
  intro v2 e2 _ v3 e3 _ v4 e4 _ v5 e5 _ v6 e6 _ v7 e7 _
  have has : ∀ (p : Int32), (p.toInt ≠ 0 → v7.toInt ≠ 0) → v4.toInt = 0 → v6.toInt = 5 → ∀ (v96 : Int32) (g95 : mSt), asR g g95 q p v96 → po_kasmAdd Z q q p g v96 g95 → ((v96.toInt ≠ 2) → ((v96.toInt ≠ 1) → Φ (0 : Int32) Z g95) ∧ ((v96.toInt = 1) → Φ (1 : Int32) Z g95)) ∧ ((v96.toInt = 2) → ∀ (v108 : Int32), v108 = g95 109 q → rg (-2147483648) (2147483647) v108 → ∀ (v109 : Int32), v109 = v108 + (1 : Int32) → rg (-2147483648) (2147483647) v109 → ∀ (g110 : mSt), g110 = up2 g95 109 q v109 → ((v96.toInt ≠ 1) → Φ (0 : Int32) Z g110) ∧ ((v96.toInt = 1) → True)) := fun p hp z4 z6 v96 g95 ha hpo => by
    have k95 := hpo.2.1
    have fr : ∀ g1, mFr [109] g95 g1 → (mFr [1, 2, 67, 108, 109, 512, 544, 576] g g1 ∧ aQ g g1 q) ∧ upQ g g1 ∧ (OPl g q → OA g q → OA g1 q) := fun g1 k => ⟨⟨fun a ha => by
      rw [k a (fun z => ha (by simp only [List.mem_singleton] at z; subst z; decide)), k95 a (fun z => ha (by
        simp only [List.mem_cons, List.not_mem_nil, or_false] at z ⊢
        omega))], ⟨fun x hx => ⟨by rw [k 1 (by decide)]; exact hpo.1.out (by simp [mOut, im_kasmAdd]; omega), by rw [k 2 (by decide)]; exact hpo.1.out (by simp [mOut, im_kasmAdd]; omega)⟩, fun x hx => by rw [k 512 (by decide)]; exact hpo.1.out (by simp [mOut, im_kasmAdd]; omega)⟩⟩, upQ.rf (by rw [k 67 (by decide), k95 67 (by decide)]) (by rw [k 544 (by decide), k95 544 (by decide)]) (by rw [k 576 (by decide), k95 576 (by decide)]), fun hp ho => by unfold OA; rw [k 512 (by decide)]; exact ha.1 hp ho⟩
    have f0 := fr g95 (fun _ _ => rfl)
    refine ⟨fun _ => ⟨fun _ => h 0 g95 ⟨f0.1, f0.2.1, f0.2.2, fun z => absurd rfl z⟩, fun z1 => h 1 g95 ⟨f0.1, f0.2.1, f0.2.2, fun _ => ⟨⟨⟨?_, ?_⟩, ?_⟩, (ha.2 z1).2⟩⟩⟩, fun _ v108 _ _ v109 _ _ g110 e110 => ?_⟩
    · rw [← e2, ← e3, ← e4]
      exact z4
    · rw [← e2, ← e5, ← e6]
      exact z6
    · rw [← e2, ← e7]
      exact hp (ha.2 z1).1
    · have f1 := fr g110 (fun a ha => by rw [e110, up2_of (by simpa using ha)])
      exact ⟨fun _ => h 0 g110 ⟨f1.1, f1.2.1, f1.2.2, fun z => absurd rfl z⟩, fun _ => trivial⟩
  have hdt : ∀ v36 : Int32, v36.toInt = p1.toInt % 2 → ¬ v36.toInt ≠ 0 := fun v36 t => by omega
  have hjn : ∀ (v73 : Int32) (g72 : mSt) (x : Nat), po_kjoined Z x v6 g v73 g72 → g72 = g := fun v73 g72 x hpo => mFr_nil hpo.2.1
  refine ⟨fun z7 => ⟨fun n4 => ⟨fun _ => ⟨fun _ v18 _ _ v19 _ _ g20 e20 => h108 g g20 _ (fun _ _ => rfl) e20, fun _ => trivial⟩, fun _ => trivial⟩, fun z4 => ⟨fun n6 => ⟨fun _ => trivial, fun _ => ⟨fun n65 => ⟨fun _ => trivial, fun _ v36 _ _ t36 => ⟨fun z => absurd z (hdt v36 t36), fun _ v69 _ _ _ => wt_kjoined (fun v73 g72 hpo => ?_)⟩⟩, fun z65 => s_asmX (fun v96 g95 ha hpo => has 0 (fun z => absurd rfl z) z4 z65 v96 g95 ha hpo)⟩⟩, fun _ => h0⟩⟩, fun n7 => ⟨fun n4 => ⟨fun _ => ⟨fun _ v124 _ _ v125 _ _ g126 e126 => h108 g g126 _ (fun _ _ => rfl) e126, fun _ => trivial⟩, fun _ => trivial⟩, fun z4 => ⟨fun n6 => ⟨fun _ => trivial, fun _ => ⟨fun n65 => ⟨fun _ => trivial, fun _ v142 _ _ t142 => ⟨fun z => absurd z (hdt v142 t142), fun _ v175 _ _ _ => wt_kjoined (fun v179 g178 hpo => ?_)⟩⟩, fun z65 => s_asmX (fun v202 g201 ha hpo => has 1 (fun _ => n7) z4 z65 v202 g201 ha hpo)⟩⟩, fun _ => h0⟩⟩⟩
  · rw [hjn _ _ _ hpo]
    exact ⟨fun _ v75 _ _ v76 _ _ g77 e77 => h108 g g77 _ (fun _ _ => rfl) e77, fun _ => ⟨fun z => absurd z (hdt v36 t36), fun _ v81 _ => ⟨fun _ _ => h0, fun _ => s_passX (fun g1 k u => hps g1 k u)⟩⟩⟩
  · rw [hjn _ _ _ hpo]
    exact ⟨fun _ v181 _ _ v182 _ _ g183 e183 => h108 g g183 _ (fun _ _ => rfl) e183, fun _ => ⟨fun z => absurd z (hdt v142 t142), fun _ v187 _ => ⟨fun _ _ => h0, fun _ => s_passX (fun g1 k u => hps g1 k u)⟩⟩⟩
