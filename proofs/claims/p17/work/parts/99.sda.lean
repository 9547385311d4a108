/-! a receiver that has found the cells keeps to them -/
def AL (g : mSt) (q y : Nat) : Prop := (g 225 q).toInt ≠ 0 ∧ (y - (g 233 q).toInt.toNat) % 53 = 0 ∧ 53 + (g 233 q).toInt.toNat ≤ y
theorem AL.fr {M : List Nat} {g g1 : mSt} {q y : Nat} (h : AL g q y) (k : mFr M g g1) (hM : 225 ∉ M ∧ 233 ∉ M) : AL g1 q y := by
  unfold AL at h ⊢
  rw [k 225 hM.1, k 233 hM.2]
  exact h
/-- the header of a good cell is right -/
theorem good_hd {E : Nat → Int32} {s : Nat} (hC : gC (clE E (s / 53))) (hs : s % 53 = 0) : ∃ w : Int32, n8 w = hw E s 4 ∧ hc w = E (s + 4) := by
  have ec : ∀ j, E (s + j) = clE E (s / 53) j := fun j => by
    unfold clE
    congr 1
    omega
  obtain ⟨⟨⟨c0, c1, c2⟩, cc⟩, _⟩ := hC
  obtain ⟨d0, _⟩ := n8_c
  have e4 : hw E s 4 = n8 (clE E (s / 53) 3) := by
    show (((0 * 256 + n8 (E (s + 0))) * 256 + n8 (E (s + 1))) * 256 + n8 (E (s + 2))) * 256 + n8 (E (s + 3)) = _
    rw [ec 0, ec 1, ec 2, ec 3, c0, c1, c2, d0]
    omega
  refine ⟨clE E (s / 53) 3, e4.symm, ?_⟩
  rw [ec 4]
  rcases cc with ⟨x, y, _⟩ | ⟨⟨x, y⟩ | ⟨x, y⟩, _⟩
  · rw [x, y, hc_1]
  · rw [x, y, hc_80]
  · rw [x, y, hc_82]
theorem s_syncR {Z : cZ} {q : Nat} {g : mSt} {Φ : Int32 → mSt → Prop} (h : ∀ g1, mFr [226, 227, 234] g g1 → Φ 0 g1) : wp_ksyncHeader Z q 1 g Φ := by
  intro g1 e1
  refine ⟨fun z => absurd z (by decide), fun _ g43 e43 g44 e44 => h g44 (fun a ha => ?_)⟩
  simp only [List.mem_cons, List.not_mem_nil, or_false, not_or] at ha
  rw [e44, up2_of (by omega), e43, up2_of (by omega), e1, up2_of (by omega)]
theorem s_preR {Z : cZ} {q : Nat} {g : mSt} {Φ : Int32 → mSt → Prop} (h : ∀ g1, mFr [225, 226, 227, 234] g g1 → (g1 225 q = g 225 q ∨ g1 225 q = 2) → Φ 0 g1) : wp_kpresync Z q 1 g Φ := by
  intro z0 _ _
  refine ⟨fun _ v3 _ _ v4 _ _ g5 e5 => ⟨fun _ => h g5 (fun a ha => ?_) (Or.inl ?_), fun _ g10 e10 g12 e12 g13 e13 g14 e14 => h g14 (fun a ha => ?_) (Or.inr ?_)⟩, fun z => absurd z (by decide)⟩
  · simp only [List.mem_cons, List.not_mem_nil, or_false, not_or] at ha
    rw [e5, up2_of (by omega)]
  · rw [e5, up2_o (by decide)]
  · simp only [List.mem_cons, List.not_mem_nil, or_false, not_or] at ha
    rw [e14, up2_of (by omega), e13, up2_of (by omega), e12, up2_of (by omega), e10, up2_of (by omega), e5, up2_of (by omega)]
  · rw [e14, up2_o (by decide), e13, up2_o (by decide), e12, up2_o (by decide), e10, up2_i]
theorem s_hOctA {Z : cZ} {q y B : Nat} {o : Int32} {kn : Nat → Prop} {E : Nat → Int32} {g : mSt} {Φ : Int32 → mSt → Prop} (ho : oct o) (eo : o = E y) (hE : ∀ z, z ≤ y → oct (E z)) (hp : (g 233 q).toInt < 5) (hT : TI B kn E g q y) (hA : AL g q y) (hk : kn (y - (g 233 q).toInt.toNat)) (hC : gC (clE E ((y - (g 233 q).toInt.toNat) / 53))) (h : ∀ g1, AL g1 q (y + 1) → Φ 0 g1) : wp_kheaderOctet Z q o g Φ := by
  intro v1 e1 _ v2 e2 _ v3 e3 _ v4 e4 _ g5 e5 g6 e6 v7 e7 _ v8 e8 _ g9 e9
  obtain ⟨⟨t0, tB, t52⟩, th, tw⟩ := hT
  obtain ⟨n0, hs, hy⟩ := hA
  obtain ⟨u1, _⟩ := tw n0 hk
  have h7 : v7 = g 233 q := by rw [e7, e6, up2_o (by decide), e5, up2_o (by decide)]
  have t8 : v8.toInt = (g 233 q).toInt + 1 := by rw [e8, h7]; exact add_t (k := 1) (m := 1) rfl ⟨by decide, by decide⟩ (by omega)
  have a233 : g9 233 q = v8 := by rw [e9, up2_i]
  have k9 : mFr [231, 232, 233] g g9 := fun a ha => by
    simp only [List.mem_cons, List.not_mem_nil, or_false, not_or] at ha
    rw [e9, up2_of (by omega), e6, up2_of (by omega), e5, up2_of (by omega)]
  have a225 : g9 225 q = g 225 q := by rw [k9 225 (by decide)]
  have h4 : v4 = (g 231 q <<< ((8 : Int32) &&& 31)) ||| g 232 q := by rw [e4, e2, e1, e3]
  have fin : ∀ g1, g1 233 q = v8 → (g1 225 q).toInt ≠ 0 → Φ 0 g1 := fun g1 a b => h g1 ⟨b, by rw [a]; rw [show y + 1 - v8.toInt.toNat = y - (g 233 q).toInt.toNat by omega]; exact hs, by rw [a]; omega⟩
  refine ⟨fun c8 v15 e15 _ => ⟨fun c15 => ?_, fun c15 v33 e33 _ => ⟨fun n33 => ⟨fun _ => s_syncR (fun g41 k41 _ => fin g41 (by rw [k41 233 (by decide)]; exact a233) (by rw [k41 225 (by decide), a225]; exact n0)), fun _ => s_preR (fun g44 k44 z44 _ => fin g44 (by rw [k44 233 (by decide)]; exact a233) ?_)⟩, fun z33 => ?_⟩⟩, fun c8 => fin g9 a233 (by rw [a225]; exact n0)⟩
  · exfalso
    have p4 : (g 233 q).toInt.toNat = 4 := by omega
    have hh := u1 hp (by omega)
    rw [p4] at hh hs hC
    have hpush := hw_push th ho (by omega) hh (by rw [show y - 4 + 4 = y by omega]; exact eo)
    rw [← h4] at hpush
    obtain ⟨q1, q2⟩ := hw_head ho (fun j hj => hE _ (by omega)) hpush
    obtain ⟨w, w1, w2⟩ := good_hd hC hs
    have : v4 = w := n8_inj (q1.trans w1.symm)
    exact c15 (by rw [e15, this, w2, q2])
  · rcases z44 with z | z
    · rw [z, a225]
      exact n0
    · rw [z]
      decide
  · exact absurd (by rw [← a225, ← e33]; exact z33) n0
theorem s_takeA {Z : cZ} {q y B : Nat} {p2 p3 : Int32} {kn : Nat → Prop} {E : Nat → Int32} {g : mSt} {Φ : Int32 → mSt → Prop} (hp : 0 ≤ p2.toInt ∧ p2.toInt < p3.toInt ∧ p3.toInt ≤ 212) (hy : y = 53 + p2.toInt.toNat) (hE : ∀ x, x < p3.toInt.toNat → g 608 (8192 * q + x) = E (53 + x)) (ho : ∀ z, z < 53 + p3.toInt.toNat → oct (E z)) (hT : TI B kn E g q y) (hA : AL g q y) (hk : ∀ s, 53 ≤ s → kn s) (hC : ∀ c, c < 5 → gC (clE E c)) (h : ∀ (r : Int32) g1, AL g1 q (y + r.toInt.toNat) → ((g1 235 q).toInt ≠ 0 → (g1 233 q).toInt = 0) → Φ r g1) : wp_ktake Z q q p2 p3 g Φ := by
  intro g1 e1
  have k1 : mFr [235] g g1 := fun a ha => by rw [e1, up2_of (by simpa using ha)]
  have T1 : TI B kn E g1 q y := hT.fr k1 (by decide)
  have A1 : AL g1 q y := hA.fr k1 (by decide)
  have i1 : (1 : Int32).toInt.toNat = 1 := by decide
  have a235 : g1 235 q = 0 := by rw [e1, up2_i]
  have oct1 : ∀ (v : Int32), v = g1 608 (8192 * q + p2.toNatClampNeg) → oct v ∧ v = E y := fun v e => by
    have : v = E y := by rw [e, nat_cl, k1 608 (by decide), hE _ (by omega), hy]
    exact ⟨by rw [this]; exact ho _ (by omega), this⟩
  obtain ⟨n0, hs, hy2⟩ := A1
  have t0 := T1.1.1
  refine ⟨fun z => by exfalso; omega, fun _ => ⟨fun z => by exfalso; omega, fun _ => ⟨fun _ v11 e11 _ => ⟨fun z11 => absurd (by rw [← e11]; exact z11) n0, fun n11 v20 e20 r20 => ⟨fun c20 v23 _ _ t23 v25 _ _ t25 v27 _ m27 v28 e28 r28 => ?_, fun c20 v86 e86 _ => ?_⟩⟩, fun z => by exfalso; omega⟩⟩⟩
  · have r20 : 0 ≤ v20.toInt ∧ v20.toInt ≤ 52 := r20
    rw [← e20] at hs hy2 t0
    have more : ∀ gF, mFr [233, 800] g1 gF → (gF 233 q).toInt = v20.toInt + v27.toInt → (gF 233 q).toInt < 53 → Φ v27 gF := fun gF k a b => h v27 gF ⟨by rw [k 225 (by decide)]; exact n0, by rw [show y + v27.toInt.toNat - (gF 233 q).toInt.toNat = y - v20.toInt.toNat by omega]; exact hs, by omega⟩ (fun z => absurd (by rw [k 235 (by decide), a235]; rfl) z)
    have whole : ∀ gF, mFr [228, 233, 235, 800] g1 gF → gF 233 q = 0 → 53 ≤ v20.toInt + v27.toInt → Φ v27 gF := fun gF k a b => h v27 gF ⟨by rw [k 225 (by decide)]; exact n0, by rw [a]; show (y + v27.toInt.toNat - 0) % 53 = 0; rw [show y + v27.toInt.toNat - 0 = (y - v20.toInt.toNat) + 53 by omega, Nat.add_mod_right]; exact hs, by rw [a]; show 53 + 0 ≤ _; omega⟩ (fun _ => by rw [a]; rfl)
    refine ⟨fun _ v33 _ _ t33 g35 e35 => ⟨fun c => more g35 (fun a ha => ?_) (by rw [e35, up2_i]; exact t33) (by rw [e35, up2_i]; exact c), fun c g41 e41 g44 e44 v45 _ _ => ⟨fun b g48 => g48 = g44, fun b g48 _ _ _ _ q48 v49 _ _ g50 e50 => whole g50 (fun a ha => ?_) ?_ (by omega), fun _ => rfl, fun _ => trivial⟩⟩, fun _ v59 _ _ t59 g61 e61 v63 _ _ t63 g65 e65 => ⟨fun c => more g65 (fun a ha => ?_) (by rw [e65, up2_i]; exact t63) (by rw [e65, up2_i]; exact c), fun c g71 e71 g74 e74 v75 _ _ => ⟨fun b g78 => g78 = g74, fun b g78 _ _ _ _ q78 v79 _ _ g80 e80 => whole g80 (fun a ha => ?_) ?_ (by omega), fun _ => trivial, fun _ => rfl⟩⟩⟩
    · simp only [List.mem_cons, List.not_mem_nil, or_false, not_or] at ha
      rw [e35, up2_of (by omega)]
    · simp only [List.mem_cons, List.not_mem_nil, or_false, not_or] at ha
      rw [e50, up2_of (by omega), show g48 = g44 from q48, e44, up2_of (by omega), e41, up2_of (by omega), e35, up2_of (by omega)]
    · rw [e50, up2_o (by decide), show g48 = g44 from q48, e44, up2_o (by decide), e41, up2_i]
    · simp only [List.mem_cons, List.not_mem_nil, or_false, not_or] at ha
      rw [e65, up2_of (by omega), e61, cCpy_o (by omega)]
    · simp only [List.mem_cons, List.not_mem_nil, or_false, not_or] at ha
      rw [e80, up2_of (by omega), show g78 = g74 from q78, e74, up2_of (by omega), e71, up2_of (by omega), e65, up2_of (by omega), e61, cCpy_o (by omega)]
    · rw [e80, up2_o (by decide), show g78 = g74 from q78, e74, up2_o (by decide), e71, up2_i]
  · obtain ⟨o1, o2⟩ := oct1 v86 e86
    refine s_hOctA o1 o2 (fun z hz => ho z (by omega)) (by rw [← e20]; exact c20) T1 ⟨n0, hs, hy2⟩ (hk _ (by omega)) (hC _ (by omega)) (fun g89 A89 hpo => h 1 g89 (by rw [i1]; exact A89) (fun z => absurd (by rw [hpo.2.1 235 (by decide), a235]; rfl) z))
