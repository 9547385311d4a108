/-! a receiver that hasn't found the cells takes none of them in this tick -/
def brk (p : Int) : Int := if p < 5 then 53 else 0
def NA (g : mSt) (q y : Nat) : Prop := (g 225 q).toInt = 0 ∨ (y - (g 233 q).toInt.toNat) % 53 ≠ 0 ∨ ((g 225 q).toInt = 1 ∧ (g 234 q).toInt = 0 ∧ 0 ≤ (g 227 q).toInt ∧ 53 * (g 227 q).toInt + (g 233 q).toInt + brk (g 233 q).toInt ≤ (y : Int) + 5)
theorem NA.fr {M : List Nat} {g g1 : mSt} {q y : Nat} (h : NA g q y) (k : mFr M g g1) (hM : (225 ∉ M ∧ 227 ∉ M) ∧ 233 ∉ M ∧ 234 ∉ M) : NA g1 q y := by
  unfold NA at h ⊢
  rw [k 225 hM.1.1, k 227 hM.1.2, k 233 hM.2.1, k 234 hM.2.2]
  exact h
theorem s_preN {Z : cZ} {q : Nat} {p1 : Int32} {g : mSt} {Φ : Int32 → mSt → Prop} (hr : (g 227 q).toInt ≤ 1000 ∧ -1000 ≤ (g 227 q).toInt) (hh : ∀ g1, g1 225 q = 0 → Φ 0 g1) (h5 : ∀ g1, mFr [227] g g1 → (g1 227 q).toInt = (g 227 q).toInt + 1 → Φ 0 g1) (h6 : ∀ g1, 6 ≤ (g 227 q).toInt + 1 → g1 233 q = g 233 q → Φ 0 g1) : wp_kpresync Z q p1 g Φ := by
  intro z0 _ _
  have a1 : ∀ {v3 v4 : Int32}, v3 = g 227 q → v4 = v3 + 1 → v4.toInt = (g 227 q).toInt + 1 := fun {v3 v4} e3 e4 => by
    have i1 : (1 : Int32).toInt = 1 := by decide
    rw [e4, add_i (by rw [e3, i1]; omega), e3, i1]
  refine ⟨fun _ v3 e3 _ v4 e4 _ g5 e5 => ⟨fun _ => h5 g5 (fun a ha => by rw [e5, up2_of (by simpa using ha)]) (by rw [e5, up2_i]; exact a1 e3 e4), fun c g10 e10 g12 e12 g13 e13 g14 e14 => h6 g14 (by rw [← a1 e3 e4]; exact c) (by rw [e14, up2_o (by decide), e13, up2_o (by decide), e12, up2_o (by decide), e10, up2_o (by decide), e5, up2_o (by decide)])⟩, fun _ => s_huntX (fun g16 _ a16 _ _ _ => hh g16 a16)⟩
/-- the fifth octet leaves the place of the window, or hunts -/
theorem hd5_s {g g1 : mSt} {q y : Nat} (h : hd5 g g1 q) (hs : (y - (g 233 q).toInt.toNat) % 53 ≠ 0) : NA g1 q y := by
  rcases h.2 with ⟨z, _⟩ | ⟨z, _⟩
  · left
    rw [z]
    rfl
  · right
    left
    rw [z]
    exact hs
theorem s_hOctN {Z : cZ} {q y B w : Nat} {o : Int32} {kn : Nat → Prop} {E : Nat → Int32} {g : mSt} {Φ : Int32 → mSt → Prop} (hB : B + y ≤ 1000000000) (hy : 53 ≤ y ∧ y ≤ 264) (hp : (g 225 q).toInt = 0 ∨ (g 233 q).toInt < 5) (hT : TI B kn E g q y) (hW : WC g q y w) (hA : NA g q y) (h : ∀ g1, NA g1 q (y + 1) → Φ 0 g1) : wp_kheaderOctet Z q o g Φ := by
  intro v1 e1 _ v2 e2 _ v3 e3 _ v4 e4 _ g5 e5 g6 e6 v7 e7 _ v8 e8 _ g9 e9
  obtain ⟨⟨t0, tB, t52⟩, th, tw⟩ := hT
  have w2 := hW.2
  have h7 : v7 = g 233 q := by rw [e7, e6, up2_o (by decide), e5, up2_o (by decide)]
  have t8 : v8.toInt = (g 233 q).toInt + 1 := by rw [e8, h7]; exact add_t (k := 1) (m := 1) rfl ⟨by decide, by decide⟩ (by omega)
  have a233 : g9 233 q = v8 := by rw [e9, up2_i]
  have k9 : mFr [231, 232, 233] g g9 := fun a ha => by
    simp only [List.mem_cons, List.not_mem_nil, or_false, not_or] at ha
    rw [e9, up2_of (by omega), e6, up2_of (by omega), e5, up2_of (by omega)]
  have a225 : g9 225 q = g 225 q := by rw [k9 225 (by decide)]
  have a227 : g9 227 q = g 227 q := by rw [k9 227 (by decide)]
  have a234 : g9 234 q = g 234 q := by rw [k9 234 (by decide)]
  have hunt : ∀ g1, (g1 225 q).toInt = 0 → Φ 0 g1 := fun g1 a => h g1 (Or.inl a)
  have es : (g 225 q).toInt ≠ 0 → y + 1 - v8.toInt.toNat = y - (g 233 q).toInt.toNat := fun n0 => by have := w2 n0; omega
  have off : (g 225 q).toInt ≠ 0 → (y - (g 233 q).toInt.toNat) % 53 ≠ 0 → (y + 1 - (g9 233 q).toInt.toNat) % 53 ≠ 0 := fun n0 z => by
    rw [a233, es n0]
    exact z
  have h225 : ∀ {v : Int32}, v = g9 225 q → v.toInt = (g 225 q).toInt := fun {v} e => by rw [e, a225]
  -- the fifth octet
  have fs : (g 225 q).toInt ≠ 0 → (g 225 q).toInt ≠ 1 → ∀ p : Int32, (p.toInt = 0 → hc (g9 231 q) ≠ g9 232 q) → wp_ksyncHeader Z q p g9 (fun _ g26 => po_ksyncHeader Z q p g9 0 g26 → Φ 0 g26) := fun n0 n1 p hp' => s_syncX hp' (fun g26 hd _ => h g26 (hd5_s hd (off n0 (by
    rcases hA with z | z | z
    · exact absurd z n0
    · exact z
    · exact absurd z.1 n1))))
  have fp : (g 225 q).toInt = 1 → 5 ≤ v8.toInt → ∀ p : Int32, wp_kpresync Z q p g9 (fun _ g29 => po_kpresync Z q p g9 0 g29 → Φ 0 g29) := fun e1' c8 p => by
    have n0 : (g 225 q).toInt ≠ 0 := by omega
    have hp5 : (g 233 q).toInt < 5 := by
      rcases hp with z | z
      · exact absurd z n0
      · exact z
    rcases hA with z | z | ⟨z1, z2, z2r, z3⟩
    · exact absurd z n0
    · exact s_preX (fun g29 hd _ => h g29 (hd5_s hd (off n0 z)))
    · unfold brk at z3
      rw [if_pos hp5] at z3
      refine s_preN (by rw [a227]; omega) (fun g29 a29 _ => hunt g29 (by rw [a29]; rfl)) (fun g29 k29 r29 _ => h g29 (Or.inr (Or.inr ⟨by rw [k29 225 (by decide), a225]; exact e1', by rw [k29 234 (by decide), a234]; exact z2, by rw [r29, a227]; omega, ?_⟩))) (fun g29 c29 _ _ => ?_)
      · rw [r29, a227, k29 233 (by decide), a233]
        unfold brk
        rw [if_neg (by omega)]
        omega
      · exfalso
        rw [a227] at c29
        omega
  refine ⟨fun c8 v15 e15 _ => ⟨fun c15 v18 e18 _ => ⟨fun n18 => ⟨fun n1 => fs (by rw [← h225 e18]; exact n18) (by rw [← h225 e18]; exact n1) 0 (fun _ z => c15 ?_), fun z1 => fp (by rw [← h225 e18]; exact z1) c8 0⟩, fun z18 => hunt g9 (by rw [a225, ← h225 e18]; exact z18)⟩, fun c15 v33 e33 _ => ⟨fun n33 => ⟨fun n1 => fs (by rw [← h225 e33]; exact n33) (by rw [← h225 e33]; exact n1) 1 (fun z => absurd z (by decide)), fun z1 => fp (by rw [← h225 e33]; exact z1) c8 1⟩, fun z33 g48 e48 g49 e49 g50 e50 g52 e52 => ?_⟩⟩, fun c8 => ?_⟩
  · have b1 : g9 231 q = v4 := by rw [e9, up2_o (by decide), e6, up2_o (by decide), e5, up2_i]
    have b2 : g9 232 q = o := by rw [e9, up2_o (by decide), e6, up2_i]
    rw [b1, b2] at z
    rw [e15, z]
  · have b225 : g52 225 q = 1 := by rw [e52, up2_o (by decide), e50, up2_o (by decide), e49, up2_o (by decide), e48, up2_i]
    have b227 : g52 227 q = 1 := by rw [e52, up2_o (by decide), e50, up2_o (by decide), e49, up2_i]
    have b233 : g52 233 q = 5 := by rw [e52, up2_o (by decide), e50, up2_i]
    have b234 : g52 234 q = 0 := by rw [e52, up2_i]
    refine h g52 (Or.inr (Or.inr ⟨by rw [b225]; rfl, by rw [b234]; rfl, by rw [b227]; decide, ?_⟩))
    have i1 : (1 : Int32).toInt = 1 := by decide
    have i5 : (5 : Int32).toInt = 5 := by decide
    rw [b227, b233, i1, i5]
    unfold brk
    rw [if_neg (by omega)]
    omega
  · rcases hA with z | z | ⟨z1, z2, z2r, z3⟩
    · exact hunt g9 (by rw [a225]; exact z)
    · by_cases n0 : (g 225 q).toInt = 0
      · exact hunt g9 (by rw [a225]; exact n0)
      · exact h g9 (Or.inr (Or.inl (off n0 z)))
    · refine h g9 (Or.inr (Or.inr ⟨by rw [a225]; exact z1, by rw [a234]; exact z2, by rw [a227]; exact z2r, ?_⟩))
      unfold brk at z3
      rw [if_pos (by omega)] at z3
      rw [a227, a233]
      unfold brk
      rw [if_pos c8]
      omega
theorem s_takeN {Z : cZ} {q y B w : Nat} {p2 p3 : Int32} {kn : Nat → Prop} {E : Nat → Int32} {g : mSt} {Φ : Int32 → mSt → Prop} (hB : B + 265 ≤ 1000000000) (hp : 0 ≤ p2.toInt ∧ p2.toInt < p3.toInt ∧ p3.toInt ≤ 212) (hy : y = 53 + p2.toInt.toNat) (hT : TI B kn E g q y) (hW : WC g q y w) (hA : NA g q y) (h : ∀ (r : Int32) g1, NA g1 q (y + r.toInt.toNat) → ((g1 235 q).toInt ≠ 0 → (y + r.toInt.toNat - 53) % 53 ≠ 0) → Φ r g1) : wp_ktake Z q q p2 p3 g Φ := by
  intro g1 e1
  have k1 : mFr [235] g g1 := fun a ha => by rw [e1, up2_of (by simpa using ha)]
  have T1 : TI B kn E g1 q y := hT.fr k1 (by decide)
  have W1 : WC g1 q y w := hW.fr k1 (by decide)
  have A1 : NA g1 q y := hA.fr k1 (by decide)
  have i1 : (1 : Int32).toInt.toNat = 1 := by decide
  have a235 : g1 235 q = 0 := by rw [e1, up2_i]
  have hd : ∀ v : Int32, (g1 225 q).toInt = 0 ∨ (g1 233 q).toInt < 5 → wp_kheaderOctet Z q v g1 (fun _ g17 => po_kheaderOctet Z q v g1 0 g17 → Φ 1 g17) := fun v hh => s_hOctN (w := w) (by omega) (by omega) hh T1 W1 A1 (fun g17 A17 hpo => h 1 g17 (by rw [i1]; exact A17) (fun z => absurd (by rw [hpo.2.1 235 (by decide), a235]; rfl) z))
  have t0 := T1.1.1
  have w2 := W1.2
  refine ⟨fun z => by exfalso; omega, fun _ => ⟨fun z => by exfalso; omega, fun _ => ⟨fun _ v11 e11 _ => ⟨fun z11 v15 _ _ => hd v15 (Or.inl (by rw [← e11]; exact z11)), fun n11 v20 e20 r20 => ⟨fun c20 v23 _ _ t23 v25 _ _ t25 v27 _ m27 v28 e28 r28 => ?_, fun c20 v86 e86 _ => hd v86 (Or.inr (by rw [← e20]; exact c20))⟩⟩, fun z => by exfalso; omega⟩⟩⟩
  have n0 : (g1 225 q).toInt ≠ 0 := by rw [← e11]; exact n11
  have r20 : 0 ≤ v20.toInt ∧ v20.toInt ≤ 52 := r20
  have w2' := w2 n0
  unfold NA at A1
  rw [← e20, ← e28] at A1
  rw [← e20] at w2'
  have A2 : (y - v20.toInt.toNat) % 53 ≠ 0 ∨ ((g1 225 q).toInt = 1 ∧ v28.toInt = 0 ∧ 0 ≤ (g1 227 q).toInt ∧ 53 * (g1 227 q).toInt + v20.toInt + brk v20.toInt ≤ (y : Int) + 5) := by
    rcases A1 with z | z
    · exact absurd z n0
    · exact z
  have more : ∀ gF, mFr [233, 800] g1 gF → (gF 233 q).toInt = v20.toInt + v27.toInt → (gF 233 q).toInt < 53 → Φ v27 gF := fun gF k a b => by
    refine h v27 gF ?_ (fun z => absurd (by rw [k 235 (by decide), a235]; rfl) z)
    right
    rw [show y + v27.toInt.toNat - (gF 233 q).toInt.toNat = y - v20.toInt.toNat by omega, k 225 (by decide), k 234 (by decide), k 227 (by decide), ← e28]
    refine A2.imp id (fun z => ⟨z.1, z.2.1, z.2.2.1, ?_⟩)
    have z4 := z.2.2.2
    unfold brk at z4 ⊢
    rw [if_neg (by omega)] at z4
    rw [if_neg (by omega)]
    omega
  have whole : ∀ gF, mFr [228, 233, 235, 800] g1 gF → gF 233 q = 0 → gF 235 q = v28 → 53 ≤ v20.toInt + v27.toInt → Φ v27 gF := fun gF k a c b => by
    have i0 : (0 : Int32).toInt = 0 := by decide
    have es : y + v27.toInt.toNat - 53 = y - v20.toInt.toNat := by omega
    refine h v27 gF ?_ (fun z => ?_)
    · right
      rw [a, i0, k 225 (by decide), k 234 (by decide), k 227 (by decide), ← e28]
      rcases A2 with z | z
      · left
        rw [show y + v27.toInt.toNat - (0 : Int).toNat = (y - v20.toInt.toNat) + 53 by omega, Nat.add_mod_right]
        exact z
      · right
        refine ⟨z.1, z.2.1, z.2.2.1, ?_⟩
        have z4 := z.2.2.2
        unfold brk at z4 ⊢
        rw [if_neg (by omega)] at z4
        rw [if_pos (by omega)]
        omega
    · rw [c] at z
      rw [es]
      rcases A2 with w' | w'
      · exact w'
      · exact absurd w'.2.1 z
  refine ⟨fun _ v33 _ _ t33 g35 e35 => ⟨fun c => more g35 (fun a ha => ?_) (by rw [e35, up2_i]; exact t33) (by rw [e35, up2_i]; exact c), fun c g41 e41 g44 e44 v45 _ _ => ⟨fun b g48 => g48 = g44, fun b g48 _ _ _ _ q48 v49 _ _ g50 e50 => whole g50 (fun a ha => ?_) ?_ ?_ (by omega), fun _ => rfl, fun _ => trivial⟩⟩, fun _ v59 _ _ t59 g61 e61 v63 _ _ t63 g65 e65 => ⟨fun c => more g65 (fun a ha => ?_) (by rw [e65, up2_i]; exact t63) (by rw [e65, up2_i]; exact c), fun c g71 e71 g74 e74 v75 _ _ => ⟨fun b g78 => g78 = g74, fun b g78 _ _ _ _ q78 v79 _ _ g80 e80 => whole g80 (fun a ha => ?_) ?_ ?_ (by omega), fun _ => trivial, fun _ => rfl⟩⟩⟩
  · simp only [List.mem_cons, List.not_mem_nil, or_false, not_or] at ha
    rw [e35, up2_of (by omega)]
  · simp only [List.mem_cons, List.not_mem_nil, or_false, not_or] at ha
    rw [e50, up2_of (by omega), show g48 = g44 from q48, e44, up2_of (by omega), e41, up2_of (by omega), e35, up2_of (by omega)]
  · rw [e50, up2_o (by decide), show g48 = g44 from q48, e44, up2_o (by decide), e41, up2_i]
  · rw [e50, up2_o (by decide), show g48 = g44 from q48, e44, up2_i]
  · simp only [List.mem_cons, List.not_mem_nil, or_false, not_or] at ha
    rw [e65, up2_of (by omega), e61, cCpy_o (by omega)]
  · simp only [List.mem_cons, List.not_mem_nil, or_false, not_or] at ha
    rw [e80, up2_of (by omega), show g78 = g74 from q78, e74, up2_of (by omega), e71, up2_of (by omega), e65, up2_of (by omega), e61, cCpy_o (by omega)]
  · rw [e80, up2_o (by decide), show g78 = g74 from q78, e74, up2_o (by decide), e71, up2_i]
  · rw [e80, up2_o (by decide), show g78 = g74 from q78, e74, up2_i]
