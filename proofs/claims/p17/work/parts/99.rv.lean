/-! octets and words; what a SETUP's octets are -/
theorem oct_nat {x : Int32} (hx : oct x) : x.toBitVec.toNat < 256 ∧ (x.toBitVec.toNat : Int) = x.toInt := by
  have h1 : x.toInt = x.toBitVec.toInt := rfl
  rw [BitVec.toInt_eq_toNat_cond] at h1
  have h2 := hx.1
  have h3 := hx.2
  split at h1 <;> omega
theorem w_nat {a b c d : Int32} (ha : oct a) (hb : oct b) (hc : oct c) (hd : oct d) : (((((a <<< ((24 : Int32) &&& 31)) ||| (b <<< ((16 : Int32) &&& 31))) ||| (c <<< ((8 : Int32) &&& 31))) ||| d).toBitVec.toNat : Int) = a.toInt * 16777216 + b.toInt * 65536 + c.toInt * 256 + d.toInt := by
  have e24 : ((24 : Int32) &&& 31).toBitVec.smod 32 = 24#32 := by decide
  have e16 : ((16 : Int32) &&& 31).toBitVec.smod 32 = 16#32 := by decide
  have e8 : ((8 : Int32) &&& 31).toBitVec.smod 32 = 8#32 := by decide
  obtain ⟨hA, iA⟩ := oct_nat ha
  obtain ⟨hB, iB⟩ := oct_nat hb
  obtain ⟨hC, iC⟩ := oct_nat hc
  obtain ⟨hD, iD⟩ := oct_nat hd
  rw [← iA, ← iB, ← iC, ← iD]
  have : ((((a <<< ((24 : Int32) &&& 31)) ||| (b <<< ((16 : Int32) &&& 31))) ||| (c <<< ((8 : Int32) &&& 31))) ||| d).toBitVec = ((a.toBitVec <<< 24 ||| b.toBitVec <<< 16) ||| c.toBitVec <<< 8) ||| d.toBitVec := by
    show ((((a <<< ((24 : Int32) &&& 31)).toBitVec ||| (b <<< ((16 : Int32) &&& 31)).toBitVec) ||| (c <<< ((8 : Int32) &&& 31)).toBitVec) ||| d.toBitVec) = _
    rw [Int32.toBitVec_shiftLeft, Int32.toBitVec_shiftLeft, Int32.toBitVec_shiftLeft, e24, e16, e8]
    rfl
  rw [this, BitVec.toNat_or, BitVec.toNat_or, BitVec.toNat_or, BitVec.toNat_shiftLeft, BitVec.toNat_shiftLeft, BitVec.toNat_shiftLeft]
  generalize a.toBitVec.toNat = A at hA ⊢
  generalize b.toBitVec.toNat = B at hB ⊢
  generalize c.toBitVec.toNat = C at hC ⊢
  generalize d.toBitVec.toNat = D at hD ⊢
  have f1 : A <<< 24 % 2 ^ 32 = A <<< 24 := Nat.mod_eq_of_lt (by rw [Nat.shiftLeft_eq]; omega)
  have f2 : B <<< 16 % 2 ^ 32 = B <<< 16 := Nat.mod_eq_of_lt (by rw [Nat.shiftLeft_eq]; omega)
  have f3 : C <<< 8 % 2 ^ 32 = C <<< 8 := Nat.mod_eq_of_lt (by rw [Nat.shiftLeft_eq]; omega)
  rw [f1, f2, f3]
  have g1 : A <<< 24 ||| B <<< 16 = A <<< 24 + B <<< 16 := (Nat.shiftLeft_add_eq_or_of_lt (by rw [Nat.shiftLeft_eq]; omega) A).symm
  have g2 : A <<< 24 + B <<< 16 = (A * 256 + B) <<< 16 := by
    rw [Nat.shiftLeft_eq, Nat.shiftLeft_eq, Nat.shiftLeft_eq]
    omega
  have g3 : (A * 256 + B) <<< 16 ||| C <<< 8 = (A * 256 + B) <<< 16 + C <<< 8 := (Nat.shiftLeft_add_eq_or_of_lt (by rw [Nat.shiftLeft_eq]; omega) _).symm
  have g4 : (A * 256 + B) <<< 16 + C <<< 8 = ((A * 256 + B) * 256 + C) <<< 8 := by
    rw [Nat.shiftLeft_eq, Nat.shiftLeft_eq, Nat.shiftLeft_eq]
    omega
  have g5 : ((A * 256 + B) * 256 + C) <<< 8 ||| D = ((A * 256 + B) * 256 + C) <<< 8 + D := (Nat.shiftLeft_add_eq_or_of_lt hD _).symm
  rw [g1, g2, g3, g4, g5, Nat.shiftLeft_eq]
  omega
theorem w2_nat {c d : Int32} (hc : oct c) (hd : oct d) : (((c <<< ((8 : Int32) &&& 31)) ||| d).toBitVec.toNat : Int) = c.toInt * 256 + d.toInt := by
  have e8 : ((8 : Int32) &&& 31).toBitVec.smod 32 = 8#32 := by decide
  obtain ⟨hC, iC⟩ := oct_nat hc
  obtain ⟨hD, iD⟩ := oct_nat hd
  rw [← iC, ← iD]
  have : ((c <<< ((8 : Int32) &&& 31)) ||| d).toBitVec = c.toBitVec <<< 8 ||| d.toBitVec := by
    show ((c <<< ((8 : Int32) &&& 31)).toBitVec ||| d.toBitVec) = _
    rw [Int32.toBitVec_shiftLeft, e8]
    rfl
  rw [this, BitVec.toNat_or, BitVec.toNat_shiftLeft]
  generalize c.toBitVec.toNat = C at hC ⊢
  generalize d.toBitVec.toNat = D at hD ⊢
  have f3 : C <<< 8 % 2 ^ 32 = C <<< 8 := Nat.mod_eq_of_lt (by rw [Nat.shiftLeft_eq]; omega)
  rw [f3, (Nat.shiftLeft_add_eq_or_of_lt hD C).symm, Nat.shiftLeft_eq]
  omega
/-- the octets of a message that is an end's SETUP -/
abbrev suB (b : Nat → Int32) : Prop := ((b 0).toInt = 9 ∧ (b 1).toInt = 3 ∧ (b 5).toInt = 5 ∧ (b 6).toInt = 128) ∧ ((b 8).toInt = 10 ∧ (b 9).toInt = 112 ∧ (b 10).toInt = 128 ∧ (b 12).toInt = 1) ∧ (b 14).toInt = 89 ∧ (b 15).toInt = 128 ∧ (b 17).toInt = 1
def msg (g : mSt) (q j : Nat) : Int32 := g 1088 (8192 * q + j)
theorem s_word34 {Z : cZ} {q1 : Nat} {p2 : Int32} {g : mSt} {Φ : Int32 → mSt → Prop} (hq : ∀ j : Nat, (j : Int) < p2.toInt + 4 → oct (msg g q1 j)) (h0 : 0 ≤ p2.toInt) (h4 : p2.toInt + 4 ≤ 60) (h : ∀ r : Int32, (r.toBitVec.toNat : Int) = (msg g q1 p2.toInt.toNat).toInt * 16777216 + (msg g q1 (p2.toInt.toNat + 1)).toInt * 65536 + (msg g q1 (p2.toInt.toNat + 2)).toInt * 256 + (msg g q1 (p2.toInt.toNat + 3)).toInt → Φ r g) : wp_kwordAt_34 Z q1 p2 g Φ := by
  refine ⟨fun c => by exfalso; omega, fun c v4 e4 _ t4 => ⟨fun c4 v9 e9 _ v10 e10 _ v11 e11 _ t11 v13 e13 _ v14 e14 _ v15 e15 _ v16 e16 _ t16 v18 e18 _ v19 e19 _ v20 e20 _ v21 e21 _ t21 v23 e23 _ v24 e24 _ => h _ ?_, fun c4 => by exfalso; omega⟩⟩
  rw [nat_cl] at e9 e13 e18 e23
  rw [show v11.toInt.toNat = p2.toInt.toNat + 1 by omega] at e13
  rw [show v16.toInt.toNat = p2.toInt.toNat + 2 by omega] at e18
  rw [show v21.toInt.toNat = p2.toInt.toNat + 3 by omega] at e23
  rw [e24, e20, e15, e10, e14, e19, e9, e13, e18, e23]
  exact w_nat (hq _ (by omega)) (hq _ (by omega)) (hq _ (by omega)) (hq _ (by omega))
theorem s_selem1 {Z : cZ} {i0 q1 : Nat} {p2 p3 : Int32} {g : mSt} {Φ : Int32 → mSt → Prop} {K : Int} (hq : ∀ j : Nat, (j : Int) < p2.toInt → oct (msg g q1 j)) (hK : ((((p3 <<< ((24 : Int32) &&& 31)) ||| (8388608 : Int32)) ||| (1 : Int32)).toBitVec.toNat : Int) = K * 16777216 + 8388609) (hK2 : 0 ≤ K ∧ K ≤ 127) (h0 : Φ (-1) g) (h : ∀ r g1, g1 = up2 g 296 i0 (g1 296 i0) → (g1 296 i0).toInt = (g 296 i0).toInt + 5 → (g 296 i0).toInt + 5 ≤ 60 → 0 ≤ (g 296 i0).toInt → (msg g q1 (g 296 i0).toInt.toNat).toInt = K ∧ (msg g q1 ((g 296 i0).toInt.toNat + 1)).toInt = 128 ∧ (msg g q1 ((g 296 i0).toInt.toNat + 3)).toInt = 1 → Φ r g1) : wp_kselement Z i0 q1 p2 p3 1 g Φ := by
  intro v1 e1 r1 v2 e2 _ t2 v4 e4 _ t4
  have i1 : (1 : Int32).toInt = 1 := by decide
  have r1 : 0 ≤ v1.toInt ∧ v1.toInt ≤ 60 := r1
  refine ⟨fun _ => h0, fun c4 => ⟨fun _ => h0, fun c60 => s_word34 (fun j hj => hq j (by omega)) (by omega) (by omega) (fun v12 n12 _ v13 e13 _ v14 e14 _ v15 e15 _ => ⟨fun ceq g18 e18 => ?_, fun _ => h0⟩)⟩⟩
  have eq : v12 = v15 := Int32.toInt_inj.mp ceq
  rw [eq, e15, e14, e13, hK] at n12
  rw [e1] at n12
  have o1 := hq (g 296 i0).toInt.toNat (by rw [← e1]; omega)
  have o2 := hq ((g 296 i0).toInt.toNat + 1) (by rw [← e1]; omega)
  have o3 := hq ((g 296 i0).toInt.toNat + 2) (by rw [← e1]; omega)
  have o4 := hq ((g 296 i0).toInt.toNat + 3) (by rw [← e1]; omega)
  unfold oct at o1 o2 o3 o4
  have a18 : g18 296 i0 = v4 := by rw [e18, up2_i]
  have key : ∀ r, Φ r g18 := fun r => h r g18 (by rw [a18]; exact e18) (by rw [a18, ← e1]; omega) (by rw [← e1]; omega) (by rw [← e1]; omega) ⟨by omega, by omega, by omega⟩
  exact ⟨fun z => absurd i1 z, fun _ v32 _ _ _ v34 _ _ => key v34⟩
set_option maxHeartbeats 2000000 in
/-- an end's message is read: a SETUP has just these octets -/
theorem s_sreadX {Z : cZ} {i0 q1 : Nat} {p2 : Int32} {g : mSt} {Φ : Int32 → mSt → Prop} (hq : ∀ j : Nat, (j : Int) < p2.toInt → oct (msg g q1 j)) (h : ∀ (r : Int32) g1, (r.toInt ≠ 0 → (g1 288 i0).toInt = 5 → p2.toInt = 19 ∧ suB (msg g q1) ∧ 0 ≤ (g1 291 i0).toInt ∧ (g1 290 i0).toInt ≠ 0) → Φ r g1) : wp_ksread Z i0 q1 p2 0 g Φ := by
  have h0 : ∀ g1, Φ 0 g1 := fun g1 => h 0 g1 (fun z => absurd rfl z)
  have z0 : (0 : Int32).toInt = 0 := by decide
  -- the elements, with the sender's bit b
  have el : ∀ (gA : mSt) (v5 v10 v15 v20 v22 v23 v24 : Int32), gA 1088 = g 1088 → (gA 296 i0).toInt = 9 → v5 = g 1088 (8192 * q1 + (0 : Int32).toNatClampNeg) → v5.toInt = 9 → v10 = g 1088 (8192 * q1 + (1 : Int32).toNatClampNeg) → v10.toInt = 3 → v15 = g 1088 (8192 * q1 + (6 : Int32).toNatClampNeg) → v15.toInt = 128 → v20 = g 1088 (8192 * q1 + (7 : Int32).toNatClampNeg) → v22 = g 1088 (8192 * q1 + (8 : Int32).toNatClampNeg) → v23 = (v20 <<< ((8 : Int32) &&& 31)) ||| v22 → v24.toInt = p2.toInt - 9 → v23.toInt = v24.toInt → gA 288 i0 = g 1088 (8192 * q1 + (5 : Int32).toNatClampNeg) → 9 ≤ p2.toInt ∧ p2.toInt ≤ 60 → wp_kreadElements Z i0 q1 p2 0 gA (fun (v70 : Int32) (g69 : mSt) => po_kreadElements Z i0 q1 p2 0 gA v70 g69 → ((v70.toInt = 0) → Φ (0 : Int32) g69) ∧ ((v70.toInt ≠ 0) → ∀ (v77 : Int32), v77 = g69 296 i0 → rg (0) (60) v77 → ((v77.toInt ≠ p2.toInt) → Φ (0 : Int32) g69) ∧ ((v77.toInt = p2.toInt) → Φ (1 : Int32) g69))) := by
    intro gA v5 v10 v15 v20 v22 v23 v24 eA a296 e5 c5 e10 c10 e15 c15 e20 e22 e23 t24 c23 a288 hp
    have hqA : ∀ j : Nat, (j : Int) < p2.toInt → oct (msg gA q1 j) := fun j hj => by unfold msg; rw [eA]; exact hq j hj
    have mA : ∀ j, msg gA q1 j = msg g q1 j := fun j => by unfold msg; rw [eA]
    have end0 : ∀ (g69 : mSt) (v70 : Int32), ((g69 288 i0).toInt = 5 → False) → ((v70.toInt = 0) → Φ (0 : Int32) g69) ∧ ((v70.toInt ≠ 0) → ∀ (v77 : Int32), v77 = g69 296 i0 → rg (0) (60) v77 → ((v77.toInt ≠ p2.toInt) → Φ (0 : Int32) g69) ∧ ((v77.toInt = p2.toInt) → Φ (1 : Int32) g69)) := fun g69 v70 hz => ⟨fun _ => h0 _, fun _ v77 _ _ => ⟨fun _ => h0 _, fun _ => h _ _ (fun _ z => absurd z hz)⟩⟩
    have endF : ∀ (g69 : mSt), ((0 : Int32).toInt = 0 → Φ (0 : Int32) g69) ∧ (((0 : Int32).toInt ≠ 0) → ∀ (v77 : Int32), v77 = g69 296 i0 → rg (0) (60) v77 → ((v77.toInt ≠ p2.toInt) → Φ (0 : Int32) g69) ∧ ((v77.toInt = p2.toInt) → Φ (1 : Int32) g69)) := fun g69 => ⟨fun _ => h0 _, fun z => absurd rfl z⟩
    intro v1 e1 _
    refine ⟨fun c2 => ⟨fun _ g6 e6 _ => end0 g6 _ (fun z => ?_), fun z => absurd z0 z⟩, fun n2 => ⟨fun c5' => ?_, fun n5 => ⟨fun c7 _ => end0 gA _ (fun z => n5 (by rw [e1]; exact z)), fun n7 => ⟨fun c15' _ => end0 gA _ (fun z => n5 (by rw [e1]; exact z)), fun n15 => ⟨fun c77 => wt_kselement (fun v84 g83 hpo g85 e85 => ?_), fun n77 => ⟨fun c90 => wt_kselement (fun v84 g83 hpo g85 e85 => ?_), fun _ _ => end0 gA _ (fun z => n5 (by rw [e1]; exact z))⟩⟩⟩⟩⟩⟩
    · rw [e6, up2_o (by decide), ← e1] at z
      omega
    · -- SETUP
      refine s_selem1 (K := 112) hqA (by decide) ⟨by decide, by decide⟩ (fun hpo g20 e20' => ?_) (fun v19 g18 u18 t18 l18 k18 m18 hpo g20 e20' => ?_)
      · have f20 : g20 291 i0 = -1 := by rw [e20', up2_i]
        refine wt_kselement (fun v22' g21 hpo21 g23 e23' => ⟨fun _ g27 e27 => ⟨fun _ g30 e30 v31 _ _ => ⟨fun _ _ => endF g30, fun _ => ⟨fun _ _ => endF g30, fun z => absurd z (by decide)⟩⟩, fun z => absurd z0 z⟩, fun z => absurd z0 z⟩)
      · have q20 : g20 1088 = g 1088 := by rw [e20', up2_of (by decide), u18, up2_of (by decide), eA]
        have a20 : (g20 296 i0).toInt = 14 := by rw [e20', up2_o (by decide)]; omega
        have hq20 : ∀ j : Nat, (j : Int) < p2.toInt → oct (msg g20 q1 j) := fun j hj => by unfold msg; rw [q20]; exact hq j hj
        have m20 : ∀ j, msg g20 q1 j = msg g q1 j := fun j => by unfold msg; rw [q20]
        refine s_selem1 (K := 89) hq20 (by decide) ⟨by decide, by decide⟩ (fun hpo21 g23 e23' => ?_) (fun v22' g21 u21 t21 l21 k21 m21 hpo21 g23 e23' => ?_)
        · exact ⟨fun _ g27 e27 => ⟨fun _ g30 e30 v31 _ _ => ⟨fun _ _ => endF g30, fun _ => ⟨fun _ _ => endF g30, fun _ => ⟨fun _ _ => endF g30, fun z => absurd z (by decide)⟩⟩⟩, fun z => absurd z0 z⟩, fun z => absurd z0 z⟩
        · refine ⟨fun _ g27 e27 => ⟨fun _ g30 e30 v31 e31 _ => ⟨fun _ _ => endF g30, fun c31 => ⟨fun _ _ => endF g30, fun c19 => ⟨fun _ _ => endF g30, fun c22 _ => ⟨fun _ => h0 _, fun _ v77 e77 _ => ⟨fun _ => h0 _, fun c77 => h _ _ (fun _ _ => ?_)⟩⟩⟩⟩⟩, fun z => absurd z0 z⟩, fun z => absurd z0 z⟩
          have a30 : (g30 296 i0).toInt = 19 := by rw [e30, up2_o (by decide), e27, up2_o (by decide), e23', up2_o (by decide)]; omega
          have l19 : p2.toInt = 19 := by rw [← c77, e77]; exact a30
          have b291 : g30 291 i0 = v19 := by rw [e30, up2_o (by decide), e27, up2_o (by decide), e23', up2_o (by decide), u21, up2_o (by decide), e20', up2_i]
          have w2 := w2_nat (hq 7 (by omega)) (hq 8 (by omega))
          have i23 : (v23.toBitVec.toNat : Int) = 10 := by
            have t10 : v23.toInt = 10 := by omega
            have : v23 = 10 := Int32.toInt_inj.mp (by rw [t10]; rfl)
            rw [this]
            rfl
          have e20b : v20 = msg g q1 7 := e20
          have e22b : v22 = msg g q1 8 := e22
          rw [e23, e20b, e22b, w2] at i23
          have o7 := hq 7 (by omega)
          have o8 := hq 8 (by omega)
          unfold oct at o7 o8
          rw [show (gA 296 i0).toInt.toNat = 9 by omega, mA, mA, mA] at m18
          rw [show (g20 296 i0).toInt.toNat = 14 by omega, m20, m20, m20] at m21
          have s5 : (msg g q1 5).toInt = 5 := by
            have : msg g q1 5 = v1 := by rw [e1, a288]; rfl
            rw [this]
            exact c5'
          refine ⟨l19, ⟨⟨?_, ?_, s5, ?_⟩, ⟨by omega, m18.1, m18.2.1, m18.2.2⟩, m21.1, m21.2.1, m21.2.2⟩, by rw [b291]; exact c19, by rw [← e31]; exact c31⟩
          · rw [show msg g q1 0 = v5 from e5.symm]
            exact c5
          · rw [show msg g q1 1 = v10 from e10.symm]
            exact c10
          · rw [show msg g q1 6 = v15 from e15.symm]
            exact c15
    · have n : (g85 288 i0).toInt = 5 → False := fun z => by
        rw [e85, up2_o (by decide), hpo.2.1 288 (by decide), ← e1] at z
        omega
      exact ⟨fun _ _ => endF g85, fun _ _ => end0 g85 _ n⟩
    · have n : (g85 288 i0).toInt = 5 → False := fun z => by
        rw [e85, up2_o (by decide), hpo.2.1 288 (by decide), ← e1] at z
        omega
      exact ⟨fun _ _ => endF g85, fun _ _ => end0 g85 _ n⟩
  refine ⟨fun _ => h0 _, fun c9 => ⟨fun _ => trivial, fun c60 v5 e5 _ => ⟨fun _ => h0 _, fun c5 v10 e10 _ => ⟨fun _ => h0 _, fun c10 v15 e15 _ => ⟨fun _ => h0 _, fun c15 v20 e20 _ v21 e21 _ v22 e22 _ v23 e23 _ v24 _ _ t24 => ⟨fun c23 v28 _ _ => ⟨fun _ g31 e31 v33 _ _ v34 _ _ v35 _ _ v36 _ _ v37 _ _ v38 _ _ v39 _ _ g40 e40 v41 e41 _ g42 e42 g43 e43 => ?_, fun _ g56 e56 v58 _ _ v59 _ _ v60 _ _ v61 _ _ v62 _ _ v63 _ _ v64 _ _ g65 e65 v66 e66 _ g67 e67 g68 e68 => ?_⟩, fun _ => h0 _⟩⟩⟩⟩⟩⟩
  · refine el g43 v5 v10 v15 v20 v22 v23 v24 ?_ ?_ e5 c5 e10 c10 e15 c15 e20 e22 (by rw [e23, e21]) t24 c23 ?_ ⟨c9, c60⟩
    · rw [e43, up2_of (by decide), e42, up2_of (by decide), e40, up2_of (by decide), e31, up2_of (by decide)]
    · rw [e43, up2_i]
      rfl
    · rw [e43, up2_o (by decide), e42, up2_i, e41, e40, up2_o (by decide), e31, up2_o (by decide)]
  · refine el g68 v5 v10 v15 v20 v22 v23 v24 ?_ ?_ e5 c5 e10 c10 e15 c15 e20 e22 (by rw [e23, e21]) t24 c23 ?_ ⟨c9, c60⟩
    · rw [e68, up2_of (by decide), e67, up2_of (by decide), e65, up2_of (by decide), e56, up2_of (by decide)]
    · rw [e68, up2_i]
      rfl
    · rw [e68, up2_o (by decide), e67, up2_i, e66, e65, up2_o (by decide), e56, up2_o (by decide)]
