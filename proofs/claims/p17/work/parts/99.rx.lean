/-! the receiver against the stream: E holds the last cell of the tick before (53 octets) and this tick's wire behind it -/
def n8 (x : Int32) : Nat := x.toBitVec.toNat
def hw (E : Nat → Int32) (s : Nat) : Nat → Nat
  | 0 => 0
  | k + 1 => hw E s k * 256 + n8 (E (s + k))
/-- a head: as it came, or with one bit put right where the code was wrong -/
def hdw (E : Nat → Int32) (s : Nat) (h : Int32) : Prop := ∃ w : Int32, n8 w = hw E s 4 ∧ (hc w = E (s + 4) → h = w) ∧ (h = w ∨ ∃ k : Int32, (0 ≤ k.toInt ∧ k.toInt ≤ 31) ∧ h = w ^^^ ((1 : Int32) <<< (k &&& 31)))
def tiW (E : Nat → Int32) (g : mSt) (q s : Nat) : Prop := ((g 233 q).toInt < 5 → s % 53 ≤ 3 → (n8 (g 231 q) * 256 + n8 (g 232 q)) % 256 ^ (g 233 q).toInt.toNat = hw E s (g 233 q).toInt.toNat) ∧ (5 ≤ (g 233 q).toInt → (g 234 q).toInt ≠ 0 → (s % 53 ≤ 3 → hdw E s (g 231 q)) ∧ ∀ j, j < (g 233 q).toInt.toNat - 5 → g 800 (8192 * q + j) = E (s + 5 + j))
/-- where the octets y of the stream have come; kn: the windows that are known -/
def TI (B : Nat) (kn : Nat → Prop) (E : Nat → Int32) (g : mSt) (q y : Nat) : Prop := (0 ≤ (g 233 q).toInt ∧ (g 233 q).toInt ≤ (B + y : Nat) ∧ ((g 225 q).toInt ≠ 0 → (g 233 q).toInt ≤ 52)) ∧ oct (g 232 q) ∧ ((g 225 q).toInt ≠ 0 → kn (y - (g 233 q).toInt.toNat) → tiW E g q (y - (g 233 q).toInt.toNat))
/-- windows so far -/
def WC (g : mSt) (q y w : Nat) : Prop := 53 * w + min (g 233 q).toInt.toNat 5 + 1 ≤ y ∧ ((g 225 q).toInt ≠ 0 → 53 * w + (g 233 q).toInt.toNat + 1 ≤ y)
/-- a whole window: its head and its octets -/
def win (E : Nat → Int32) (g : mSt) (q s : Nat) : Prop := (s % 53 ≤ 3 → hdw E s (g 231 q)) ∧ ∀ j, j < 48 → g 800 (8192 * q + j) = E (s + 5 + j)
theorem n8_lt (x : Int32) : n8 x < 4294967296 := x.toBitVec.isLt
theorem n8_oct {x : Int32} (h : oct x) : n8 x < 256 := (oct_nat h).1
theorem n8_inj {a b : Int32} (h : n8 a = n8 b) : a = b := Int32.toBitVec_inj.mp (BitVec.eq_of_toNat_eq h)
theorem n8_push {a b : Int32} (hb : oct b) : n8 ((a <<< ((8 : Int32) &&& 31)) ||| b) = (n8 a * 256 + n8 b) % 4294967296 := by
  have e8 : ((8 : Int32) &&& 31).toBitVec.smod 32 = 8#32 := by decide
  have hB := n8_oct hb
  have : ((a <<< ((8 : Int32) &&& 31)) ||| b).toBitVec = a.toBitVec <<< 8 ||| b.toBitVec := by
    show ((a <<< ((8 : Int32) &&& 31)).toBitVec ||| b.toBitVec) = _
    rw [Int32.toBitVec_shiftLeft, e8]
    rfl
  unfold n8 at *
  rw [this, BitVec.toNat_or, BitVec.toNat_shiftLeft]
  have hA := a.toBitVec.isLt
  generalize a.toBitVec.toNat = A at hA ⊢
  generalize b.toBitVec.toNat = B at hB ⊢
  have f : A <<< 8 % 2 ^ 32 = (A % 16777216) <<< 8 := by
    rw [Nat.shiftLeft_eq, Nat.shiftLeft_eq]
    omega
  rw [f, (Nat.shiftLeft_add_eq_or_of_lt hB (A % 16777216)).symm, Nat.shiftLeft_eq]
  omega
theorem push_mod {Y M O : Nat} (hM : 0 < M) (hO : O < 256) : (Y * 256 + O) % (M * 256) = Y % M * 256 + O := by
  have h := Nat.div_add_mod Y M
  have hr := Nat.mod_lt Y hM
  have e : Y * 256 + O = M * 256 * (Y / M) + (Y % M * 256 + O) := by
    rw [Nat.mul_right_comm, ← Nat.add_assoc, ← Nat.add_mul, h]
  rw [e, Nat.mul_add_mod, Nat.mod_eq_of_lt]
  have : (Y % M + 1) * 256 ≤ M * 256 := Nat.mul_le_mul_right 256 hr
  omega
/-- one octet more of a header -/
theorem hw_push {E : Nat → Int32} {s k : Nat} {a b o : Int32} (hb : oct b) (ho : oct o) (hk : k ≤ 4) (h : (n8 a * 256 + n8 b) % 256 ^ k = hw E s k) (eo : o = E (s + k)) : (n8 ((a <<< ((8 : Int32) &&& 31)) ||| b) * 256 + n8 o) % 256 ^ (k + 1) = hw E s (k + 1) := by
  show _ = hw E s k * 256 + n8 (E (s + k))
  rw [← h, ← eo, n8_push hb]
  have h1 := n8_oct ho
  have h2 := n8_oct hb
  have h3 := n8_lt a
  rw [Nat.pow_succ, push_mod (Nat.pow_pos (by decide)) h1]
  have hd : (256 ^ k : Nat) ∣ 4294967296 := by
    rcases (by omega : k = 0 ∨ k = 1 ∨ k = 2 ∨ k = 3 ∨ k = 4) with e | e | e | e | e <;> subst e <;> decide
  rw [Nat.mod_mod_of_dvd _ hd]
theorem hw_head {E : Nat → Int32} {s : Nat} {a b : Int32} (hb : oct b) (he : ∀ j, j < 5 → oct (E (s + j))) (h : (n8 a * 256 + n8 b) % 256 ^ 5 = hw E s 5) : n8 a = hw E s 4 ∧ b = E (s + 4) := by
  have h1 := n8_oct hb
  have h3 := n8_lt a
  have h4 := n8_oct (he 4 (by omega))
  have e : hw E s 5 = hw E s 4 * 256 + n8 (E (s + 4)) := rfl
  rw [e] at h
  simp only [Nat.reducePow] at h
  refine ⟨by omega, n8_inj (by omega)⟩
/-- what `take` has done: nothing whole, or a window -/
def tkW (B : Nat) (kn : Nat → Prop) (E : Nat → Int32) (g1 : mSt) (q y1 w : Nat) : Prop := TI B kn E g1 q y1 ∧ (((g1 235 q).toInt = 0 ∧ WC g1 q y1 w) ∨ ((g1 235 q).toInt ≠ 0 ∧ WC g1 q y1 (w + 1) ∧ 53 ≤ y1 ∧ (kn (y1 - 53) → win E g1 q (y1 - 53))))
theorem s_huntX {Z : cZ} {q : Nat} {g : mSt} {Φ : Int32 → mSt → Prop} (h : ∀ g1, mFr [225, 226, 227, 233, 234] g g1 → g1 225 q = 0 → g1 233 q = 0 → g1 234 q = 0 → Φ 0 g1) : wp_khunt Z q g Φ := by
  intro g1 e1 g3 e3 g4 e4 g6 e6 g7 e7
  refine h g7 (fun a ha => ?_) ?_ ?_ ?_
  · simp only [List.mem_cons, List.not_mem_nil, or_false, not_or] at ha
    rw [e7, up2_of (by omega), e6, up2_of (by omega), e4, up2_of (by omega), e3, up2_of (by omega), e1, up2_of (by omega)]
  · rw [e7, up2_o (by decide), e6, up2_o (by decide), e4, up2_o (by decide), e3, up2_o (by decide), e1, up2_i]
  · rw [e7, up2_o (by decide), e6, up2_o (by decide), e4, up2_i]
  · rw [e7, up2_o (by decide), e6, up2_i]
/-- the fifth octet of a header: HUNT, or a window that is kept or not -/
def hd5 (g g1 : mSt) (q : Nat) : Prop := mFr [225, 226, 227, 229, 230, 231, 233, 234] g g1 ∧ ((g1 225 q = 0 ∧ g1 233 q = 0) ∨ (g1 233 q = g 233 q ∧ (g1 231 q = g 231 q ∨ (hc (g 231 q) ≠ g 232 q ∧ ∃ k : Int32, (0 ≤ k.toInt ∧ k.toInt ≤ 31) ∧ g1 231 q = g 231 q ^^^ ((1 : Int32) <<< (k &&& 31))))))
theorem xor_0 (x : Int32) : x ^^^ 0 = x := by
  apply Int32.toBitVec_inj.mp
  show x.toBitVec ^^^ 0#32 = x.toBitVec
  exact BitVec.xor_zero
theorem s_syncX {Z : cZ} {q : Nat} {p1 : Int32} {g : mSt} {Φ : Int32 → mSt → Prop} (hp : p1.toInt = 0 → hc (g 231 q) ≠ g 232 q) (h : ∀ g1, hd5 g g1 q → Φ 0 g1) : wp_ksyncHeader Z q p1 g Φ := by
  intro g1 e1
  have k1 : mFr [234] g g1 := fun a ha => by rw [e1, up2_of (by simpa using ha)]
  refine ⟨fun c1 v4 _ _ v5 _ _ g6 e6 => ?_, fun c1 g43 e43 g44 e44 => ?_⟩
  · have k6 : mFr [227, 234] g g6 := fun a ha => by
      simp only [List.mem_cons, List.not_mem_nil, or_false, not_or] at ha
      rw [e6, up2_of (by omega), k1 a (by simpa using ha.2)]
    refine ⟨fun _ v10 _ _ => ⟨fun _ g12 => g12 = g6, fun b g12 _ _ _ _ q12 g13 e13 => ?_, fun _ v36 _ _ v37 _ _ v38 _ _ => rfl, fun _ => rfl⟩, fun _ => s_huntX (fun g41 k41 a41 b41 _ _ => h g41 ⟨fun a ha => ?_, Or.inl ⟨a41, b41⟩⟩)⟩
    · rw [show g12 = g6 from q12] at e13
      have k13 : mFr [226, 227, 234] g g13 := fun a ha => by
        simp only [List.mem_cons, List.not_mem_nil, or_false, not_or] at ha
        rw [e13, up2_of (by omega), k6 a (by simp only [List.mem_cons, List.not_mem_nil, or_false, not_or]; omega)]
      refine ⟨fun cb g16 e16 v17 _ _ v18 _ _ g19 e19 v20 e20 _ => ?_, fun _ v31 _ _ v32 _ _ g33 e33 => h g33 ⟨fun a ha => ?_, Or.inr ⟨?_, Or.inl ?_⟩⟩⟩
      · have k19 : mFr [226, 227, 230, 234] g g19 := fun a ha => by
          simp only [List.mem_cons, List.not_mem_nil, or_false, not_or] at ha
          rw [e19, up2_of (by omega), e16, up2_of (by omega), k13 a (by simp only [List.mem_cons, List.not_mem_nil, or_false, not_or]; omega)]
        have h20 : v20 = g 231 q := by rw [e20, k19 231 (by decide)]
        refine ⟨fun b22 g22 => g22 = g19 ∧ (b22 = 0 ∨ ∃ k : Int32, (0 ≤ k.toInt ∧ k.toInt ≤ 31) ∧ b22 = (1 : Int32) <<< (k &&& 31)), fun b22 g22 _ _ _ _ q22 v23 e23 _ g24 e24 => h g24 ⟨fun a ha => ?_, Or.inr ⟨?_, ?_⟩⟩, fun _ => ⟨rfl, Or.inl rfl⟩, fun cb2 v28 _ r28 t28 v29 e29 _ => ⟨rfl, Or.inr ⟨v28, r28, e29⟩⟩⟩
        · simp only [List.mem_cons, List.not_mem_nil, or_false, not_or] at ha
          rw [e24, up2_of (by omega), q22.1, k19 a (by simp only [List.mem_cons, List.not_mem_nil, or_false, not_or]; omega)]
        · rw [e24, up2_o (by decide), q22.1, k19 233 (by decide)]
        · have a24 : g24 231 q = g 231 q ^^^ b22 := by rw [e24, up2_i, e23, h20]
          rcases q22.2 with z | ⟨k, hk, z⟩
          · left
            rw [a24, z, xor_0]
          · right
            exact ⟨hp c1, k, hk, by rw [a24, z]⟩
      · simp only [List.mem_cons, List.not_mem_nil, or_false, not_or] at ha
        rw [e33, up2_of (by omega), k13 a (by simp only [List.mem_cons, List.not_mem_nil, or_false, not_or]; omega)]
      · rw [e33, up2_o (by decide), k13 233 (by decide)]
      · rw [e33, up2_o (by decide), k13 231 (by decide)]
    · simp only [List.mem_cons, List.not_mem_nil, or_false, not_or] at ha
      rw [k41 a (by simp only [List.mem_cons, List.not_mem_nil, or_false, not_or]; omega), k6 a (by simp only [List.mem_cons, List.not_mem_nil, or_false, not_or]; omega)]
  · refine h g44 ⟨fun a ha => ?_, Or.inr ⟨?_, Or.inl ?_⟩⟩
    · simp only [List.mem_cons, List.not_mem_nil, or_false, not_or] at ha
      rw [e44, up2_of (by omega), e43, up2_of (by omega), k1 a (by simp only [List.mem_cons, List.not_mem_nil, or_false, not_or]; omega)]
    · rw [e44, up2_o (by decide), e43, up2_o (by decide), k1 233 (by decide)]
    · rw [e44, up2_o (by decide), e43, up2_o (by decide), k1 231 (by decide)]
theorem s_preX {Z : cZ} {q : Nat} {p1 : Int32} {g : mSt} {Φ : Int32 → mSt → Prop} (h : ∀ g1, hd5 g g1 q → Φ 0 g1) : wp_kpresync Z q p1 g Φ := by
  intro z0 _ _
  refine ⟨fun _ v3 _ _ v4 _ _ g5 e5 => ⟨fun _ => h g5 ⟨fun a ha => ?_, Or.inr ⟨?_, Or.inl ?_⟩⟩, fun _ g10 e10 g12 e12 g13 e13 g14 e14 => h g14 ⟨fun a ha => ?_, Or.inr ⟨?_, Or.inl ?_⟩⟩⟩, fun _ => s_huntX (fun g16 k16 a16 b16 _ _ => h g16 ⟨fun a ha => ?_, Or.inl ⟨a16, b16⟩⟩)⟩
  · simp only [List.mem_cons, List.not_mem_nil, or_false, not_or] at ha
    rw [e5, up2_of (by omega)]
  · rw [e5, up2_o (by decide)]
  · rw [e5, up2_o (by decide)]
  · simp only [List.mem_cons, List.not_mem_nil, or_false, not_or] at ha
    rw [e14, up2_of (by omega), e13, up2_of (by omega), e12, up2_of (by omega), e10, up2_of (by omega), e5, up2_of (by omega)]
  · rw [e14, up2_o (by decide), e13, up2_o (by decide), e12, up2_o (by decide), e10, up2_o (by decide), e5, up2_o (by decide)]
  · rw [e14, up2_o (by decide), e13, up2_o (by decide), e12, up2_o (by decide), e10, up2_o (by decide), e5, up2_o (by decide)]
  · simp only [List.mem_cons, List.not_mem_nil, or_false, not_or] at ha
    exact k16 a (by simp only [List.mem_cons, List.not_mem_nil, or_false, not_or]; omega)
set_option maxHeartbeats 1000000 in
/-- one octet of a header, or in HUNT -/
theorem s_hOct {Z : cZ} {q y w B : Nat} {o : Int32} {kn : Nat → Prop} {E : Nat → Int32} {g : mSt} {Φ : Int32 → mSt → Prop} (hB : B + y ≤ 1000000000) (ho : oct o) (eo : o = E y) (hE : ∀ z, z ≤ y → oct (E z)) (hp : (g 225 q).toInt = 0 ∨ (g 233 q).toInt < 5) (hT : TI B kn E g q y) (hW : WC g q y w) (h : ∀ g1, mFr [225, 226, 227, 229, 230, 231, 232, 233, 234] g g1 → TI B kn E g1 q (y + 1) → WC g1 q (y + 1) w → Φ 0 g1) : wp_kheaderOctet Z q o g Φ := by
  intro v1 e1 _ v2 e2 _ v3 e3 _ v4 e4 _ g5 e5 g6 e6 v7 e7 _ v8 e8 _ g9 e9
  obtain ⟨⟨t0, tB, t52⟩, th, tw⟩ := hT
  obtain ⟨w1, w2⟩ := hW
  have h7 : v7 = g 233 q := by rw [e7, e6, up2_o (by decide), e5, up2_o (by decide)]
  have t8 : v8.toInt = (g 233 q).toInt + 1 := by rw [e8, h7]; exact add_t (k := 1) (m := 1) rfl ⟨by decide, by decide⟩ (by omega)
  have a233 : g9 233 q = v8 := by rw [e9, up2_i]
  have a232 : g9 232 q = o := by rw [e9, up2_o (by decide), e6, up2_i]
  have a231 : g9 231 q = v4 := by rw [e9, up2_o (by decide), e6, up2_o (by decide), e5, up2_i]
  have k9 : mFr [231, 232, 233] g g9 := fun a ha => by
    simp only [List.mem_cons, List.not_mem_nil, or_false, not_or] at ha
    rw [e9, up2_of (by omega), e6, up2_of (by omega), e5, up2_of (by omega)]
  have k9' : mFr [225, 226, 227, 229, 230, 231, 232, 233, 234] g g9 := fun a ha => k9 a (fun z => ha (by
    simp only [List.mem_cons, List.not_mem_nil, or_false] at z ⊢
    omega))
  have a225 : g9 225 q = g 225 q := by rw [k9 225 (by decide)]
  have h4 : v4 = (g 231 q <<< ((8 : Int32) &&& 31)) ||| g 232 q := by rw [e4, e2, e1, e3]
  -- HUNT stays or begins
  have hunt : ∀ g1, mFr [225, 226, 227, 229, 230, 231, 232, 233, 234] g g1 → (g1 225 q).toInt = 0 → 0 ≤ (g1 233 q).toInt → (g1 233 q).toInt ≤ (g 233 q).toInt + 1 → g1 232 q = o → Φ 0 g1 := fun g1 k a b c d => by
    refine h g1 k ⟨⟨b, by omega, fun z => absurd a z⟩, by rw [d]; exact ho, fun z => absurd a z⟩ ⟨?_, fun z => absurd a z⟩
    rcases hp with z | z <;> omega
  -- the fifth octet outside HUNT
  have five : (g 225 q).toInt ≠ 0 → 5 ≤ v8.toInt → ∀ g1, hd5 g9 g1 q → Φ 0 g1 := fun n0 c8 g1 hd => by
    have hp5 : (g 233 q).toInt < 5 := by
      rcases hp with z | z
      · exact absurd z n0
      · exact z
    obtain ⟨kd, hd⟩ := hd
    have k1 : mFr [225, 226, 227, 229, 230, 231, 232, 233, 234] g g1 := fun a ha => by
      rw [kd a (fun z => ha (by
        simp only [List.mem_cons, List.not_mem_nil, or_false] at z ⊢
        omega)), k9' a ha]
    have b232 : g1 232 q = o := by rw [kd 232 (by decide), a232]
    rcases hd with ⟨z1, z2⟩ | ⟨z1, z2⟩
    · exact hunt g1 k1 (by rw [z1]; rfl) (by rw [z2]; decide) (by rw [z2]; show (0 : Int) ≤ _; omega) b232
    · rw [a233] at z1
      by_cases h0 : (g1 225 q).toInt = 0
      · exact hunt g1 k1 h0 (by rw [z1]; omega) (by rw [z1]; omega) b232
      · have e5n : v8.toInt.toNat = 5 := by omega
        refine h g1 k1 ⟨⟨by rw [z1]; omega, by rw [z1]; omega, fun _ => by rw [z1]; omega⟩, by rw [b232]; exact ho, fun _ hk => ?_⟩ ⟨by rw [z1]; have := w2 n0; omega, fun _ => by rw [z1]; have := w2 n0; omega⟩
        rw [z1] at hk ⊢
        have es : y + 1 - v8.toInt.toNat = y - (g 233 q).toInt.toNat := by omega
        rw [es] at hk ⊢
        obtain ⟨u1, _⟩ := tw n0 hk
        refine ⟨fun z => by rw [z1] at z; omega, fun _ hkeep => ⟨fun hs => ?_, fun j hj => by rw [z1] at hj; omega⟩⟩
        have p4 : (g 233 q).toInt.toNat = 4 := by omega
        have hh := u1 hp5 hs
        rw [p4] at hh hs ⊢
        have hpush := hw_push th ho (by omega) hh (by rw [show y - 4 + 4 = y by omega]; exact eo)
        rw [← h4] at hpush
        have hy4 : 4 ≤ y := by have := w2 n0; omega
        obtain ⟨q1, q2⟩ := hw_head ho (fun j hj => hE _ (by omega)) hpush
        refine ⟨v4, q1, fun hc => ?_, ?_⟩
        · rcases z2 with z2 | ⟨z2, _⟩
          · rw [z2, a231]
          · exfalso
            rw [a231, a232] at z2
            exact z2 (by rw [hc, q2])
        · rcases z2 with z2 | ⟨_, k, hk2, z2⟩
          · left
            rw [z2, a231]
          · right
            exact ⟨k, hk2, by rw [z2, a231]⟩
  have h225 : ∀ {v : Int32}, v = g9 225 q → v.toInt = (g 225 q).toInt := fun {v} e => by rw [e, a225]
  refine ⟨fun c8 v15 e15 _ => ⟨fun c15 v18 e18 _ => ⟨fun n18 => ⟨fun _ => s_syncX (fun _ => ?_) (fun g26 hd _ => five (by rw [← h225 e18]; exact n18) c8 g26 hd), fun _ => s_preX (fun g29 hd _ => five (by rw [← h225 e18]; exact n18) c8 g29 hd)⟩, fun z18 => hunt g9 k9' (by rw [← e18]; exact z18) (by rw [a233]; omega) (by rw [a233]; omega) a232⟩, fun c15 v33 e33 _ => ⟨fun n33 => ⟨fun _ => s_syncX (fun z => absurd z (by decide)) (fun g41 hd _ => five (by rw [← h225 e33]; exact n33) c8 g41 hd), fun _ => s_preX (fun g44 hd _ => five (by rw [← h225 e33]; exact n33) c8 g44 hd)⟩, fun z33 g48 e48 g49 e49 g50 e50 g52 e52 => ?_⟩⟩, fun c8 => ?_⟩
  · rw [a231, a232]
    intro z
    exact c15 (by rw [e15, z])
  · -- HUNT found a header that is right
    have z0 : (g 225 q).toInt = 0 := by rw [← h225 e33]; exact z33
    have b233 : g52 233 q = 5 := by rw [e52, up2_o (by decide), e50, up2_i]
    have b234 : g52 234 q = 0 := by rw [e52, up2_i]
    have b232 : g52 232 q = o := by rw [e52, up2_o (by decide), e50, up2_o (by decide), e49, up2_o (by decide), e48, up2_o (by decide), a232]
    have i5 : (5 : Int32).toInt = 5 := by decide
    refine h g52 (fun a ha => ?_) ⟨⟨by rw [b233]; decide, by rw [b233, i5]; omega, fun _ => by rw [b233]; decide⟩, by rw [b232]; exact ho, fun _ _ => ⟨fun z => ?_, fun _ z => ?_⟩⟩ ⟨?_, fun _ => ?_⟩
    · have := k9' a ha
      simp only [List.mem_cons, List.not_mem_nil, or_false, not_or] at ha
      rw [e52, up2_of (by omega), e50, up2_of (by omega), e49, up2_of (by omega), e48, up2_of (by omega), this]
    · rw [b233, i5] at z
      omega
    · rw [b234] at z
      exact absurd rfl z
    · rw [b233, i5]
      omega
    · rw [b233, i5]
      omega
  · -- not yet five
    by_cases h0 : (g 225 q).toInt = 0
    · exact hunt g9 k9' (by rw [a225]; exact h0) (by rw [a233]; omega) (by rw [a233]; omega) a232
    · refine h g9 k9' ⟨⟨by rw [a233]; omega, by rw [a233]; omega, fun _ => by rw [a233]; omega⟩, by rw [a232]; exact ho, fun _ hk => ?_⟩ ⟨by rw [a233]; have := w2 h0; omega, fun _ => by rw [a233]; have := w2 h0; omega⟩
      rw [a233] at hk ⊢
      have es : y + 1 - v8.toInt.toNat = y - (g 233 q).toInt.toNat := by omega
      rw [es] at hk ⊢
      obtain ⟨u1, _⟩ := tw h0 hk
      refine ⟨fun _ hs => ?_, fun z => by rw [a233] at z; omega⟩
      have hh := u1 (by omega) hs
      have hy := w2 h0
      have hpush := hw_push th ho (by omega) hh (by rw [show y - (g 233 q).toInt.toNat + (g 233 q).toInt.toNat = y by omega]; exact eo)
      rw [← h4] at hpush
      rw [a231, a232, a233, show v8.toInt.toNat = (g 233 q).toInt.toNat + 1 by omega]
      exact hpush
