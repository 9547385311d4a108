/-! the first rows (bt .. nx_xor) are kit/laws/BITS.to-paste's -/
def bt (x : Int32) (i : Nat) : Bool := x.toBitVec.getLsbD i
theorem s_l : ∀ n, n < 32 → ((nI n &&& 31).toBitVec.smod 32).toNat = n := by decide +kernel
theorem s_u : ∀ n, n < 32 → (((nI n).toUInt32 &&& Int32.toUInt32 31).toBitVec % 32).toNat = n := by decide +kernel
theorem b_sshr (n : Nat) (hn : n < 32) (x : Int32) {i : Nat} (hi : i < 32) : bt (x >>> (nI n &&& 31)) i = if n + i < 32 then bt x (n + i) else bt x 31 := by
  unfold bt
  rw [Int32.toBitVec_shiftRight]
  show (x.toBitVec.sshiftRight ((nI n &&& 31).toBitVec.smod 32).toNat).getLsbD i = _
  rw [s_l n hn, BitVec.getLsbD_sshiftRight, BitVec.msb_eq_getLsbD_last]
  simp [hi]
theorem nx_xor (a b : Nat) : nI a ^^^ nI b = nI (a ^^^ b) := by
  apply Int32.toBitVec_inj.1
  show BitVec.ofNat 32 a ^^^ BitVec.ofNat 32 b = BitVec.ofNat 32 (a ^^^ b)
  apply BitVec.eq_of_getLsbD_eq
  intro i hi
  simp [hi]
/-! our own -/
def NN (o : Int32) : Nat := o.toBitVec.toNat
theorem nI_self (x : Int32) : x = nI x.toBitVec.toNat := by
  apply Int32.toBitVec_inj.1
  show x.toBitVec = BitVec.ofNat 32 x.toBitVec.toNat
  simp
theorem bitAt (o : Int32) (n : Nat) (hn : n < 32) : (o >>> (nI n &&& 31)) &&& 1 = nI (NN o / 2 ^ n % 2) := by
  rw [pk_and _ 1 (by decide)]
  have h : bt (o >>> (nI n &&& 31)) 0 = bt o n := by rw [b_sshr n hn o (by decide)]; simp [hn]
  have h1 : decide ((o >>> (nI n &&& 31)).toBitVec.toNat / 2 ^ 0 % 2 = 1) = decide (NN o / 2 ^ n % 2 = 1) := by
    rw [← Nat.testBit_eq_decide_div_mod_eq, ← Nat.testBit_eq_decide_div_mod_eq]; exact h
  rw [decide_eq_decide] at h1
  simp only [Nat.pow_zero, Nat.div_one] at h1
  have h2 : (o >>> (nI n &&& 31)).toBitVec.toNat % 2 ^ 1 = NN o / 2 ^ n % 2 := by omega
  rw [h2]
def bs (a b : Nat) : Nat := if (b + a / 128) % 2 = 1 then (a * 2 % 256) ^^^ 7 else a * 2 % 256
theorem bs_lt (a b : Nat) : bs a b < 256 := by
  unfold bs
  split
  · exact Nat.xor_lt_two_pow (n := 8) (by omega) (by decide)
  · omega
theorem hm_stepN (o : Int32) (a n : Nat) (ha : a < 256) (hn : n < 32) : hm_step o (nI a) (nI n) = nI (bs a (NN o / 2 ^ n % 2)) := by
  have hx2 : ∀ b, b < 2 → ∀ q, q < 2 → b ^^^ q = (b + q) % 2 := by decide
  have h1 : hm_bit o (nI a) (nI n) = nI ((NN o / 2 ^ n % 2 + a / 128) % 2) := by
    unfold hm_bit
    rw [bitAt o n hn, pk_shrN (by omega) _ 7 (by decide), pk_andN (by omega) 1 (by decide), nx_xor, hx2 _ (by omega) _ (by omega)]
    have : a / 2 ^ 7 % 2 ^ 1 = a / 128 := by omega
    rw [this]
  have h2 : hm_sh (nI a) = nI (a * 2 % 256) := by
    unfold hm_sh
    rw [pk_shlN _ 1 (by decide) (by omega), pk_andN (by omega) 8 (by decide)]
  unfold hm_step bs
  rw [h1, h2]
  by_cases h : (NN o / 2 ^ n % 2 + a / 128) % 2 = 1
  · rw [if_pos h, if_pos (by rw [h]; rfl), show (7 : Int32) = nI 7 from rfl, nx_xor]
  · rw [if_neg h, if_neg (fun q => h ((nI_eq (by omega) (by decide)).mp (q.trans (show (1 : Int32) = nI 1 from rfl))))]
theorem kk_nI : ∀ n, n < 32 → kk (n + 1) = nI n := by decide +kernel
theorem k4_nI : ∀ n, n < 8 → k4 (n + 1) = nI (4 * n) := by decide +kernel
theorem hm_one (o : Int32) (a n : Nat) (ha : a < 256) (hn : n < 32) : hm_run o (n + 1) (nI a) = hm_run o n (nI (bs a (NN o / 2 ^ n % 2))) := by
  show hm_run o n (hm_step o (nI a) (kk (n + 1))) = _
  rw [kk_nI n hn, hm_stepN o a n ha hn]
theorem hm_byte (o : Int32) : ∀ n, n ≤ 32 → ∀ a, a < 256 → ∃ e, e < 256 ∧ hm_run o n (nI a) = nI e := by
  intro n
  induction n with
  | zero => intro _ a ha; exact ⟨a, ha, rfl⟩
  | succ n ih => intro hn a ha; rw [hm_one o a n ha (by omega)]; exact ih (by omega) _ (bs_lt _ _)
def tn (j : Nat) : Nat := ([0x00, 0x07, 0x0E, 0x09, 0x1C, 0x1B, 0x12, 0x15, 0x38, 0x3F, 0x36, 0x31, 0x24, 0x23, 0x2A, 0x2D] : List Nat).getD j 0
theorem tn_nI : ∀ j, j < 16 → hc_T j = nI (tn j) := by decide +kernel
def ts (a v : Nat) : Nat := (a * 16 % 256) ^^^ tn ((a / 16 ^^^ v) % 16)
theorem ts_bs : ∀ a, a < 256 → ∀ v, v < 16 → ts a v = bs (bs (bs (bs a (v / 8 % 2)) (v / 4 % 2)) (v / 2 % 2)) (v % 2) := by decide +kernel
theorem hc_stepN (o : Int32) (a m : Nat) (ha : a < 256) (hm : m < 8) : hc_step o (nI a) (nI (4 * m)) = nI (ts a (NN o / 2 ^ (4 * m) % 16)) := by
  have hN : NN o / 2 ^ (4 * m) < 2 ^ 32 := Nat.lt_of_le_of_lt (Nat.div_le_self _ _) o.toBitVec.isLt
  have h1 : ush (nI a) 4 = nI (a / 16) := pk_ushrN (by omega) 4 4 (by decide)
  have h2 : ush o (nI (4 * m)) = nI (NN o / 2 ^ (4 * m)) := by
    rw [nI_self (ush o (nI (4 * m)))]
    congr 1
    exact pk_ushr o (nI (4 * m)) (4 * m) (s_u (4 * m) (by omega))
  have h3 : hc_i o (nI a) (nI (4 * m)) = nI ((a / 16 ^^^ (NN o / 2 ^ (4 * m) % 16)) % 16) := by
    unfold hc_i
    rw [h1, h2, nx_xor, pk_andN (Nat.xor_lt_two_pow (by omega) hN) 4 (by decide), Nat.xor_mod_two_pow, show (16 : Nat) = 2 ^ 4 from rfl, Nat.xor_mod_two_pow, Nat.mod_mod]
  have h4 : (nI a <<< ((4 : Int32) &&& 31)) &&& 255 = nI (a * 16 % 256) := by
    rw [pk_shlN _ 4 (by decide) (by omega), pk_andN (by omega) 8 (by decide)]
  unfold hc_step ts
  rw [h3, h4, nI_clamp (by omega), tn_nI _ (Nat.mod_lt _ (by decide)), nx_xor]
theorem hc_hm (o : Int32) : ∀ m, m ≤ 8 → ∀ a, a < 256 → hc_run o m (nI a) = hm_run o (4 * m) (nI a) := by
  intro m
  induction m with
  | zero => intro _ a _; rfl
  | succ m ih =>
    intro hm a ha
    have hv : NN o / 2 ^ (4 * m) % 16 < 16 := Nat.mod_lt _ (by decide)
    have e : ∀ j q, 2 ^ j = q → NN o / 2 ^ (4 * m + j) % 2 = NN o / 2 ^ (4 * m) / q % 2 := fun j q h => by rw [Nat.pow_add, ← Nat.div_div_eq_div_mul, h]
    show hc_run o m (hc_step o (nI a) (k4 (m + 1))) = _
    rw [k4_nI m (by omega), hc_stepN o a m ha (by omega), ts_bs a ha _ hv, ih (by omega) _ (bs_lt _ _), show 4 * (m + 1) = 4 * m + 3 + 1 from rfl,
      hm_one o a (4 * m + 3) ha (by omega), hm_one o _ (4 * m + 2) (bs_lt _ _) (by omega), hm_one o _ (4 * m + 1) (bs_lt _ _) (by omega), hm_one o _ (4 * m) (bs_lt _ _) (by omega),
      e 3 8 rfl, e 2 4 rfl, e 1 2 rfl]
    have a3 : NN o / 2 ^ (4 * m) % 16 / 8 % 2 = NN o / 2 ^ (4 * m) / 8 % 2 := by omega
    have a2 : NN o / 2 ^ (4 * m) % 16 / 4 % 2 = NN o / 2 ^ (4 * m) / 4 % 2 := by omega
    have a1 : NN o / 2 ^ (4 * m) % 16 / 2 % 2 = NN o / 2 ^ (4 * m) / 2 % 2 := by omega
    have a0 : NN o / 2 ^ (4 * m) % 16 % 2 = NN o / 2 ^ (4 * m) % 2 := by omega
    rw [a3, a2, a1, a0]
/-- the two HECs are one -/
theorem hc_eq (o : Int32) : hc o = hm o := by
  unfold hc hm
  rw [show (0 : Int32) = nI 0 from rfl, hc_hm o 8 (by decide) 0 (by decide)]
theorem hm_oct (o : Int32) : ∃ e, e < 256 ∧ hm o = nI e := by
  obtain ⟨e, he, h⟩ := hm_byte o 32 (by decide) 0 (by decide)
  refine ⟨e ^^^ 85, Nat.xor_lt_two_pow (n := 8) he (by decide), ?_⟩
  unfold hm
  rw [show (0 : Int32) = nI 0 from rfl, h, show (85 : Int32) = nI 85 from rfl, nx_xor]
theorem up_hi : ∀ n, n < 8 → (32 : Int32) ≤ up 40 (n + 1) ∧ (1 : Int32) <<< ((39 - up 40 (n + 1)) &&& 31) = nI (2 ^ n) := by decide +kernel
theorem up_lo : ∀ n, n < 32 → ¬ (32 : Int32) ≤ up 40 (n + 8 + 1) ∧ up 40 (n + 8 + 1) = up 32 (n + 1) ∧ (0 : Int32) ≤ up 32 (n + 1) := by decide +kernel
theorem pow_lt8 : ∀ n, n < 8 → 2 ^ n < 256 := by decide
theorem xor_move {e b x : Nat} (h : e = b ^^^ x) : e ^^^ b = x := by rw [h, Nat.xor_comm b x, Nat.xor_assoc, Nat.xor_self, Nat.xor_zero]
theorem xor_back {e b x : Nat} (h : e ^^^ b = x) : e = b ^^^ x := by rw [← h, Nat.xor_comm e b, ← Nat.xor_assoc, Nat.xor_self, Nat.zero_xor]
def tm (d : Nat) : Nat → Int32
  | 0 => 0
  | n + 1 => if d = 2 ^ n then 2 + up 40 (n + 1) else tm d n
theorem rt_hi {o : Int32} {e b : Nat} (he : e < 256) (hb : b < 256) (ho : hm o = nI e) : ∀ n, n ≤ 8 → rt_run o (nI b) n = tm (e ^^^ b) n := by
  intro n
  induction n with
  | zero => intro _; rfl
  | succ n ih =>
    intro hn
    obtain ⟨h1, h2⟩ := up_hi n (by omega)
    show (if hm (rt_o o (up 40 (n + 1))) = rt_h (nI b) (up 40 (n + 1)) then 2 + up 40 (n + 1) else rt_run o (nI b) n) = (if e ^^^ b = 2 ^ n then 2 + up 40 (n + 1) else tm (e ^^^ b) n)
    have h3 : rt_o o (up 40 (n + 1)) = o := if_pos h1
    have h4 : rt_h (nI b) (up 40 (n + 1)) = nI (b ^^^ 2 ^ n) := by
      rw [show rt_h (nI b) (up 40 (n + 1)) = nI b ^^^ ((1 : Int32) <<< ((39 - up 40 (n + 1)) &&& 31)) from if_pos h1, h2, nx_xor]
    have hlt : b ^^^ 2 ^ n < 256 := Nat.xor_lt_two_pow (n := 8) hb (pow_lt8 n (by omega))
    rw [h3, h4, ho, ih (by omega)]
    by_cases q : e ^^^ b = 2 ^ n
    · rw [if_pos q, if_pos (by rw [xor_back q])]
    · rw [if_neg q, if_neg (fun z => q (xor_move ((nI_eq (by omega) (by omega)).mp z)))]
theorem tail_eq : ∀ d, d < 256 → tm d 8 = (if 0 ≤ wb_t (nI d) then wb_t (nI d) + 2 else 0) := by decide +kernel
theorem rt_wb {o : Int32} {e b : Nat} (he : e < 256) (hb : b < 256) (ho : hm o = nI e) : ∀ n, n ≤ 32 → rt_run o (nI b) (n + 8) = (if 0 ≤ wb_run o (nI b) n then wb_run o (nI b) n + 2 else 0) := by
  intro n
  induction n with
  | zero =>
    intro _
    rw [rt_hi he hb ho 8 (by decide), tail_eq _ (Nat.xor_lt_two_pow (n := 8) he hb)]
    show _ = (if 0 ≤ wb_t (hc o ^^^ nI b) then wb_t (hc o ^^^ nI b) + 2 else 0)
    rw [hc_eq, ho, nx_xor]
  | succ n ih =>
    intro hn
    obtain ⟨h1, h2, h5⟩ := up_lo n (by omega)
    rw [show n + 1 + 8 = n + 8 + 1 by omega]
    show (if hm (rt_o o (up 40 (n + 8 + 1))) = rt_h (nI b) (up 40 (n + 8 + 1)) then 2 + up 40 (n + 8 + 1) else rt_run o (nI b) (n + 8)) = _
    have h3 : rt_o o (up 40 (n + 8 + 1)) = o ^^^ ((1 : Int32) <<< ((31 - up 40 (n + 8 + 1)) &&& 31)) := if_neg h1
    have h4 : rt_h (nI b) (up 40 (n + 8 + 1)) = nI b := if_neg h1
    rw [h3, h4, h2, ih (by omega)]
    have h6 : wb_run o (nI b) (n + 1) = (if hm (o ^^^ ((1 : Int32) <<< ((31 - up 32 (n + 1)) &&& 31))) = nI b then up 32 (n + 1) else wb_run o (nI b) n) := by rw [← hc_eq]; rfl
    rw [h6]
    by_cases q : hm (o ^^^ ((1 : Int32) <<< ((31 - up 32 (n + 1)) &&& 31))) = nI b
    · rw [if_pos q, if_pos q, if_pos h5, Int32.add_comm]
    · rw [if_neg q, if_neg q]
theorem rt_out {o h : Int32} (hh : ∀ e, e < 256 → h ≠ nI e) : ∀ n, n ≤ 40 → rt_run o h n = 0 := by
  intro n
  induction n with
  | zero => intro _; rfl
  | succ n ih =>
    intro hn
    show (if hm (rt_o o (up 40 (n + 1))) = rt_h h (up 40 (n + 1)) then 2 + up 40 (n + 1) else rt_run o h n) = 0
    rw [if_neg, ih (by omega)]
    intro q
    obtain ⟨e, he, h1⟩ := hm_oct (rt_o o (up 40 (n + 1)))
    rw [h1] at q
    rcases Nat.lt_or_ge n 8 with h8 | h8
    · obtain ⟨g1, g2⟩ := up_hi n h8
      rw [show rt_h h (up 40 (n + 1)) = h ^^^ ((1 : Int32) <<< ((39 - up 40 (n + 1)) &&& 31)) from if_pos g1, g2] at q
      refine hh (e ^^^ 2 ^ n) (Nat.xor_lt_two_pow (n := 8) he (pow_lt8 n h8)) ?_
      rw [← nx_xor, q, Int32.xor_assoc, Int32.xor_self, Int32.xor_zero]
    · obtain ⟨m, rfl⟩ : ∃ m, n = m + 8 := ⟨n - 8, by omega⟩
      obtain ⟨g1, -, -⟩ := up_lo m (by omega)
      rw [show rt_h h (up 40 (m + 8 + 1)) = h from if_neg g1] at q
      exact hh e he q.symm
/-- HEADER: what the class answers is what the reference answers, for every octets, h, what -/
theorem hd_eq (o h w : Int32) : hd o h w = hdM o h w := by
  unfold hd hdM
  by_cases w0 : w = 0
  · rw [if_pos w0, w0, if_neg (by decide), if_pos (by decide), if_pos rfl, hc_eq]
  rw [if_neg w0]
  by_cases w1 : w = 1
  · rw [if_pos w1, w1]
    rw [show (if (1 : Int32) < 0 then (-1 : Int32) else if (1 : Int32) ≤ 1 then (if (1 : Int32) = 0 then hm o else rt o h) else -1) = rt o h from by rw [if_neg (by decide : ¬ (1 : Int32) < 0), if_pos (by decide : (1 : Int32) ≤ 1), if_neg (by decide : ¬ (1 : Int32) = 0)]]
    unfold rt
    obtain ⟨e, he, ho⟩ := hm_oct o
    have out : (∀ b, b < 256 → h ≠ nI b) → (if hm o = h then (1 : Int32) else rt_run o h 40) = 0 := fun hh => by
      rw [if_neg (by rw [ho]; exact fun q => hh e he q.symm), rt_out hh 40 (by decide)]
    by_cases h0 : h < 0
    · rw [if_pos h0, out (fun b hb q => nI_pos (n := b) (by omega) (by rw [← q]; exact h0))]
    · rw [if_neg h0]
      by_cases h2 : h ≤ 255
      · rw [if_pos h2]
        obtain ⟨b, hb, rfl⟩ := nI_of2 (M := 255) (n := 255) (by decide) h0 h2
        rw [hc_eq]
        by_cases q : hm o = nI b
        · rw [if_pos q, if_pos q]
        · rw [if_neg q, if_neg q]
          exact (rt_wb he (by omega) ho 32 (by decide)).symm
      · rw [if_neg h2, out (fun b hb q => h2 (by rw [q]; exact nI_le (b := 255) (by omega) (by decide)))]
  · rw [if_neg w1]
    by_cases h0 : w < 0
    · rw [if_pos h0]
    · rw [if_neg h0, if_neg]
      intro q
      obtain ⟨j, hj, e⟩ := nI_of2 (M := 1) (n := 1) (by decide) h0 q
      rcases (show j = 0 ∨ j = 1 by omega) with rfl | rfl
      · exact w0 e
      · exact w1 e
