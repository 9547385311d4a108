/-- a method that only answers a number: the heap stays -/
def pf_Q (r : Int32) : Array Value → State → Outcome → State → Prop := fun _ st o t => o = .returned (some (.int r)) ∧ t.heap = st.heap
section PF
variable {p : Program} {l : Launch} {e : Env} {R : Room} {s : State} {m : MethodId} {args : Array Value} {below : List Frame} {meth : Method} {c : Code} {H : Heap} {locs : List Loc} {cells slots : Nat} {Q : State → Prop} {pc : Nat} {ls : Array Slot} {rest st0 : List Value} {a : Array Value} {r : Int32}
theorem pf_call (hr : va_Run p l e R s m args below meth c H locs cells slots 0 0 (F0 m pc ls st0) rest (pf_Q r a) (fun _ => False))
    (kk : W p l e R s m args below meth c H locs cells slots Q (F0 m (pc + 3) ls (.int r :: rest))) : W p l e R s m args below meth c H locs cells slots Q (F0 m pc ls st0) := by
  intro T hT X
  obtain ⟨v, st₀, t, T', L, h0, X', hL, e1, e2, ⟨hv, hh⟩, st⟩ := hr T hT X
  cases hv
  obtain ⟨t2, a1, b1⟩ := kk T' (by rw [e1, hh, h0]) (Stand.forget X' (fun q h => (hL q h).elim))
  exact ⟨t2, st t2 a1, b1⟩
end PF
/-- counters that fall: one less than n; four times that -/
def kk (n : Nat) : Int32 := Int32.ofInt ((n : Int) - 1)
def k4 (n : Nat) : Int32 := Int32.ofInt (4 * (n : Int) - 4)
theorem kk_neg : ∀ n, n < 33 → (kk n < 0 ↔ n = 0) := by decide
theorem kk_succ : ∀ n, n < 33 → kk (n + 1) + Int32.ofInt (-1) = kk n := by decide
theorem k4_neg : ∀ n, n < 9 → (k4 n < 0 ↔ n = 0) := by decide
theorem k4_succ : ∀ n, n < 9 → k4 (n + 1) + Int32.ofInt (-4) = k4 n := by decide
/-- counters that rise to N: N less the n that are left -/
def up (N n : Nat) : Int32 := Int32.ofInt ((N : Int) - (n : Int))
theorem up40_ge : ∀ n, n < 41 → ((40 : Int32) ≤ up 40 n ↔ n = 0) := by decide
theorem up40_succ : ∀ n, n < 41 → up 40 (n + 1) + Int32.ofInt 1 = up 40 n := by decide
theorem up32_ge : ∀ n, n < 33 → ((32 : Int32) ≤ up 32 n ↔ n = 0) := by decide
theorem up32_succ : ∀ n, n < 33 → up 32 (n + 1) + Int32.ofInt 1 = up 32 n := by decide
/-- the reference's HEC -/
def hm_bit (o r k : Int32) : Int32 := ((o >>> (k &&& 31)) &&& 1) ^^^ ((r >>> ((7 : Int32) &&& 31)) &&& 1)
def hm_sh (r : Int32) : Int32 := (r <<< ((1 : Int32) &&& 31)) &&& 255
def hm_step (o r k : Int32) : Int32 := if hm_bit o r k = 1 then hm_sh r ^^^ 7 else hm_sh r
def hm_run (o : Int32) : Nat → Int32 → Int32
  | 0, r => r
  | n + 1, r => hm_run o n (hm_step o r (kk (n + 1)))
def hm (o : Int32) : Int32 := hm_run o 32 0 ^^^ 85
/-- the reference's rightness: n places left -/
def rt_o (o k : Int32) : Int32 := if (32 : Int32) ≤ k then o else o ^^^ ((1 : Int32) <<< ((31 - k) &&& 31))
def rt_h (h k : Int32) : Int32 := if (32 : Int32) ≤ k then h ^^^ ((1 : Int32) <<< ((39 - k) &&& 31)) else h
def rt_run (o h : Int32) : Nat → Int32
  | 0 => 0
  | n + 1 => if hm (rt_o o (up 40 (n + 1))) = rt_h h (up 40 (n + 1)) then 2 + up 40 (n + 1) else rt_run o h n
def rt (o h : Int32) : Int32 := if hm o = h then 1 else rt_run o h 40
def hdM (o h w : Int32) : Int32 := if w < 0 then -1 else if w ≤ 1 then (if w = 0 then hm o else rt o h) else -1
/-- the class's table and HEC -/
def hc_T (j : Nat) : Int32 := ([0x00, 0x07, 0x0E, 0x09, 0x1C, 0x1B, 0x12, 0x15, 0x38, 0x3F, 0x36, 0x31, 0x24, 0x23, 0x2A, 0x2D] : List Int32).getD j 0
def ush (x y : Int32) : Int32 := (x.toUInt32 >>> (y.toUInt32 &&& Int32.toUInt32 31)).toInt32
def hc_i (o r k : Int32) : Int32 := (ush r 4 ^^^ ush o k) &&& 15
def hc_step (o r k : Int32) : Int32 := ((r <<< ((4 : Int32) &&& 31)) &&& 255) ^^^ hc_T (hc_i o r k).toNatClampNeg
def hc_run (o : Int32) : Nat → Int32 → Int32
  | 0, r => r
  | n + 1, r => hc_run o n (hc_step o r (k4 (n + 1)))
def hc (o : Int32) : Int32 := hc_run o 8 0 ^^^ 85
def bc (x : Int32) : Int32 :=
  let a := x - (ush x 1 &&& 1431655765)
  let b := (a &&& 858993459) + (ush a 2 &&& 858993459)
  let d := (b + ush b 4) &&& 252645135
  let f := d + ush d 8
  let g := f + ush f 16
  g &&& 63
def nl_1 (x b : Int32) : Int32 := b - ush x 1
def nl_2 (x b : Int32) : Int32 := if x < 4 then nl_1 x b else nl_1 (ush x 2) (b + Int32.ofInt (-2))
def nl_4 (x b : Int32) : Int32 := if x < 16 then nl_2 x b else nl_2 (ush x 4) (b + Int32.ofInt (-4))
def nl_8 (x b : Int32) : Int32 := if x < 256 then nl_4 x b else nl_4 (ush x 8) (b + Int32.ofInt (-8))
def nl_h (x b : Int32) : Int32 := if x < 65536 then nl_8 x b else nl_8 (ush x 16) (b + Int32.ofInt (-16))
def nl (x : Int32) : Int32 := if 0 < x then nl_h x 31 else if x = 0 then 32 else 0
def wb_t (d : Int32) : Int32 := if bc d = 1 then 32 + nl d - 24 else -1
def wb_run (o h : Int32) : Nat → Int32
  | 0 => wb_t (hc o ^^^ h)
  | n + 1 => if hc (o ^^^ ((1 : Int32) <<< ((31 - up 32 (n + 1)) &&& 31))) = h then up 32 (n + 1) else wb_run o h n
def wb (o h : Int32) : Int32 := wb_run o h 32
def hd (o h w : Int32) : Int32 := if w = 0 then hc o else if w = 1 then (if h < 0 then 0 else if h ≤ 255 then (if hc o = h then 1 else (if 0 ≤ wb o h then wb o h + 2 else 0)) else 0) else -1
