/-! rows by hand: cellsOf, rightness' range -/
theorem rg_back {x y v : Int32} {a b k : Int} (t : v.toInt = x.toInt + y.toInt) (rc : rg k k y) (r : rg a b v) : rg (a - k) (b - k) x := by
  have rc : k ≤ y.toInt ∧ y.toInt ≤ k := rc
  have r : a ≤ v.toInt ∧ v.toInt ≤ b := r
  exact ⟨by omega, by omega⟩
theorem rel_conv {v w x y : Int32} {c1 c2 : Int} (e : v = x) (ew : w = y) (h : x.toInt + c1 ≤ y.toInt ∧ y.toInt ≤ x.toInt + c2) : v.toInt + c1 ≤ w.toInt ∧ w.toInt ≤ v.toInt + c2 := by subst e; subst ew; exact h
def wsX12_co : List Cond := [Cond.code yX12_cellsOf cX12_cellsOf 1 (some .int)]
def rm_co : Room := { frames := 0, cells := 0, slots := 0, locals := 0 }
set_option maxHeartbeats 4000000 in
theorem c_co (l : Launch) (o : Int32) : Met l yX12_cellsOf wsX12_co rm_co (va_Pc [.int o] (fun _ => True)) (pf_Q ((o + 8 + 47) / 48)) 0 0 (fun _ => False) := by
  refine Met.ofW (cc := cX12_cellsOf) (maxL := 1) (ret := some .int) (by decide) rfl ?_
  intro p e s m args below meth c s₁ B hml hv
  obtain ⟨rfl, -⟩ := hv
  have hx := B.exec
  have hb := B.bytes
  have hr := B.returns
  have hlocks := B.notSynchronized
  have hl := lv_entry ([.int o]) (n := 1) (Nat.le_of_ble_eq_true rfl)
  rw [lg_entry_eq]
  generalize (lg_sl ([.int o]) ++ List.replicate (1 - (lg_sl ([.int o])).length) Slot.unset).toArray = ls at hl ⊢
  have hl : lv_has ls 1 [(0, .int o)] := hl
  refine lv_iload_n hx hb dX12_cellsOf_0 rfl (lv_at hl 0 rfl) ?_
  refine lv_bipush (v := 8) hx hb dX12_cellsOf_1 (by decide) ?_
  refine lv_iadd hx hb dX12_cellsOf_3 ?_
  refine lv_bipush (v := 47) hx hb dX12_cellsOf_4 (by decide) ?_
  refine lv_iadd hx hb dX12_cellsOf_6 ?_
  refine lv_bipush (v := 48) hx hb dX12_cellsOf_7 (by decide) ?_
  refine lv_idiv hx hb dX12_cellsOf_9 (by decide) ?_
  exact W.iret hx hb hr (fun t ht _ => ⟨rfl, ht⟩) (fun q h => by cases h) dX12_cellsOf_10
theorem rg_co {x v : Int32} {a b : Int} (e : v = (x + 8 + 47) / 48) (r : rg a b x) (h : (decide (0 ≤ a) && decide (b ≤ 1000000)) = true) : rg ((a + 55) / 48) ((b + 55) / 48) v := by
  rw [Bool.and_eq_true] at h
  have h1 := of_decide_eq_true h.1
  have h2 := of_decide_eq_true h.2
  have r : a ≤ x.toInt ∧ x.toInt ≤ b := r
  have k8 : (8 : Int32).toInt = 8 := by decide
  have k47 : (47 : Int32).toInt = 47 := by decide
  have q1 := ti_add (x := x) (y := 8) (by omega) (by omega)
  have q2 := ti_add (x := x + 8) (y := 47) (by omega) (by omega)
  have q3 := ti_div (x := x + 8 + 47) (y := 48) (k := 48) (by omega) (by decide) (by decide)
  rw [e]
  exact ⟨by omega, by omega⟩
theorem rt_run_rng (o h : Int32) : ∀ n, n ≤ 40 → rg 0 41 (rt_run o h n) := by
  intro n
  induction n with
  | zero => intro _; show rg 0 41 0; exact ⟨by decide, by decide⟩
  | succ n ih =>
    intro hn
    unfold rt_run
    split
    · have q : ∀ k, k < 40 → rg 0 41 (2 + up 40 (k + 1)) := by unfold rg; decide
      exact q n (by omega)
    · exact ih (by omega)
theorem rg_rt {o h v : Int32} (e : v = rt o h) : rg 0 41 v := by
  rw [e]
  unfold rt
  split
  · exact ⟨by decide, by decide⟩
  · exact rt_run_rng o h 40 (by decide)
theorem wm_T {c : Cond} {index : Nat} {y : MethodName} {ws : List Cond} (h1 : Cond.static y ∈ wsU12) (h2 : Cond.methodLink RX12 index y ∈ wsU12) (h3 : Cond.initialized y.cls ∈ wsU12) (hd : ∀ w ∈ ws, w ∈ wsU12) : GoodIn (wm c) (va_wsS RX12 index y ws) := by
  intro w hw
  have hw2 : w ∈ wsU12 := by
    simp only [va_wsS, List.mem_append, List.mem_cons, List.not_mem_nil, or_false] at hw
    rcases hw with (e | e | e) | e
    · rw [e]; assumption
    · rw [e]; assumption
    · rw [e]; assumption
    · exact hd w e
  exact ⟨wm_in hw2, good_of_word (wsU12_good w hw2)⟩
theorem us_hecOf' : ∀ w ∈ wsX12_hecOf, w ∈ wsU12 := by
  intro w h
  simp only [wsX12_hecOf, List.mem_cons, List.not_mem_nil, or_false] at h
  rw [h]; exact uc_hecOf
theorem us_co : ∀ w ∈ wsX12_co, w ∈ wsU12 := by
  intro w h
  simp only [wsX12_co, List.mem_cons, List.not_mem_nil, or_false] at h
  rw [h]; exact uc_cellsOf
theorem us_rt : ∀ w ∈ wsX12_rightness, w ∈ wsU12 := by
  intro w h
  simp only [wsX12_rightness, List.mem_cons, List.not_mem_nil, or_false] at h
  rcases h with e | e | e | e | e <;> rw [e]
  · exact uc_rightness
  · exact ul_267
  · exact ut_hecOf
  · exact u_init
  · exact uc_hecOf
theorem ti_nat {v : Int32} (h : v.toBitVec.toNat < 2147483648) : v.toInt = (v.toBitVec.toNat : Int) := by
  show v.toBitVec.toInt = _
  exact BitVec.toInt_eq_toNat_of_lt (by omega)
theorem rg_ush {x v y : Int32} (e : v = (x.toUInt32 >>> (y.toUInt32 &&& Int32.toUInt32 31)).toInt32) (k : Nat) {hi : Int} (hk : (decide ((((y.toUInt32 &&& Int32.toUInt32 31).toBitVec % 32).toNat) = k) && (decide (1 ≤ k ∧ k ≤ 31) && decide (hi = 2 ^ (32 - k) - 1))) = true) : rg 0 hi v := by
  rw [Bool.and_eq_true, Bool.and_eq_true] at hk
  have h1 := of_decide_eq_true hk.1
  have h2 := of_decide_eq_true hk.2.1
  have h3 := of_decide_eq_true hk.2.2
  have q := pk_ushr x y k h1
  rw [← e] at q
  have hx := x.toBitVec.isLt
  have hp : 2 ^ 32 = 2 ^ (32 - k) * 2 ^ k := by rw [← Nat.pow_add]; congr 1; omega
  have hd : x.toBitVec.toNat / 2 ^ k < 2 ^ (32 - k) := by
    rw [Nat.div_lt_iff_lt_mul (Nat.pow_pos (by decide)), ← hp]
    exact hx
  have h31 : 2 ^ (32 - k) ≤ 2 ^ 31 := Nat.pow_le_pow_right (by decide) (by omega)
  have t := ti_nat (v := v) (by omega)
  have c : ((2 ^ (32 - k) : Nat) : Int) = 2 ^ (32 - k) := by push_cast; rfl
  have z : (v.toBitVec.toNat : Int) < ((2 ^ (32 - k) : Nat) : Int) := by exact_mod_cast (by omega : v.toBitVec.toNat < 2 ^ (32 - k))
  exact ⟨by rw [t]; exact Int.natCast_nonneg _, by rw [t, h3]; omega⟩
theorem rg_shr {x v y : Int32} {a b lo hi : Int} (e : v = x >>> (y &&& 31)) (k : Nat) (r : rg a b x) (hk : (decide (((y &&& 31).toBitVec.smod 32).toNat = k) && (decide (lo = a / 2 ^ k) && decide (hi = b / 2 ^ k))) = true) : rg lo hi v := by
  rw [Bool.and_eq_true, Bool.and_eq_true] at hk
  have h1 := of_decide_eq_true hk.1
  have h2 := of_decide_eq_true hk.2.1
  have h3 := of_decide_eq_true hk.2.2
  have q := pk_shr x (y &&& 31) k h1
  rw [Int.shiftRight_eq_div_pow] at q
  have c : ((2 ^ k : Nat) : Int) = 2 ^ k := by push_cast; rfl
  have p0 : (0 : Int) < 2 ^ k := by rw [← c]; exact_mod_cast Nat.pow_pos (by decide)
  rw [e, h2, h3]
  rw [c] at q
  exact ⟨by rw [q]; exact Int.ediv_le_ediv p0 r.1, by rw [q]; exact Int.ediv_le_ediv p0 r.2⟩
/-- the order of calls as a measure: 0 behind the last one -/
def mord (c w : Int) : Nat := if c < 0 then 0 else (2147483649 - w).toNat
theorem mord_lt {c c' w w' : Int} (hc : 0 ≤ c) (hw : w ≤ 2147483647) (h : 0 ≤ c' → w < w') (hw' : w' ≤ 2147483647) : mord c' w' < mord c w := by
  unfold mord
  rw [if_neg (by omega : ¬ c < 0)]
  by_cases q : c' < 0
  · rw [if_pos q]; omega
  · rw [if_neg q]; have := h (by omega); omega
theorem i32_le (v : Int32) : v.toInt ≤ 2147483647 := (rg_any v).2
theorem rg_inc {x v : Int32} {X Y : Int} (e : v = x + 1) (r : rg 0 X x) (h0 : X ≤ 2000000000) (hY : Y = X + 1) : rg 0 Y v := by
  have r : 0 ≤ x.toInt ∧ x.toInt ≤ X := r
  have k1 : (1 : Int32).toInt = 1 := by decide
  have q := ti_add (x := x) (y := 1) (by omega) (by omega)
  rw [e]
  exact ⟨by omega, by omega⟩
theorem mL.mono {G : mG} {h0 : Nat} {ad : Nat → Nat} {H0 : Heap} {nn X Y : Int} {g : mSt} {H : Heap} {locs : List Loc} (L : mL G h0 ad H0 nn X g H locs) (h : X ≤ Y) : mL G h0 ad H0 nn Y g H locs := ⟨L.1, L.2.1, L.2.2.mono h⟩
theorem co_val {x v : Int32} {a b : Int} (e : v = (x + 8 + 47) / 48) (r : rg a b x) (h : (decide (0 ≤ a) && decide (b ≤ 1000000)) = true) : v.toInt = (x.toInt + 55) / 48 := by
  rw [Bool.and_eq_true] at h
  have h1 := of_decide_eq_true h.1
  have h2 := of_decide_eq_true h.2
  have r : a ≤ x.toInt ∧ x.toInt ≤ b := r
  have k8 : (8 : Int32).toInt = 8 := by decide
  have k47 : (47 : Int32).toInt = 47 := by decide
  have q1 := ti_add (x := x) (y := 8) (by omega) (by omega)
  have q2 := ti_add (x := x + 8) (y := 47) (by omega) (by omega)
  have q3 := ti_div (x := x + 8 + 47) (y := 48) (k := 48) (by omega) (by decide) (by decide)
  rw [e]
  omega
