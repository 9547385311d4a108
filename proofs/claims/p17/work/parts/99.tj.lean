/-! the first world keeps what is counted -/
theorem gz (j i : Nat) (h : ¬ (j = 192 ∨ j = 416 ∨ j = 133 ∨ j = 385 ∨ j = 43 ∨ j = 1536 ∨ j = 1728)) : gI j i = 0 := by
  unfold gI
  rw [if_neg (by omega), if_neg (by omega), if_neg (by omega), if_neg (by omega)]
theorem gzi (j i : Nat) (h : ¬ (j = 192 ∨ j = 416 ∨ j = 133 ∨ j = 385 ∨ j = 43 ∨ j = 1536 ∨ j = 1728)) : (gI j i).toInt = 0 := by
  rw [gz j i h]; decide
theorem gzo (j i : Nat) (h : ¬ (j = 192 ∨ j = 416 ∨ j = 133 ∨ j = 385 ∨ j = 43 ∨ j = 1536 ∨ j = 1728)) : oct (gI j i) := by
  have := gzi j i h
  exact ⟨by omega, by omega⟩
theorem smN_all0 {N : Nat} {F : Nat → Nat} (h : ∀ k, F k = 0) : smN N F = 0 := by
  induction N with
  | zero => rfl
  | succ N ih =>
    show smN N F + F N = 0
    rw [ih, h N]
theorem smZ_all {N : Nat} {F : Nat → Int} (h : ∀ k, F k ≤ 1500) : smZ N F ≤ 1500 * (N : Int) := by
  induction N with
  | zero => exact Int.le_refl _
  | succ N ih =>
    show smZ N F + F N ≤ _
    have := h N
    omega
theorem I_li {e : Nat} : li gI e := by
  refine ⟨?_, fun k _ => ?_, fun x hx => ?_, fun k _ => gzo _ _ (by decide), fun k _ => gzo _ _ (by decide)⟩
  · have := gzi 171 e (by decide)
    have := gzi 170 e (by decide)
    omega
  · have : (snt gI e k).toInt = 0 := gzi 1280 _ (by decide)
    omega
  · unfold wtL at hx
    rw [gzi 198 e (by decide)] at hx
    simp at hx
theorem I_occ {e : Nat} : occ gI e = 0 := by
  unfold occ
  refine List.countP_eq_zero.mpr (fun k _ => ?_)
  have : (ahd gI e k).toInt = 0 := gzi 1280 _ (by decide)
  simp [this]
theorem I_osp {e : Nat} : osp gI e = 0 := by
  unfold osp
  refine smN_all0 (fun k => ?_)
  have : (ahd gI e k).toInt = 0 := gzi 1280 _ (by decide)
  rw [if_neg]
  rintro ⟨h1, -⟩
  omega
theorem I_qL {q : Nat} : qL gI q = [] := by
  unfold qL qSz
  rw [gzi 67 q (by decide)]
  rfl
theorem I_ep {e : Nat} : ep 0 gI e false = 0 := by
  have hf : fl gI e = false := by
    unfold fl
    rw [gzi 164 e (by decide)]
    rfl
  have hw : wtL gI e = [] := by
    unfold wtL
    rw [gzi 198 e (by decide)]
    rfl
  unfold ep pot om
  rw [hf, hw, I_qL]
  rfl
theorem I_EV {e : Nat} : EV gI 0 e := by
  refine ⟨⟨I_li, fun c _ => (by decide : ((-1 : Int32).toInt < 0)), ?_, fun c hc => ?_⟩, ?_, ?_⟩
  · unfold uLn
    rw [gzi 111 _ (by decide)]
    rfl
  · rw [I_qL] at hc
    cases hc
  · have := gzi 135 e (by decide)
    omega
  · unfold ro
    rw [I_occ, gzi 170 e (by decide)]
    exact Nat.le_refl _
theorem I_SV {n e : Nat} : SV n 0 0 gI e := by
  have h1 := gzi 178 (n + e) (by decide)
  have h2 := gzi 180 (n + e) (by decide)
  have h3 := gzi 177 (n + e) (by decide)
  have h4 := gzi 233 (2 * e) (by decide)
  refine ⟨⟨⟨by omega, by omega⟩, ⟨by omega, by omega⟩, by omega, by omega⟩, fun k _ => gzo _ _ (by decide), ⟨by omega, ?_, fun _ => by omega⟩, gzo _ _ (by decide), fun k _ => gzo _ _ (by decide), fun k _ => gzo _ _ (by decide)⟩
  rw [h4]
  exact Int.le_refl _
theorem I_OD {e : Nat} : OD gI e := by
  have h1 := gzi 106 (2 * e) (by decide)
  exact ⟨⟨by omega, by omega⟩, fun k _ _ => gzo _ _ (by decide), fun k _ => gzo _ _ (by decide)⟩
theorem I_GH {f : Nat} : GH gI (false, 1, 0, false, 0) f := by
  refine ⟨⟨⟨fun h => absurd h (by decide), fun h => absurd (gzi 225 (2 * f) (by decide)) h.1⟩, Nat.le_refl _⟩, ⟨fun _ => ⟨idC, idC_good, fun h => absurd (gzi 225 (2 * f) (by decide)) h⟩, fun _ => rfl⟩, Nat.zero_le _⟩
theorem I_uF {n f : Nat} : uF n 0 gI 0 (false, 1, 0, false, 0) f ≤ 1500 := by
  have h1 : lkT false 1 gI (n + f) = 0 := by
    unfold lkT
    rw [if_neg (by simp), I_osp]
    rfl
  have h2 : (ep 0 gI f false : Int) = 0 := by rw [I_ep]; rfl
  have h3 : (dm gI (2 * f) : Int) = 0 := by
    unfold dm qSz
    rw [gzi 106 _ (by decide), gzi 67 _ (by decide)]
    rfl
  have h4 := gzi 135 f (by decide)
  have h5 : (dN 0 gI f : Int) = 0 := rfl
  have h6 : (asN 0 gI f : Int) = 0 := rfl
  show 5 * lkT false 1 gI (n + f) + 1500 * ((1 : Nat) : Int) + 6000 * ((0 : Nat) : Int) + 0 + 6000 * (ep 0 gI f false : Int) - 12 * (lfG gI 0 (n + f) : Int) + 10700 * ((dN 0 gI f : Int) + (dm gI (2 * f) : Int)) + 1458 * (asN 0 gI f : Int) - 1578 * (gI 135 f).toInt ≤ 1500
  omega
theorem I_CI {n : Nat} : CI n 0 gI := by
  have hz : ∀ s, lsZ gI s = 0 := fun s => by
    unfold lsZ
    rw [gzi 386 s (by decide)]
    rfl
  refine ⟨fun f _ => ⟨fun p q h => ?_, fun p h => ?_, ?_, ?_, ?_⟩, fun c h => absurd h (Nat.not_lt_zero c)⟩
  · rw [hz] at h
    exact absurd h (Nat.not_lt_zero p)
  · rw [hz] at h
    exact absurd h (Nat.not_lt_zero p)
  · unfold rtL
    rw [hz]
    exact Nat.zero_le _
  · have := gzi 323 f (by decide)
    omega
  · have := gzi 323 f (by decide)
    omega
theorem MI_init {a e0 sz n : Nat} (hn : 2 ≤ n ∧ n ≤ 4) : MI 0 (zI a e0 sz n) gI := by
  refine ⟨0, Nat.zero_le _, ⟨fun _ => (false, 1, 0, false, 0), hn, I_CI, ⟨fun s _ => Or.inl ?_, ?_, ?_⟩, fun x => gzo _ _ (by decide), fun e _ => ⟨I_EV, I_SV, I_OD⟩, fun f _ => ⟨I_GH, fun h => h.elim, fun _ => ⟨rfl, rfl⟩⟩, ?_⟩, gzi 362 0 (by decide), fun x => gzo _ _ (by decide)⟩
  · have := gzi 1729 s (by decide)
    omega
  · have e : szT n gI = 0 := by
      unfold szT
      refine smN_all0 (fun s => ?_)
      rw [gzi 386 s (by decide)]
      rfl
    show szT n gI ≤ 0
    omega
  · show 121 * 0 ≤ _
    omega
  · have ht : tp gI = 0 := by
      unfold tp
      rw [gzi 361 0 (by decide)]
      rfl
    rw [ht]
    show 5 * (24 * ((0 : Nat) : Int) - (LT n gI ((0 : Nat) : Int) : Int)) + 6 * ((0 : Nat) : Int) + smZ n (fun f => uF n 0 gI ((0 : Nat) : Int) (false, 1, 0, false, 0) f) ≤ _
    have h1 := smZ_all (N := n) (F := fun f => uF n 0 gI ((0 : Nat) : Int) (false, 1, 0, false, 0) f) (fun f => I_uF)
    omega
/-- the room at a call -/
theorem MI.rm {K : Nat} {Z : cZ} {g : mSt} (h : MI K Z g) (hJ : cJ Z g) (hK : K ≤ 512) : RM Z g 599600 6990000 := by
  obtain ⟨t, -, h2, -, -⟩ := h
  refine h2.rm hJ ?_ (by decide) (by decide)
  unfold tp
  split <;> omega
theorem MI.n {K : Nat} {Z : cZ} {g : mSt} (h : MI K Z g) : 2 ≤ Z.n ∧ Z.n ≤ 4 := by
  obtain ⟨t, -, ⟨G, h2⟩, -, -⟩ := h
  exact h2.1
/-! CellSwitchLaw.cell -/
theorem d_cell_0 : decode method_2_code 0 = .ok (.iload_n 1, 1) := by decide +kernel
theorem d_cell_1 : decode method_2_code 1 = .ok (.aload_n 0, 1) := by decide +kernel
theorem d_cell_2 : decode method_2_code 2 = .ok (.arraylength, 1) := by decide +kernel
theorem d_cell_3 : decode method_2_code 3 = .ok (.if_icmp .ge 9, 3) := by decide +kernel
theorem d_cell_6 : decode method_2_code 6 = .ok (.aload_n 0, 1) := by decide +kernel
theorem d_cell_7 : decode method_2_code 7 = .ok (.iload_n 1, 1) := by decide +kernel
theorem d_cell_8 : decode method_2_code 8 = .ok (.iaload, 1) := by decide +kernel
theorem d_cell_9 : decode method_2_code 9 = .ok (.goto 4, 3) := by decide +kernel
theorem d_cell_12 : decode method_2_code 12 = .ok (.iconst 0, 1) := by decide +kernel
theorem d_cell_13 : decode method_2_code 13 = .ok (.ireturn, 1) := by decide +kernel
def rm_cell : Room := { frames := 0, cells := 0, slots := 0, locals := 0 }
def wsCell : List Cond := [Cond.code y_cell method_2_code 2 (some .int)]
def cl0 (L : Nat) (xs : Nat → Int32) : Int32 := if L = 0 then 0 else xs 0
theorem lw_nI {L : Nat} (h : L ≤ 3073) : (Int32.ofNat L).toInt = (L : Int) := Int32.toInt_ofNat_of_lt (by omega)
set_option maxHeartbeats 1000000 in
theorem c_cell (l : Launch) (b L : Nat) (xs : Nat → Int32) (hL : L ≤ 3073) : Met l y_cell wsCell rm_cell (va_Pc [.ref b, .int 0] (fun U => va_X b L xs U U.heap ∧ b < U.heap.size)) (pf_Q (cl0 L xs)) 0 0 (fun _ => False) := by
  refine Met.ofW (cc := method_2_code) (maxL := 2) (ret := some .int) (by decide) rfl ?_
  intro p e s m args below meth c s₁ B hml hv
  obtain ⟨rfl, hX, hbl⟩ := hv
  have hx := B.exec
  have hb := B.bytes
  have hr := B.returns
  have hlocks := B.notSynchronized
  have hl := lv_entry ([.ref b, .int 0]) (n := 2) (Nat.le_of_ble_eq_true rfl)
  rw [lg_entry_eq]
  generalize (lg_sl ([.ref b, .int 0]) ++ List.replicate (2 - (lg_sl ([.ref b, .int 0])).length) Slot.unset).toArray = ls at hl ⊢
  have hl : lv_has ls 2 [(0, .ref b), (1, .int 0)] := hl
  have hS : va_S (fun _ => False) s.heap s.heap [] := va_S.rf
  have z0 : (0 : Int32).toInt = 0 := by decide
  have zL := lw_nI hL
  refine lv_iload_n hx hb d_cell_0 rfl (lv_at hl 1 rfl) ?_
  refine lv_aload_n hx hb d_cell_1 rfl (lv_at hl 0 rfl) ?_
  refine va_slen hx hb hX hbl (fun z => z) hS d_cell_2 ?_
  refine lv_icmp_ge (tgt := 12) hx hb d_cell_3 (by decide) (fun c1 => ?_) (fun c1 => ?_)
  · have h1 := Int32.le_iff_toInt_le.mp c1
    have hL0 : L = 0 := by omega
    refine lv_iconst (v := 0) hx hb d_cell_12 (by decide) ?_
    exact W.iret hx hb hr (fun t ht _ => ⟨by unfold cl0; rw [if_pos hL0], ht⟩) (fun q h => by cases h) d_cell_13
  · have hL0 : L ≠ 0 := fun z => c1 (Int32.le_iff_toInt_le.mpr (by omega))
    refine lv_aload_n hx hb d_cell_6 rfl (lv_at hl 0 rfl) ?_
    refine lv_iload_n hx hb d_cell_7 rfl (lv_at hl 1 rfl) ?_
    refine va_sld hx hb hX hbl (fun z => z) hS (i := 0) ?_ d_cell_8 ?_
    · intro q
      rcases q with q | q
      · exact absurd q (by decide)
      · have : (0 : Int32).toNatClampNeg = 0 := by decide
        omega
    refine lv_goto (tgt := 13) hx hb d_cell_9 (by decide) ?_
    exact W.iret hx hb hr (fun t ht _ => ⟨by unfold cl0; rw [if_neg hL0]; rfl, ht⟩) (fun q h => by cases h) d_cell_13
