/-! THE LAW'S LOOP -/
theorem lw_vp {x : Int32} {L : Nat} (h1 : 0 ≤ x.toInt) (h2 : x.toInt < (L : Int)) : vp_in x L := by
  intro q
  rcases q with q | q
  · have := Int32.lt_iff_toInt_lt.mp q
    have z : (0 : Int32).toInt = 0 := by decide
    omega
  · have : x.toNatClampNeg = x.toInt.toNat := rfl
    omega
section LawLoop
variable {p : Program} {l : Launch} {e : Env} {s : State} {m : MethodId} {below : List Frame} {meth : Method} {c : Code} {H : Heap} {locs : List Loc} {Q : State → Prop}
variable {ls : Array Slot} {G : cG} {Gm : mG} {h0 : Nat} {ad : Nat → Nat} {Z : cZ} {g gm : mSt} {A : Nat → Prop} {b L0 : Nat} {xs : Nat → Int32} {nn : Int} {K : Nat} {i : Int32}
set_option maxHeartbeats 2000000 in
theorem lw_disp (I : lwI p c s m G Gm A h0 ad b L0 xs nn K i ls Z g gm H locs) (hi0 : vp_in i L0) (kk : lwE p l e c s m below meth G Gm A h0 ad b nn K ls Z Q) : W p l e room_1 s m #[Value.ref b] below meth c H locs (392 + Z.w 0) (307970 + Z.w 1) Q (F0 m 37 ls []) := by
  have I' := I
  obtain ⟨x, hml, L, hJ, hMI, hm, hmJ, hKm, hnn, hK, ⟨hX, hbl, hbA⟩, ⟨hl, hT⟩, hin⟩ := I'
  have hx := x.1.1
  have hb := x.1.2.1
  refine lv_aload_n hx hb d_law_37 rfl (lv_at hl 0 rfl) ?_
  refine lv_iload_n hx hb d_law_38 rfl (lv_at hl 3 rfl) ?_
  refine va_sld hx hb hX hbl hbA L.2.1 hi0 d_law_39 ?_
  refine lv_bipush (v := 31) hx hb d_law_40 (by decide) ?_
  refine lv_iand hx hb d_law_42 ?_
  refine lv_topi (fun y ey => ?_)
  by_cases ho : y.toInt < 0 ∨ 19 < y.toInt
  · refine lv_tableOut (tgt := 846) hx hb d_law_43 ho (by decide) ?_
    exact kk Z g gm H locs x ⟨L.1, L.2.1, L.2.2.mono (by omega)⟩ hJ hMI.sc ⟨hm.1, hm.2.1.mono (by omega), hm.2.2⟩ hmJ rfl hT
  rcases (by omega : y.toInt = 0 ∨ y.toInt = 1 ∨ y.toInt = 2 ∨ y.toInt = 3 ∨ y.toInt = 4 ∨ y.toInt = 5 ∨ y.toInt = 6 ∨ y.toInt = 7 ∨ y.toInt = 8 ∨ y.toInt = 9 ∨ y.toInt = 10 ∨ y.toInt = 11 ∨ y.toInt = 12 ∨ y.toInt = 13 ∨ y.toInt = 14 ∨ y.toInt = 15 ∨ y.toInt = 16 ∨ y.toInt = 17 ∨ y.toInt = 18 ∨ y.toInt = 19) with h | h | h | h | h | h | h | h | h | h | h | h | h | h | h | h | h | h | h | h
  · exact lv_tableIn (off := 93) (tgt := 136) hx hb d_law_43 (by omega) (by omega) (by rw [h]; rfl) (by decide) (lw_case0 I kk)
  · exact lv_tableIn (off := 156) (tgt := 199) hx hb d_law_43 (by omega) (by omega) (by rw [h]; rfl) (by decide) (lw_case1 I kk)
  · exact lv_tableIn (off := 179) (tgt := 222) hx hb d_law_43 (by omega) (by omega) (by rw [h]; rfl) (by decide) (lw_case2 I kk)
  · exact lv_tableIn (off := 202) (tgt := 245) hx hb d_law_43 (by omega) (by omega) (by rw [h]; rfl) (by decide) (lw_case3 I kk)
  · exact lv_tableIn (off := 245) (tgt := 288) hx hb d_law_43 (by omega) (by omega) (by rw [h]; rfl) (by decide) (lw_case4 I kk)
  · exact lv_tableIn (off := 278) (tgt := 321) hx hb d_law_43 (by omega) (by omega) (by rw [h]; rfl) (by decide) (lw_case5 I kk)
  · exact lv_tableIn (off := 321) (tgt := 364) hx hb d_law_43 (by omega) (by omega) (by rw [h]; rfl) (by decide) (lw_case6 I kk)
  · exact lv_tableIn (off := 354) (tgt := 397) hx hb d_law_43 (by omega) (by omega) (by rw [h]; rfl) (by decide) (lw_case7 I kk)
  · exact lv_tableIn (off := 397) (tgt := 440) hx hb d_law_43 (by omega) (by omega) (by rw [h]; rfl) (by decide) (lw_case8 I kk)
  · exact lv_tableIn (off := 420) (tgt := 463) hx hb d_law_43 (by omega) (by omega) (by rw [h]; rfl) (by decide) (lw_case9 I kk)
  · exact lv_tableIn (off := 463) (tgt := 506) hx hb d_law_43 (by omega) (by omega) (by rw [h]; rfl) (by decide) (lw_case10 I kk)
  · exact lv_tableIn (off := 506) (tgt := 549) hx hb d_law_43 (by omega) (by omega) (by rw [h]; rfl) (by decide) (lw_case11 I kk)
  · exact lv_tableIn (off := 549) (tgt := 592) hx hb d_law_43 (by omega) (by omega) (by rw [h]; rfl) (by decide) (lw_case12 I kk)
  · exact lv_tableIn (off := 582) (tgt := 625) hx hb d_law_43 (by omega) (by omega) (by rw [h]; rfl) (by decide) (lw_case13 I kk)
  · exact lv_tableIn (off := 605) (tgt := 648) hx hb d_law_43 (by omega) (by omega) (by rw [h]; rfl) (by decide) (lw_case14 I kk)
  · exact lv_tableIn (off := 628) (tgt := 671) hx hb d_law_43 (by omega) (by omega) (by rw [h]; rfl) (by decide) (lw_case15 I kk)
  · exact lv_tableIn (off := 691) (tgt := 734) hx hb d_law_43 (by omega) (by omega) (by rw [h]; rfl) (by decide) (lw_case16 I kk)
  · exact lv_tableIn (off := 724) (tgt := 767) hx hb d_law_43 (by omega) (by omega) (by rw [h]; rfl) (by decide) (lw_case17 I kk)
  · exact lv_tableIn (off := 767) (tgt := 810) hx hb d_law_43 (by omega) (by omega) (by rw [h]; rfl) (by decide) (lw_case18 I kk)
  · exact lv_tableIn (off := 780) (tgt := 823) hx hb d_law_43 (by omega) (by omega) (by rw [h]; rfl) (by decide) (lw_case19 I kk)
/-- the loop's head: its end, or one round more -/
theorem lw_head (hL : L0 ≤ 3073) (C0 : lw_At p s m meth c b L0 xs) (hK : K ≤ 512) (x : cXA p c code s #[Value.ref b] lwT m G Z (fun q => s.heap.size ≤ q) R_law s.heap) {X : Int} (L : cL G Z (fun q => s.heap.size ≤ q) s.heap X g H locs) (hJ : cJ Z g) (hMI : MI K Z g) {a2 h2 : Nat} (hl : lv_has ls 4 [(0, .ref b), (1, .ref a2), (2, .ref h2), (3, .int i)])
    (kk : i.toInt + 6 ≤ (L0 : Int) → W p l e room_1 s m #[Value.ref b] below meth c H locs (392 + Z.w 0) (307970 + Z.w 1) (lw_Z below #[Value.ref b] s) (F0 m 37 ls [])) : W p l e room_1 s m #[Value.ref b] below meth c H locs (392 + Z.w 0) (307970 + Z.w 1) (lw_Z below #[Value.ref b] s) (F0 m 28 ls []) := by
  obtain ⟨hx, hb, hr, hml, hown, hts, hX, hbl, hlocks, hgv⟩ := C0
  have hbA : ¬ (fun q : Nat => s.heap.size ≤ q) b := Nat.not_le.mpr hbl
  have hrm := hMI.rm hJ hK
  have zL := lw_nI hL
  have z6 : (6 : Int32).toInt = 6 := by decide
  refine lv_iload_n hx hb d_law_28 rfl (lv_at hl 3 rfl) ?_
  refine lv_aload_n hx hb d_law_29 rfl (lv_at hl 0 rfl) ?_
  refine va_slen hx hb hX hbl hbA L.2.1 d_law_30 ?_
  refine lv_bipush (v := 6) hx hb d_law_31 (by decide) ?_
  refine lv_isub hx hb d_law_33 ?_
  refine lv_topi (fun y ey => ?_)
  have hy := (rg_sub (a := 0) (b := 3073) (c := 6) (d := 6) ey ⟨by omega, by omega⟩ ⟨by omega, by omega⟩ rfl).2
  refine lv_icmp_gt (tgt := 852) hx hb d_law_34 (by decide) (fun c1 => ?_) (fun c1 => ?_)
  · refine lv_iconst (v := 1) hx hb d_law_852 (by decide) ?_
    refine va_forget (fun q hq => L.2.1.2.2 q hq) ?_
    refine W.widen (k := 600000) (n := 7302250) (by have := hrm.2.1; omega) (by have := hrm.2.2.1; omega) ?_
    exact lw_ret hx hb hr hlocks d_law_853
  · refine kk ?_
    have := Int32.le_iff_toInt_le.mp (rg_nlt c1)
    omega
theorem lw_loop (hL : L0 ≤ 3073) (C0 : lw_At p s m meth c b L0 xs) (hts : ∀ w ∈ lwT, w.before #[Value.ref b] s = true) (hKm : mK Gm s ∧ mAp h0 ad) (hnn : 2 ≤ nn ∧ nn ≤ 4) : ∀ (d K : Nat), K + d = 512 → ∀ (i : Int32) (ls : Array Slot) (Z : cZ) (g gm : mSt) (H : Heap) (locs : List Loc), i.toInt = 1 + 6 * (K : Int) → cXA p c code s #[Value.ref b] lwT m G Z (fun q => s.heap.size ≤ q) R_law s.heap → cL G Z (fun q => s.heap.size ≤ q) s.heap (848000 * (K : Int)) g H locs → cJ Z g → MI K Z g → lwM Gm h0 ad nn (84800 * (K : Int)) gm s Z H → mJ nn [] gm → dmR Z nn g gm → lv_has ls 4 [(0, .ref b), (1, .ref (Z.ad 11 0)), (2, .ref h0), (3, .int i)] →
    W p l e room_1 s m #[Value.ref b] below meth c H locs (392 + Z.w 0) (307970 + Z.w 1) (lw_Z below #[Value.ref b] s) (F0 m 28 ls []) := by
  intro d
  induction d with
  | zero =>
    intro K hKd i ls Z g gm H locs hi x L hJ hMI hm hmJ hT hl
    exact lw_head hL C0 (by omega) x L hJ hMI hl (fun h => by omega)
  | succ d ih =>
    intro K hKd i ls Z g gm H locs hi x L hJ hMI hm hmJ hT hl
    refine lw_head hL C0 (by omega) x L hJ hMI hl (fun h => ?_)
    have C1 := C0
    obtain ⟨hx, hb, hr, hml, hown, -, hX, hbl, hlocks, hgv⟩ := C1
    have hbA : ¬ (fun q : Nat => s.heap.size ≤ q) b := Nat.not_le.mpr hbl
    refine lw_disp ⟨x, hml, L, hJ, hMI, hm, hmJ, hKm, hnn, by omega, ⟨hX, hbl, hbA⟩, ⟨hl, hT⟩, fun j h1 h2 => ?_⟩ (lw_vp (by omega) (by omega)) (fun Z1 g1 gm1 H1 locs1 x1 L1 hJ1 hMI1 hm1 hmJ1 ea hT1 => ?_)
    · have hj := (rg_add (x := i) (y := j) (a := 0) (b := 3073) (c := 1) (d := 5) rfl ⟨by omega, by omega⟩ ⟨h1, h2⟩ rfl).2
      exact lw_vp (by omega) (by omega)
    · have z6 : (Int32.ofInt 6).toInt = 6 := by decide
      have h6 := (rg_add (x := i) (y := Int32.ofInt 6) (a := 0) (b := 3073) (c := 6) (d := 6) rfl ⟨by omega, by omega⟩ ⟨by omega, by omega⟩ rfl).2
      refine lv_iinc (v := i + Int32.ofInt 6) (lv' := [(3, .int (i + Int32.ofInt 6)), (0, .ref b), (1, .ref (Z.ad 11 0)), (2, .ref h0)]) hx hb d_law_846 hl (k := 3) rfl rfl (by decide) rfl (fun ls hl => ?_)
      refine lv_goto (tgt := 28) hx hb d_law_849 (by decide) ?_
      exact ih (K + 1) (by omega) _ ls Z1 g1 gm1 H1 locs1 (by rw [h6]; omega) x1 L1 hJ1 hMI1 hm1 hmJ1 hT1 (by rw [ea]; exact lv_sub hl [1, 2, 3, 0] rfl)
end LawLoop
