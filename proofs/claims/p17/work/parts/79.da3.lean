def rn_kaddFrame : Room := { frames := 3, cells := 6, slots := 968, locals := 71 }
def im_kaddFrame (i0 : Nat) (q1 : Nat) (p2 : Int32) : List (Nat × Nat × Nat) := [(44, 0, 0), (45, 0, 0), (47, i0, 1), (48, i0, 1), (49, i0, 1), (1184, 0, 0), (1216, 0, 0)]
def po_kaddFrame (Z : cZ) (i0 : Nat) (q1 : Nat) (p2 : Int32) (g : mSt) (r : Int32) (Z1 : cZ) (g1 : mSt) : Prop := mFi (im_kaddFrame i0 q1 p2) g g1 ∧ mFr [44, 45, 47, 48, 49, 1184, 1216] g g1 ∧ rg (0) (1) r ∧ cJ Z1 g1 ∧ Z1.w 2 ≤ Z.w 2 + 0 ∧ True
def wp_kaddFrame (Z : cZ) (i0 : Nat) (q1 : Nat) (p2 : Int32) (g : mSt) (Φ : Int32 → cZ → mSt → Prop) : Prop :=
  ∀ (v1 : Int32), v1 = g 48 i0 → rg (0) (4) v1 → ((4 ≤ v1.toInt) → Φ (0 : Int32) Z g) ∧ ((v1.toInt < 4) → ((p2.toInt < 1) → Φ (0 : Int32) Z g) ∧ ((1 ≤ p2.toInt) → ((200 < p2.toInt) → Φ (0 : Int32) Z g) ∧ ((p2.toInt ≤ 200) → ((p2.toInt ≤ 200) → ∀ (v12 : Int32), v12 = g 44 i0 → ((v12.toInt < 0) → ∀ (Z_18 : cZ), Z_18 = Z → ∀ (Z : cZ) (v18 : Int32) (g18 : mSt), cZl Z_18 Z 6 968 → Z.w 2 = Z_18.w 2 → Z.w 3 = Z_18.w 3 + 968 → cJ Z g18 → g18 = gFr g i0 v18 → v18.toInt = ((i0 : Nat) : Int) → ∀ (g19 : mSt), g19 = up2 g18 47 i0 (0 : Int32) → ∀ (g20 : mSt), g20 = up2 g19 49 i0 (0 : Int32) → ∀ (v24 : Int32), v24 = (0 : Int32) + v1 → rg (0) (3) v24 → v24.toInt = 0 + v1.toInt → ∀ (v26 : Int32), v26 = v24 - v24 / (4 : Int32) * (4 : Int32) → rg (0) (3) v26 → v26.toInt = v24.toInt % 4 → ∀ (g32 : mSt), g32 = cCpy g20 1152 (8192 * q1 + (0 : Int32).toNatClampNeg) 1216 (8192 * (4 * i0 + v26.toInt.toNat) + (0 : Int32).toNatClampNeg) p2.toNatClampNeg → wp_kcloseFrame_38 Z (4 * i0 + v26.toInt.toNat) p2 g32 (fun (v41 : Int32) (g40 : mSt) => po_kcloseFrame_38 Z (4 * i0 + v26.toInt.toNat) p2 g32 v41 g40 → ∀ (g42 : mSt), g42 = up2 g40 1184 (8192 * i0 + v26.toNatClampNeg) v41 → ∀ (v44 : Int32), v44 = v1 + (1 : Int32) → rg (1) (4) v44 → v44.toInt = v1.toInt + 1 → ∀ (g46 : mSt), g46 = up2 g42 48 i0 v44 → Φ (1 : Int32) Z g46)) ∧ ((0 ≤ v12.toInt) → ∀ (v47 : Int32), v47 = g 45 i0 → ((v47.toInt < 0) → ∀ (Z_53 : cZ), Z_53 = Z → ∀ (Z : cZ) (v53 : Int32) (g53 : mSt), cZl Z_53 Z 6 968 → Z.w 2 = Z_53.w 2 → Z.w 3 = Z_53.w 3 + 968 → cJ Z g53 → g53 = gFr g i0 v53 → v53.toInt = ((i0 : Nat) : Int) → ∀ (g54 : mSt), g54 = up2 g53 47 i0 (0 : Int32) → ∀ (g55 : mSt), g55 = up2 g54 49 i0 (0 : Int32) → ∀ (v59 : Int32), v59 = (0 : Int32) + v1 → rg (0) (3) v59 → v59.toInt = 0 + v1.toInt → ∀ (v61 : Int32), v61 = v59 - v59 / (4 : Int32) * (4 : Int32) → rg (0) (3) v61 → v61.toInt = v59.toInt % 4 → ∀ (g67 : mSt), g67 = cCpy g55 1152 (8192 * q1 + (0 : Int32).toNatClampNeg) 1216 (8192 * (4 * i0 + v61.toInt.toNat) + (0 : Int32).toNatClampNeg) p2.toNatClampNeg → wp_kcloseFrame_38 Z (4 * i0 + v61.toInt.toNat) p2 g67 (fun (v76 : Int32) (g75 : mSt) => po_kcloseFrame_38 Z (4 * i0 + v61.toInt.toNat) p2 g67 v76 g75 → ∀ (g77 : mSt), g77 = up2 g75 1184 (8192 * i0 + v61.toNatClampNeg) v76 → ∀ (v79 : Int32), v79 = v1 + (1 : Int32) → rg (1) (4) v79 → v79.toInt = v1.toInt + 1 → ∀ (g81 : mSt), g81 = up2 g77 48 i0 v79 → Φ (1 : Int32) Z g81)) ∧ ((0 ≤ v47.toInt) → ∀ (v82 : Int32), v82 = g 47 i0 → rg (0) (3) v82 → ∀ (v84 : Int32), v84 = v82 + v1 → rg (0) (6) v84 → v84.toInt = v82.toInt + v1.toInt → ∀ (v85 : Int32), v85 = v84 - v84 / (4 : Int32) * (4 : Int32) → rg (0) (3) v85 → v85.toInt = v84.toInt % 4 → ∀ (g91 : mSt), g91 = cCpy g 1152 (8192 * q1 + (0 : Int32).toNatClampNeg) 1216 (8192 * (4 * i0 + v85.toInt.toNat) + (0 : Int32).toNatClampNeg) p2.toNatClampNeg → wp_kcloseFrame_38 Z (4 * i0 + v85.toInt.toNat) p2 g91 (fun (v100 : Int32) (g99 : mSt) => po_kcloseFrame_38 Z (4 * i0 + v85.toInt.toNat) p2 g91 v100 g99 → ∀ (g101 : mSt), g101 = up2 g99 1184 (8192 * i0 + v85.toNatClampNeg) v100 → ∀ (v103 : Int32), v103 = v1 + (1 : Int32) → rg (1) (4) v103 → v103.toInt = v1.toInt + 1 → ∀ (g105 : mSt), g105 = up2 g101 48 i0 v103 → Φ (1 : Int32) Z g105)))) ∧ ((200 < p2.toInt) → True))))
set_option maxHeartbeats 4000000 in
set_option maxRecDepth 100000 in
theorem d_kaddFrame (l : Launch) {G : cG} {Z : cZ} (X : Int) (g : mSt) (i0 : Nat) (q1 : Nat) (p2 : Int32) (sz : Nat) (hX : 0 ≤ X ∧ X ≤ 2000000000) (hJ : cJ Z g) (hw2 : Z.w 2 + 0 ≤ 1000000) (hal0 : Z.al 1 i0) (hq1 : Z.al 36 q1) {Φ : Int32 → cZ → mSt → Prop} (hW : wfP (wp_kaddFrame Z i0 q1 p2 g Φ)) : Met l yX1_addFrame (wk (Cond.code yX1_addFrame cX1_addFrame 4 (some .boolean))) (rn_kaddFrame) (va_Pc [.ref (Z.ad 1 i0), .ref (Z.ad 36 q1), .int p2] (cPreA G Z X g sz)) (kE 6 (968) (cAf Z sz) (cQiA G Z X (fun r Z1 g1 => wfP (Φ r Z1 g1) ∧ mFi (im_kaddFrame i0 q1 p2) g g1 ∧ (mFr [44, 45, 47, 48, 49, 1184, 1216] g g1 ∧ rg (0) (1) r ∧ cJ Z1 g1 ∧ Z1.w 2 ≤ Z.w 2 + 0 ∧ True)))) 6 (968) (cAf Z sz) := by
  refine Met.ofW (cc := cX1_addFrame) (maxL := 4) (ret := (some .boolean)) (by decide) rfl ?_
  intro p e s m args below meth c s₁ B hml hv
  obtain ⟨hav, hv⟩ := hv
  have hsz0 := hv.2.1
  subst hsz0
  have hr := B.returns
  have hlocks := B.notSynchronized
  obtain ⟨xa, L⟩ := k_start B rfl (fun w h => wk_in h) hv
  have hent : entryFrame m args 4 = entryFrame m ([.ref (Z.ad 1 i0), .ref (Z.ad 36 q1), .int p2] : List Value).toArray 4 := by rw [hav]
  rw [hent]
  have hl := lv_entry ([.ref (Z.ad 1 i0), .ref (Z.ad 36 q1), .int p2]) (n := 4) (Nat.le_of_ble_eq_true rfl)
  rw [lg_entry_eq]
  generalize (lg_sl ([.ref (Z.ad 1 i0), .ref (Z.ad 36 q1), .int p2]) ++ List.replicate (4 - (lg_sl ([.ref (Z.ad 1 i0), .ref (Z.ad 36 q1), .int p2])).length) Slot.unset).toArray = ls at hl ⊢
  have hl : lv_has ls 4 [(0, .ref (Z.ad 1 i0)), (1, .ref (Z.ad 36 q1)), (2, .int p2)] := hl
  have x := xa.1
  have hx := x.1
  have hb := x.2.1
  have hz := x.2.2.2.2.2.2.2.1
  have hzn := hz.1
  have hzl : cZl Z Z 0 0 := cZl.rf
  have hcs : 0 ≤ 6 ∧ 0 ≤ 968 := ⟨Nat.zero_le _, Nat.zero_le _⟩
  have up2 : (-2147483648 : Int) ≤ p2.toInt ∧ p2.toInt ≤ 2147483647 := (rg_any p2)
  refine lv_aload_n hx hb dX1_addFrame_0 rfl (lv_at hl 0 rfl) ?_
  refine c_geti x L 1 i0 16 48 hal0 rfl rfl (wk_in kf_X1_50) dX1_addFrame_1 (fun v1 ev1 wv1 => ?_)
  have rv1 : rg (0) (4) v1 := clj_48 wv1
  replace hW := (wfP_i (wfP_i (wfP_a hW v1) ev1) rv1)
  have uv1 : (0 : Int) ≤ v1.toInt ∧ v1.toInt ≤ 4 := rv1
  have sv1 := congrArg Int32.toInt ev1
  refine lv_iconst (v := 4) hx hb dX1_addFrame_4 (by decide) ?_
  refine lv_icmp_ge (tgt := 26) hx hb dX1_addFrame_5 (by decide) (fun c5_2 => ?_) (fun c5_2 => ?_)
  · skip
    replace hW := wfP_i (wfP_l hW) (i_le c5_2 (rg_i kc_4) rfl)
    have ic5_2 := Int32.le_iff_toInt_le.mp c5_2
    have q3 : rg (4) (4) v1 := (rg_le c5_2 kc_4 rv1).2
    have uq3 : (4 : Int) ≤ v1.toInt ∧ v1.toInt ≤ 4 := q3
    refine lv_iconst (v := 0) hx hb dX1_addFrame_26 (by decide) ?_
    exact k_zret (v := (0 : Int32)) xa L hr hlocks (k_nar (rg_w kc_0 rfl)) (Int.le_refl _) hzl ⟨hW, mFi.rf, mFr.rf, rg_w kc_0 rfl, hJ, (by omega), trivial⟩ hcs.1 hcs.2 dX1_addFrame_27
  · skip
    replace hW := wfP_i (wfP_r hW) (i_lt (rg_nle c5_2) rfl (rg_i kc_4))
    have ic5_2 := Int32.lt_iff_toInt_lt.mp (rg_nle c5_2)
    have q4 : rg (0) (3) v1 := (rg_lt (rg_nle c5_2) rv1 kc_4).1
    have uq4 : (0 : Int) ≤ v1.toInt ∧ v1.toInt ≤ 3 := q4
    refine lv_iload_n hx hb dX1_addFrame_8 rfl (lv_at hl 2 rfl) ?_
    refine lv_iconst (v := 1) hx hb dX1_addFrame_9 (by decide) ?_
    refine lv_icmp_lt (tgt := 26) hx hb dX1_addFrame_10 (by decide) (fun c10_5 => ?_) (fun c10_5 => ?_)
    · skip
      replace hW := wfP_i (wfP_l hW) (i_lt c10_5 rfl (rg_i kc_1))
      have ic10_5 := Int32.lt_iff_toInt_lt.mp c10_5
      have q6 : rg (-2147483648) (0) p2 := (rg_lt c10_5 (rg_any p2) kc_1).1
      have uq6 : (-2147483648 : Int) ≤ p2.toInt ∧ p2.toInt ≤ 0 := q6
      refine lv_iconst (v := 0) hx hb dX1_addFrame_26 (by decide) ?_
      exact k_zret (v := (0 : Int32)) xa L hr hlocks (k_nar (rg_w kc_0 rfl)) (Int.le_refl _) hzl ⟨hW, mFi.rf, mFr.rf, rg_w kc_0 rfl, hJ, (by omega), trivial⟩ hcs.1 hcs.2 dX1_addFrame_27
    · skip
      replace hW := wfP_i (wfP_r hW) (i_le (rg_nlt c10_5) (rg_i kc_1) rfl)
      have ic10_5 := Int32.le_iff_toInt_le.mp (rg_nlt c10_5)
      have q7 : rg (1) (2147483647) p2 := (rg_le (rg_nlt c10_5) kc_1 (rg_any p2)).2
      have uq7 : (1 : Int) ≤ p2.toInt ∧ p2.toInt ≤ 2147483647 := q7
      refine lv_iload_n hx hb dX1_addFrame_13 rfl (lv_at hl 2 rfl) ?_
      refine lv_sipush (v := 200) hx hb dX1_addFrame_14 (by decide) ?_
      refine lv_icmp_gt (tgt := 26) hx hb dX1_addFrame_17 (by decide) (fun c17_8 => ?_) (fun c17_8 => ?_)
      · skip
        replace hW := wfP_i (wfP_l hW) (i_lt c17_8 (rg_i kc_200) rfl)
        have ic17_8 := Int32.lt_iff_toInt_lt.mp c17_8
        have q9 : rg (201) (2147483647) p2 := (rg_lt c17_8 kc_200 q7).2
        have uq9 : (201 : Int) ≤ p2.toInt ∧ p2.toInt ≤ 2147483647 := q9
        refine lv_iconst (v := 0) hx hb dX1_addFrame_26 (by decide) ?_
        exact k_zret (v := (0 : Int32)) xa L hr hlocks (k_nar (rg_w kc_0 rfl)) (Int.le_refl _) hzl ⟨hW, mFi.rf, mFr.rf, rg_w kc_0 rfl, hJ, (by omega), trivial⟩ hcs.1 hcs.2 dX1_addFrame_27
      · skip
        replace hW := wfP_i (wfP_r hW) (i_le (rg_nlt c17_8) rfl (rg_i kc_200))
        have ic17_8 := Int32.le_iff_toInt_le.mp (rg_nlt c17_8)
        have q10 : rg (1) (200) p2 := (rg_le (rg_nlt c17_8) q7 kc_200).1
        have uq10 : (1 : Int) ≤ p2.toInt ∧ p2.toInt ≤ 200 := q10
        refine lv_iload_n hx hb dX1_addFrame_20 rfl (lv_at hl 2 rfl) ?_
        refine lv_aload_n hx hb dX1_addFrame_21 rfl (lv_at hl 1 rfl) ?_
        refine c_len (n := 200) x L 36 q1 hq1 rfl (by decide) dX1_addFrame_22 ?_
        refine lv_icmp_le (tgt := 28) hx hb dX1_addFrame_23 (by decide) (fun c23_11 => ?_) (fun c23_11 => ?_)
        · skip
          replace hW := wfP_i (wfP_l hW) (i_le c23_11 rfl (rg_i kc_200))
          have ic23_11 := Int32.le_iff_toInt_le.mp c23_11
          refine lv_aload_n hx hb dX1_addFrame_28 rfl (lv_at hl 0 rfl) ?_
          obtain ⟨v12, ev12⟩ : ∃ y : Int32, y = g 44 i0 := ⟨_, rfl⟩
          replace hW := (wfP_i (wfP_a hW v12) ev12)
          rcases (show v12.toInt < 0 ∨ 0 ≤ v12.toInt from (by omega)) with hc13 | hc13
          · skip
            replace hW := wfP_i (wfP_l hW) hc13
            have q14 : rg (-2147483648) (-1) v12 := ⟨(rg_any v12).1, by omega⟩
            refine c_geto (w := .null) x L 1 i0 12 44 hal0 rfl rfl (by show va_rf (cOpt Z 53 (g 44 i0)) = _; rw [← ev12, cOpt_none (by omega)]; rfl) (wk_in kf_X1_38) dX1_addFrame_29 ?_
            refine lv_ifnullN (tgt := 42) hx hb dX1_addFrame_32 (by decide) ?_
            refine lv_aload_n hx hb dX1_addFrame_42 rfl (lv_at hl 0 rfl) ?_
            refine lv_iconst (v := 4) hx hb dX1_addFrame_43 (by decide) ?_
            refine lv_sipush (v := 240) hx hb dX1_addFrame_44 (by decide) ?_
            replace hW := wfP_i (wfP_a hW Z) rfl
            refine d_frames xa L i0 hal0 hJ (by omega) (lv_at hl 0 rfl) (show 0 + 6 ≤ 6 by omega) (show 0 + 968 ≤ 968 by omega) (fun v18 Z g18 H18 k18 hz18 hww18 hw318 xa L18 hJ18 eg18 hv18 => ?_)
            replace hW := (wfP_i (wfP_i (wfP_i (wfP_i (wfP_i (wfP_i (wfP_a (wfP_a (wfP_a hW Z) v18) g18) hz18) hww18) hw318) hJ18) eg18) hv18)
            have fr18 : mFr [44, 45, 1184, 1216] g g18 := by rw [eg18]; exact mFr_frm
            have ea18_0 := hz18.2.2.1 1 i0 hal0 (by omega)
            have ea18_1 := hz18.2.2.1 36 q1 hq1 (by omega)
            rw [← ea18_0] at hl
            rw [← ea18_1] at hl
            have al18_0 := hz18.2.1 1 i0 hal0
            have al18_1 := hz18.2.1 36 q1 hq1
            have hZn18 := hz18.1
            have x := xa.1
            have hz := x.2.2.2.2.2.2.2.1
            have hzn := hz.1
            have rv18 : rg (0) (2147483647) v18 := ⟨by omega, (rg_any v18).2⟩
            have e44_18 : v18 = g18 44 i0 := by rw [eg18]; exact gFr_44.symm
            have e45_18 : v18 = g18 45 i0 := by rw [eg18]; exact gFr_45.symm
            have hzl := cZl.tr hzl hz18
            have hcs : 0 + 6 ≤ 6 ∧ 0 + 968 ≤ 968 := by omega
            refine lv_aload_n hx hb dX1_addFrame_61 rfl (lv_at hl 0 rfl) ?_
            refine lv_iconst (v := 0) hx hb dX1_addFrame_62 (by decide) ?_
            refine c_puti x L18 1 i0 15 47 al18_0 rfl rfl ⟨rfl, by decide +kernel⟩ (wk_in kf_X1_69) dX1_addFrame_63 (crj_47 (rg_w kc_0 rfl)) (fun g19 H19 k19 eg19 L19 => ?_)
            replace hW := (wfP_i (wfP_a hW g19) eg19)
            refine lv_aload_n hx hb dX1_addFrame_66 rfl (lv_at hl 0 rfl) ?_
            refine lv_iconst (v := 0) hx hb dX1_addFrame_67 (by decide) ?_
            refine c_puti x L19 1 i0 17 49 al18_0 rfl rfl ⟨rfl, by decide +kernel⟩ (wk_in kf_X1_72) dX1_addFrame_68 (crj_49 (rg_w kc_0 rfl)) (fun g20 H20 k20 eg20 L20 => ?_)
            replace hW := (wfP_i (wfP_a hW g20) eg20)
            have hJ21 := cJ_49 (cJ_up hJ18 eg19 rfl) eg20 (Int.le_trans kc_0.2 (by decide))
            refine lv_aload_n hx hb dX1_addFrame_71 rfl (lv_at hl 0 rfl) ?_
            refine c_geti x L20 1 i0 15 47 al18_0 rfl rfl (wk_in kf_X1_69) dX1_addFrame_72 (fun v22 ev22 wv22 => ?_)
            refine m_top (((mm_up (mm_st eg19) eg20 rfl)).trans ev22.symm) ?_
            refine lv_aload_n hx hb dX1_addFrame_75 rfl (lv_at hl 0 rfl) ?_
            refine c_geti x L20 1 i0 16 48 al18_0 rfl rfl (wk_in kf_X1_50) dX1_addFrame_76 (fun v23 ev23 wv23 => ?_)
            refine m_top (((mm_up (mm_up (mm_fr ev1 fr18 rfl) eg19 rfl) eg20 rfl)).trans ev23.symm) ?_
            refine lv_iadd hx hb dX1_addFrame_79 ?_
            refine lv_topi (fun v24 ev24 => ?_)
            have rv24 : rg (0) (3) v24 := (rg_add ev24 kc_0 q4 rfl).1
            replace hW := (wfP_i (wfP_i (wfP_i (wfP_a hW v24) ev24) rv24) (w_iadd ((rg_add ev24 kc_0 q4 rfl).2) (rg_i kc_0) rfl))
            have tv24 := (rg_add ev24 kc_0 q4 rfl).2
            have y25 : (0 : Int32).toInt = 0 := by decide
            have uv24 : (0 : Int) ≤ v24.toInt ∧ v24.toInt ≤ 3 := rv24
            refine lv_iconst (v := 4) hx hb dX1_addFrame_80 (by decide) ?_
            refine lv_irem hx hb dX1_addFrame_81 (by decide) ?_
            refine lv_topi (fun v26 ev26 => ?_)
            have rv26 : rg (0) (3) v26 := (rg_rem ev26 rv24 kc_4 rfl).1
            replace hW := (wfP_i (wfP_i (wfP_i (wfP_a hW v26) ev26) rv26) ((rg_rem ev26 rv24 kc_4 rfl).2))
            have tv26 := (rg_rem ev26 rv24 kc_4 rfl).2
            have y27 : (4 : Int32).toInt = 4 := by decide
            have uv26 : (0 : Int) ≤ v26.toInt ∧ v26.toInt ≤ 3 := rv26
            refine lv_istore_n (lv' := [(3, .int v26), (0, .ref (Z.ad 1 i0)), (1, .ref (Z.ad 36 q1)), (2, .int p2)]) hx hb dX1_addFrame_82 rfl hl (by decide) rfl (fun ls hl => ?_)
            refine lv_aload_n hx hb dX1_addFrame_83 rfl (lv_at hl 2 rfl) ?_
            refine lv_iconst (v := 0) hx hb dX1_addFrame_84 (by decide) ?_
            refine lv_aload_n hx hb dX1_addFrame_85 rfl (lv_at hl 1 rfl) ?_
            have u28 : 0 ≤ v18.toInt := rv18.1
            have hd29 := (hJ21.2.1 i0 al18_0).2.2.1
            rw [← (mm_up (mm_up e44_18 eg19 rfl) eg20 rfl)] at hd29
            have al30 := hd29.resolve_left (by omega)
            have nal30 : v18.toInt.toNat = i0 := by have := al30.1; omega
            refine c_geto (w := .ref (Z.ad 53 i0)) x L20 1 i0 12 44 al18_0 rfl rfl (by show va_rf (cOpt Z 53 (g20 44 i0)) = _; rw [← (mm_up (mm_up e44_18 eg19 rfl) eg20 rfl), cOpt_some (by omega), nal30]; rfl) (wk_in kf_X1_38) dX1_addFrame_86 ?_
            refine lv_iload_n hx hb dX1_addFrame_89 rfl (lv_at hl 0 rfl) ?_
            refine c_ldr53 x L20 i0 al30.2.1 (by omega) (by omega) dX1_addFrame_90 ?_
            have al31 : Z.al 38 (4 * i0 + v26.toInt.toNat) := al30.2.2 v26.toInt.toNat (by omega)
            refine lv_iconst (v := 0) hx hb dX1_addFrame_91 (by decide) ?_
            refine lv_iload_n hx hb dX1_addFrame_92 rfl (lv_at hl 3 rfl) ?_
            refine c_copy (rest := []) x (hml.trans hl.1.symm) L20 36 q1 38 (4 * i0 + v26.toInt.toNat) 1152 1216 al18_1 al31 rfl rfl rfl rfl ⟨rfl, rfl⟩ kl_X1_75 kw_cp (Int.le_trans (by decide) kc_0.1) (Int.le_trans (by decide) kc_0.1) (Int.le_trans (by decide) q10.1) (Int.le_trans (Int.add_le_add kc_0.2 q10.2) (by decide)) (Int.le_trans (Int.add_le_add kc_0.2 q10.2) (by decide)) (Nat.le_of_ble_eq_true rfl) (Nat.le_of_ble_eq_true rfl) dX1_addFrame_93 (fun g32 H32 k32 ec32 L32 => ?_)
            replace hW := (wfP_i (wfP_a hW g32) ec32)
            refine lv_aload_n hx hb dX1_addFrame_96 rfl (lv_at hl 1 rfl) ?_
            have u33 : 0 ≤ v18.toInt := rv18.1
            have hd34 := ((cJ_fr hJ21 (cCpy_fr ec32) rfl).2.1 i0 al18_0).2.2.2.1
            rw [← (mm_fr (mm_up (mm_up e45_18 eg19 rfl) eg20 rfl) (cCpy_fr ec32) rfl)] at hd34
            have al35 := hd34.resolve_left (by omega)
            have nal35 : v18.toInt.toNat = i0 := by have := al35.1; omega
            refine c_geto (w := .ref (Z.ad 37 i0)) x L32 1 i0 13 45 al18_0 rfl rfl (by show va_rf (cOpt Z 37 (g32 45 i0)) = _; rw [← (mm_fr (mm_up (mm_up e45_18 eg19 rfl) eg20 rfl) (cCpy_fr ec32) rfl), cOpt_some (by omega), nal35]; rfl) (wk_in kf_X1_42) dX1_addFrame_97 ?_
            refine lv_iload_n hx hb dX1_addFrame_100 rfl (lv_at hl 0 rfl) ?_
            refine lv_aload_n hx hb dX1_addFrame_101 rfl (lv_at hl 1 rfl) ?_
            have u36 : 0 ≤ v18.toInt := rv18.1
            have hd37 := ((cJ_fr hJ21 (cCpy_fr ec32) rfl).2.1 i0 al18_0).2.2.1
            rw [← (mm_fr (mm_up (mm_up e44_18 eg19 rfl) eg20 rfl) (cCpy_fr ec32) rfl)] at hd37
            have al38 := hd37.resolve_left (by omega)
            have nal38 : v18.toInt.toNat = i0 := by have := al38.1; omega
            refine c_geto (w := .ref (Z.ad 53 i0)) x L32 1 i0 12 44 al18_0 rfl rfl (by show va_rf (cOpt Z 53 (g32 44 i0)) = _; rw [← (mm_fr (mm_up (mm_up e44_18 eg19 rfl) eg20 rfl) (cCpy_fr ec32) rfl), cOpt_some (by omega), nal38]; rfl) (wk_in kf_X1_38) dX1_addFrame_102 ?_
            refine lv_iload_n hx hb dX1_addFrame_105 rfl (lv_at hl 0 rfl) ?_
            refine c_ldr53 x L32 i0 al38.2.1 (by omega) (by omega) dX1_addFrame_106 ?_
            have al39 : Z.al 38 (4 * i0 + v26.toInt.toNat) := al38.2.2 v26.toInt.toNat (by omega)
            refine lv_iload_n hx hb dX1_addFrame_107 rfl (lv_at hl 3 rfl) ?_
            refine c_siN (As := [.ref (Z.ad 38 (4 * i0 + v26.toInt.toNat)), .int p2]) (rest := [.int v26, .ref (Z.ad 37 i0)]) x hml L32 (d_kcloseFrame_38 l X g32 (4 * i0 + v26.toInt.toNat) p2 hX al39 hW) (goodC (wk_all kd_X11_closeFrame)) (List.mem_of_getElem? (i := 5) rfl) (wk_in kt_X11_closeFrame) (wk_in kn_X11) rfl ⟨rfl, rfl⟩ hd_kcloseFrame_38 ⟨Nat.le_of_ble_eq_true rfl, Nat.le_of_ble_eq_true rfl⟩ rfl hl.1 rfl (lv_room (Nat.le_of_ble_eq_true rfl)) dX1_addFrame_108 (fun v41 g40 H40 k40 hp40 L40 => ?_) hcs
            obtain ⟨hW, hi40, hp40⟩ := hp40
            replace hW := wfP_i hW ⟨hi40, hp40⟩
            have rv41 : rg (0) (5) v41 := hp40.2.1
            have uv41 : (0 : Int) ≤ v41.toInt ∧ v41.toInt ≤ 5 := rv41
            refine c_st x L40 37 i0 1184 al35.2 rfl rfl rv26 rfl (crj_1184 (rg_w rv41 rfl)) dX1_addFrame_111 (fun g42 H42 k42 eg42 L42 => ?_)
            replace hW := (wfP_i (wfP_a hW g42) eg42)
            refine lv_aload_n hx hb dX1_addFrame_112 rfl (lv_at hl 1 rfl) ?_
            refine lv_dup hx hb dX1_addFrame_113 rfl ?_
            refine c_geti x L42 1 i0 16 48 al18_0 rfl rfl (wk_in kf_X1_50) dX1_addFrame_114 (fun v43 ev43 wv43 => ?_)
            refine m_top (((mm_up (mm_fr (mm_fr (mm_up (mm_up (mm_fr ev1 fr18 rfl) eg19 rfl) eg20 rfl) (cCpy_fr ec32) rfl) hp40.1 rfl) eg42 rfl)).trans ev43.symm) ?_
            refine lv_iconst (v := 1) hx hb dX1_addFrame_117 (by decide) ?_
            refine lv_iadd hx hb dX1_addFrame_118 ?_
            refine lv_topi (fun v44 ev44 => ?_)
            have rv44 : rg (1) (4) v44 := (rg_add ev44 q4 kc_1 rfl).1
            replace hW := (wfP_i (wfP_i (wfP_i (wfP_a hW v44) ev44) rv44) (w_iadd ((rg_add ev44 q4 kc_1 rfl).2) rfl (rg_i kc_1)))
            have tv44 := (rg_add ev44 q4 kc_1 rfl).2
            have y45 : (1 : Int32).toInt = 1 := by decide
            have uv44 : (1 : Int) ≤ v44.toInt ∧ v44.toInt ≤ 4 := rv44
            refine c_puti x L42 1 i0 16 48 al18_0 rfl rfl ⟨rfl, by decide +kernel⟩ (wk_in kf_X1_50) dX1_addFrame_119 (crj_48 (rg_w rv44 rfl)) (fun g46 H46 k46 eg46 L46 => ?_)
            replace hW := (wfP_i (wfP_a hW g46) eg46)
            refine lv_iconst (v := 1) hx hb dX1_addFrame_122 (by decide) ?_
            exact k_zret (v := (1 : Int32)) xa L46 hr hlocks (k_nar (rg_w kc_1 rfl)) (Int.le_refl _) hzl ⟨hW, (mFi.up (mFi.up (mFi.sub (mFi.cpyA (mFi.up (mFi.up (mFi.rows mFi.rf fr18 (mAny_cons 0 rfl (mAny_cons 1 rfl (mAny_cons 5 rfl (mAny_cons 6 rfl mAny_nil))))) eg19 (mIn_at 2 rfl (Or.inr (Nat.div_one _)))) eg20 (mIn_at 4 rfl (Or.inr (Nat.div_one _)))) ec32 6 rfl) hi40 (mSub_any 6 rfl mSub_nil)) eg42 (mIn_at 5 rfl (Or.inl rfl))) eg46 (mIn_at 3 rfl (Or.inr (Nat.div_one _)))), (mFr.upE (mFr.upE (mFr.tr (mFr.tr (mFr.upE (mFr.upE (mFr.tr mFr.rf fr18 rfl) eg19 rfl) eg20 rfl) (cCpy_fr ec32) rfl) hp40.1 rfl) eg42 rfl) eg46 rfl), rg_w kc_1 rfl, (cJ_up (cJ_up (cJ_fr (cJ_fr hJ21 (cCpy_fr ec32) rfl) hp40.1 rfl) eg42 rfl) eg46 rfl), (by omega), trivial⟩ hcs.1 hcs.2 dX1_addFrame_123
          · skip
            replace hW := wfP_i (wfP_r hW) hc13
            have q15 : rg (0) (2147483647) v12 := ⟨by omega, (rg_any v12).2⟩
            have hd16 := (hJ.2.1 i0 hal0).2.2.1
            rw [← ev12] at hd16
            have al17 := hd16.resolve_left (by omega)
            have nal17 : v12.toInt.toNat = i0 := by have := al17.1; omega
            refine c_geto (w := .ref (Z.ad 53 i0)) x L 1 i0 12 44 hal0 rfl rfl (by show va_rf (cOpt Z 53 (g 44 i0)) = _; rw [← ev12, cOpt_some (by omega), nal17]; rfl) (wk_in kf_X1_38) dX1_addFrame_29 ?_
            refine lv_ifnull hx hb dX1_addFrame_32 ?_
            refine lv_aload_n hx hb dX1_addFrame_35 rfl (lv_at hl 0 rfl) ?_
            obtain ⟨v47, ev47⟩ : ∃ y : Int32, y = g 45 i0 := ⟨_, rfl⟩
            replace hW := (wfP_i (wfP_a hW v47) ev47)
            rcases (show v47.toInt < 0 ∨ 0 ≤ v47.toInt from (by omega)) with hc48 | hc48
            · skip
              replace hW := wfP_i (wfP_l hW) hc48
              have q49 : rg (-2147483648) (-1) v47 := ⟨(rg_any v47).1, by omega⟩
              refine c_geto (w := .null) x L 1 i0 13 45 hal0 rfl rfl (by show va_rf (cOpt Z 37 (g 45 i0)) = _; rw [← ev47, cOpt_none (by omega)]; rfl) (wk_in kf_X1_42) dX1_addFrame_36 ?_
              refine lv_ifnonnullN hx hb dX1_addFrame_39 ?_
              refine lv_aload_n hx hb dX1_addFrame_42 rfl (lv_at hl 0 rfl) ?_
              refine lv_iconst (v := 4) hx hb dX1_addFrame_43 (by decide) ?_
              refine lv_sipush (v := 240) hx hb dX1_addFrame_44 (by decide) ?_
              replace hW := wfP_i (wfP_a hW Z) rfl
              refine d_frames xa L i0 hal0 hJ (by omega) (lv_at hl 0 rfl) (show 0 + 6 ≤ 6 by omega) (show 0 + 968 ≤ 968 by omega) (fun v53 Z g53 H53 k53 hz53 hww53 hw353 xa L53 hJ53 eg53 hv53 => ?_)
              replace hW := (wfP_i (wfP_i (wfP_i (wfP_i (wfP_i (wfP_i (wfP_a (wfP_a (wfP_a hW Z) v53) g53) hz53) hww53) hw353) hJ53) eg53) hv53)
              have fr53 : mFr [44, 45, 1184, 1216] g g53 := by rw [eg53]; exact mFr_frm
              have ea53_0 := hz53.2.2.1 1 i0 hal0 (by omega)
              have ea53_1 := hz53.2.2.1 36 q1 hq1 (by omega)
              rw [← ea53_0] at hl
              rw [← ea53_1] at hl
              have al53_0 := hz53.2.1 1 i0 hal0
              have al53_1 := hz53.2.1 36 q1 hq1
              have hZn53 := hz53.1
              have x := xa.1
              have hz := x.2.2.2.2.2.2.2.1
              have hzn := hz.1
              have rv53 : rg (0) (2147483647) v53 := ⟨by omega, (rg_any v53).2⟩
              have e44_53 : v53 = g53 44 i0 := by rw [eg53]; exact gFr_44.symm
              have e45_53 : v53 = g53 45 i0 := by rw [eg53]; exact gFr_45.symm
              have hzl := cZl.tr hzl hz53
              have hcs : 0 + 6 ≤ 6 ∧ 0 + 968 ≤ 968 := by omega
              refine lv_aload_n hx hb dX1_addFrame_61 rfl (lv_at hl 0 rfl) ?_
              refine lv_iconst (v := 0) hx hb dX1_addFrame_62 (by decide) ?_
              refine c_puti x L53 1 i0 15 47 al53_0 rfl rfl ⟨rfl, by decide +kernel⟩ (wk_in kf_X1_69) dX1_addFrame_63 (crj_47 (rg_w kc_0 rfl)) (fun g54 H54 k54 eg54 L54 => ?_)
              replace hW := (wfP_i (wfP_a hW g54) eg54)
              refine lv_aload_n hx hb dX1_addFrame_66 rfl (lv_at hl 0 rfl) ?_
              refine lv_iconst (v := 0) hx hb dX1_addFrame_67 (by decide) ?_
              refine c_puti x L54 1 i0 17 49 al53_0 rfl rfl ⟨rfl, by decide +kernel⟩ (wk_in kf_X1_72) dX1_addFrame_68 (crj_49 (rg_w kc_0 rfl)) (fun g55 H55 k55 eg55 L55 => ?_)
              replace hW := (wfP_i (wfP_a hW g55) eg55)
              have hJ56 := cJ_49 (cJ_up hJ53 eg54 rfl) eg55 (Int.le_trans kc_0.2 (by decide))
              refine lv_aload_n hx hb dX1_addFrame_71 rfl (lv_at hl 0 rfl) ?_
              refine c_geti x L55 1 i0 15 47 al53_0 rfl rfl (wk_in kf_X1_69) dX1_addFrame_72 (fun v57 ev57 wv57 => ?_)
              refine m_top (((mm_up (mm_st eg54) eg55 rfl)).trans ev57.symm) ?_
              refine lv_aload_n hx hb dX1_addFrame_75 rfl (lv_at hl 0 rfl) ?_
              refine c_geti x L55 1 i0 16 48 al53_0 rfl rfl (wk_in kf_X1_50) dX1_addFrame_76 (fun v58 ev58 wv58 => ?_)
              refine m_top (((mm_up (mm_up (mm_fr ev1 fr53 rfl) eg54 rfl) eg55 rfl)).trans ev58.symm) ?_
              refine lv_iadd hx hb dX1_addFrame_79 ?_
              refine lv_topi (fun v59 ev59 => ?_)
              have rv59 : rg (0) (3) v59 := (rg_add ev59 kc_0 q4 rfl).1
              replace hW := (wfP_i (wfP_i (wfP_i (wfP_a hW v59) ev59) rv59) (w_iadd ((rg_add ev59 kc_0 q4 rfl).2) (rg_i kc_0) rfl))
              have tv59 := (rg_add ev59 kc_0 q4 rfl).2
              have y60 : (0 : Int32).toInt = 0 := by decide
              have uv59 : (0 : Int) ≤ v59.toInt ∧ v59.toInt ≤ 3 := rv59
              refine lv_iconst (v := 4) hx hb dX1_addFrame_80 (by decide) ?_
              refine lv_irem hx hb dX1_addFrame_81 (by decide) ?_
              refine lv_topi (fun v61 ev61 => ?_)
              have rv61 : rg (0) (3) v61 := (rg_rem ev61 rv59 kc_4 rfl).1
              replace hW := (wfP_i (wfP_i (wfP_i (wfP_a hW v61) ev61) rv61) ((rg_rem ev61 rv59 kc_4 rfl).2))
              have tv61 := (rg_rem ev61 rv59 kc_4 rfl).2
              have y62 : (4 : Int32).toInt = 4 := by decide
              have uv61 : (0 : Int) ≤ v61.toInt ∧ v61.toInt ≤ 3 := rv61
              refine lv_istore_n (lv' := [(3, .int v61), (0, .ref (Z.ad 1 i0)), (1, .ref (Z.ad 36 q1)), (2, .int p2)]) hx hb dX1_addFrame_82 rfl hl (by decide) rfl (fun ls hl => ?_)
              refine lv_aload_n hx hb dX1_addFrame_83 rfl (lv_at hl 2 rfl) ?_
              refine lv_iconst (v := 0) hx hb dX1_addFrame_84 (by decide) ?_
              refine lv_aload_n hx hb dX1_addFrame_85 rfl (lv_at hl 1 rfl) ?_
              have u63 : 0 ≤ v53.toInt := rv53.1
              have hd64 := (hJ56.2.1 i0 al53_0).2.2.1
              rw [← (mm_up (mm_up e44_53 eg54 rfl) eg55 rfl)] at hd64
              have al65 := hd64.resolve_left (by omega)
              have nal65 : v53.toInt.toNat = i0 := by have := al65.1; omega
              refine c_geto (w := .ref (Z.ad 53 i0)) x L55 1 i0 12 44 al53_0 rfl rfl (by show va_rf (cOpt Z 53 (g55 44 i0)) = _; rw [← (mm_up (mm_up e44_53 eg54 rfl) eg55 rfl), cOpt_some (by omega), nal65]; rfl) (wk_in kf_X1_38) dX1_addFrame_86 ?_
              refine lv_iload_n hx hb dX1_addFrame_89 rfl (lv_at hl 0 rfl) ?_
              refine c_ldr53 x L55 i0 al65.2.1 (by omega) (by omega) dX1_addFrame_90 ?_
              have al66 : Z.al 38 (4 * i0 + v61.toInt.toNat) := al65.2.2 v61.toInt.toNat (by omega)
              refine lv_iconst (v := 0) hx hb dX1_addFrame_91 (by decide) ?_
              refine lv_iload_n hx hb dX1_addFrame_92 rfl (lv_at hl 3 rfl) ?_
              refine c_copy (rest := []) x (hml.trans hl.1.symm) L55 36 q1 38 (4 * i0 + v61.toInt.toNat) 1152 1216 al53_1 al66 rfl rfl rfl rfl ⟨rfl, rfl⟩ kl_X1_75 kw_cp (Int.le_trans (by decide) kc_0.1) (Int.le_trans (by decide) kc_0.1) (Int.le_trans (by decide) q10.1) (Int.le_trans (Int.add_le_add kc_0.2 q10.2) (by decide)) (Int.le_trans (Int.add_le_add kc_0.2 q10.2) (by decide)) (Nat.le_of_ble_eq_true rfl) (Nat.le_of_ble_eq_true rfl) dX1_addFrame_93 (fun g67 H67 k67 ec67 L67 => ?_)
              replace hW := (wfP_i (wfP_a hW g67) ec67)
              refine lv_aload_n hx hb dX1_addFrame_96 rfl (lv_at hl 1 rfl) ?_
              have u68 : 0 ≤ v53.toInt := rv53.1
              have hd69 := ((cJ_fr hJ56 (cCpy_fr ec67) rfl).2.1 i0 al53_0).2.2.2.1
              rw [← (mm_fr (mm_up (mm_up e45_53 eg54 rfl) eg55 rfl) (cCpy_fr ec67) rfl)] at hd69
              have al70 := hd69.resolve_left (by omega)
              have nal70 : v53.toInt.toNat = i0 := by have := al70.1; omega
              refine c_geto (w := .ref (Z.ad 37 i0)) x L67 1 i0 13 45 al53_0 rfl rfl (by show va_rf (cOpt Z 37 (g67 45 i0)) = _; rw [← (mm_fr (mm_up (mm_up e45_53 eg54 rfl) eg55 rfl) (cCpy_fr ec67) rfl), cOpt_some (by omega), nal70]; rfl) (wk_in kf_X1_42) dX1_addFrame_97 ?_
              refine lv_iload_n hx hb dX1_addFrame_100 rfl (lv_at hl 0 rfl) ?_
              refine lv_aload_n hx hb dX1_addFrame_101 rfl (lv_at hl 1 rfl) ?_
              have u71 : 0 ≤ v53.toInt := rv53.1
              have hd72 := ((cJ_fr hJ56 (cCpy_fr ec67) rfl).2.1 i0 al53_0).2.2.1
              rw [← (mm_fr (mm_up (mm_up e44_53 eg54 rfl) eg55 rfl) (cCpy_fr ec67) rfl)] at hd72
              have al73 := hd72.resolve_left (by omega)
              have nal73 : v53.toInt.toNat = i0 := by have := al73.1; omega
              refine c_geto (w := .ref (Z.ad 53 i0)) x L67 1 i0 12 44 al53_0 rfl rfl (by show va_rf (cOpt Z 53 (g67 44 i0)) = _; rw [← (mm_fr (mm_up (mm_up e44_53 eg54 rfl) eg55 rfl) (cCpy_fr ec67) rfl), cOpt_some (by omega), nal73]; rfl) (wk_in kf_X1_38) dX1_addFrame_102 ?_
              refine lv_iload_n hx hb dX1_addFrame_105 rfl (lv_at hl 0 rfl) ?_
              refine c_ldr53 x L67 i0 al73.2.1 (by omega) (by omega) dX1_addFrame_106 ?_
              have al74 : Z.al 38 (4 * i0 + v61.toInt.toNat) := al73.2.2 v61.toInt.toNat (by omega)
              refine lv_iload_n hx hb dX1_addFrame_107 rfl (lv_at hl 3 rfl) ?_
              refine c_siN (As := [.ref (Z.ad 38 (4 * i0 + v61.toInt.toNat)), .int p2]) (rest := [.int v61, .ref (Z.ad 37 i0)]) x hml L67 (d_kcloseFrame_38 l X g67 (4 * i0 + v61.toInt.toNat) p2 hX al74 hW) (goodC (wk_all kd_X11_closeFrame)) (List.mem_of_getElem? (i := 5) rfl) (wk_in kt_X11_closeFrame) (wk_in kn_X11) rfl ⟨rfl, rfl⟩ hd_kcloseFrame_38 ⟨Nat.le_of_ble_eq_true rfl, Nat.le_of_ble_eq_true rfl⟩ rfl hl.1 rfl (lv_room (Nat.le_of_ble_eq_true rfl)) dX1_addFrame_108 (fun v76 g75 H75 k75 hp75 L75 => ?_) hcs
              obtain ⟨hW, hi75, hp75⟩ := hp75
              replace hW := wfP_i hW ⟨hi75, hp75⟩
              have rv76 : rg (0) (5) v76 := hp75.2.1
              have uv76 : (0 : Int) ≤ v76.toInt ∧ v76.toInt ≤ 5 := rv76
              refine c_st x L75 37 i0 1184 al70.2 rfl rfl rv61 rfl (crj_1184 (rg_w rv76 rfl)) dX1_addFrame_111 (fun g77 H77 k77 eg77 L77 => ?_)
              replace hW := (wfP_i (wfP_a hW g77) eg77)
              refine lv_aload_n hx hb dX1_addFrame_112 rfl (lv_at hl 1 rfl) ?_
              refine lv_dup hx hb dX1_addFrame_113 rfl ?_
              refine c_geti x L77 1 i0 16 48 al53_0 rfl rfl (wk_in kf_X1_50) dX1_addFrame_114 (fun v78 ev78 wv78 => ?_)
              refine m_top (((mm_up (mm_fr (mm_fr (mm_up (mm_up (mm_fr ev1 fr53 rfl) eg54 rfl) eg55 rfl) (cCpy_fr ec67) rfl) hp75.1 rfl) eg77 rfl)).trans ev78.symm) ?_
              refine lv_iconst (v := 1) hx hb dX1_addFrame_117 (by decide) ?_
              refine lv_iadd hx hb dX1_addFrame_118 ?_
              refine lv_topi (fun v79 ev79 => ?_)
              have rv79 : rg (1) (4) v79 := (rg_add ev79 q4 kc_1 rfl).1
              replace hW := (wfP_i (wfP_i (wfP_i (wfP_a hW v79) ev79) rv79) (w_iadd ((rg_add ev79 q4 kc_1 rfl).2) rfl (rg_i kc_1)))
              have tv79 := (rg_add ev79 q4 kc_1 rfl).2
              have y80 : (1 : Int32).toInt = 1 := by decide
              have uv79 : (1 : Int) ≤ v79.toInt ∧ v79.toInt ≤ 4 := rv79
              refine c_puti x L77 1 i0 16 48 al53_0 rfl rfl ⟨rfl, by decide +kernel⟩ (wk_in kf_X1_50) dX1_addFrame_119 (crj_48 (rg_w rv79 rfl)) (fun g81 H81 k81 eg81 L81 => ?_)
              replace hW := (wfP_i (wfP_a hW g81) eg81)
              refine lv_iconst (v := 1) hx hb dX1_addFrame_122 (by decide) ?_
              exact k_zret (v := (1 : Int32)) xa L81 hr hlocks (k_nar (rg_w kc_1 rfl)) (Int.le_refl _) hzl ⟨hW, (mFi.up (mFi.up (mFi.sub (mFi.cpyA (mFi.up (mFi.up (mFi.rows mFi.rf fr53 (mAny_cons 0 rfl (mAny_cons 1 rfl (mAny_cons 5 rfl (mAny_cons 6 rfl mAny_nil))))) eg54 (mIn_at 2 rfl (Or.inr (Nat.div_one _)))) eg55 (mIn_at 4 rfl (Or.inr (Nat.div_one _)))) ec67 6 rfl) hi75 (mSub_any 6 rfl mSub_nil)) eg77 (mIn_at 5 rfl (Or.inl rfl))) eg81 (mIn_at 3 rfl (Or.inr (Nat.div_one _)))), (mFr.upE (mFr.upE (mFr.tr (mFr.tr (mFr.upE (mFr.upE (mFr.tr mFr.rf fr53 rfl) eg54 rfl) eg55 rfl) (cCpy_fr ec67) rfl) hp75.1 rfl) eg77 rfl) eg81 rfl), rg_w kc_1 rfl, (cJ_up (cJ_up (cJ_fr (cJ_fr hJ56 (cCpy_fr ec67) rfl) hp75.1 rfl) eg77 rfl) eg81 rfl), (by omega), trivial⟩ hcs.1 hcs.2 dX1_addFrame_123
            · skip
              replace hW := wfP_i (wfP_r hW) hc48
              have q50 : rg (0) (2147483647) v47 := ⟨by omega, (rg_any v47).2⟩
              have hd51 := (hJ.2.1 i0 hal0).2.2.2.1
              rw [← ev47] at hd51
              have al52 := hd51.resolve_left (by omega)
              have nal52 : v47.toInt.toNat = i0 := by have := al52.1; omega
              refine c_geto (w := .ref (Z.ad 37 i0)) x L 1 i0 13 45 hal0 rfl rfl (by show va_rf (cOpt Z 37 (g 45 i0)) = _; rw [← ev47, cOpt_some (by omega), nal52]; rfl) (wk_in kf_X1_42) dX1_addFrame_36 ?_
              refine lv_ifnonnull (tgt := 71) hx hb dX1_addFrame_39 (by decide) ?_
              refine lv_aload_n hx hb dX1_addFrame_71 rfl (lv_at hl 0 rfl) ?_
              refine c_geti x L 1 i0 15 47 hal0 rfl rfl (wk_in kf_X1_69) dX1_addFrame_72 (fun v82 ev82 wv82 => ?_)
              have rv82 : rg (0) (3) v82 := clj_47 wv82
              replace hW := (wfP_i (wfP_i (wfP_a hW v82) ev82) rv82)
              have uv82 : (0 : Int) ≤ v82.toInt ∧ v82.toInt ≤ 3 := rv82
              have sv82 := congrArg Int32.toInt ev82
              refine lv_aload_n hx hb dX1_addFrame_75 rfl (lv_at hl 0 rfl) ?_
              refine c_geti x L 1 i0 16 48 hal0 rfl rfl (wk_in kf_X1_50) dX1_addFrame_76 (fun v83 ev83 wv83 => ?_)
              refine m_top ((ev1).trans ev83.symm) ?_
              refine lv_iadd hx hb dX1_addFrame_79 ?_
              refine lv_topi (fun v84 ev84 => ?_)
              have rv84 : rg (0) (6) v84 := (rg_add ev84 rv82 q4 rfl).1
              replace hW := (wfP_i (wfP_i (wfP_i (wfP_a hW v84) ev84) rv84) (w_iadd ((rg_add ev84 rv82 q4 rfl).2) rfl rfl))
              have tv84 := (rg_add ev84 rv82 q4 rfl).2
              have uv84 : (0 : Int) ≤ v84.toInt ∧ v84.toInt ≤ 6 := rv84
              refine lv_iconst (v := 4) hx hb dX1_addFrame_80 (by decide) ?_
              refine lv_irem hx hb dX1_addFrame_81 (by decide) ?_
              refine lv_topi (fun v85 ev85 => ?_)
              have rv85 : rg (0) (3) v85 := (rg_rem ev85 rv84 kc_4 rfl).1
              replace hW := (wfP_i (wfP_i (wfP_i (wfP_a hW v85) ev85) rv85) ((rg_rem ev85 rv84 kc_4 rfl).2))
              have tv85 := (rg_rem ev85 rv84 kc_4 rfl).2
              have y86 : (4 : Int32).toInt = 4 := by decide
              have uv85 : (0 : Int) ≤ v85.toInt ∧ v85.toInt ≤ 3 := rv85
              refine lv_istore_n (lv' := [(3, .int v85), (0, .ref (Z.ad 1 i0)), (1, .ref (Z.ad 36 q1)), (2, .int p2)]) hx hb dX1_addFrame_82 rfl hl (by decide) rfl (fun ls hl => ?_)
              refine lv_aload_n hx hb dX1_addFrame_83 rfl (lv_at hl 2 rfl) ?_
              refine lv_iconst (v := 0) hx hb dX1_addFrame_84 (by decide) ?_
              refine lv_aload_n hx hb dX1_addFrame_85 rfl (lv_at hl 1 rfl) ?_
              have u87 : 0 ≤ v12.toInt := q15.1
              have hd88 := (hJ.2.1 i0 hal0).2.2.1
              rw [← ev12] at hd88
              have al89 := hd88.resolve_left (by omega)
              have nal89 : v12.toInt.toNat = i0 := by have := al89.1; omega
              refine c_geto (w := .ref (Z.ad 53 i0)) x L 1 i0 12 44 hal0 rfl rfl (by show va_rf (cOpt Z 53 (g 44 i0)) = _; rw [← ev12, cOpt_some (by omega), nal89]; rfl) (wk_in kf_X1_38) dX1_addFrame_86 ?_
              refine lv_iload_n hx hb dX1_addFrame_89 rfl (lv_at hl 0 rfl) ?_
              refine c_ldr53 x L i0 al89.2.1 (by omega) (by omega) dX1_addFrame_90 ?_
              have al90 : Z.al 38 (4 * i0 + v85.toInt.toNat) := al89.2.2 v85.toInt.toNat (by omega)
              refine lv_iconst (v := 0) hx hb dX1_addFrame_91 (by decide) ?_
              refine lv_iload_n hx hb dX1_addFrame_92 rfl (lv_at hl 3 rfl) ?_
              refine c_copy (rest := []) x (hml.trans hl.1.symm) L 36 q1 38 (4 * i0 + v85.toInt.toNat) 1152 1216 hq1 al90 rfl rfl rfl rfl ⟨rfl, rfl⟩ kl_X1_75 kw_cp (Int.le_trans (by decide) kc_0.1) (Int.le_trans (by decide) kc_0.1) (Int.le_trans (by decide) q10.1) (Int.le_trans (Int.add_le_add kc_0.2 q10.2) (by decide)) (Int.le_trans (Int.add_le_add kc_0.2 q10.2) (by decide)) (Nat.le_of_ble_eq_true rfl) (Nat.le_of_ble_eq_true rfl) dX1_addFrame_93 (fun g91 H91 k91 ec91 L91 => ?_)
              replace hW := (wfP_i (wfP_a hW g91) ec91)
              refine lv_aload_n hx hb dX1_addFrame_96 rfl (lv_at hl 1 rfl) ?_
              have u92 : 0 ≤ v47.toInt := q50.1
              have hd93 := ((cJ_fr hJ (cCpy_fr ec91) rfl).2.1 i0 hal0).2.2.2.1
              rw [← (mm_fr ev47 (cCpy_fr ec91) rfl)] at hd93
              have al94 := hd93.resolve_left (by omega)
              have nal94 : v47.toInt.toNat = i0 := by have := al94.1; omega
              refine c_geto (w := .ref (Z.ad 37 i0)) x L91 1 i0 13 45 hal0 rfl rfl (by show va_rf (cOpt Z 37 (g91 45 i0)) = _; rw [← (mm_fr ev47 (cCpy_fr ec91) rfl), cOpt_some (by omega), nal94]; rfl) (wk_in kf_X1_42) dX1_addFrame_97 ?_
              refine lv_iload_n hx hb dX1_addFrame_100 rfl (lv_at hl 0 rfl) ?_
              refine lv_aload_n hx hb dX1_addFrame_101 rfl (lv_at hl 1 rfl) ?_
              have u95 : 0 ≤ v12.toInt := q15.1
              have hd96 := ((cJ_fr hJ (cCpy_fr ec91) rfl).2.1 i0 hal0).2.2.1
              rw [← (mm_fr ev12 (cCpy_fr ec91) rfl)] at hd96
              have al97 := hd96.resolve_left (by omega)
              have nal97 : v12.toInt.toNat = i0 := by have := al97.1; omega
              refine c_geto (w := .ref (Z.ad 53 i0)) x L91 1 i0 12 44 hal0 rfl rfl (by show va_rf (cOpt Z 53 (g91 44 i0)) = _; rw [← (mm_fr ev12 (cCpy_fr ec91) rfl), cOpt_some (by omega), nal97]; rfl) (wk_in kf_X1_38) dX1_addFrame_102 ?_
              refine lv_iload_n hx hb dX1_addFrame_105 rfl (lv_at hl 0 rfl) ?_
              refine c_ldr53 x L91 i0 al97.2.1 (by omega) (by omega) dX1_addFrame_106 ?_
              have al98 : Z.al 38 (4 * i0 + v85.toInt.toNat) := al97.2.2 v85.toInt.toNat (by omega)
              refine lv_iload_n hx hb dX1_addFrame_107 rfl (lv_at hl 3 rfl) ?_
              refine c_siN (As := [.ref (Z.ad 38 (4 * i0 + v85.toInt.toNat)), .int p2]) (rest := [.int v85, .ref (Z.ad 37 i0)]) x hml L91 (d_kcloseFrame_38 l X g91 (4 * i0 + v85.toInt.toNat) p2 hX al98 hW) (goodC (wk_all kd_X11_closeFrame)) (List.mem_of_getElem? (i := 5) rfl) (wk_in kt_X11_closeFrame) (wk_in kn_X11) rfl ⟨rfl, rfl⟩ hd_kcloseFrame_38 ⟨Nat.le_of_ble_eq_true rfl, Nat.le_of_ble_eq_true rfl⟩ rfl hl.1 rfl (lv_room (Nat.le_of_ble_eq_true rfl)) dX1_addFrame_108 (fun v100 g99 H99 k99 hp99 L99 => ?_) hcs
              obtain ⟨hW, hi99, hp99⟩ := hp99
              replace hW := wfP_i hW ⟨hi99, hp99⟩
              have rv100 : rg (0) (5) v100 := hp99.2.1
              have uv100 : (0 : Int) ≤ v100.toInt ∧ v100.toInt ≤ 5 := rv100
              refine c_st x L99 37 i0 1184 al94.2 rfl rfl rv85 rfl (crj_1184 (rg_w rv100 rfl)) dX1_addFrame_111 (fun g101 H101 k101 eg101 L101 => ?_)
              replace hW := (wfP_i (wfP_a hW g101) eg101)
              refine lv_aload_n hx hb dX1_addFrame_112 rfl (lv_at hl 1 rfl) ?_
              refine lv_dup hx hb dX1_addFrame_113 rfl ?_
              refine c_geti x L101 1 i0 16 48 hal0 rfl rfl (wk_in kf_X1_50) dX1_addFrame_114 (fun v102 ev102 wv102 => ?_)
              refine m_top (((mm_up (mm_fr (mm_fr ev1 (cCpy_fr ec91) rfl) hp99.1 rfl) eg101 rfl)).trans ev102.symm) ?_
              refine lv_iconst (v := 1) hx hb dX1_addFrame_117 (by decide) ?_
              refine lv_iadd hx hb dX1_addFrame_118 ?_
              refine lv_topi (fun v103 ev103 => ?_)
              have rv103 : rg (1) (4) v103 := (rg_add ev103 q4 kc_1 rfl).1
              replace hW := (wfP_i (wfP_i (wfP_i (wfP_a hW v103) ev103) rv103) (w_iadd ((rg_add ev103 q4 kc_1 rfl).2) rfl (rg_i kc_1)))
              have tv103 := (rg_add ev103 q4 kc_1 rfl).2
              have y104 : (1 : Int32).toInt = 1 := by decide
              have uv103 : (1 : Int) ≤ v103.toInt ∧ v103.toInt ≤ 4 := rv103
              refine c_puti x L101 1 i0 16 48 hal0 rfl rfl ⟨rfl, by decide +kernel⟩ (wk_in kf_X1_50) dX1_addFrame_119 (crj_48 (rg_w rv103 rfl)) (fun g105 H105 k105 eg105 L105 => ?_)
              replace hW := (wfP_i (wfP_a hW g105) eg105)
              refine lv_iconst (v := 1) hx hb dX1_addFrame_122 (by decide) ?_
              exact k_zret (v := (1 : Int32)) xa L105 hr hlocks (k_nar (rg_w kc_1 rfl)) (Int.le_refl _) hzl ⟨hW, (mFi.up (mFi.up (mFi.sub (mFi.cpyA mFi.rf ec91 6 rfl) hi99 (mSub_any 6 rfl mSub_nil)) eg101 (mIn_at 5 rfl (Or.inl rfl))) eg105 (mIn_at 3 rfl (Or.inr (Nat.div_one _)))), (mFr.upE (mFr.upE (mFr.tr (mFr.tr mFr.rf (cCpy_fr ec91) rfl) hp99.1 rfl) eg101 rfl) eg105 rfl), rg_w kc_1 rfl, (cJ_up (cJ_up (cJ_fr (cJ_fr hJ (cCpy_fr ec91) rfl) hp99.1 rfl) eg101 rfl) eg105 rfl), (by omega), trivial⟩ hcs.1 hcs.2 dX1_addFrame_123
        · skip
          replace hW := wfP_i (wfP_r hW) (i_lt (rg_nle c23_11) (rg_i kc_200) rfl)
          have ic23_11 := Int32.lt_iff_toInt_lt.mp (rg_nle c23_11)
          exact absurd ((rg_lt (rg_nle c23_11) kc_200 q10).1 : rg (200) (199) (200 : Int32)) (fun q => rg_dead q rfl)

def rn_kxsend : Room := { frames := 4, cells := 6, slots := 968, locals := 94 }
def im_kxsend (i0 : Nat) (p1 : Int32) (p2 : Int32) : List (Nat × Nat × Nat) := [(44, 0, 0), (45, 0, 0), (47, 0, 0), (48, 0, 0), (49, 0, 0), (361, i0, 1), (1184, 0, 0), (1216, 0, 0)]
def po_kxsend (Z : cZ) (i0 : Nat) (p1 : Int32) (p2 : Int32) (g : mSt) (r : Int32) (Z1 : cZ) (g1 : mSt) : Prop := mFi (im_kxsend i0 p1 p2) g g1 ∧ mFr [44, 45, 47, 48, 49, 361, 1184, 1216] g g1 ∧ rg (-3) (4) r ∧ cJ Z1 g1 ∧ Z1.w 2 ≤ Z.w 2 + 0 ∧ True
def wp_kxsend (Z : cZ) (i0 : Nat) (p1 : Int32) (p2 : Int32) (g : mSt) (Φ : Int32 → cZ → mSt → Prop) : Prop :=
  wp_kcallAt Z i0 p1 p2 g (fun (v2 : Int32) (g1 : mSt) => po_kcallAt Z i0 p1 p2 g v2 g1 → ((v2.toInt < 0) → Φ (-1 : Int32) Z g1) ∧ ((0 ≤ v2.toInt) → ∀ (v4 : Int32), v4 = g1 361 i0 → rg (0) (200) v4 → ((1 ≤ v4.toInt) → ∀ (v7 : Int32), v7 = g1 36 v2.toInt.toNat → rg (-2147483648) (2147483647) v7 → ((v7.toInt = 10) → wp_kaddFrame Z v2.toInt.toNat 0 v4 g1 (fun (v14 : Int32) (Z_13 : cZ) (g13 : mSt) => po_kaddFrame Z v2.toInt.toNat 0 v4 g1 v14 Z_13 g13 → cZg Z Z_13 6 (968) → ∀ Z : cZ, Z = Z_13 → ((v14.toInt ≠ 0) → ∀ (g18 : mSt), g18 = up2 g13 361 i0 (0 : Int32) → ∀ (v19 : Int32), v19 = g18 48 v2.toInt.toNat → rg (0) (4) v19 → Φ v19 Z g18) ∧ ((v14.toInt = 0) → Φ (-3 : Int32) Z g13))) ∧ ((v7.toInt ≠ 10) → Φ (-2 : Int32) Z g1)) ∧ ((v4.toInt < 1) → Φ (-1 : Int32) Z g1)))
set_option maxHeartbeats 4000000 in
set_option maxRecDepth 100000 in
theorem d_kxsend (l : Launch) {G : cG} {Z : cZ} (X : Int) (g : mSt) (i0 : Nat) (p1 : Int32) (p2 : Int32) (sz : Nat) (hX : 0 ≤ X ∧ X ≤ 2000000000) (hJ : cJ Z g) (hw2 : Z.w 2 + 0 ≤ 1000000) (hal0 : Z.al 11 i0) {Φ : Int32 → cZ → mSt → Prop} (hW : wfP (wp_kxsend Z i0 p1 p2 g Φ)) : Met l yX11_send (wk (Cond.code yX11_send cX11_send 4 (some .int))) (rn_kxsend) (va_Pc [.ref (Z.ad 11 i0), .int p1, .int p2] (cPreA G Z X g sz)) (kE 6 (968) (cAf Z sz) (cQiA G Z X (fun r Z1 g1 => wfP (Φ r Z1 g1) ∧ mFi (im_kxsend i0 p1 p2) g g1 ∧ (mFr [44, 45, 47, 48, 49, 361, 1184, 1216] g g1 ∧ rg (-3) (4) r ∧ cJ Z1 g1 ∧ Z1.w 2 ≤ Z.w 2 + 0 ∧ True)))) 6 (968) (cAf Z sz) := by
  refine Met.ofW (cc := cX11_send) (maxL := 4) (ret := (some .int)) (by decide) rfl ?_
  intro p e s m args below meth c s₁ B hml hv
  obtain ⟨hav, hv⟩ := hv
  have hsz0 := hv.2.1
  subst hsz0
  have hr := B.returns
  have hlocks := B.notSynchronized
  obtain ⟨xa, L⟩ := k_start B rfl (fun w h => wk_in h) hv
  have hent : entryFrame m args 4 = entryFrame m ([.ref (Z.ad 11 i0), .int p1, .int p2] : List Value).toArray 4 := by rw [hav]
  rw [hent]
  have hl := lv_entry ([.ref (Z.ad 11 i0), .int p1, .int p2]) (n := 4) (Nat.le_of_ble_eq_true rfl)
  rw [lg_entry_eq]
  generalize (lg_sl ([.ref (Z.ad 11 i0), .int p1, .int p2]) ++ List.replicate (4 - (lg_sl ([.ref (Z.ad 11 i0), .int p1, .int p2])).length) Slot.unset).toArray = ls at hl ⊢
  have hl : lv_has ls 4 [(0, .ref (Z.ad 11 i0)), (1, .int p1), (2, .int p2)] := hl
  have x := xa.1
  have hx := x.1
  have hb := x.2.1
  have hz := x.2.2.2.2.2.2.2.1
  have hzn := hz.1
  have hzl : cZl Z Z 0 0 := cZl.rf
  have hcs : 0 ≤ 6 ∧ 0 ≤ 968 := ⟨Nat.zero_le _, Nat.zero_le _⟩
  have up1 : (-2147483648 : Int) ≤ p1.toInt ∧ p1.toInt ≤ 2147483647 := (rg_any p1)
  have up2 : (-2147483648 : Int) ≤ p2.toInt ∧ p2.toInt ≤ 2147483647 := (rg_any p2)
  refine lv_aload_n hx hb dX11_send_0 rfl (lv_at hl 0 rfl) ?_
  refine lv_iload_n hx hb dX11_send_1 rfl (lv_at hl 1 rfl) ?_
  refine lv_iload_n hx hb dX11_send_2 rfl (lv_at hl 2 rfl) ?_
  refine c_cr (As := [.int p1, .int p2]) (rest := []) x hml L 11 i0 hal0 rfl (d_kcallAt l X g i0 p1 p2 hX hJ hal0 hW) (wk_V kd_X11_callAt kl_X11_229 ki_X11_callAt ks_X11_X11_callAt kn_X11) rfl ⟨rfl, rfl⟩ hd_kcallAt ⟨Nat.le_of_ble_eq_true rfl, Nat.le_of_ble_eq_true rfl⟩ rfl hl.1 rfl (lv_room (Nat.le_of_ble_eq_true rfl)) dX11_send_3 (fun v2 g1 H1 k1 hp1 L1 => ?_) hcs
  obtain ⟨hW, hi1, hp1⟩ := hp1
  replace hW := wfP_i hW ⟨hi1, hp1⟩
  have hvv2 := hp1.2.2
  rcases (show v2.toInt < 0 ∨ 0 ≤ v2.toInt from (by omega)) with hc3 | hc3
  · skip
    replace hW := wfP_i (wfP_l hW) hc3
    refine c_top (show Value.null = va_rf (cOpt Z 1 v2) from (by rw [cOpt_none hc3]; rfl)) ?_
    refine lv_astore_nN (lv' := [(3, .null), (0, .ref (Z.ad 11 i0)), (1, .int p1), (2, .int p2)]) hx hb dX11_send_6 rfl hl (by decide) rfl (fun ls hl => ?_)
    refine lv_aload_nN hx hb dX11_send_7 rfl (lv_at hl 0 rfl) ?_
    refine lv_ifnullN (tgt := 19) hx hb dX11_send_8 (by decide) ?_
    refine lv_iconst (v := (-1)) hx hb dX11_send_19 (by decide) ?_
    exact k_iret (v := (-1 : Int32)) xa L1 hr hlocks (Int.le_refl _) hzl ⟨hW, (mFi.sub mFi.rf hi1 mSub_nil), (mFr.tr mFr.rf hp1.1 rfl), rg_w kc_m1 rfl, hp1.2.1, (by omega), trivial⟩ hcs.1 hcs.2 dX11_send_20
  · skip
    replace hW := wfP_i (wfP_r hW) hc3
    refine c_top (show Value.ref (Z.ad 1 v2.toInt.toNat) = va_rf (cOpt Z 1 v2) from (by rw [cOpt_some hc3]; rfl)) ?_
    have hwv2 := hvv2 hc3
    refine lv_astore_n (lv' := [(3, .ref (Z.ad 1 v2.toInt.toNat)), (0, .ref (Z.ad 11 i0)), (1, .int p1), (2, .int p2)]) hx hb dX11_send_6 rfl hl (by decide) rfl (fun ls hl => ?_)
    refine lv_aload_n hx hb dX11_send_7 rfl (lv_at hl 0 rfl) ?_
    refine lv_ifnull hx hb dX11_send_8 ?_
    refine lv_aload_n hx hb dX11_send_11 rfl (lv_at hl 1 rfl) ?_
    refine c_geti x L1 11 i0 9 361 hal0 rfl rfl (wk_in kf_X11_75) dX11_send_12 (fun v4 ev4 wv4 => ?_)
    have rv4 : rg (0) (200) v4 := clj_361 wv4
    replace hW := (wfP_i (wfP_i (wfP_a hW v4) ev4) rv4)
    have uv4 : (0 : Int) ≤ v4.toInt ∧ v4.toInt ≤ 200 := rv4
    refine lv_iconst (v := 1) hx hb dX11_send_15 (by decide) ?_
    refine lv_icmp_ge (tgt := 21) hx hb dX11_send_16 (by decide) (fun c16_5 => ?_) (fun c16_5 => ?_)
    · skip
      replace hW := wfP_i (wfP_l hW) (i_le c16_5 (rg_i kc_1) rfl)
      have ic16_5 := Int32.le_iff_toInt_le.mp c16_5
      have q6 : rg (1) (200) v4 := (rg_le c16_5 kc_1 rv4).2
      have uq6 : (1 : Int) ≤ v4.toInt ∧ v4.toInt ≤ 200 := q6
      refine lv_aload_n hx hb dX11_send_21 rfl (lv_at hl 0 rfl) ?_
      refine c_geti x L1 1 v2.toInt.toNat 4 36 hwv2.1 rfl rfl (wk_in kf_X11_233) dX11_send_22 (fun v7 ev7 wv7 => ?_)
      have rv7 : rg (-2147483648) (2147483647) v7 := rg_any v7
      replace hW := (wfP_i (wfP_i (wfP_a hW v7) ev7) rv7)
      have uv7 : (-2147483648 : Int) ≤ v7.toInt ∧ v7.toInt ≤ 2147483647 := rv7
      have sv7 : v7.toInt = (g 36 v2.toInt.toNat).toInt := congrArg Int32.toInt (ev7.trans (congrFun ((show mFr [44, 45, 47, 48, 49, 361, 1184, 1216] g g1 from (mFr.tr mFr.rf hp1.1 rfl)).at 36 rfl) _))
      refine lv_bipush (v := 10) hx hb dX11_send_25 (by decide) ?_
      refine lv_icmp_eq (tgt := 33) hx hb dX11_send_27 (by decide) (fun c27_8 => ?_) (fun c27_8 => ?_)
      · skip
        replace hW := wfP_i (wfP_l hW) (i_eq c27_8 rfl (rg_i kc_10))
        have ic27_8 := congrArg Int32.toInt c27_8
        have y9 : (10 : Int32).toInt = 10 := by decide
        have q10 : rg (10) (10) v7 := (rg_eq c27_8 rv7 kc_10).1
        have uq10 : (10 : Int) ≤ v7.toInt ∧ v7.toInt ≤ 10 := q10
        refine lv_aload_n hx hb dX11_send_33 rfl (lv_at hl 0 rfl) ?_
        refine lv_aload_n hx hb dX11_send_34 rfl (lv_at hl 1 rfl) ?_
        have al11 : Z.al 36 0 := hz.2 36 0 (show 0 < 1 from (by omega))
        refine c_getr (a := Z.ad 36 0) x L1 11 i0 8 hal0 rfl rfl (wk_in kf_X11_23) dX11_send_35 ?_
        refine lv_aload_n hx hb dX11_send_38 rfl (lv_at hl 1 rfl) ?_
        refine c_geti x L1 11 i0 9 361 hal0 rfl rfl (wk_in kf_X11_75) dX11_send_39 (fun v12 ev12 wv12 => ?_)
        refine m_top ((ev4).trans ev12.symm) ?_
        refine k_calli xa L1 (k_runV (As := [.ref (Z.ad 36 0), .int v4]) (rest := []) ⟨hx, hb, hml, x.2.2.2.2.1, x.2.2.1⟩ (d_kaddFrame l X g1 v2.toInt.toNat 0 v4 _ hX hp1.2.1 (by omega) hwv2.1 al11 hW) (cwV 2 x.2.2.1 (wk_V kd_X1_addFrame kl_X11_246 ki_X1_addFrame ks_X1_X1_addFrame kn_X1) rfl rfl rfl hd_kaddFrame ⟨Nat.le_of_ble_eq_true rfl, Nat.le_of_ble_eq_true rfl⟩) ⟨cPreA.blind, c_recv x L1 hwv2.1 rfl, fun U hU hW => k_pre xa L1 U hU hW⟩ rfl rfl hl.1 rfl (lv_room (Nat.le_of_ble_eq_true rfl)) dX11_send_42 ⟨show 0 + 6 ≤ 6 by omega, show 0 + (968) ≤ 968 by omega⟩) (fun v14 Z g13 H13 k13 kc13 kn13 hk13 hn13 hp13 hz13 xa L13 => ?_)
        obtain ⟨hW, hi13, hp13⟩ := hp13
        replace hW := wfP_i (wfP_a (wfP_i (wfP_i hW ⟨hi13, hp13⟩) (cZg_of hz13 hk13 hn13)) Z) rfl
        have rv14 : rg (0) (1) v14 := hp13.2.1
        have uv14 : (0 : Int) ≤ v14.toInt ∧ v14.toInt ≤ 1 := rv14
        have hww13 := hp13.2.2.2.1
        have ea13_0 := hz13.2.2.1 1 v2.toInt.toNat hwv2.1 (by omega)
        have ea13_1 := hz13.2.2.1 11 i0 hal0 (by omega)
        rw [← ea13_0] at hl
        rw [← ea13_1] at hl
        have al13_0 := hz13.2.1 1 v2.toInt.toNat hwv2.1
        have al13_1 := hz13.2.1 11 i0 hal0
        have hZn13 := hz13.1
        have x := xa.1
        have hz := x.2.2.2.2.2.2.2.1
        have hzn := hz.1
        have hzl := cZl.tr hzl hz13
        have hcs : 0 + kc13 ≤ 6 ∧ 0 + kn13 ≤ 968 := by omega
        refine lv_if_ne (tgt := 51) hx hb dX11_send_45 (by decide) (fun c45_15 => ?_) (fun c45_15 => ?_)
        · skip
          replace hW := wfP_i (wfP_l hW) (i_ne c45_15 rfl (rg_i kc_0))
          have ic45_15 : v14.toInt ≠ (0 : Int32).toInt := fun z => c45_15 (Int32.toInt_inj.mp z)
          have y16 : (0 : Int32).toInt = 0 := by decide
          have q17 : rg (1) (1) v14 := rg_neL c45_15 rv14 kc_0
          have uq17 : (1 : Int) ≤ v14.toInt ∧ v14.toInt ≤ 1 := q17
          refine lv_aload_n hx hb dX11_send_51 rfl (lv_at hl 1 rfl) ?_
          refine lv_iconst (v := 0) hx hb dX11_send_52 (by decide) ?_
          refine c_puti x L13 11 i0 9 361 al13_1 rfl rfl ⟨rfl, by decide +kernel⟩ (wk_in kf_X11_75) dX11_send_53 (crj_361 (rg_w kc_0 rfl)) (fun g18 H18 k18 eg18 L18 => ?_)
          replace hW := (wfP_i (wfP_a hW g18) eg18)
          refine lv_aload_n hx hb dX11_send_56 rfl (lv_at hl 0 rfl) ?_
          refine c_geti x L18 1 v2.toInt.toNat 16 48 al13_0 rfl rfl (wk_in kf_X11_250) dX11_send_57 (fun v19 ev19 wv19 => ?_)
          have rv19 : rg (0) (4) v19 := clj_48 wv19
          replace hW := (wfP_i (wfP_i (wfP_a hW v19) ev19) rv19)
          have uv19 : (0 : Int) ≤ v19.toInt ∧ v19.toInt ≤ 4 := rv19
          exact k_iret (v := v19) xa L18 hr hlocks (Int.le_refl _) hzl ⟨hW, (mFi.up (mFi.sub (mFi.sub mFi.rf hi1 mSub_nil) hi13 (mSub_any 0 rfl (mSub_any 1 rfl (mSub_any 2 rfl (mSub_any 3 rfl (mSub_any 4 rfl (mSub_any 6 rfl (mSub_any 7 rfl mSub_nil)))))))) eg18 (mIn_at 5 rfl (Or.inr (Nat.div_one _)))), (mFr.upE (mFr.tr (mFr.tr mFr.rf hp1.1 rfl) hp13.1 rfl) eg18 rfl), rg_w rv19 rfl, (cJ_up hp13.2.2.1 eg18 rfl), (by omega), trivial⟩ hcs.1 hcs.2 dX11_send_60
        · skip
          replace hW := wfP_i (wfP_r hW) (i_eq c45_15 rfl (rg_i kc_0))
          have ic45_15 := congrArg Int32.toInt c45_15
          have y20 : (0 : Int32).toInt = 0 := by decide
          have q21 : rg (0) (0) v14 := (rg_eq c45_15 rv14 kc_0).1
          have uq21 : (0 : Int) ≤ v14.toInt ∧ v14.toInt ≤ 0 := q21
          refine lv_bipush (v := (-3)) hx hb dX11_send_48 (by decide) ?_
          exact k_iret (v := (-3 : Int32)) xa L13 hr hlocks (Int.le_refl _) hzl ⟨hW, (mFi.sub (mFi.sub mFi.rf hi1 mSub_nil) hi13 (mSub_any 0 rfl (mSub_any 1 rfl (mSub_any 2 rfl (mSub_any 3 rfl (mSub_any 4 rfl (mSub_any 6 rfl (mSub_any 7 rfl mSub_nil)))))))), (mFr.tr (mFr.tr mFr.rf hp1.1 rfl) hp13.1 rfl), rg_w kc_m3 rfl, hp13.2.2.1, (by omega), trivial⟩ hcs.1 hcs.2 dX11_send_50
      · skip
        replace hW := wfP_i (wfP_r hW) (i_ne c27_8 rfl (rg_i kc_10))
        have ic27_8 : v7.toInt ≠ (10 : Int32).toInt := fun z => c27_8 (Int32.toInt_inj.mp z)
        have y22 : (10 : Int32).toInt = 10 := by decide
        refine lv_bipush (v := (-2)) hx hb dX11_send_30 (by decide) ?_
        exact k_iret (v := (-2 : Int32)) xa L1 hr hlocks (Int.le_refl _) hzl ⟨hW, (mFi.sub mFi.rf hi1 mSub_nil), (mFr.tr mFr.rf hp1.1 rfl), rg_w kc_m2 rfl, hp1.2.1, (by omega), trivial⟩ hcs.1 hcs.2 dX11_send_32
    · skip
      replace hW := wfP_i (wfP_r hW) (i_lt (rg_nle c16_5) rfl (rg_i kc_1))
      have ic16_5 := Int32.lt_iff_toInt_lt.mp (rg_nle c16_5)
      have q23 : rg (0) (0) v4 := (rg_lt (rg_nle c16_5) rv4 kc_1).1
      have uq23 : (0 : Int) ≤ v4.toInt ∧ v4.toInt ≤ 0 := q23
      refine lv_iconst (v := (-1)) hx hb dX11_send_19 (by decide) ?_
      exact k_iret (v := (-1 : Int32)) xa L1 hr hlocks (Int.le_refl _) hzl ⟨hW, (mFi.sub mFi.rf hi1 mSub_nil), (mFr.tr mFr.rf hp1.1 rfl), rg_w kc_m1 rfl, hp1.2.1, (by omega), trivial⟩ hcs.1 hcs.2 dX11_send_20
