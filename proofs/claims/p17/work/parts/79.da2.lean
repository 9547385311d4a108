def rn_kedataCame : Room := { frames := 3, cells := 2, slots := 243, locals := 71 }
def im_kedataCame (i0 : Nat) (q1 : Nat) (q2 : Nat) (p3 : Int32) (p4 : Int32) : List (Nat × Nat × Nat) := [(0, (8 + q1), 1), (1, (8 + q1), 1), (2, (8 + q1), 1), (46, q1, 1), (136, i0, 1), (512, (8 + q1), 8192), (960, i0, 8192), (992, i0, 8192), (1024, i0, 8192), (1056, i0, 8192)]
def po_kedataCame (Z : cZ) (i0 : Nat) (q1 : Nat) (q2 : Nat) (p3 : Int32) (p4 : Int32) (g : mSt) (r : Int32) (Z1 : cZ) (g1 : mSt) : Prop := mFi (im_kedataCame i0 q1 q2 p3 p4) g g1 ∧ mFr [0, 1, 2, 46, 136, 512, 960, 992, 1024, 1056] g g1 ∧ rg (0) (2) r ∧ cJ Z1 g1 ∧ Z1.w 2 ≤ Z.w 2 + 0 ∧ True
def wp_kedataCame (Z : cZ) (i0 : Nat) (q1 : Nat) (q2 : Nat) (p3 : Int32) (p4 : Int32) (g : mSt) (Φ : Int32 → cZ → mSt → Prop) : Prop :=
  wp_kassembler Z q1 g (fun (_ : Int32) (Z_1 : cZ) (g1 : mSt) => po_kassembler Z q1 g 0 Z_1 g1 → cZg Z Z_1 2 (243) → ∀ Z : cZ, Z = Z_1 → wp_kasmAdd Z (8 + q1) q2 p3 g1 (fun (v4 : Int32) (g3 : mSt) => po_kasmAdd Z (8 + q1) q2 p3 g1 v4 g3 → ((v4.toInt ≠ 1) → Φ v4 Z g3) ∧ ((v4.toInt = 1) → ∀ (v10 : Int32), v10 = g3 136 i0 → rg (0) (2000000000) v10 → ∀ (v11 : Int32), v11 = v10 - v10 / (20 : Int32) * (20 : Int32) → rg (0) (19) v11 → v11.toInt = v10.toInt % 20 → ∀ (v14 : Int32), v14 = v11 * (200 : Int32) → rg (0) (3800) v14 → v14.toInt = v11.toInt * 200 → ∀ (v16 : Int32), v16 = g3 2 (8 + q1) → rg (1) (200) v16 → ∀ (g17 : mSt), g17 = cCpy g3 512 (8192 * (8 + q1) + (0 : Int32).toNatClampNeg) 960 (8192 * i0 + v14.toNatClampNeg) v16.toNatClampNeg → ∀ (g20 : mSt), g20 = up2 g17 992 (8192 * i0 + v11.toNatClampNeg) v16 → ∀ (v22 : Int32), v22 = g20 35 q1 → rg (-2147483648) (2147483647) v22 → ∀ (g23 : mSt), g23 = up2 g20 1024 (8192 * i0 + v11.toNatClampNeg) v22 → ∀ (g25 : mSt), g25 = up2 g23 1056 (8192 * i0 + v11.toNatClampNeg) p4 → ∀ (v27 : Int32), v27 = v10 + (1 : Int32) → rg (1) (2000000001) v27 → v27.toInt = v10.toInt + 1 → ∀ (g30 : mSt), g30 = up2 g25 136 i0 v27 → Φ v4 Z g30)))
set_option maxHeartbeats 4000000 in
set_option maxRecDepth 100000 in
theorem d_kedataCame (l : Launch) {G : cG} {Z : cZ} (X : Int) (g : mSt) (i0 : Nat) (q1 : Nat) (q2 : Nat) (p3 : Int32) (p4 : Int32) (sz : Nat) (hX : 0 ≤ X ∧ (X + 1) ≤ 2000000000) (hJ : cJ Z g) (hw2 : Z.w 2 + 0 ≤ 1000000) (hi0 : i0 < Z.n) (hq1 : Z.al 1 q1) (hq2 : Z.al 25 q2) (rp3 : rg (0) (1) p3) {Φ : Int32 → cZ → mSt → Prop} (hW : wfP (wp_kedataCame Z i0 q1 q2 p3 p4 g Φ)) : Met l yX4_dataCame (wk (Cond.code yX4_dataCame cX4_dataCame 8 (some .int))) (rn_kedataCame) (va_Pc [.ref (Z.ad 4 i0), .ref (Z.ad 1 q1), .ref (Z.ad 25 q2), .int p3, .int p4] (cPreA G Z X g sz)) (kE 2 (243) (cAf Z sz) (cQiA G Z (X + 1) (fun r Z1 g1 => wfP (Φ r Z1 g1) ∧ mFi (im_kedataCame i0 q1 q2 p3 p4) g g1 ∧ (mFr [0, 1, 2, 46, 136, 512, 960, 992, 1024, 1056] g g1 ∧ rg (0) (2) r ∧ cJ Z1 g1 ∧ Z1.w 2 ≤ Z.w 2 + 0 ∧ True)))) 2 (243) (cAf Z sz) := by
  refine Met.ofW (cc := cX4_dataCame) (maxL := 8) (ret := (some .int)) (by decide) rfl ?_
  intro p e s m args below meth c s₁ B hml hv
  obtain ⟨hav, hv⟩ := hv
  have hsz0 := hv.2.1
  subst hsz0
  have hr := B.returns
  have hlocks := B.notSynchronized
  obtain ⟨xa, L⟩ := k_start B rfl (fun w h => wk_in h) hv
  have hent : entryFrame m args 8 = entryFrame m ([.ref (Z.ad 4 i0), .ref (Z.ad 1 q1), .ref (Z.ad 25 q2), .int p3, .int p4] : List Value).toArray 8 := by rw [hav]
  rw [hent]
  have hl := lv_entry ([.ref (Z.ad 4 i0), .ref (Z.ad 1 q1), .ref (Z.ad 25 q2), .int p3, .int p4]) (n := 8) (Nat.le_of_ble_eq_true rfl)
  rw [lg_entry_eq]
  generalize (lg_sl ([.ref (Z.ad 4 i0), .ref (Z.ad 1 q1), .ref (Z.ad 25 q2), .int p3, .int p4]) ++ List.replicate (8 - (lg_sl ([.ref (Z.ad 4 i0), .ref (Z.ad 1 q1), .ref (Z.ad 25 q2), .int p3, .int p4])).length) Slot.unset).toArray = ls at hl ⊢
  have hl : lv_has ls 8 [(0, .ref (Z.ad 4 i0)), (1, .ref (Z.ad 1 q1)), (2, .ref (Z.ad 25 q2)), (3, .int p3), (4, .int p4)] := hl
  have x := xa.1
  have hx := x.1
  have hb := x.2.1
  have hz := x.2.2.2.2.2.2.2.1
  have hzn := hz.1
  have hzl : cZl Z Z 0 0 := cZl.rf
  have hcs : 0 ≤ 2 ∧ 0 ≤ 243 := ⟨Nat.zero_le _, Nat.zero_le _⟩
  have hal0 : Z.al 4 i0 := hz.2 4 i0 (show i0 < Z.n from hi0)
  have up3 : (0 : Int) ≤ p3.toInt ∧ p3.toInt ≤ 1 := rp3
  have up4 : (-2147483648 : Int) ≤ p4.toInt ∧ p4.toInt ≤ 2147483647 := (rg_any p4)
  refine lv_aload_n hx hb dX4_dataCame_0 rfl (lv_at hl 1 rfl) ?_
  refine k_callr xa L (k_runV (As := []) (rest := []) ⟨hx, hb, hml, x.2.2.2.2.1, x.2.2.1⟩ (d_kassembler l X g q1 _ ⟨by omega, by omega⟩ hJ (by omega) hq1 hW) (cwV 0 x.2.2.1 (wk_V kd_X1_assembler kl_X4_156 ki_X1_assembler ks_X1_X1_assembler kn_X1) rfl rfl rfl hd_kassembler ⟨Nat.le_of_ble_eq_true rfl, Nat.le_of_ble_eq_true rfl⟩) ⟨cPreA.blind, c_recv x L hq1 rfl, fun U hU hW => k_pre xa L U hU hW⟩ rfl rfl hl.1 rfl (lv_room (Nat.le_of_ble_eq_true rfl)) dX4_dataCame_1 ⟨show 0 + 2 ≤ 2 by omega, show 0 + (243) ≤ 243 by omega⟩) (fun v2 Z g1 H1 k1 kc1 kn1 hk1 hn1 hp1 hz1 xa L1 => ?_)
  obtain ⟨hW, hi1, hp1⟩ := hp1
  replace hW := wfP_i (wfP_a (wfP_i (wfP_i hW ⟨hi1, hp1.1, hp1.2.1, hp1.2.2.1, hp1.2.2.2.2⟩) (cZg_of hz1 hk1 hn1)) Z) rfl
  have hww1 := hp1.2.2.1
  have ea1_0 := hz1.2.2.1 4 i0 hal0 (by omega)
  have ea1_1 := hz1.2.2.1 1 q1 hq1 (by omega)
  have ea1_2 := hz1.2.2.1 25 q2 hq2 (by omega)
  rw [← ea1_0] at hl
  rw [← ea1_1] at hl
  rw [← ea1_2] at hl
  have al1_0 := hz1.2.1 4 i0 hal0
  have al1_1 := hz1.2.1 1 q1 hq1
  have al1_2 := hz1.2.1 25 q2 hq2
  have hZn1 := hz1.1
  have x := xa.1
  have hz := x.2.2.2.2.2.2.2.1
  have hzn := hz.1
  obtain ⟨er1, aa1, ab1⟩ := hp1.2.2.2
  subst er1
  have hzl := cZl.tr hzl hz1
  have hcs : 0 + kc1 ≤ 2 ∧ 0 + kn1 ≤ 243 := by omega
  refine lv_astore (lv' := [(5, .ref (Z.ad 0 (8 + q1))), (0, .ref (Z.ad 4 i0)), (1, .ref (Z.ad 1 q1)), (2, .ref (Z.ad 25 q2)), (3, .int p3), (4, .int p4)]) hx hb dX4_dataCame_4 hl (by decide) rfl (fun ls hl => ?_)
  refine lv_aload hx hb dX4_dataCame_6 (lv_at hl 0 rfl) ?_
  refine lv_aload_n hx hb dX4_dataCame_8 rfl (lv_at hl 3 rfl) ?_
  refine lv_iload_n hx hb dX4_dataCame_9 rfl (lv_at hl 4 rfl) ?_
  refine c_ci (As := [.ref (Z.ad 25 q2), .int p3]) (rest := []) x hml L1 0 (8 + q1) aa1 rfl (d_kasmAdd l X g1 (8 + q1) q2 p3 ⟨by omega, by omega⟩ aa1 ab1 al1_2 (rg_w rp3 rfl) hW) (wk_V kd_X0_add kl_X4_160 ki_X0_add ks_X0_X0_add kn_X0) rfl ⟨rfl, rfl⟩ hd_kasmAdd ⟨Nat.le_of_ble_eq_true rfl, Nat.le_of_ble_eq_true rfl⟩ rfl hl.1 rfl (lv_room (Nat.le_of_ble_eq_true rfl)) dX4_dataCame_10 (fun v4 g3 H3 k3 hp3 L3 => ?_) hcs
  obtain ⟨hW, hi3, hp3⟩ := hp3
  replace hW := wfP_i hW ⟨hi3, hp3⟩
  have rv4 : rg (0) (2) v4 := hp3.2.1
  have uv4 : (0 : Int) ≤ v4.toInt ∧ v4.toInt ≤ 2 := rv4
  have hw5 := hp3.2.2
  refine lv_istore (lv' := [(6, .int v4), (5, .ref (Z.ad 0 (8 + q1))), (0, .ref (Z.ad 4 i0)), (1, .ref (Z.ad 1 q1)), (2, .ref (Z.ad 25 q2)), (3, .int p3), (4, .int p4)]) hx hb dX4_dataCame_13 hl (by decide) rfl (fun ls hl => ?_)
  refine lv_iload hx hb dX4_dataCame_15 (lv_at hl 0 rfl) ?_
  refine lv_iconst (v := 1) hx hb dX4_dataCame_17 (by decide) ?_
  refine lv_icmp_ne (tgt := 96) hx hb dX4_dataCame_18 (by decide) (fun c18_6 => ?_) (fun c18_6 => ?_)
  · skip
    replace hW := wfP_i (wfP_l hW) (i_ne c18_6 rfl (rg_i kc_1))
    have ic18_6 : v4.toInt ≠ (1 : Int32).toInt := fun z => c18_6 (Int32.toInt_inj.mp z)
    have y7 : (1 : Int32).toInt = 1 := by decide
    refine lv_iload hx hb dX4_dataCame_96 (lv_at hl 0 rfl) ?_
    exact k_iret (v := v4) xa L3 hr hlocks (by omega) hzl ⟨hW, (mFi.sub (mFi.sub mFi.rf hi1 (mSub_eq 0 rfl (mSub_eq 1 rfl (mSub_eq 2 rfl (mSub_eq 3 rfl (mSub_eq 5 rfl mSub_nil)))))) hi3 (mSub_eq 1 rfl (mSub_eq 2 rfl (mSub_eq 5 rfl mSub_nil)))), (mFr.tr (mFr.tr mFr.rf hp1.1 rfl) hp3.1 rfl), rg_w rv4 rfl, (cJ_fr hp1.2.1 hp3.1 rfl), (by omega), trivial⟩ hcs.1 hcs.2 dX4_dataCame_98
  · skip
    replace hW := wfP_i (wfP_r hW) (i_eq c18_6 rfl (rg_i kc_1))
    have ic18_6 := congrArg Int32.toInt c18_6
    have y8 : (1 : Int32).toInt = 1 := by decide
    have q9 : rg (1) (1) v4 := (rg_eq c18_6 rv4 kc_1).1
    have uq9 : (1 : Int) ≤ v4.toInt ∧ v4.toInt ≤ 1 := q9
    refine lv_aload_n hx hb dX4_dataCame_21 rfl (lv_at hl 2 rfl) ?_
    refine c_geti x L3 4 i0 8 136 al1_0 rfl rfl (wk_in kf_X4_165) dX4_dataCame_22 (fun v10 ev10 wv10 => ?_)
    have rv10 : rg 0 2000000000 v10 := rg_X ⟨by omega, by omega⟩ (clj_136 wv10)
    replace hW := (wfP_i (wfP_i (wfP_a hW v10) ev10) rv10)
    have uv10 : (0 : Int) ≤ v10.toInt ∧ v10.toInt ≤ 2000000000 := rv10
    refine lv_bipush (v := 20) hx hb dX4_dataCame_25 (by decide) ?_
    refine lv_irem hx hb dX4_dataCame_27 (by decide) ?_
    refine lv_topi (fun v11 ev11 => ?_)
    have rv11 : rg (0) (19) v11 := (rg_rem ev11 rv10 kc_20 rfl).1
    replace hW := (wfP_i (wfP_i (wfP_i (wfP_a hW v11) ev11) rv11) ((rg_rem ev11 rv10 kc_20 rfl).2))
    have tv11 := (rg_rem ev11 rv10 kc_20 rfl).2
    have y12 : (20 : Int32).toInt = 20 := by decide
    have uv11 : (0 : Int) ≤ v11.toInt ∧ v11.toInt ≤ 19 := rv11
    refine lv_istore (lv' := [(7, .int v11), (6, .int v4), (5, .ref (Z.ad 0 (8 + q1))), (0, .ref (Z.ad 4 i0)), (1, .ref (Z.ad 1 q1)), (2, .ref (Z.ad 25 q2)), (3, .int p3), (4, .int p4)]) hx hb dX4_dataCame_28 hl (by decide) rfl (fun ls hl => ?_)
    refine lv_aload hx hb dX4_dataCame_30 (lv_at hl 2 rfl) ?_
    refine c_getr (a := Z.ad 16 (8 + q1)) x L3 0 (8 + q1) 0 aa1 rfl rfl (wk_in kf_X4_168) dX4_dataCame_32 ?_
    refine lv_iconst (v := 0) hx hb dX4_dataCame_35 (by decide) ?_
    refine lv_aload_n hx hb dX4_dataCame_36 rfl (lv_at hl 3 rfl) ?_
    have al13 : Z.al 30 i0 := hz.2 30 i0 (show i0 < Z.n from (by omega))
    refine c_getr (a := Z.ad 30 i0) x L3 4 i0 9 al1_0 rfl rfl (wk_in kf_X4_24) dX4_dataCame_37 ?_
    refine lv_iload hx hb dX4_dataCame_40 (lv_at hl 0 rfl) ?_
    refine lv_sipush (v := 200) hx hb dX4_dataCame_42 (by decide) ?_
    refine lv_imul hx hb dX4_dataCame_45 ?_
    refine lv_topi (fun v14 ev14 => ?_)
    have rv14 : rg (0) (3800) v14 := (rg_mul ev14 rv11 kc_200 rfl).1
    replace hW := (wfP_i (wfP_i (wfP_i (wfP_a hW v14) ev14) rv14) ((rg_mul ev14 rv11 kc_200 rfl).2))
    have tv14 := (rg_mul ev14 rv11 kc_200 rfl).2
    have y15 : (200 : Int32).toInt = 200 := by decide
    have uv14 : (0 : Int) ≤ v14.toInt ∧ v14.toInt ≤ 3800 := rv14
    refine lv_aload hx hb dX4_dataCame_46 (lv_at hl 2 rfl) ?_
    refine c_geti x L3 0 (8 + q1) 2 2 aa1 rfl rfl (wk_in kf_X4_171) dX4_dataCame_48 (fun v16 ev16 wv16 => ?_)
    have rv16 : rg (-2147483648) (2147483647) v16 := rg_any v16
    have rrv16 : rg (1) (200) v16 := (by have hh := hw5 (by omega); rw [ev16]; exact ⟨hh.1, hh.2⟩)
    replace hW := (wfP_i (wfP_i (wfP_a hW v16) ev16) rrv16)
    have uv16 : (1 : Int) ≤ v16.toInt ∧ v16.toInt ≤ 200 := rrv16
    refine c_copy (rest := []) x (hml.trans hl.1.symm) L3 16 (8 + q1) 30 i0 512 960 ab1 al13 rfl rfl rfl rfl ⟨rfl, rfl⟩ kl_X4_174 kw_cp (Int.le_trans (by decide) kc_0.1) (Int.le_trans (by decide) rv14.1) (Int.le_trans (by decide) rrv16.1) (Int.le_trans (Int.add_le_add kc_0.2 rrv16.2) (by decide)) (Int.le_trans (Int.add_le_add rv14.2 rrv16.2) (by decide)) (Nat.le_of_ble_eq_true rfl) (Nat.le_of_ble_eq_true rfl) dX4_dataCame_51 (fun g17 H17 k17 ec17 L17 => ?_)
    replace hW := (wfP_i (wfP_a hW g17) ec17)
    refine lv_aload_n hx hb dX4_dataCame_54 rfl (lv_at hl 3 rfl) ?_
    have al18 : Z.al 31 i0 := hz.2 31 i0 (show i0 < Z.n from (by omega))
    refine c_getr (a := Z.ad 31 i0) x L17 4 i0 10 al1_0 rfl rfl (wk_in kf_X4_28) dX4_dataCame_55 ?_
    refine lv_iload hx hb dX4_dataCame_58 (lv_at hl 0 rfl) ?_
    refine lv_aload hx hb dX4_dataCame_60 (lv_at hl 2 rfl) ?_
    refine c_geti x L17 0 (8 + q1) 2 2 aa1 rfl rfl (wk_in kf_X4_171) dX4_dataCame_62 (fun v19 ev19 wv19 => ?_)
    refine m_top (((mm_fr ev16 (cCpy_fr ec17) rfl)).trans ev19.symm) ?_
    refine c_st x L17 31 i0 992 al18 rfl rfl rv11 rfl (crj_992 (rg_w rrv16 rfl)) dX4_dataCame_65 (fun g20 H20 k20 eg20 L20 => ?_)
    replace hW := (wfP_i (wfP_a hW g20) eg20)
    refine lv_aload_n hx hb dX4_dataCame_66 rfl (lv_at hl 3 rfl) ?_
    have al21 : Z.al 32 i0 := hz.2 32 i0 (show i0 < Z.n from (by omega))
    refine c_getr (a := Z.ad 32 i0) x L20 4 i0 11 al1_0 rfl rfl (wk_in kf_X4_31) dX4_dataCame_67 ?_
    refine lv_iload hx hb dX4_dataCame_70 (lv_at hl 0 rfl) ?_
    refine lv_aload_n hx hb dX4_dataCame_72 rfl (lv_at hl 4 rfl) ?_
    refine c_geti x L20 1 q1 3 35 al1_1 rfl rfl (wk_in kf_X4_44) dX4_dataCame_73 (fun v22 ev22 wv22 => ?_)
    have rv22 : rg (-2147483648) (2147483647) v22 := rg_any v22
    replace hW := (wfP_i (wfP_i (wfP_a hW v22) ev22) rv22)
    have uv22 : (-2147483648 : Int) ≤ v22.toInt ∧ v22.toInt ≤ 2147483647 := rv22
    have sv22 : v22.toInt = (g 35 q1).toInt := congrArg Int32.toInt (ev22.trans (congrFun ((show mFr [0, 1, 2, 46, 136, 512, 960, 992, 1024, 1056] g g20 from (mFr.upE (mFr.tr (mFr.tr (mFr.tr mFr.rf hp1.1 rfl) hp3.1 rfl) (cCpy_fr ec17) rfl) eg20 rfl)).at 35 rfl) _))
    refine c_st x L20 32 i0 1024 al21 rfl rfl rv11 rfl (rg_any v22) dX4_dataCame_76 (fun g23 H23 k23 eg23 L23 => ?_)
    replace hW := (wfP_i (wfP_a hW g23) eg23)
    refine lv_aload_n hx hb dX4_dataCame_77 rfl (lv_at hl 3 rfl) ?_
    have al24 : Z.al 33 i0 := hz.2 33 i0 (show i0 < Z.n from (by omega))
    refine c_getr (a := Z.ad 33 i0) x L23 4 i0 12 al1_0 rfl rfl (wk_in kf_X4_34) dX4_dataCame_78 ?_
    refine lv_iload hx hb dX4_dataCame_81 (lv_at hl 0 rfl) ?_
    refine lv_iload hx hb dX4_dataCame_83 (lv_at hl 7 rfl) ?_
    refine c_st x L23 33 i0 1056 al24 rfl rfl rv11 rfl (rg_any p4) dX4_dataCame_85 (fun g25 H25 k25 eg25 L25 => ?_)
    replace hW := (wfP_i (wfP_a hW g25) eg25)
    refine lv_aload_n hx hb dX4_dataCame_86 rfl (lv_at hl 3 rfl) ?_
    refine lv_dup hx hb dX4_dataCame_87 rfl ?_
    refine c_geti x L25 4 i0 8 136 al1_0 rfl rfl (wk_in kf_X4_165) dX4_dataCame_88 (fun v26 ev26 wv26 => ?_)
    refine m_top (((mm_up (mm_up (mm_up (mm_fr ev10 (cCpy_fr ec17) rfl) eg20 rfl) eg23 rfl) eg25 rfl)).trans ev26.symm) ?_
    refine lv_iconst (v := 1) hx hb dX4_dataCame_91 (by decide) ?_
    refine lv_iadd hx hb dX4_dataCame_92 ?_
    refine lv_topi (fun v27 ev27 => ?_)
    have rv27 : rg (1) (2000000001) v27 := (rg_add ev27 rv10 kc_1 rfl).1
    replace hW := (wfP_i (wfP_i (wfP_i (wfP_a hW v27) ev27) rv27) (w_iadd ((rg_add ev27 rv10 kc_1 rfl).2) rfl (rg_i kc_1)))
    have tv27 := (rg_add ev27 rv10 kc_1 rfl).2
    have y28 : (1 : Int32).toInt = 1 := by decide
    have uv27 : (1 : Int) ≤ v27.toInt ∧ v27.toInt ≤ 2000000001 := rv27
    have L29 := cL.mono L25 (show X ≤ X + 1 by omega)
    refine c_puti x L29 4 i0 8 136 al1_0 rfl rfl ⟨rfl, by decide +kernel⟩ (wk_in kf_X4_165) dX4_dataCame_93 (crj_136 (rg_inc ev27 (clj_136 wv10) (by omega) (by omega))) (fun g30 H30 k30 eg30 L30 => ?_)
    replace hW := (wfP_i (wfP_a hW g30) eg30)
    refine lv_iload hx hb dX4_dataCame_96 (lv_at hl 1 rfl) ?_
    exact k_iret (v := v4) xa L30 hr hlocks (by omega) hzl ⟨hW, (mFi.up (mFi.up (mFi.up (mFi.up (mFi.cpy (L := 4000) (mFi.sub (mFi.sub mFi.rf hi1 (mSub_eq 0 rfl (mSub_eq 1 rfl (mSub_eq 2 rfl (mSub_eq 3 rfl (mSub_eq 5 rfl mSub_nil)))))) hi3 (mSub_eq 1 rfl (mSub_eq 2 rfl (mSub_eq 5 rfl mSub_nil)))) ec17 6 rfl (Int.le_trans (by decide) rv14.1) (Int.le_trans (Int.add_le_add rv14.2 rrv16.2) (by decide)) (Int.le_trans (by decide) rrv16.1) (by decide)) eg20 (mIn_at 7 rfl (Or.inr (mIx rv11 rfl)))) eg23 (mIn_at 8 rfl (Or.inr (mIx rv11 rfl)))) eg25 (mIn_at 9 rfl (Or.inr (mIx rv11 rfl)))) eg30 (mIn_at 4 rfl (Or.inr (Nat.div_one _)))), (mFr.upE (mFr.upE (mFr.upE (mFr.upE (mFr.tr (mFr.tr (mFr.tr mFr.rf hp1.1 rfl) hp3.1 rfl) (cCpy_fr ec17) rfl) eg20 rfl) eg23 rfl) eg25 rfl) eg30 rfl), rg_w q9 rfl, (cJ_up (cJ_up (cJ_up (cJ_up (cJ_fr (cJ_fr hp1.2.1 hp3.1 rfl) (cCpy_fr ec17) rfl) eg20 rfl) eg23 rfl) eg25 rfl) eg30 rfl), (by omega), trivial⟩ hcs.1 hcs.2 dX4_dataCame_98

def rn_kcellCame : Room := { frames := 4, cells := 2, slots := 243, locals := 119 }
def im_kcellCame (i0 : Nat) (p1 : Int32) (q2 : Nat) : List (Nat × Nat × Nat) := [(0, 0, 0), (1, 0, 0), (2, 0, 0), (46, 0, 0), (67, 0, 0), (108, 0, 0), (109, q2, 1), (136, 0, 0), (512, 0, 0), (544, 0, 0), (576, 0, 0), (960, 0, 0), (992, 0, 0), (1024, 0, 0), (1056, 0, 0)]
def po_kcellCame (Z : cZ) (i0 : Nat) (p1 : Int32) (q2 : Nat) (g : mSt) (r : Int32) (Z1 : cZ) (g1 : mSt) : Prop := mFi (im_kcellCame i0 p1 q2) g g1 ∧ mFr [0, 1, 2, 46, 67, 108, 109, 136, 512, 544, 576, 960, 992, 1024, 1056] g g1 ∧ rg (0) (1) r ∧ cJ Z1 g1 ∧ Z1.w 2 ≤ Z.w 2 + 0 ∧ True
def wp_kcellCame (Z : cZ) (i0 : Nat) (p1 : Int32) (q2 : Nat) (g : mSt) (Φ : Int32 → cZ → mSt → Prop) : Prop :=
  ∀ (v2 : Int32), v2 = g 231 q2 → rg (-2147483648) (2147483647) v2 → ∀ (v3 : Int32), v3 = (v2.toUInt32 >>> ((20 : Int32).toUInt32 &&& Int32.toUInt32 31)).toInt32 → rg (0) (4095) v3 → ∀ (v4 : Int32), v4 = v3 &&& (255 : Int32) → rg (0) (255) v4 → ∀ (v5 : Int32), v5 = (v2.toUInt32 >>> ((4 : Int32).toUInt32 &&& Int32.toUInt32 31)).toInt32 → rg (0) (268435455) v5 → ∀ (v6 : Int32), v6 = v5 &&& (65535 : Int32) → rg (0) (65535) v6 → ∀ (v7 : Int32), v7 = v2 &&& (2 : Int32) → rg (-2147483648) (2147483647) v7 → ((v7.toInt = 0) → ((v4.toInt ≠ 0) → ((v4.toInt ≠ 0) → ((v4.toInt ≠ 0) → ∀ (v18 : Int32), v18 = g 108 q2 → rg (-2147483648) (2147483647) v18 → ∀ (v19 : Int32), v19 = v18 + (1 : Int32) → rg (-2147483648) (2147483647) v19 → ∀ (g20 : mSt), g20 = up2 g 108 q2 v19 → Φ (0 : Int32) Z g20) ∧ ((v4.toInt = 0) → True)) ∧ ((v4.toInt = 0) → True)) ∧ ((v4.toInt = 0) → ((v6.toInt ≠ 0) → ((v4.toInt ≠ 0) → True) ∧ ((v4.toInt = 0) → ((v6.toInt ≠ 5) → ((v4.toInt ≠ 0) → True) ∧ ((v4.toInt = 0) → ∀ (v36 : Int32), v36 = p1 - p1 / (2 : Int32) * (2 : Int32) → rg (0) (1) v36 → v36.toInt = p1.toInt % 2 → ((v36.toInt ≠ 0) → ∀ (v42 : Int32), v42 = p1 / (2 : Int32) → rg (0) (3) v42 → v42.toInt = p1.toInt / 2 → wp_kactive Z v42.toInt.toNat v6 g (fun (v46 : Int32) (g45 : mSt) => po_kactive Z v42.toInt.toNat v6 g v46 g45 → ((v46.toInt < 0) → ∀ (v48 : Int32), v48 = g45 108 q2 → rg (-2147483648) (2147483647) v48 → ∀ (v49 : Int32), v49 = v48 + (1 : Int32) → rg (-2147483648) (2147483647) v49 → ∀ (g50 : mSt), g50 = up2 g45 108 q2 v49 → Φ (0 : Int32) Z g50) ∧ ((0 ≤ v46.toInt) → ((v36.toInt ≠ 0) → ∀ (v54 : Int32), v54 = g45 362 i0 → rg (-2147483648) (2147483647) v54 → wp_kedataCame Z v42.toInt.toNat v46.toInt.toNat q2 (0 : Int32) v54 g45 (fun (v56 : Int32) (Z_55 : cZ) (g55 : mSt) => po_kedataCame Z v42.toInt.toNat v46.toInt.toNat q2 (0 : Int32) v54 g45 v56 Z_55 g55 → cZg Z Z_55 2 (243) → ∀ Z : cZ, Z = Z_55 → ((v56.toInt ≠ 2) → Φ (0 : Int32) Z g55) ∧ ((v56.toInt = 2) → ∀ (v62 : Int32), v62 = g55 109 q2 → rg (-2147483648) (2147483647) v62 → ∀ (v63 : Int32), v63 = v62 + (1 : Int32) → rg (-2147483648) (2147483647) v63 → ∀ (g64 : mSt), g64 = up2 g55 109 q2 v63 → Φ (0 : Int32) Z g64))) ∧ ((v36.toInt = 0) → True)))) ∧ ((v36.toInt = 0) → ∀ (v69 : Int32), v69 = p1 / (2 : Int32) → rg (0) (3) v69 → v69.toInt = p1.toInt / 2 → wp_kjoined Z v69.toInt.toNat v6 g (fun (v73 : Int32) (g72 : mSt) => po_kjoined Z v69.toInt.toNat v6 g v73 g72 → ((v73.toInt < 0) → ∀ (v75 : Int32), v75 = g72 108 q2 → rg (-2147483648) (2147483647) v75 → ∀ (v76 : Int32), v76 = v75 + (1 : Int32) → rg (-2147483648) (2147483647) v76 → ∀ (g77 : mSt), g77 = up2 g72 108 q2 v76 → Φ (0 : Int32) Z g77) ∧ ((0 ≤ v73.toInt) → ((v36.toInt ≠ 0) → True) ∧ ((v36.toInt = 0) → ∀ (v81 : Int32), v81 = g72 43 v73.toInt.toNat → ((v81.toInt < 0) → wp_kpassOn_N Z i0 v2 q2 g72 (fun (_ : Int32) (g88 : mSt) => po_kpassOn_N Z i0 v2 q2 g72 0 g88 → Φ (0 : Int32) Z g88)) ∧ ((0 ≤ v81.toInt) → wp_kpassOn Z i0 v81.toInt.toNat v2 q2 g72 (fun (_ : Int32) (g90 : mSt) => po_kpassOn Z i0 v81.toInt.toNat v2 q2 g72 0 g90 → Φ (0 : Int32) Z g90)))))))) ∧ ((v6.toInt = 5) → wp_kasmAdd Z q2 q2 (0 : Int32) g (fun (v96 : Int32) (g95 : mSt) => po_kasmAdd Z q2 q2 (0 : Int32) g v96 g95 → ((v96.toInt ≠ 2) → ((v96.toInt ≠ 1) → Φ (0 : Int32) Z g95) ∧ ((v96.toInt = 1) → Φ (1 : Int32) Z g95)) ∧ ((v96.toInt = 2) → ∀ (v108 : Int32), v108 = g95 109 q2 → rg (-2147483648) (2147483647) v108 → ∀ (v109 : Int32), v109 = v108 + (1 : Int32) → rg (-2147483648) (2147483647) v109 → ∀ (g110 : mSt), g110 = up2 g95 109 q2 v109 → ((v96.toInt ≠ 1) → Φ (0 : Int32) Z g110) ∧ ((v96.toInt = 1) → True)))))) ∧ ((v6.toInt = 0) → Φ (0 : Int32) Z g))) ∧ ((v7.toInt ≠ 0) → ((v4.toInt ≠ 0) → ((v4.toInt ≠ 0) → ((v4.toInt ≠ 0) → ∀ (v124 : Int32), v124 = g 108 q2 → rg (-2147483648) (2147483647) v124 → ∀ (v125 : Int32), v125 = v124 + (1 : Int32) → rg (-2147483648) (2147483647) v125 → ∀ (g126 : mSt), g126 = up2 g 108 q2 v125 → Φ (0 : Int32) Z g126) ∧ ((v4.toInt = 0) → True)) ∧ ((v4.toInt = 0) → True)) ∧ ((v4.toInt = 0) → ((v6.toInt ≠ 0) → ((v4.toInt ≠ 0) → True) ∧ ((v4.toInt = 0) → ((v6.toInt ≠ 5) → ((v4.toInt ≠ 0) → True) ∧ ((v4.toInt = 0) → ∀ (v142 : Int32), v142 = p1 - p1 / (2 : Int32) * (2 : Int32) → rg (0) (1) v142 → v142.toInt = p1.toInt % 2 → ((v142.toInt ≠ 0) → ∀ (v148 : Int32), v148 = p1 / (2 : Int32) → rg (0) (3) v148 → v148.toInt = p1.toInt / 2 → wp_kactive Z v148.toInt.toNat v6 g (fun (v152 : Int32) (g151 : mSt) => po_kactive Z v148.toInt.toNat v6 g v152 g151 → ((v152.toInt < 0) → ∀ (v154 : Int32), v154 = g151 108 q2 → rg (-2147483648) (2147483647) v154 → ∀ (v155 : Int32), v155 = v154 + (1 : Int32) → rg (-2147483648) (2147483647) v155 → ∀ (g156 : mSt), g156 = up2 g151 108 q2 v155 → Φ (0 : Int32) Z g156) ∧ ((0 ≤ v152.toInt) → ((v142.toInt ≠ 0) → ∀ (v160 : Int32), v160 = g151 362 i0 → rg (-2147483648) (2147483647) v160 → wp_kedataCame Z v148.toInt.toNat v152.toInt.toNat q2 (1 : Int32) v160 g151 (fun (v162 : Int32) (Z_161 : cZ) (g161 : mSt) => po_kedataCame Z v148.toInt.toNat v152.toInt.toNat q2 (1 : Int32) v160 g151 v162 Z_161 g161 → cZg Z Z_161 2 (243) → ∀ Z : cZ, Z = Z_161 → ((v162.toInt ≠ 2) → Φ (0 : Int32) Z g161) ∧ ((v162.toInt = 2) → ∀ (v168 : Int32), v168 = g161 109 q2 → rg (-2147483648) (2147483647) v168 → ∀ (v169 : Int32), v169 = v168 + (1 : Int32) → rg (-2147483648) (2147483647) v169 → ∀ (g170 : mSt), g170 = up2 g161 109 q2 v169 → Φ (0 : Int32) Z g170))) ∧ ((v142.toInt = 0) → True)))) ∧ ((v142.toInt = 0) → ∀ (v175 : Int32), v175 = p1 / (2 : Int32) → rg (0) (3) v175 → v175.toInt = p1.toInt / 2 → wp_kjoined Z v175.toInt.toNat v6 g (fun (v179 : Int32) (g178 : mSt) => po_kjoined Z v175.toInt.toNat v6 g v179 g178 → ((v179.toInt < 0) → ∀ (v181 : Int32), v181 = g178 108 q2 → rg (-2147483648) (2147483647) v181 → ∀ (v182 : Int32), v182 = v181 + (1 : Int32) → rg (-2147483648) (2147483647) v182 → ∀ (g183 : mSt), g183 = up2 g178 108 q2 v182 → Φ (0 : Int32) Z g183) ∧ ((0 ≤ v179.toInt) → ((v142.toInt ≠ 0) → True) ∧ ((v142.toInt = 0) → ∀ (v187 : Int32), v187 = g178 43 v179.toInt.toNat → ((v187.toInt < 0) → wp_kpassOn_N Z i0 v2 q2 g178 (fun (_ : Int32) (g194 : mSt) => po_kpassOn_N Z i0 v2 q2 g178 0 g194 → Φ (0 : Int32) Z g194)) ∧ ((0 ≤ v187.toInt) → wp_kpassOn Z i0 v187.toInt.toNat v2 q2 g178 (fun (_ : Int32) (g196 : mSt) => po_kpassOn Z i0 v187.toInt.toNat v2 q2 g178 0 g196 → Φ (0 : Int32) Z g196)))))))) ∧ ((v6.toInt = 5) → wp_kasmAdd Z q2 q2 (1 : Int32) g (fun (v202 : Int32) (g201 : mSt) => po_kasmAdd Z q2 q2 (1 : Int32) g v202 g201 → ((v202.toInt ≠ 2) → ((v202.toInt ≠ 1) → Φ (0 : Int32) Z g201) ∧ ((v202.toInt = 1) → Φ (1 : Int32) Z g201)) ∧ ((v202.toInt = 2) → ∀ (v214 : Int32), v214 = g201 109 q2 → rg (-2147483648) (2147483647) v214 → ∀ (v215 : Int32), v215 = v214 + (1 : Int32) → rg (-2147483648) (2147483647) v215 → ∀ (g216 : mSt), g216 = up2 g201 109 q2 v215 → ((v202.toInt ≠ 1) → Φ (0 : Int32) Z g216) ∧ ((v202.toInt = 1) → True)))))) ∧ ((v6.toInt = 0) → Φ (0 : Int32) Z g)))
set_option maxHeartbeats 4000000 in
set_option maxRecDepth 100000 in
theorem d_kcellCame (l : Launch) {G : cG} {Z : cZ} (X : Int) (g : mSt) (i0 : Nat) (p1 : Int32) (q2 : Nat) (sz : Nat) (hX : 0 ≤ X ∧ (X + 1) ≤ 2000000000) (hJ : cJ Z g) (hw2 : Z.w 2 + 0 ≤ 1000000) (hal0 : Z.al 11 i0) (rp1 : rg (0) (7) p1) (hq2 : Z.al 3 q2) (hd : p1.toInt < 2 * (Z.n : Int) ∧ q2 < 2 * Z.n) {Φ : Int32 → cZ → mSt → Prop} (hW : wfP (wp_kcellCame Z i0 p1 q2 g Φ)) : Met l yX11_cellCame (wk (Cond.code yX11_cellCame cX11_cellCame 8 (some .boolean))) (rn_kcellCame) (va_Pc [.ref (Z.ad 11 i0), .int p1, .ref (Z.ad 3 q2)] (cPreA G Z X g sz)) (kE 2 (243) (cAf Z sz) (cQiA G Z (X + 1) (fun r Z1 g1 => wfP (Φ r Z1 g1) ∧ mFi (im_kcellCame i0 p1 q2) g g1 ∧ (mFr [0, 1, 2, 46, 67, 108, 109, 136, 512, 544, 576, 960, 992, 1024, 1056] g g1 ∧ rg (0) (1) r ∧ cJ Z1 g1 ∧ Z1.w 2 ≤ Z.w 2 + 0 ∧ True)))) 2 (243) (cAf Z sz) := by
  refine Met.ofW (cc := cX11_cellCame) (maxL := 8) (ret := (some .boolean)) (by decide) rfl ?_
  intro p e s m args below meth c s₁ B hml hv
  obtain ⟨hav, hv⟩ := hv
  have hsz0 := hv.2.1
  subst hsz0
  have hr := B.returns
  have hlocks := B.notSynchronized
  obtain ⟨xa, L⟩ := k_start B rfl (fun w h => wk_in h) hv
  have hent : entryFrame m args 8 = entryFrame m ([.ref (Z.ad 11 i0), .int p1, .ref (Z.ad 3 q2)] : List Value).toArray 8 := by rw [hav]
  rw [hent]
  have hl := lv_entry ([.ref (Z.ad 11 i0), .int p1, .ref (Z.ad 3 q2)]) (n := 8) (Nat.le_of_ble_eq_true rfl)
  rw [lg_entry_eq]
  generalize (lg_sl ([.ref (Z.ad 11 i0), .int p1, .ref (Z.ad 3 q2)]) ++ List.replicate (8 - (lg_sl ([.ref (Z.ad 11 i0), .int p1, .ref (Z.ad 3 q2)])).length) Slot.unset).toArray = ls at hl ⊢
  have hl : lv_has ls 8 [(0, .ref (Z.ad 11 i0)), (1, .int p1), (2, .ref (Z.ad 3 q2))] := hl
  have x := xa.1
  have hx := x.1
  have hb := x.2.1
  have hz := x.2.2.2.2.2.2.2.1
  have hzn := hz.1
  have hzl : cZl Z Z 0 0 := cZl.rf
  have hcs : 0 ≤ 2 ∧ 0 ≤ 243 := ⟨Nat.zero_le _, Nat.zero_le _⟩
  have up1 : (0 : Int) ≤ p1.toInt ∧ p1.toInt ≤ 7 := rp1
  refine lv_aload_n hx hb dX11_cellCame_0 rfl (lv_at hl 2 rfl) ?_
  have al1 : Z.al 7 q2 := hz.2 7 q2 (show q2 < 2 * Z.n from (by omega))
  refine c_getr (a := Z.ad 7 q2) x L 3 q2 2 hq2 rfl rfl (wk_in kf_X11_119) dX11_cellCame_1 ?_
  refine c_geti x L 7 q2 7 231 al1 rfl rfl (wk_in kf_X11_171) dX11_cellCame_4 (fun v2 ev2 wv2 => ?_)
  have rv2 : rg (-2147483648) (2147483647) v2 := rg_any v2
  replace hW := (wfP_i (wfP_i (wfP_a hW v2) ev2) rv2)
  have uv2 : (-2147483648 : Int) ≤ v2.toInt ∧ v2.toInt ≤ 2147483647 := rv2
  have sv2 : v2.toInt = (g 231 q2).toInt := congrArg Int32.toInt (ev2.trans (congrFun ((show mFr [0, 1, 2, 46, 67, 108, 109, 136, 512, 544, 576, 960, 992, 1024, 1056] g g from mFr.rf).at 231 rfl) _))
  refine lv_istore_n (lv' := [(3, .int v2), (0, .ref (Z.ad 11 i0)), (1, .int p1), (2, .ref (Z.ad 3 q2))]) hx hb dX11_cellCame_7 rfl hl (by decide) rfl (fun ls hl => ?_)
  refine lv_iload_n hx hb dX11_cellCame_8 rfl (lv_at hl 0 rfl) ?_
  refine lv_bipush (v := 20) hx hb dX11_cellCame_9 (by decide) ?_
  refine lv_iushr hx hb dX11_cellCame_11 rfl ?_
  refine lv_topi (fun v3 ev3 => ?_)
  have rv3 : rg (0) (4095) v3 := rg_ush ev3 20 rfl
  replace hW := (wfP_i (wfP_i (wfP_a hW v3) ev3) rv3)
  have uv3 : (0 : Int) ≤ v3.toInt ∧ v3.toInt ≤ 4095 := rv3
  refine lv_sipush (v := 255) hx hb dX11_cellCame_12 (by decide) ?_
  refine lv_iand hx hb dX11_cellCame_15 ?_
  refine lv_topi (fun v4 ev4 => ?_)
  have rv4 : rg (0) (255) v4 := rg_and ev4 8 255 (by decide) rfl
  replace hW := (wfP_i (wfP_i (wfP_a hW v4) ev4) rv4)
  have uv4 : (0 : Int) ≤ v4.toInt ∧ v4.toInt ≤ 255 := rv4
  refine lv_istore (lv' := [(4, .int v4), (3, .int v2), (0, .ref (Z.ad 11 i0)), (1, .int p1), (2, .ref (Z.ad 3 q2))]) hx hb dX11_cellCame_16 hl (by decide) rfl (fun ls hl => ?_)
  refine lv_iload_n hx hb dX11_cellCame_18 rfl (lv_at hl 1 rfl) ?_
  refine lv_iconst (v := 4) hx hb dX11_cellCame_19 (by decide) ?_
  refine lv_iushr hx hb dX11_cellCame_20 rfl ?_
  refine lv_topi (fun v5 ev5 => ?_)
  have rv5 : rg (0) (268435455) v5 := rg_ush ev5 4 rfl
  replace hW := (wfP_i (wfP_i (wfP_a hW v5) ev5) rv5)
  have uv5 : (0 : Int) ≤ v5.toInt ∧ v5.toInt ≤ 268435455 := rv5
  refine lv_ldc (own := RX11) (v := 65535) hx hb x.2.2.2.2.1 (x.2.2.1 _ (wk_in kk_X11_174)) dX11_cellCame_21 ?_
  refine lv_iand hx hb dX11_cellCame_23 ?_
  refine lv_topi (fun v6 ev6 => ?_)
  have rv6 : rg (0) (65535) v6 := rg_and ev6 16 65535 (by decide) rfl
  replace hW := (wfP_i (wfP_i (wfP_a hW v6) ev6) rv6)
  have uv6 : (0 : Int) ≤ v6.toInt ∧ v6.toInt ≤ 65535 := rv6
  refine lv_istore (lv' := [(5, .int v6), (4, .int v4), (3, .int v2), (0, .ref (Z.ad 11 i0)), (1, .int p1), (2, .ref (Z.ad 3 q2))]) hx hb dX11_cellCame_24 hl (by decide) rfl (fun ls hl => ?_)
  refine lv_iload_n hx hb dX11_cellCame_26 rfl (lv_at hl 2 rfl) ?_
  refine lv_iconst (v := 2) hx hb dX11_cellCame_27 (by decide) ?_
  refine lv_iand hx hb dX11_cellCame_28 ?_
  refine lv_topi (fun v7 ev7 => ?_)
  have rv7 : rg (-2147483648) (2147483647) v7 := rg_any v7
  replace hW := (wfP_i (wfP_i (wfP_a hW v7) ev7) rv7)
  have uv7 : (-2147483648 : Int) ≤ v7.toInt ∧ v7.toInt ≤ 2147483647 := rv7
  refine lv_if_eq (tgt := 36) hx hb dX11_cellCame_29 (by decide) (fun c29_8 => ?_) (fun c29_8 => ?_)
  · skip
    replace hW := wfP_i (wfP_l hW) (i_eq c29_8 rfl (rg_i kc_0))
    have ic29_8 := congrArg Int32.toInt c29_8
    have y9 : (0 : Int32).toInt = 0 := by decide
    have q10 : rg (0) (0) v7 := (rg_eq c29_8 rv7 kc_0).1
    have uq10 : (0 : Int) ≤ v7.toInt ∧ v7.toInt ≤ 0 := q10
    refine lv_iconst (v := 0) hx hb dX11_cellCame_36 (by decide) ?_
    refine lv_istore (lv' := [(6, .int (0 : Int32)), (5, .int v6), (4, .int v4), (3, .int v2), (0, .ref (Z.ad 11 i0)), (1, .int p1), (2, .ref (Z.ad 3 q2))]) hx hb dX11_cellCame_37 hl (by decide) rfl (fun ls hl => ?_)
    refine lv_iload hx hb dX11_cellCame_39 (lv_at hl 2 rfl) ?_
    refine lv_if_ne (tgt := 51) hx hb dX11_cellCame_41 (by decide) (fun c41_11 => ?_) (fun c41_11 => ?_)
    · skip
      replace hW := wfP_i (wfP_l hW) (i_ne c41_11 rfl (rg_i kc_0))
      have ic41_11 : v4.toInt ≠ (0 : Int32).toInt := fun z => c41_11 (Int32.toInt_inj.mp z)
      have y12 : (0 : Int32).toInt = 0 := by decide
      have q13 : rg (1) (255) v4 := rg_neL c41_11 rv4 kc_0
      have uq13 : (1 : Int) ≤ v4.toInt ∧ v4.toInt ≤ 255 := q13
      refine lv_iload hx hb dX11_cellCame_51 (lv_at hl 2 rfl) ?_
      refine lv_if_ne (tgt := 108) hx hb dX11_cellCame_53 (by decide) (fun c53_14 => ?_) (fun c53_14 => ?_)
      · skip
        replace hW := wfP_i (wfP_l hW) (i_ne c53_14 rfl (rg_i kc_0))
        have ic53_14 : v4.toInt ≠ (0 : Int32).toInt := fun z => c53_14 (Int32.toInt_inj.mp z)
        have y15 : (0 : Int32).toInt = 0 := by decide
        refine lv_null hx hb dX11_cellCame_108 ?_
        refine lv_astoreN (lv' := [(7, .null), (6, .int (0 : Int32)), (5, .int v6), (4, .int v4), (3, .int v2), (0, .ref (Z.ad 11 i0)), (1, .int p1), (2, .ref (Z.ad 3 q2))]) hx hb dX11_cellCame_109 hl (by decide) rfl (fun ls hl => ?_)
        refine lv_iload hx hb dX11_cellCame_111 (lv_at hl 3 rfl) ?_
        refine lv_if_ne (tgt := 153) hx hb dX11_cellCame_113 (by decide) (fun c113_16 => ?_) (fun c113_16 => ?_)
        · skip
          replace hW := wfP_i (wfP_l hW) (i_ne c113_16 rfl (rg_i kc_0))
          have ic113_16 : v4.toInt ≠ (0 : Int32).toInt := fun z => c113_16 (Int32.toInt_inj.mp z)
          have y17 : (0 : Int32).toInt = 0 := by decide
          refine lv_aloadN hx hb dX11_cellCame_153 (lv_at hl 0 rfl) ?_
          refine lv_ifnonnullN hx hb dX11_cellCame_155 ?_
          refine lv_aload_n hx hb dX11_cellCame_158 rfl (lv_at hl 7 rfl) ?_
          refine lv_dup hx hb dX11_cellCame_159 rfl ?_
          refine c_geti x L 3 q2 12 108 hq2 rfl rfl (wk_in kf_X11_192) dX11_cellCame_160 (fun v18 ev18 wv18 => ?_)
          have rv18 : rg (-2147483648) (2147483647) v18 := rg_any v18
          replace hW := (wfP_i (wfP_i (wfP_a hW v18) ev18) rv18)
          have uv18 : (-2147483648 : Int) ≤ v18.toInt ∧ v18.toInt ≤ 2147483647 := rv18
          have sv18 := congrArg Int32.toInt ev18
          refine lv_iconst (v := 1) hx hb dX11_cellCame_163 (by decide) ?_
          refine lv_iadd hx hb dX11_cellCame_164 ?_
          refine lv_topi (fun v19 ev19 => ?_)
          have rv19 : rg (-2147483648) (2147483647) v19 := rg_any v19
          replace hW := (wfP_i (wfP_i (wfP_a hW v19) ev19) rv19)
          have uv19 : (-2147483648 : Int) ≤ v19.toInt ∧ v19.toInt ≤ 2147483647 := rv19
          refine c_puti x L 3 q2 12 108 hq2 rfl rfl ⟨rfl, by decide +kernel⟩ (wk_in kf_X11_192) dX11_cellCame_165 (rg_any v19) (fun g20 H20 k20 eg20 L20 => ?_)
          replace hW := (wfP_i (wfP_a hW g20) eg20)
          refine lv_goto (tgt := 237) hx hb dX11_cellCame_168 (by decide) ?_
          refine lv_iconst (v := 0) hx hb dX11_cellCame_237 (by decide) ?_
          exact k_zret (v := (0 : Int32)) xa L20 hr hlocks (k_nar (rg_w kc_0 rfl)) (by omega) hzl ⟨hW, (mFi.up mFi.rf eg20 (mIn_at 5 rfl (Or.inl rfl))), (mFr.upE mFr.rf eg20 rfl), rg_w kc_0 rfl, (cJ_up hJ eg20 rfl), (by omega), trivial⟩ hcs.1 hcs.2 dX11_cellCame_238
        · skip
          replace hW := wfP_i (wfP_r hW) (i_eq c113_16 rfl (rg_i kc_0))
          have ic113_16 := congrArg Int32.toInt c113_16
          have y21 : (0 : Int32).toInt = 0 := by decide
          exact absurd ((rg_eq c113_16 q13 kc_0).1 : rg (1) (0) v4) (fun q => rg_dead q rfl)
      · skip
        replace hW := wfP_i (wfP_r hW) (i_eq c53_14 rfl (rg_i kc_0))
        have ic53_14 := congrArg Int32.toInt c53_14
        have y22 : (0 : Int32).toInt = 0 := by decide
        exact absurd ((rg_eq c53_14 q13 kc_0).1 : rg (1) (0) v4) (fun q => rg_dead q rfl)
    · skip
      replace hW := wfP_i (wfP_r hW) (i_eq c41_11 rfl (rg_i kc_0))
      have ic41_11 := congrArg Int32.toInt c41_11
      have y23 : (0 : Int32).toInt = 0 := by decide
      have q24 : rg (0) (0) v4 := (rg_eq c41_11 rv4 kc_0).1
      have uq24 : (0 : Int) ≤ v4.toInt ∧ v4.toInt ≤ 0 := q24
      refine lv_iload hx hb dX11_cellCame_44 (lv_at hl 1 rfl) ?_
      refine lv_if_ne (tgt := 51) hx hb dX11_cellCame_46 (by decide) (fun c46_25 => ?_) (fun c46_25 => ?_)
      · skip
        replace hW := wfP_i (wfP_l hW) (i_ne c46_25 rfl (rg_i kc_0))
        have ic46_25 : v6.toInt ≠ (0 : Int32).toInt := fun z => c46_25 (Int32.toInt_inj.mp z)
        have y26 : (0 : Int32).toInt = 0 := by decide
        have q27 : rg (1) (65535) v6 := rg_neL c46_25 rv6 kc_0
        have uq27 : (1 : Int) ≤ v6.toInt ∧ v6.toInt ≤ 65535 := q27
        refine lv_iload hx hb dX11_cellCame_51 (lv_at hl 2 rfl) ?_
        refine lv_if_ne (tgt := 108) hx hb dX11_cellCame_53 (by decide) (fun c53_28 => ?_) (fun c53_28 => ?_)
        · skip
          replace hW := wfP_i (wfP_l hW) (i_ne c53_28 rfl (rg_i kc_0))
          have ic53_28 : v4.toInt ≠ (0 : Int32).toInt := fun z => c53_28 (Int32.toInt_inj.mp z)
          have y29 : (0 : Int32).toInt = 0 := by decide
          exact absurd (rg_neH c53_28 q24 kc_0 : rg (0) (-1) v4) (fun q => rg_dead q rfl)
        · skip
          replace hW := wfP_i (wfP_r hW) (i_eq c53_28 rfl (rg_i kc_0))
          have ic53_28 := congrArg Int32.toInt c53_28
          have y30 : (0 : Int32).toInt = 0 := by decide
          refine lv_iload hx hb dX11_cellCame_56 (lv_at hl 1 rfl) ?_
          refine lv_iconst (v := 5) hx hb dX11_cellCame_58 (by decide) ?_
          refine lv_icmp_ne (tgt := 108) hx hb dX11_cellCame_59 (by decide) (fun c59_31 => ?_) (fun c59_31 => ?_)
          · skip
            replace hW := wfP_i (wfP_l hW) (i_ne c59_31 rfl (rg_i kc_5))
            have ic59_31 : v6.toInt ≠ (5 : Int32).toInt := fun z => c59_31 (Int32.toInt_inj.mp z)
            have y32 : (5 : Int32).toInt = 5 := by decide
            refine lv_null hx hb dX11_cellCame_108 ?_
            refine lv_astoreN (lv' := [(7, .null), (6, .int (0 : Int32)), (5, .int v6), (4, .int v4), (3, .int v2), (0, .ref (Z.ad 11 i0)), (1, .int p1), (2, .ref (Z.ad 3 q2))]) hx hb dX11_cellCame_109 hl (by decide) rfl (fun ls hl => ?_)
            refine lv_iload hx hb dX11_cellCame_111 (lv_at hl 3 rfl) ?_
            refine lv_if_ne (tgt := 153) hx hb dX11_cellCame_113 (by decide) (fun c113_33 => ?_) (fun c113_33 => ?_)
            · skip
              replace hW := wfP_i (wfP_l hW) (i_ne c113_33 rfl (rg_i kc_0))
              have ic113_33 : v4.toInt ≠ (0 : Int32).toInt := fun z => c113_33 (Int32.toInt_inj.mp z)
              have y34 : (0 : Int32).toInt = 0 := by decide
              exact absurd (rg_neH c113_33 q24 kc_0 : rg (0) (-1) v4) (fun q => rg_dead q rfl)
            · skip
              replace hW := wfP_i (wfP_r hW) (i_eq c113_33 rfl (rg_i kc_0))
              have ic113_33 := congrArg Int32.toInt c113_33
              have y35 : (0 : Int32).toInt = 0 := by decide
              refine lv_iload_n hx hb dX11_cellCame_116 rfl (lv_at hl 6 rfl) ?_
              refine lv_iconst (v := 2) hx hb dX11_cellCame_117 (by decide) ?_
              refine lv_irem hx hb dX11_cellCame_118 (by decide) ?_
              refine lv_topi (fun v36 ev36 => ?_)
              have rv36 : rg (0) (1) v36 := (rg_rem ev36 rp1 kc_2 rfl).1
              replace hW := (wfP_i (wfP_i (wfP_i (wfP_a hW v36) ev36) rv36) ((rg_rem ev36 rp1 kc_2 rfl).2))
              have tv36 := (rg_rem ev36 rp1 kc_2 rfl).2
              have y37 : (2 : Int32).toInt = 2 := by decide
              have uv36 : (0 : Int) ≤ v36.toInt ∧ v36.toInt ≤ 1 := rv36
              refine lv_if_ne (tgt := 138) hx hb dX11_cellCame_119 (by decide) (fun c119_38 => ?_) (fun c119_38 => ?_)
              · skip
                replace hW := wfP_i (wfP_l hW) (i_ne c119_38 rfl (rg_i kc_0))
                have ic119_38 : v36.toInt ≠ (0 : Int32).toInt := fun z => c119_38 (Int32.toInt_inj.mp z)
                have y39 : (0 : Int32).toInt = 0 := by decide
                have q40 : rg (1) (1) v36 := rg_neL c119_38 rv36 kc_0
                have uq40 : (1 : Int) ≤ v36.toInt ∧ v36.toInt ≤ 1 := q40
                refine lv_aload_n hx hb dX11_cellCame_138 rfl (lv_at hl 5 rfl) ?_
                have al41 : Z.al 51 0 := hz.2 51 0 (show 0 < 1 from (by omega))
                refine c_getr (a := Z.ad 51 0) x L 11 i0 2 hal0 rfl rfl (wk_in kf_X11_63) dX11_cellCame_139 ?_
                refine lv_iload_n hx hb dX11_cellCame_142 rfl (lv_at hl 6 rfl) ?_
                refine lv_iconst (v := 2) hx hb dX11_cellCame_143 (by decide) ?_
                refine lv_idiv hx hb dX11_cellCame_144 (by decide) ?_
                refine lv_topi (fun v42 ev42 => ?_)
                have rv42 : rg (0) (3) v42 := (rg_div ev42 rp1 kc_2 rfl).1
                replace hW := (wfP_i (wfP_i (wfP_i (wfP_a hW v42) ev42) rv42) ((rg_div ev42 rp1 kc_2 rfl).2))
                have tv42 := (rg_div ev42 rp1 kc_2 rfl).2
                have y43 : (2 : Int32).toInt = 2 := by decide
                have uv42 : (0 : Int) ≤ v42.toInt ∧ v42.toInt ≤ 3 := rv42
                refine c_ldr (a := Z.ad 4 v42.toInt.toNat) x L 51 0 al41 rfl (by omega) (show v42.toInt < ((Z.n : Nat) : Int) from (by omega)) rfl dX11_cellCame_145 ?_
                have al44 : Z.al 4 v42.toInt.toNat := hz.2 4 v42.toInt.toNat (show v42.toInt.toNat < Z.n from (by omega))
                refine lv_iload hx hb dX11_cellCame_146 (lv_at hl 2 rfl) ?_
                refine c_cr (As := [.int v6]) (rest := []) x hml L 4 v42.toInt.toNat al44 rfl (d_kactive l X g v42.toInt.toNat v6 ⟨by omega, by omega⟩ hJ (show v42.toInt.toNat < Z.n from (by omega)) hW) (wk_V kd_X4_active kl_X11_189 ki_X4_active ks_X4_X4_active kn_X4) rfl ⟨rfl, rfl⟩ hd_kactive ⟨Nat.le_of_ble_eq_true rfl, Nat.le_of_ble_eq_true rfl⟩ rfl hl.1 rfl (lv_room (Nat.le_of_ble_eq_true rfl)) dX11_cellCame_148 (fun v46 g45 H45 k45 hp45 L45 => ?_) hcs
                obtain ⟨hW, hi45, hp45⟩ := hp45
                replace hW := wfP_i hW ⟨hi45, hp45⟩
                have hvv46 := hp45.2.2
                rcases (show v46.toInt < 0 ∨ 0 ≤ v46.toInt from (by omega)) with hc47 | hc47
                · skip
                  replace hW := wfP_i (wfP_l hW) hc47
                  refine c_top (show Value.null = va_rf (cOpt Z 1 v46) from (by rw [cOpt_none hc47]; rfl)) ?_
                  refine lv_astoreN (lv' := [(7, .null), (6, .int (0 : Int32)), (5, .int v6), (4, .int v4), (3, .int v2), (0, .ref (Z.ad 11 i0)), (1, .int p1), (2, .ref (Z.ad 3 q2))]) hx hb dX11_cellCame_151 hl (by decide) rfl (fun ls hl => ?_)
                  refine lv_aloadN hx hb dX11_cellCame_153 (lv_at hl 0 rfl) ?_
                  refine lv_ifnonnullN hx hb dX11_cellCame_155 ?_
                  refine lv_aload_n hx hb dX11_cellCame_158 rfl (lv_at hl 7 rfl) ?_
                  refine lv_dup hx hb dX11_cellCame_159 rfl ?_
                  refine c_geti x L45 3 q2 12 108 hq2 rfl rfl (wk_in kf_X11_192) dX11_cellCame_160 (fun v48 ev48 wv48 => ?_)
                  have rv48 : rg (-2147483648) (2147483647) v48 := rg_any v48
                  replace hW := (wfP_i (wfP_i (wfP_a hW v48) ev48) rv48)
                  have uv48 : (-2147483648 : Int) ≤ v48.toInt ∧ v48.toInt ≤ 2147483647 := rv48
                  refine lv_iconst (v := 1) hx hb dX11_cellCame_163 (by decide) ?_
                  refine lv_iadd hx hb dX11_cellCame_164 ?_
                  refine lv_topi (fun v49 ev49 => ?_)
                  have rv49 : rg (-2147483648) (2147483647) v49 := rg_any v49
                  replace hW := (wfP_i (wfP_i (wfP_a hW v49) ev49) rv49)
                  have uv49 : (-2147483648 : Int) ≤ v49.toInt ∧ v49.toInt ≤ 2147483647 := rv49
                  refine c_puti x L45 3 q2 12 108 hq2 rfl rfl ⟨rfl, by decide +kernel⟩ (wk_in kf_X11_192) dX11_cellCame_165 (rg_any v49) (fun g50 H50 k50 eg50 L50 => ?_)
                  replace hW := (wfP_i (wfP_a hW g50) eg50)
                  refine lv_goto (tgt := 237) hx hb dX11_cellCame_168 (by decide) ?_
                  refine lv_iconst (v := 0) hx hb dX11_cellCame_237 (by decide) ?_
                  exact k_zret (v := (0 : Int32)) xa L50 hr hlocks (k_nar (rg_w kc_0 rfl)) (by omega) hzl ⟨hW, (mFi.up (mFi.sub mFi.rf hi45 mSub_nil) eg50 (mIn_at 5 rfl (Or.inl rfl))), (mFr.upE (mFr.tr mFr.rf hp45.1 rfl) eg50 rfl), rg_w kc_0 rfl, (cJ_up hp45.2.1 eg50 rfl), (by omega), trivial⟩ hcs.1 hcs.2 dX11_cellCame_238
                · skip
                  replace hW := wfP_i (wfP_r hW) hc47
                  refine c_top (show Value.ref (Z.ad 1 v46.toInt.toNat) = va_rf (cOpt Z 1 v46) from (by rw [cOpt_some hc47]; rfl)) ?_
                  have hwv46 := hvv46 hc47
                  refine lv_astore (lv' := [(7, .ref (Z.ad 1 v46.toInt.toNat)), (6, .int (0 : Int32)), (5, .int v6), (4, .int v4), (3, .int v2), (0, .ref (Z.ad 11 i0)), (1, .int p1), (2, .ref (Z.ad 3 q2))]) hx hb dX11_cellCame_151 hl (by decide) rfl (fun ls hl => ?_)
                  refine lv_aload hx hb dX11_cellCame_153 (lv_at hl 0 rfl) ?_
                  refine lv_ifnonnull (tgt := 171) hx hb dX11_cellCame_155 (by decide) ?_
                  refine lv_iload_n hx hb dX11_cellCame_171 rfl (lv_at hl 6 rfl) ?_
                  refine lv_iconst (v := 2) hx hb dX11_cellCame_172 (by decide) ?_
                  refine lv_irem hx hb dX11_cellCame_173 (by decide) ?_
                  refine m_top ev36 ?_
                  refine lv_if_ne (tgt := 197) hx hb dX11_cellCame_174 (by decide) (fun c174_51 => ?_) (fun c174_51 => ?_)
                  · skip
                    replace hW := wfP_i (wfP_l hW) (i_ne c174_51 rfl (rg_i kc_0))
                    have ic174_51 : v36.toInt ≠ (0 : Int32).toInt := fun z => c174_51 (Int32.toInt_inj.mp z)
                    have y52 : (0 : Int32).toInt = 0 := by decide
                    refine lv_aload_n hx hb dX11_cellCame_197 rfl (lv_at hl 5 rfl) ?_
                    refine c_getr (a := Z.ad 51 0) x L45 11 i0 2 hal0 rfl rfl (wk_in kf_X11_63) dX11_cellCame_198 ?_
                    refine lv_iload_n hx hb dX11_cellCame_201 rfl (lv_at hl 6 rfl) ?_
                    refine lv_iconst (v := 2) hx hb dX11_cellCame_202 (by decide) ?_
                    refine lv_idiv hx hb dX11_cellCame_203 (by decide) ?_
                    refine m_top ev42 ?_
                    refine c_ldr (a := Z.ad 4 v42.toInt.toNat) x L45 51 0 al41 rfl (by omega) (show v42.toInt < ((Z.n : Nat) : Int) from (by omega)) rfl dX11_cellCame_204 ?_
                    refine lv_aload hx hb dX11_cellCame_205 (lv_at hl 0 rfl) ?_
                    refine lv_aload_n hx hb dX11_cellCame_207 rfl (lv_at hl 7 rfl) ?_
                    refine c_getr (a := Z.ad 7 q2) x L45 3 q2 2 hq2 rfl rfl (wk_in kf_X11_119) dX11_cellCame_208 ?_
                    have al53 : Z.al 25 q2 := hz.2 25 q2 (show q2 < 2 * Z.n from (by omega))
                    refine c_getr (a := Z.ad 25 q2) x L45 7 q2 0 al1 rfl rfl (wk_in kf_X11_175) dX11_cellCame_211 ?_
                    refine lv_iload hx hb dX11_cellCame_214 (lv_at hl 1 rfl) ?_
                    refine lv_aload_n hx hb dX11_cellCame_216 rfl (lv_at hl 5 rfl) ?_
                    refine c_geti x L45 11 i0 10 362 hal0 rfl rfl (wk_in kf_X11_82) dX11_cellCame_217 (fun v54 ev54 wv54 => ?_)
                    have rv54 : rg (-2147483648) (2147483647) v54 := rg_any v54
                    replace hW := (wfP_i (wfP_i (wfP_a hW v54) ev54) rv54)
                    have uv54 : (-2147483648 : Int) ≤ v54.toInt ∧ v54.toInt ≤ 2147483647 := rv54
                    have sv54 : v54.toInt = (g 362 i0).toInt := congrArg Int32.toInt (ev54.trans (congrFun ((show mFr [0, 1, 2, 46, 67, 108, 109, 136, 512, 544, 576, 960, 992, 1024, 1056] g g45 from (mFr.tr mFr.rf hp45.1 rfl)).at 362 rfl) _))
                    refine k_calli xa L45 (k_runV (As := [.ref (Z.ad 1 v46.toInt.toNat), .ref (Z.ad 25 q2), .int (0 : Int32), .int v54]) (rest := []) ⟨hx, hb, hml, x.2.2.2.2.1, x.2.2.1⟩ (d_kedataCame l X g45 v42.toInt.toNat v46.toInt.toNat q2 (0 : Int32) v54 _ ⟨by omega, by omega⟩ hp45.2.1 (by omega) (show v42.toInt.toNat < Z.n from (by omega)) hwv46.1 al53 (rg_w kc_0 rfl) hW) (cwV 4 x.2.2.1 (wk_V kd_X4_dataCame kl_X11_205 ki_X4_dataCame ks_X4_X4_dataCame kn_X4) rfl rfl rfl hd_kedataCame ⟨Nat.le_of_ble_eq_true rfl, Nat.le_of_ble_eq_true rfl⟩) ⟨cPreA.blind, c_recv x L45 al44 rfl, fun U hU hW => k_pre xa L45 U hU hW⟩ rfl rfl hl.1 rfl (lv_room (Nat.le_of_ble_eq_true rfl)) dX11_cellCame_220 ⟨show 0 + 2 ≤ 2 by omega, show 0 + (243) ≤ 243 by omega⟩) (fun v56 Z g55 H55 k55 kc55 kn55 hk55 hn55 hp55 hz55 xa L55 => ?_)
                    obtain ⟨hW, hi55, hp55⟩ := hp55
                    replace hW := wfP_i (wfP_a (wfP_i (wfP_i hW ⟨hi55, hp55⟩) (cZg_of hz55 hk55 hn55)) Z) rfl
                    have rv56 : rg (0) (2) v56 := hp55.2.1
                    have uv56 : (0 : Int) ≤ v56.toInt ∧ v56.toInt ≤ 2 := rv56
                    have hww55 := hp55.2.2.2.1
                    have ea55_0 := hz55.2.2.1 1 v46.toInt.toNat hwv46.1 (by omega)
                    have ea55_1 := hz55.2.2.1 11 i0 hal0 (by omega)
                    have ea55_2 := hz55.2.2.1 3 q2 hq2 (by omega)
                    rw [← ea55_0] at hl
                    rw [← ea55_1] at hl
                    rw [← ea55_2] at hl
                    have al55_0 := hz55.2.1 1 v46.toInt.toNat hwv46.1
                    have al55_1 := hz55.2.1 11 i0 hal0
                    have al55_2 := hz55.2.1 3 q2 hq2
                    have hZn55 := hz55.1
                    have x := xa.1
                    have hz := x.2.2.2.2.2.2.2.1
                    have hzn := hz.1
                    have hzl := cZl.tr hzl hz55
                    have hcs : 0 + kc55 ≤ 2 ∧ 0 + kn55 ≤ 243 := by omega
                    refine lv_iconst (v := 2) hx hb dX11_cellCame_223 (by decide) ?_
                    refine lv_icmp_ne (tgt := 237) hx hb dX11_cellCame_224 (by decide) (fun c224_57 => ?_) (fun c224_57 => ?_)
                    · skip
                      replace hW := wfP_i (wfP_l hW) (i_ne c224_57 rfl (rg_i kc_2))
                      have ic224_57 : v56.toInt ≠ (2 : Int32).toInt := fun z => c224_57 (Int32.toInt_inj.mp z)
                      have y58 : (2 : Int32).toInt = 2 := by decide
                      have q59 : rg (0) (1) v56 := rg_neH c224_57 rv56 kc_2
                      have uq59 : (0 : Int) ≤ v56.toInt ∧ v56.toInt ≤ 1 := q59
                      refine lv_iconst (v := 0) hx hb dX11_cellCame_237 (by decide) ?_
                      exact k_zret (v := (0 : Int32)) xa L55 hr hlocks (k_nar (rg_w kc_0 rfl)) (by omega) hzl ⟨hW, (mFi.sub (mFi.sub mFi.rf hi45 mSub_nil) hi55 (mSub_any 0 rfl (mSub_any 1 rfl (mSub_any 2 rfl (mSub_any 3 rfl (mSub_any 7 rfl (mSub_any 8 rfl (mSub_any 11 rfl (mSub_any 12 rfl (mSub_any 13 rfl (mSub_any 14 rfl mSub_nil))))))))))), (mFr.tr (mFr.tr mFr.rf hp45.1 rfl) hp55.1 rfl), rg_w kc_0 rfl, hp55.2.2.1, (by omega), trivial⟩ hcs.1 hcs.2 dX11_cellCame_238
                    · skip
                      replace hW := wfP_i (wfP_r hW) (i_eq c224_57 rfl (rg_i kc_2))
                      have ic224_57 := congrArg Int32.toInt c224_57
                      have y60 : (2 : Int32).toInt = 2 := by decide
                      have q61 : rg (2) (2) v56 := (rg_eq c224_57 rv56 kc_2).1
                      have uq61 : (2 : Int) ≤ v56.toInt ∧ v56.toInt ≤ 2 := q61
                      refine lv_aload_n hx hb dX11_cellCame_227 rfl (lv_at hl 7 rfl) ?_
                      refine lv_dup hx hb dX11_cellCame_228 rfl ?_
                      refine c_geti x L55 3 q2 13 109 al55_2 rfl rfl (wk_in kf_X11_182) dX11_cellCame_229 (fun v62 ev62 wv62 => ?_)
                      have rv62 : rg (-2147483648) (2147483647) v62 := rg_any v62
                      replace hW := (wfP_i (wfP_i (wfP_a hW v62) ev62) rv62)
                      have uv62 : (-2147483648 : Int) ≤ v62.toInt ∧ v62.toInt ≤ 2147483647 := rv62
                      refine lv_iconst (v := 1) hx hb dX11_cellCame_232 (by decide) ?_
                      refine lv_iadd hx hb dX11_cellCame_233 ?_
                      refine lv_topi (fun v63 ev63 => ?_)
                      have rv63 : rg (-2147483648) (2147483647) v63 := rg_any v63
                      replace hW := (wfP_i (wfP_i (wfP_a hW v63) ev63) rv63)
                      have uv63 : (-2147483648 : Int) ≤ v63.toInt ∧ v63.toInt ≤ 2147483647 := rv63
                      refine c_puti x L55 3 q2 13 109 al55_2 rfl rfl ⟨rfl, by decide +kernel⟩ (wk_in kf_X11_182) dX11_cellCame_234 (rg_any v63) (fun g64 H64 k64 eg64 L64 => ?_)
                      replace hW := (wfP_i (wfP_a hW g64) eg64)
                      refine lv_iconst (v := 0) hx hb dX11_cellCame_237 (by decide) ?_
                      exact k_zret (v := (0 : Int32)) xa L64 hr hlocks (k_nar (rg_w kc_0 rfl)) (by omega) hzl ⟨hW, (mFi.up (mFi.sub (mFi.sub mFi.rf hi45 mSub_nil) hi55 (mSub_any 0 rfl (mSub_any 1 rfl (mSub_any 2 rfl (mSub_any 3 rfl (mSub_any 7 rfl (mSub_any 8 rfl (mSub_any 11 rfl (mSub_any 12 rfl (mSub_any 13 rfl (mSub_any 14 rfl mSub_nil))))))))))) eg64 (mIn_at 6 rfl (Or.inr (Nat.div_one _)))), (mFr.upE (mFr.tr (mFr.tr mFr.rf hp45.1 rfl) hp55.1 rfl) eg64 rfl), rg_w kc_0 rfl, (cJ_up hp55.2.2.1 eg64 rfl), (by omega), trivial⟩ hcs.1 hcs.2 dX11_cellCame_238
                  · skip
                    replace hW := wfP_i (wfP_r hW) (i_eq c174_51 rfl (rg_i kc_0))
                    have ic174_51 := congrArg Int32.toInt c174_51
                    have y65 : (0 : Int32).toInt = 0 := by decide
                    exact absurd ((rg_eq c174_51 q40 kc_0).1 : rg (1) (0) v36) (fun q => rg_dead q rfl)
              · skip
                replace hW := wfP_i (wfP_r hW) (i_eq c119_38 rfl (rg_i kc_0))
                have ic119_38 := congrArg Int32.toInt c119_38
                have y66 : (0 : Int32).toInt = 0 := by decide
                have q67 : rg (0) (0) v36 := (rg_eq c119_38 rv36 kc_0).1
                have uq67 : (0 : Int) ≤ v36.toInt ∧ v36.toInt ≤ 0 := q67
                refine lv_aload_n hx hb dX11_cellCame_122 rfl (lv_at hl 5 rfl) ?_
                have al68 : Z.al 49 0 := hz.2 49 0 (show 0 < 1 from (by omega))
                refine c_getr (a := Z.ad 49 0) x L 11 i0 3 hal0 rfl rfl (wk_in kf_X11_67) dX11_cellCame_123 ?_
                refine lv_iload_n hx hb dX11_cellCame_126 rfl (lv_at hl 6 rfl) ?_
                refine lv_iconst (v := 2) hx hb dX11_cellCame_127 (by decide) ?_
                refine lv_idiv hx hb dX11_cellCame_128 (by decide) ?_
                refine lv_topi (fun v69 ev69 => ?_)
                have rv69 : rg (0) (3) v69 := (rg_div ev69 rp1 kc_2 rfl).1
                replace hW := (wfP_i (wfP_i (wfP_i (wfP_a hW v69) ev69) rv69) ((rg_div ev69 rp1 kc_2 rfl).2))
                have tv69 := (rg_div ev69 rp1 kc_2 rfl).2
                have y70 : (2 : Int32).toInt = 2 := by decide
                have uv69 : (0 : Int) ≤ v69.toInt ∧ v69.toInt ≤ 3 := rv69
                refine c_ldr (a := Z.ad 10 v69.toInt.toNat) x L 49 0 al68 rfl (by omega) (show v69.toInt < ((Z.n : Nat) : Int) from (by omega)) rfl dX11_cellCame_129 ?_
                have al71 : Z.al 10 v69.toInt.toNat := hz.2 10 v69.toInt.toNat (show v69.toInt.toNat < Z.n from (by omega))
                refine lv_iload hx hb dX11_cellCame_130 (lv_at hl 2 rfl) ?_
                refine c_cr (As := [.int v6]) (rest := []) x hml L 10 v69.toInt.toNat al71 rfl (d_kjoined l X g v69.toInt.toNat v6 ⟨by omega, by omega⟩ hJ (show v69.toInt.toNat < Z.n from (by omega)) hW) (wk_V kd_X10_joined kl_X11_185 ki_X10_joined ks_X10_X10_joined kn_X10) rfl ⟨rfl, rfl⟩ hd_kjoined ⟨Nat.le_of_ble_eq_true rfl, Nat.le_of_ble_eq_true rfl⟩ rfl hl.1 rfl (lv_room (Nat.le_of_ble_eq_true rfl)) dX11_cellCame_132 (fun v73 g72 H72 k72 hp72 L72 => ?_) hcs
                obtain ⟨hW, hi72, hp72⟩ := hp72
                replace hW := wfP_i hW ⟨hi72, hp72⟩
                have hvv73 := hp72.2.2
                rcases (show v73.toInt < 0 ∨ 0 ≤ v73.toInt from (by omega)) with hc74 | hc74
                · skip
                  replace hW := wfP_i (wfP_l hW) hc74
                  refine c_top (show Value.null = va_rf (cOpt Z 1 v73) from (by rw [cOpt_none hc74]; rfl)) ?_
                  refine lv_goto (tgt := 151) hx hb dX11_cellCame_135 (by decide) ?_
                  refine lv_astoreN (lv' := [(7, .null), (6, .int (0 : Int32)), (5, .int v6), (4, .int v4), (3, .int v2), (0, .ref (Z.ad 11 i0)), (1, .int p1), (2, .ref (Z.ad 3 q2))]) hx hb dX11_cellCame_151 hl (by decide) rfl (fun ls hl => ?_)
                  refine lv_aloadN hx hb dX11_cellCame_153 (lv_at hl 0 rfl) ?_
                  refine lv_ifnonnullN hx hb dX11_cellCame_155 ?_
                  refine lv_aload_n hx hb dX11_cellCame_158 rfl (lv_at hl 7 rfl) ?_
                  refine lv_dup hx hb dX11_cellCame_159 rfl ?_
                  refine c_geti x L72 3 q2 12 108 hq2 rfl rfl (wk_in kf_X11_192) dX11_cellCame_160 (fun v75 ev75 wv75 => ?_)
                  have rv75 : rg (-2147483648) (2147483647) v75 := rg_any v75
                  replace hW := (wfP_i (wfP_i (wfP_a hW v75) ev75) rv75)
                  have uv75 : (-2147483648 : Int) ≤ v75.toInt ∧ v75.toInt ≤ 2147483647 := rv75
                  refine lv_iconst (v := 1) hx hb dX11_cellCame_163 (by decide) ?_
                  refine lv_iadd hx hb dX11_cellCame_164 ?_
                  refine lv_topi (fun v76 ev76 => ?_)
                  have rv76 : rg (-2147483648) (2147483647) v76 := rg_any v76
                  replace hW := (wfP_i (wfP_i (wfP_a hW v76) ev76) rv76)
                  have uv76 : (-2147483648 : Int) ≤ v76.toInt ∧ v76.toInt ≤ 2147483647 := rv76
                  refine c_puti x L72 3 q2 12 108 hq2 rfl rfl ⟨rfl, by decide +kernel⟩ (wk_in kf_X11_192) dX11_cellCame_165 (rg_any v76) (fun g77 H77 k77 eg77 L77 => ?_)
                  replace hW := (wfP_i (wfP_a hW g77) eg77)
                  refine lv_goto (tgt := 237) hx hb dX11_cellCame_168 (by decide) ?_
                  refine lv_iconst (v := 0) hx hb dX11_cellCame_237 (by decide) ?_
                  exact k_zret (v := (0 : Int32)) xa L77 hr hlocks (k_nar (rg_w kc_0 rfl)) (by omega) hzl ⟨hW, (mFi.up (mFi.sub mFi.rf hi72 mSub_nil) eg77 (mIn_at 5 rfl (Or.inl rfl))), (mFr.upE (mFr.tr mFr.rf hp72.1 rfl) eg77 rfl), rg_w kc_0 rfl, (cJ_up hp72.2.1 eg77 rfl), (by omega), trivial⟩ hcs.1 hcs.2 dX11_cellCame_238
                · skip
                  replace hW := wfP_i (wfP_r hW) hc74
                  refine c_top (show Value.ref (Z.ad 1 v73.toInt.toNat) = va_rf (cOpt Z 1 v73) from (by rw [cOpt_some hc74]; rfl)) ?_
                  have hwv73 := hvv73 hc74
                  refine lv_goto (tgt := 151) hx hb dX11_cellCame_135 (by decide) ?_
                  refine lv_astore (lv' := [(7, .ref (Z.ad 1 v73.toInt.toNat)), (6, .int (0 : Int32)), (5, .int v6), (4, .int v4), (3, .int v2), (0, .ref (Z.ad 11 i0)), (1, .int p1), (2, .ref (Z.ad 3 q2))]) hx hb dX11_cellCame_151 hl (by decide) rfl (fun ls hl => ?_)
                  refine lv_aload hx hb dX11_cellCame_153 (lv_at hl 0 rfl) ?_
                  refine lv_ifnonnull (tgt := 171) hx hb dX11_cellCame_155 (by decide) ?_
                  refine lv_iload_n hx hb dX11_cellCame_171 rfl (lv_at hl 6 rfl) ?_
                  refine lv_iconst (v := 2) hx hb dX11_cellCame_172 (by decide) ?_
                  refine lv_irem hx hb dX11_cellCame_173 (by decide) ?_
                  refine m_top ev36 ?_
                  refine lv_if_ne (tgt := 197) hx hb dX11_cellCame_174 (by decide) (fun c174_78 => ?_) (fun c174_78 => ?_)
                  · skip
                    replace hW := wfP_i (wfP_l hW) (i_ne c174_78 rfl (rg_i kc_0))
                    have ic174_78 : v36.toInt ≠ (0 : Int32).toInt := fun z => c174_78 (Int32.toInt_inj.mp z)
                    have y79 : (0 : Int32).toInt = 0 := by decide
                    exact absurd (rg_neH c174_78 q67 kc_0 : rg (0) (-1) v36) (fun q => rg_dead q rfl)
                  · skip
                    replace hW := wfP_i (wfP_r hW) (i_eq c174_78 rfl (rg_i kc_0))
                    have ic174_78 := congrArg Int32.toInt c174_78
                    have y80 : (0 : Int32).toInt = 0 := by decide
                    refine lv_aload_n hx hb dX11_cellCame_177 rfl (lv_at hl 5 rfl) ?_
                    refine lv_aload hx hb dX11_cellCame_178 (lv_at hl 0 rfl) ?_
                    obtain ⟨v81, ev81⟩ : ∃ y : Int32, y = g72 43 v73.toInt.toNat := ⟨_, rfl⟩
                    replace hW := (wfP_i (wfP_a hW v81) ev81)
                    rcases (show v81.toInt < 0 ∨ 0 ≤ v81.toInt from (by omega)) with hc82 | hc82
                    · skip
                      replace hW := wfP_i (wfP_l hW) hc82
                      have q83 : rg (-2147483648) (-1) v81 := ⟨(rg_any v81).1, by omega⟩
                      refine c_geto (w := .null) x L72 1 v73.toInt.toNat 11 43 hwv73.1 rfl rfl (by show va_rf (cOpt Z 1 (g72 43 v73.toInt.toNat)) = _; rw [← ev81, cOpt_none (by omega)]; rfl) (wk_in kf_X11_195) dX11_cellCame_180 ?_
                      refine lv_iload_n hx hb dX11_cellCame_183 rfl (lv_at hl 4 rfl) ?_
                      refine lv_aload_n hx hb dX11_cellCame_184 rfl (lv_at hl 7 rfl) ?_
                      refine c_getr (a := Z.ad 7 q2) x L72 3 q2 2 hq2 rfl rfl (wk_in kf_X11_119) dX11_cellCame_185 ?_
                      have al87 : Z.al 25 q2 := hz.2 25 q2 (show q2 < 2 * Z.n from (by omega))
                      refine c_getr (a := Z.ad 25 q2) x L72 7 q2 0 al1 rfl rfl (wk_in kf_X11_175) dX11_cellCame_188 ?_
                      refine c_cv (As := [.null, .int v2, .ref (Z.ad 25 q2)]) (rest := []) x hml L72 11 i0 hal0 rfl (d_kpassOn_N l X g72 i0 v2 q2 ⟨by omega, by omega⟩ hal0 al87 hW) (wk_V kd_X11_passOn kl_X11_201 ki_X11_passOn ks_X11_X11_passOn kn_X11) rfl ⟨rfl, rfl⟩ hd_kpassOn_N ⟨Nat.le_of_ble_eq_true rfl, Nat.le_of_ble_eq_true rfl⟩ rfl hl.1 rfl (lv_room (Nat.le_of_ble_eq_true rfl)) dX11_cellCame_191 (fun  g88 H88 k88 hp88 L88 => ?_) hcs
                      obtain ⟨hW, hi88, hp88⟩ := hp88
                      replace hW := wfP_i hW ⟨hi88, hp88⟩
                      refine lv_goto (tgt := 237) hx hb dX11_cellCame_194 (by decide) ?_
                      refine lv_iconst (v := 0) hx hb dX11_cellCame_237 (by decide) ?_
                      exact k_zret (v := (0 : Int32)) xa L88 hr hlocks (k_nar (rg_w kc_0 rfl)) (by omega) hzl ⟨hW, (mFi.sub (mFi.sub mFi.rf hi72 mSub_nil) hi88 mSub_nil), (mFr.tr (mFr.tr mFr.rf hp72.1 rfl) hp88.1 rfl), rg_w kc_0 rfl, (cJ_fr hp72.2.1 hp88.1 rfl), (by omega), trivial⟩ hcs.1 hcs.2 dX11_cellCame_238
                    · skip
                      replace hW := wfP_i (wfP_r hW) hc82
                      have q84 : rg (0) (2147483647) v81 := ⟨by omega, (rg_any v81).2⟩
                      have hd85 := (hp72.2.1.2.1 v73.toInt.toNat hwv73.1).2.1
                      rw [← ev81] at hd85
                      have al86 : Z.al 1 v81.toInt.toNat := hd85.resolve_left (by omega)
                      refine c_geto (w := .ref (Z.ad 1 v81.toInt.toNat)) x L72 1 v73.toInt.toNat 11 43 hwv73.1 rfl rfl (by show va_rf (cOpt Z 1 (g72 43 v73.toInt.toNat)) = _; rw [← ev81, cOpt_some (by omega)]; rfl) (wk_in kf_X11_195) dX11_cellCame_180 ?_
                      refine lv_iload_n hx hb dX11_cellCame_183 rfl (lv_at hl 4 rfl) ?_
                      refine lv_aload_n hx hb dX11_cellCame_184 rfl (lv_at hl 7 rfl) ?_
                      refine c_getr (a := Z.ad 7 q2) x L72 3 q2 2 hq2 rfl rfl (wk_in kf_X11_119) dX11_cellCame_185 ?_
                      have al89 : Z.al 25 q2 := hz.2 25 q2 (show q2 < 2 * Z.n from (by omega))
                      refine c_getr (a := Z.ad 25 q2) x L72 7 q2 0 al1 rfl rfl (wk_in kf_X11_175) dX11_cellCame_188 ?_
                      refine c_cv (As := [.ref (Z.ad 1 v81.toInt.toNat), .int v2, .ref (Z.ad 25 q2)]) (rest := []) x hml L72 11 i0 hal0 rfl (d_kpassOn l X g72 i0 v81.toInt.toNat v2 q2 ⟨by omega, by omega⟩ hp72.2.1 hal0 al86 al89 hW) (wk_V kd_X11_passOn kl_X11_201 ki_X11_passOn ks_X11_X11_passOn kn_X11) rfl ⟨rfl, rfl⟩ hd_kpassOn ⟨Nat.le_of_ble_eq_true rfl, Nat.le_of_ble_eq_true rfl⟩ rfl hl.1 rfl (lv_room (Nat.le_of_ble_eq_true rfl)) dX11_cellCame_191 (fun  g90 H90 k90 hp90 L90 => ?_) hcs
                      obtain ⟨hW, hi90, hp90⟩ := hp90
                      replace hW := wfP_i hW ⟨hi90, hp90⟩
                      refine lv_goto (tgt := 237) hx hb dX11_cellCame_194 (by decide) ?_
                      refine lv_iconst (v := 0) hx hb dX11_cellCame_237 (by decide) ?_
                      exact k_zret (v := (0 : Int32)) xa L90 hr hlocks (k_nar (rg_w kc_0 rfl)) (by omega) hzl ⟨hW, (mFi.sub (mFi.sub mFi.rf hi72 mSub_nil) hi90 (mSub_any 4 rfl (mSub_any 5 rfl (mSub_any 9 rfl (mSub_any 10 rfl mSub_nil))))), (mFr.tr (mFr.tr mFr.rf hp72.1 rfl) hp90.1 rfl), rg_w kc_0 rfl, hp90.2.1, (by omega), trivial⟩ hcs.1 hcs.2 dX11_cellCame_238
          · skip
            replace hW := wfP_i (wfP_r hW) (i_eq c59_31 rfl (rg_i kc_5))
            have ic59_31 := congrArg Int32.toInt c59_31
            have y91 : (5 : Int32).toInt = 5 := by decide
            have q92 : rg (5) (5) v6 := (rg_eq c59_31 q27 kc_5).1
            have uq92 : (5 : Int) ≤ v6.toInt ∧ v6.toInt ≤ 5 := q92
            refine lv_aload_n hx hb dX11_cellCame_62 rfl (lv_at hl 6 rfl) ?_
            have al93 : Z.al 0 q2 := hz.2 0 q2 (show q2 < 2 * Z.n from (by omega))
            refine c_getr (a := Z.ad 0 q2) x L 3 q2 3 hq2 rfl rfl (wk_in kf_X11_140) dX11_cellCame_63 ?_
            refine lv_aload_n hx hb dX11_cellCame_66 rfl (lv_at hl 6 rfl) ?_
            refine c_getr (a := Z.ad 7 q2) x L 3 q2 2 hq2 rfl rfl (wk_in kf_X11_119) dX11_cellCame_67 ?_
            have al94 : Z.al 25 q2 := hz.2 25 q2 (show q2 < 2 * Z.n from (by omega))
            refine c_getr (a := Z.ad 25 q2) x L 7 q2 0 al1 rfl rfl (wk_in kf_X11_175) dX11_cellCame_70 ?_
            refine lv_iload hx hb dX11_cellCame_73 (lv_at hl 0 rfl) ?_
            refine c_ci (As := [.ref (Z.ad 25 q2), .int (0 : Int32)]) (rest := []) x hml L 0 q2 al93 rfl (d_kasmAdd l X g q2 q2 (0 : Int32) ⟨by omega, by omega⟩ al93 (hz.2 16 q2 (show q2 < 2 * Z.n from (by omega))) al94 (rg_w kc_0 rfl) hW) (wk_V kd_X0_add kl_X11_178 ki_X0_add ks_X0_X0_add kn_X0) rfl ⟨rfl, rfl⟩ hd_kasmAdd ⟨Nat.le_of_ble_eq_true rfl, Nat.le_of_ble_eq_true rfl⟩ rfl hl.1 rfl (lv_room (Nat.le_of_ble_eq_true rfl)) dX11_cellCame_75 (fun v96 g95 H95 k95 hp95 L95 => ?_) hcs
            obtain ⟨hW, hi95, hp95⟩ := hp95
            replace hW := wfP_i hW ⟨hi95, hp95⟩
            have rv96 : rg (0) (2) v96 := hp95.2.1
            have uv96 : (0 : Int) ≤ v96.toInt ∧ v96.toInt ≤ 2 := rv96
            have hw97 := hp95.2.2
            refine lv_istore (lv' := [(7, .int v96), (6, .int (0 : Int32)), (5, .int v6), (4, .int v4), (3, .int v2), (0, .ref (Z.ad 11 i0)), (1, .int p1), (2, .ref (Z.ad 3 q2))]) hx hb dX11_cellCame_78 hl (by decide) rfl (fun ls hl => ?_)
            refine lv_iload hx hb dX11_cellCame_80 (lv_at hl 0 rfl) ?_
            refine lv_iconst (v := 2) hx hb dX11_cellCame_82 (by decide) ?_
            refine lv_icmp_ne (tgt := 96) hx hb dX11_cellCame_83 (by decide) (fun c83_98 => ?_) (fun c83_98 => ?_)
            · skip
              replace hW := wfP_i (wfP_l hW) (i_ne c83_98 rfl (rg_i kc_2))
              have ic83_98 : v96.toInt ≠ (2 : Int32).toInt := fun z => c83_98 (Int32.toInt_inj.mp z)
              have y99 : (2 : Int32).toInt = 2 := by decide
              have q100 : rg (0) (1) v96 := rg_neH c83_98 rv96 kc_2
              have uq100 : (0 : Int) ≤ v96.toInt ∧ v96.toInt ≤ 1 := q100
              refine lv_iload hx hb dX11_cellCame_96 (lv_at hl 0 rfl) ?_
              refine lv_iconst (v := 1) hx hb dX11_cellCame_98 (by decide) ?_
              refine lv_icmp_ne (tgt := 106) hx hb dX11_cellCame_99 (by decide) (fun c99_101 => ?_) (fun c99_101 => ?_)
              · skip
                replace hW := wfP_i (wfP_l hW) (i_ne c99_101 rfl (rg_i kc_1))
                have ic99_101 : v96.toInt ≠ (1 : Int32).toInt := fun z => c99_101 (Int32.toInt_inj.mp z)
                have y102 : (1 : Int32).toInt = 1 := by decide
                have q103 : rg (0) (0) v96 := rg_neH c99_101 q100 kc_1
                have uq103 : (0 : Int) ≤ v96.toInt ∧ v96.toInt ≤ 0 := q103
                refine lv_iconst (v := 0) hx hb dX11_cellCame_106 (by decide) ?_
                exact k_zret (v := (0 : Int32)) xa L95 hr hlocks (k_nar (rg_w kc_0 rfl)) (by omega) hzl ⟨hW, (mFi.sub mFi.rf hi95 (mSub_any 1 rfl (mSub_any 2 rfl (mSub_any 8 rfl mSub_nil)))), (mFr.tr mFr.rf hp95.1 rfl), rg_w kc_0 rfl, (cJ_fr hJ hp95.1 rfl), (by omega), trivial⟩ hcs.1 hcs.2 dX11_cellCame_107
              · skip
                replace hW := wfP_i (wfP_r hW) (i_eq c99_101 rfl (rg_i kc_1))
                have ic99_101 := congrArg Int32.toInt c99_101
                have y104 : (1 : Int32).toInt = 1 := by decide
                have q105 : rg (1) (1) v96 := (rg_eq c99_101 q100 kc_1).1
                have uq105 : (1 : Int) ≤ v96.toInt ∧ v96.toInt ≤ 1 := q105
                refine lv_iconst (v := 1) hx hb dX11_cellCame_102 (by decide) ?_
                refine lv_goto (tgt := 107) hx hb dX11_cellCame_103 (by decide) ?_
                exact k_zret (v := (1 : Int32)) xa L95 hr hlocks (k_nar (rg_w kc_1 rfl)) (by omega) hzl ⟨hW, (mFi.sub mFi.rf hi95 (mSub_any 1 rfl (mSub_any 2 rfl (mSub_any 8 rfl mSub_nil)))), (mFr.tr mFr.rf hp95.1 rfl), rg_w kc_1 rfl, (cJ_fr hJ hp95.1 rfl), (by omega), trivial⟩ hcs.1 hcs.2 dX11_cellCame_107
            · skip
              replace hW := wfP_i (wfP_r hW) (i_eq c83_98 rfl (rg_i kc_2))
              have ic83_98 := congrArg Int32.toInt c83_98
              have y106 : (2 : Int32).toInt = 2 := by decide
              have q107 : rg (2) (2) v96 := (rg_eq c83_98 rv96 kc_2).1
              have uq107 : (2 : Int) ≤ v96.toInt ∧ v96.toInt ≤ 2 := q107
              refine lv_aload_n hx hb dX11_cellCame_86 rfl (lv_at hl 7 rfl) ?_
              refine lv_dup hx hb dX11_cellCame_87 rfl ?_
              refine c_geti x L95 3 q2 13 109 hq2 rfl rfl (wk_in kf_X11_182) dX11_cellCame_88 (fun v108 ev108 wv108 => ?_)
              have rv108 : rg (-2147483648) (2147483647) v108 := rg_any v108
              replace hW := (wfP_i (wfP_i (wfP_a hW v108) ev108) rv108)
              have uv108 : (-2147483648 : Int) ≤ v108.toInt ∧ v108.toInt ≤ 2147483647 := rv108
              refine lv_iconst (v := 1) hx hb dX11_cellCame_91 (by decide) ?_
              refine lv_iadd hx hb dX11_cellCame_92 ?_
              refine lv_topi (fun v109 ev109 => ?_)
              have rv109 : rg (-2147483648) (2147483647) v109 := rg_any v109
              replace hW := (wfP_i (wfP_i (wfP_a hW v109) ev109) rv109)
              have uv109 : (-2147483648 : Int) ≤ v109.toInt ∧ v109.toInt ≤ 2147483647 := rv109
              refine c_puti x L95 3 q2 13 109 hq2 rfl rfl ⟨rfl, by decide +kernel⟩ (wk_in kf_X11_182) dX11_cellCame_93 (rg_any v109) (fun g110 H110 k110 eg110 L110 => ?_)
              replace hW := (wfP_i (wfP_a hW g110) eg110)
              refine lv_iload hx hb dX11_cellCame_96 (lv_at hl 0 rfl) ?_
              refine lv_iconst (v := 1) hx hb dX11_cellCame_98 (by decide) ?_
              refine lv_icmp_ne (tgt := 106) hx hb dX11_cellCame_99 (by decide) (fun c99_111 => ?_) (fun c99_111 => ?_)
              · skip
                replace hW := wfP_i (wfP_l hW) (i_ne c99_111 rfl (rg_i kc_1))
                have ic99_111 : v96.toInt ≠ (1 : Int32).toInt := fun z => c99_111 (Int32.toInt_inj.mp z)
                have y112 : (1 : Int32).toInt = 1 := by decide
                refine lv_iconst (v := 0) hx hb dX11_cellCame_106 (by decide) ?_
                exact k_zret (v := (0 : Int32)) xa L110 hr hlocks (k_nar (rg_w kc_0 rfl)) (by omega) hzl ⟨hW, (mFi.up (mFi.sub mFi.rf hi95 (mSub_any 1 rfl (mSub_any 2 rfl (mSub_any 8 rfl mSub_nil)))) eg110 (mIn_at 6 rfl (Or.inr (Nat.div_one _)))), (mFr.upE (mFr.tr mFr.rf hp95.1 rfl) eg110 rfl), rg_w kc_0 rfl, (cJ_up (cJ_fr hJ hp95.1 rfl) eg110 rfl), (by omega), trivial⟩ hcs.1 hcs.2 dX11_cellCame_107
              · skip
                replace hW := wfP_i (wfP_r hW) (i_eq c99_111 rfl (rg_i kc_1))
                have ic99_111 := congrArg Int32.toInt c99_111
                have y113 : (1 : Int32).toInt = 1 := by decide
                exact absurd ((rg_eq c99_111 q107 kc_1).1 : rg (2) (1) v96) (fun q => rg_dead q rfl)
      · skip
        replace hW := wfP_i (wfP_r hW) (i_eq c46_25 rfl (rg_i kc_0))
        have ic46_25 := congrArg Int32.toInt c46_25
        have y114 : (0 : Int32).toInt = 0 := by decide
        have q115 : rg (0) (0) v6 := (rg_eq c46_25 rv6 kc_0).1
        have uq115 : (0 : Int) ≤ v6.toInt ∧ v6.toInt ≤ 0 := q115
        refine lv_iconst (v := 0) hx hb dX11_cellCame_49 (by decide) ?_
        exact k_zret (v := (0 : Int32)) xa L hr hlocks (k_nar (rg_w kc_0 rfl)) (by omega) hzl ⟨hW, mFi.rf, mFr.rf, rg_w kc_0 rfl, hJ, (by omega), trivial⟩ hcs.1 hcs.2 dX11_cellCame_50
  · skip
    replace hW := wfP_i (wfP_r hW) (i_ne c29_8 rfl (rg_i kc_0))
    have ic29_8 : v7.toInt ≠ (0 : Int32).toInt := fun z => c29_8 (Int32.toInt_inj.mp z)
    have y116 : (0 : Int32).toInt = 0 := by decide
    refine lv_iconst (v := 1) hx hb dX11_cellCame_32 (by decide) ?_
    refine lv_goto (tgt := 37) hx hb dX11_cellCame_33 (by decide) ?_
    refine lv_istore (lv' := [(6, .int (1 : Int32)), (5, .int v6), (4, .int v4), (3, .int v2), (0, .ref (Z.ad 11 i0)), (1, .int p1), (2, .ref (Z.ad 3 q2))]) hx hb dX11_cellCame_37 hl (by decide) rfl (fun ls hl => ?_)
    refine lv_iload hx hb dX11_cellCame_39 (lv_at hl 2 rfl) ?_
    refine lv_if_ne (tgt := 51) hx hb dX11_cellCame_41 (by decide) (fun c41_117 => ?_) (fun c41_117 => ?_)
    · skip
      replace hW := wfP_i (wfP_l hW) (i_ne c41_117 rfl (rg_i kc_0))
      have ic41_117 : v4.toInt ≠ (0 : Int32).toInt := fun z => c41_117 (Int32.toInt_inj.mp z)
      have y118 : (0 : Int32).toInt = 0 := by decide
      have q119 : rg (1) (255) v4 := rg_neL c41_117 rv4 kc_0
      have uq119 : (1 : Int) ≤ v4.toInt ∧ v4.toInt ≤ 255 := q119
      refine lv_iload hx hb dX11_cellCame_51 (lv_at hl 2 rfl) ?_
      refine lv_if_ne (tgt := 108) hx hb dX11_cellCame_53 (by decide) (fun c53_120 => ?_) (fun c53_120 => ?_)
      · skip
        replace hW := wfP_i (wfP_l hW) (i_ne c53_120 rfl (rg_i kc_0))
        have ic53_120 : v4.toInt ≠ (0 : Int32).toInt := fun z => c53_120 (Int32.toInt_inj.mp z)
        have y121 : (0 : Int32).toInt = 0 := by decide
        refine lv_null hx hb dX11_cellCame_108 ?_
        refine lv_astoreN (lv' := [(7, .null), (6, .int (1 : Int32)), (5, .int v6), (4, .int v4), (3, .int v2), (0, .ref (Z.ad 11 i0)), (1, .int p1), (2, .ref (Z.ad 3 q2))]) hx hb dX11_cellCame_109 hl (by decide) rfl (fun ls hl => ?_)
        refine lv_iload hx hb dX11_cellCame_111 (lv_at hl 3 rfl) ?_
        refine lv_if_ne (tgt := 153) hx hb dX11_cellCame_113 (by decide) (fun c113_122 => ?_) (fun c113_122 => ?_)
        · skip
          replace hW := wfP_i (wfP_l hW) (i_ne c113_122 rfl (rg_i kc_0))
          have ic113_122 : v4.toInt ≠ (0 : Int32).toInt := fun z => c113_122 (Int32.toInt_inj.mp z)
          have y123 : (0 : Int32).toInt = 0 := by decide
          refine lv_aloadN hx hb dX11_cellCame_153 (lv_at hl 0 rfl) ?_
          refine lv_ifnonnullN hx hb dX11_cellCame_155 ?_
          refine lv_aload_n hx hb dX11_cellCame_158 rfl (lv_at hl 7 rfl) ?_
          refine lv_dup hx hb dX11_cellCame_159 rfl ?_
          refine c_geti x L 3 q2 12 108 hq2 rfl rfl (wk_in kf_X11_192) dX11_cellCame_160 (fun v124 ev124 wv124 => ?_)
          have rv124 : rg (-2147483648) (2147483647) v124 := rg_any v124
          replace hW := (wfP_i (wfP_i (wfP_a hW v124) ev124) rv124)
          have uv124 : (-2147483648 : Int) ≤ v124.toInt ∧ v124.toInt ≤ 2147483647 := rv124
          have sv124 := congrArg Int32.toInt ev124
          refine lv_iconst (v := 1) hx hb dX11_cellCame_163 (by decide) ?_
          refine lv_iadd hx hb dX11_cellCame_164 ?_
          refine lv_topi (fun v125 ev125 => ?_)
          have rv125 : rg (-2147483648) (2147483647) v125 := rg_any v125
          replace hW := (wfP_i (wfP_i (wfP_a hW v125) ev125) rv125)
          have uv125 : (-2147483648 : Int) ≤ v125.toInt ∧ v125.toInt ≤ 2147483647 := rv125
          refine c_puti x L 3 q2 12 108 hq2 rfl rfl ⟨rfl, by decide +kernel⟩ (wk_in kf_X11_192) dX11_cellCame_165 (rg_any v125) (fun g126 H126 k126 eg126 L126 => ?_)
          replace hW := (wfP_i (wfP_a hW g126) eg126)
          refine lv_goto (tgt := 237) hx hb dX11_cellCame_168 (by decide) ?_
          refine lv_iconst (v := 0) hx hb dX11_cellCame_237 (by decide) ?_
          exact k_zret (v := (0 : Int32)) xa L126 hr hlocks (k_nar (rg_w kc_0 rfl)) (by omega) hzl ⟨hW, (mFi.up mFi.rf eg126 (mIn_at 5 rfl (Or.inl rfl))), (mFr.upE mFr.rf eg126 rfl), rg_w kc_0 rfl, (cJ_up hJ eg126 rfl), (by omega), trivial⟩ hcs.1 hcs.2 dX11_cellCame_238
        · skip
          replace hW := wfP_i (wfP_r hW) (i_eq c113_122 rfl (rg_i kc_0))
          have ic113_122 := congrArg Int32.toInt c113_122
          have y127 : (0 : Int32).toInt = 0 := by decide
          exact absurd ((rg_eq c113_122 q119 kc_0).1 : rg (1) (0) v4) (fun q => rg_dead q rfl)
      · skip
        replace hW := wfP_i (wfP_r hW) (i_eq c53_120 rfl (rg_i kc_0))
        have ic53_120 := congrArg Int32.toInt c53_120
        have y128 : (0 : Int32).toInt = 0 := by decide
        exact absurd ((rg_eq c53_120 q119 kc_0).1 : rg (1) (0) v4) (fun q => rg_dead q rfl)
    · skip
      replace hW := wfP_i (wfP_r hW) (i_eq c41_117 rfl (rg_i kc_0))
      have ic41_117 := congrArg Int32.toInt c41_117
      have y129 : (0 : Int32).toInt = 0 := by decide
      have q130 : rg (0) (0) v4 := (rg_eq c41_117 rv4 kc_0).1
      have uq130 : (0 : Int) ≤ v4.toInt ∧ v4.toInt ≤ 0 := q130
      refine lv_iload hx hb dX11_cellCame_44 (lv_at hl 1 rfl) ?_
      refine lv_if_ne (tgt := 51) hx hb dX11_cellCame_46 (by decide) (fun c46_131 => ?_) (fun c46_131 => ?_)
      · skip
        replace hW := wfP_i (wfP_l hW) (i_ne c46_131 rfl (rg_i kc_0))
        have ic46_131 : v6.toInt ≠ (0 : Int32).toInt := fun z => c46_131 (Int32.toInt_inj.mp z)
        have y132 : (0 : Int32).toInt = 0 := by decide
        have q133 : rg (1) (65535) v6 := rg_neL c46_131 rv6 kc_0
        have uq133 : (1 : Int) ≤ v6.toInt ∧ v6.toInt ≤ 65535 := q133
        refine lv_iload hx hb dX11_cellCame_51 (lv_at hl 2 rfl) ?_
        refine lv_if_ne (tgt := 108) hx hb dX11_cellCame_53 (by decide) (fun c53_134 => ?_) (fun c53_134 => ?_)
        · skip
          replace hW := wfP_i (wfP_l hW) (i_ne c53_134 rfl (rg_i kc_0))
          have ic53_134 : v4.toInt ≠ (0 : Int32).toInt := fun z => c53_134 (Int32.toInt_inj.mp z)
          have y135 : (0 : Int32).toInt = 0 := by decide
          exact absurd (rg_neH c53_134 q130 kc_0 : rg (0) (-1) v4) (fun q => rg_dead q rfl)
        · skip
          replace hW := wfP_i (wfP_r hW) (i_eq c53_134 rfl (rg_i kc_0))
          have ic53_134 := congrArg Int32.toInt c53_134
          have y136 : (0 : Int32).toInt = 0 := by decide
          refine lv_iload hx hb dX11_cellCame_56 (lv_at hl 1 rfl) ?_
          refine lv_iconst (v := 5) hx hb dX11_cellCame_58 (by decide) ?_
          refine lv_icmp_ne (tgt := 108) hx hb dX11_cellCame_59 (by decide) (fun c59_137 => ?_) (fun c59_137 => ?_)
          · skip
            replace hW := wfP_i (wfP_l hW) (i_ne c59_137 rfl (rg_i kc_5))
            have ic59_137 : v6.toInt ≠ (5 : Int32).toInt := fun z => c59_137 (Int32.toInt_inj.mp z)
            have y138 : (5 : Int32).toInt = 5 := by decide
            refine lv_null hx hb dX11_cellCame_108 ?_
            refine lv_astoreN (lv' := [(7, .null), (6, .int (1 : Int32)), (5, .int v6), (4, .int v4), (3, .int v2), (0, .ref (Z.ad 11 i0)), (1, .int p1), (2, .ref (Z.ad 3 q2))]) hx hb dX11_cellCame_109 hl (by decide) rfl (fun ls hl => ?_)
            refine lv_iload hx hb dX11_cellCame_111 (lv_at hl 3 rfl) ?_
            refine lv_if_ne (tgt := 153) hx hb dX11_cellCame_113 (by decide) (fun c113_139 => ?_) (fun c113_139 => ?_)
            · skip
              replace hW := wfP_i (wfP_l hW) (i_ne c113_139 rfl (rg_i kc_0))
              have ic113_139 : v4.toInt ≠ (0 : Int32).toInt := fun z => c113_139 (Int32.toInt_inj.mp z)
              have y140 : (0 : Int32).toInt = 0 := by decide
              exact absurd (rg_neH c113_139 q130 kc_0 : rg (0) (-1) v4) (fun q => rg_dead q rfl)
            · skip
              replace hW := wfP_i (wfP_r hW) (i_eq c113_139 rfl (rg_i kc_0))
              have ic113_139 := congrArg Int32.toInt c113_139
              have y141 : (0 : Int32).toInt = 0 := by decide
              refine lv_iload_n hx hb dX11_cellCame_116 rfl (lv_at hl 6 rfl) ?_
              refine lv_iconst (v := 2) hx hb dX11_cellCame_117 (by decide) ?_
              refine lv_irem hx hb dX11_cellCame_118 (by decide) ?_
              refine lv_topi (fun v142 ev142 => ?_)
              have rv142 : rg (0) (1) v142 := (rg_rem ev142 rp1 kc_2 rfl).1
              replace hW := (wfP_i (wfP_i (wfP_i (wfP_a hW v142) ev142) rv142) ((rg_rem ev142 rp1 kc_2 rfl).2))
              have tv142 := (rg_rem ev142 rp1 kc_2 rfl).2
              have y143 : (2 : Int32).toInt = 2 := by decide
              have uv142 : (0 : Int) ≤ v142.toInt ∧ v142.toInt ≤ 1 := rv142
              refine lv_if_ne (tgt := 138) hx hb dX11_cellCame_119 (by decide) (fun c119_144 => ?_) (fun c119_144 => ?_)
              · skip
                replace hW := wfP_i (wfP_l hW) (i_ne c119_144 rfl (rg_i kc_0))
                have ic119_144 : v142.toInt ≠ (0 : Int32).toInt := fun z => c119_144 (Int32.toInt_inj.mp z)
                have y145 : (0 : Int32).toInt = 0 := by decide
                have q146 : rg (1) (1) v142 := rg_neL c119_144 rv142 kc_0
                have uq146 : (1 : Int) ≤ v142.toInt ∧ v142.toInt ≤ 1 := q146
                refine lv_aload_n hx hb dX11_cellCame_138 rfl (lv_at hl 5 rfl) ?_
                have al147 : Z.al 51 0 := hz.2 51 0 (show 0 < 1 from (by omega))
                refine c_getr (a := Z.ad 51 0) x L 11 i0 2 hal0 rfl rfl (wk_in kf_X11_63) dX11_cellCame_139 ?_
                refine lv_iload_n hx hb dX11_cellCame_142 rfl (lv_at hl 6 rfl) ?_
                refine lv_iconst (v := 2) hx hb dX11_cellCame_143 (by decide) ?_
                refine lv_idiv hx hb dX11_cellCame_144 (by decide) ?_
                refine lv_topi (fun v148 ev148 => ?_)
                have rv148 : rg (0) (3) v148 := (rg_div ev148 rp1 kc_2 rfl).1
                replace hW := (wfP_i (wfP_i (wfP_i (wfP_a hW v148) ev148) rv148) ((rg_div ev148 rp1 kc_2 rfl).2))
                have tv148 := (rg_div ev148 rp1 kc_2 rfl).2
                have y149 : (2 : Int32).toInt = 2 := by decide
                have uv148 : (0 : Int) ≤ v148.toInt ∧ v148.toInt ≤ 3 := rv148
                refine c_ldr (a := Z.ad 4 v148.toInt.toNat) x L 51 0 al147 rfl (by omega) (show v148.toInt < ((Z.n : Nat) : Int) from (by omega)) rfl dX11_cellCame_145 ?_
                have al150 : Z.al 4 v148.toInt.toNat := hz.2 4 v148.toInt.toNat (show v148.toInt.toNat < Z.n from (by omega))
                refine lv_iload hx hb dX11_cellCame_146 (lv_at hl 2 rfl) ?_
                refine c_cr (As := [.int v6]) (rest := []) x hml L 4 v148.toInt.toNat al150 rfl (d_kactive l X g v148.toInt.toNat v6 ⟨by omega, by omega⟩ hJ (show v148.toInt.toNat < Z.n from (by omega)) hW) (wk_V kd_X4_active kl_X11_189 ki_X4_active ks_X4_X4_active kn_X4) rfl ⟨rfl, rfl⟩ hd_kactive ⟨Nat.le_of_ble_eq_true rfl, Nat.le_of_ble_eq_true rfl⟩ rfl hl.1 rfl (lv_room (Nat.le_of_ble_eq_true rfl)) dX11_cellCame_148 (fun v152 g151 H151 k151 hp151 L151 => ?_) hcs
                obtain ⟨hW, hi151, hp151⟩ := hp151
                replace hW := wfP_i hW ⟨hi151, hp151⟩
                have hvv152 := hp151.2.2
                rcases (show v152.toInt < 0 ∨ 0 ≤ v152.toInt from (by omega)) with hc153 | hc153
                · skip
                  replace hW := wfP_i (wfP_l hW) hc153
                  refine c_top (show Value.null = va_rf (cOpt Z 1 v152) from (by rw [cOpt_none hc153]; rfl)) ?_
                  refine lv_astoreN (lv' := [(7, .null), (6, .int (1 : Int32)), (5, .int v6), (4, .int v4), (3, .int v2), (0, .ref (Z.ad 11 i0)), (1, .int p1), (2, .ref (Z.ad 3 q2))]) hx hb dX11_cellCame_151 hl (by decide) rfl (fun ls hl => ?_)
                  refine lv_aloadN hx hb dX11_cellCame_153 (lv_at hl 0 rfl) ?_
                  refine lv_ifnonnullN hx hb dX11_cellCame_155 ?_
                  refine lv_aload_n hx hb dX11_cellCame_158 rfl (lv_at hl 7 rfl) ?_
                  refine lv_dup hx hb dX11_cellCame_159 rfl ?_
                  refine c_geti x L151 3 q2 12 108 hq2 rfl rfl (wk_in kf_X11_192) dX11_cellCame_160 (fun v154 ev154 wv154 => ?_)
                  have rv154 : rg (-2147483648) (2147483647) v154 := rg_any v154
                  replace hW := (wfP_i (wfP_i (wfP_a hW v154) ev154) rv154)
                  have uv154 : (-2147483648 : Int) ≤ v154.toInt ∧ v154.toInt ≤ 2147483647 := rv154
                  refine lv_iconst (v := 1) hx hb dX11_cellCame_163 (by decide) ?_
                  refine lv_iadd hx hb dX11_cellCame_164 ?_
                  refine lv_topi (fun v155 ev155 => ?_)
                  have rv155 : rg (-2147483648) (2147483647) v155 := rg_any v155
                  replace hW := (wfP_i (wfP_i (wfP_a hW v155) ev155) rv155)
                  have uv155 : (-2147483648 : Int) ≤ v155.toInt ∧ v155.toInt ≤ 2147483647 := rv155
                  refine c_puti x L151 3 q2 12 108 hq2 rfl rfl ⟨rfl, by decide +kernel⟩ (wk_in kf_X11_192) dX11_cellCame_165 (rg_any v155) (fun g156 H156 k156 eg156 L156 => ?_)
                  replace hW := (wfP_i (wfP_a hW g156) eg156)
                  refine lv_goto (tgt := 237) hx hb dX11_cellCame_168 (by decide) ?_
                  refine lv_iconst (v := 0) hx hb dX11_cellCame_237 (by decide) ?_
                  exact k_zret (v := (0 : Int32)) xa L156 hr hlocks (k_nar (rg_w kc_0 rfl)) (by omega) hzl ⟨hW, (mFi.up (mFi.sub mFi.rf hi151 mSub_nil) eg156 (mIn_at 5 rfl (Or.inl rfl))), (mFr.upE (mFr.tr mFr.rf hp151.1 rfl) eg156 rfl), rg_w kc_0 rfl, (cJ_up hp151.2.1 eg156 rfl), (by omega), trivial⟩ hcs.1 hcs.2 dX11_cellCame_238
                · skip
                  replace hW := wfP_i (wfP_r hW) hc153
                  refine c_top (show Value.ref (Z.ad 1 v152.toInt.toNat) = va_rf (cOpt Z 1 v152) from (by rw [cOpt_some hc153]; rfl)) ?_
                  have hwv152 := hvv152 hc153
                  refine lv_astore (lv' := [(7, .ref (Z.ad 1 v152.toInt.toNat)), (6, .int (1 : Int32)), (5, .int v6), (4, .int v4), (3, .int v2), (0, .ref (Z.ad 11 i0)), (1, .int p1), (2, .ref (Z.ad 3 q2))]) hx hb dX11_cellCame_151 hl (by decide) rfl (fun ls hl => ?_)
                  refine lv_aload hx hb dX11_cellCame_153 (lv_at hl 0 rfl) ?_
                  refine lv_ifnonnull (tgt := 171) hx hb dX11_cellCame_155 (by decide) ?_
                  refine lv_iload_n hx hb dX11_cellCame_171 rfl (lv_at hl 6 rfl) ?_
                  refine lv_iconst (v := 2) hx hb dX11_cellCame_172 (by decide) ?_
                  refine lv_irem hx hb dX11_cellCame_173 (by decide) ?_
                  refine m_top ev142 ?_
                  refine lv_if_ne (tgt := 197) hx hb dX11_cellCame_174 (by decide) (fun c174_157 => ?_) (fun c174_157 => ?_)
                  · skip
                    replace hW := wfP_i (wfP_l hW) (i_ne c174_157 rfl (rg_i kc_0))
                    have ic174_157 : v142.toInt ≠ (0 : Int32).toInt := fun z => c174_157 (Int32.toInt_inj.mp z)
                    have y158 : (0 : Int32).toInt = 0 := by decide
                    refine lv_aload_n hx hb dX11_cellCame_197 rfl (lv_at hl 5 rfl) ?_
                    refine c_getr (a := Z.ad 51 0) x L151 11 i0 2 hal0 rfl rfl (wk_in kf_X11_63) dX11_cellCame_198 ?_
                    refine lv_iload_n hx hb dX11_cellCame_201 rfl (lv_at hl 6 rfl) ?_
                    refine lv_iconst (v := 2) hx hb dX11_cellCame_202 (by decide) ?_
                    refine lv_idiv hx hb dX11_cellCame_203 (by decide) ?_
                    refine m_top ev148 ?_
                    refine c_ldr (a := Z.ad 4 v148.toInt.toNat) x L151 51 0 al147 rfl (by omega) (show v148.toInt < ((Z.n : Nat) : Int) from (by omega)) rfl dX11_cellCame_204 ?_
                    refine lv_aload hx hb dX11_cellCame_205 (lv_at hl 0 rfl) ?_
                    refine lv_aload_n hx hb dX11_cellCame_207 rfl (lv_at hl 7 rfl) ?_
                    refine c_getr (a := Z.ad 7 q2) x L151 3 q2 2 hq2 rfl rfl (wk_in kf_X11_119) dX11_cellCame_208 ?_
                    have al159 : Z.al 25 q2 := hz.2 25 q2 (show q2 < 2 * Z.n from (by omega))
                    refine c_getr (a := Z.ad 25 q2) x L151 7 q2 0 al1 rfl rfl (wk_in kf_X11_175) dX11_cellCame_211 ?_
                    refine lv_iload hx hb dX11_cellCame_214 (lv_at hl 1 rfl) ?_
                    refine lv_aload_n hx hb dX11_cellCame_216 rfl (lv_at hl 5 rfl) ?_
                    refine c_geti x L151 11 i0 10 362 hal0 rfl rfl (wk_in kf_X11_82) dX11_cellCame_217 (fun v160 ev160 wv160 => ?_)
                    have rv160 : rg (-2147483648) (2147483647) v160 := rg_any v160
                    replace hW := (wfP_i (wfP_i (wfP_a hW v160) ev160) rv160)
                    have uv160 : (-2147483648 : Int) ≤ v160.toInt ∧ v160.toInt ≤ 2147483647 := rv160
                    have sv160 : v160.toInt = (g 362 i0).toInt := congrArg Int32.toInt (ev160.trans (congrFun ((show mFr [0, 1, 2, 46, 67, 108, 109, 136, 512, 544, 576, 960, 992, 1024, 1056] g g151 from (mFr.tr mFr.rf hp151.1 rfl)).at 362 rfl) _))
                    refine k_calli xa L151 (k_runV (As := [.ref (Z.ad 1 v152.toInt.toNat), .ref (Z.ad 25 q2), .int (1 : Int32), .int v160]) (rest := []) ⟨hx, hb, hml, x.2.2.2.2.1, x.2.2.1⟩ (d_kedataCame l X g151 v148.toInt.toNat v152.toInt.toNat q2 (1 : Int32) v160 _ ⟨by omega, by omega⟩ hp151.2.1 (by omega) (show v148.toInt.toNat < Z.n from (by omega)) hwv152.1 al159 (rg_w kc_1 rfl) hW) (cwV 4 x.2.2.1 (wk_V kd_X4_dataCame kl_X11_205 ki_X4_dataCame ks_X4_X4_dataCame kn_X4) rfl rfl rfl hd_kedataCame ⟨Nat.le_of_ble_eq_true rfl, Nat.le_of_ble_eq_true rfl⟩) ⟨cPreA.blind, c_recv x L151 al150 rfl, fun U hU hW => k_pre xa L151 U hU hW⟩ rfl rfl hl.1 rfl (lv_room (Nat.le_of_ble_eq_true rfl)) dX11_cellCame_220 ⟨show 0 + 2 ≤ 2 by omega, show 0 + (243) ≤ 243 by omega⟩) (fun v162 Z g161 H161 k161 kc161 kn161 hk161 hn161 hp161 hz161 xa L161 => ?_)
                    obtain ⟨hW, hi161, hp161⟩ := hp161
                    replace hW := wfP_i (wfP_a (wfP_i (wfP_i hW ⟨hi161, hp161⟩) (cZg_of hz161 hk161 hn161)) Z) rfl
                    have rv162 : rg (0) (2) v162 := hp161.2.1
                    have uv162 : (0 : Int) ≤ v162.toInt ∧ v162.toInt ≤ 2 := rv162
                    have hww161 := hp161.2.2.2.1
                    have ea161_0 := hz161.2.2.1 1 v152.toInt.toNat hwv152.1 (by omega)
                    have ea161_1 := hz161.2.2.1 11 i0 hal0 (by omega)
                    have ea161_2 := hz161.2.2.1 3 q2 hq2 (by omega)
                    rw [← ea161_0] at hl
                    rw [← ea161_1] at hl
                    rw [← ea161_2] at hl
                    have al161_0 := hz161.2.1 1 v152.toInt.toNat hwv152.1
                    have al161_1 := hz161.2.1 11 i0 hal0
                    have al161_2 := hz161.2.1 3 q2 hq2
                    have hZn161 := hz161.1
                    have x := xa.1
                    have hz := x.2.2.2.2.2.2.2.1
                    have hzn := hz.1
                    have hzl := cZl.tr hzl hz161
                    have hcs : 0 + kc161 ≤ 2 ∧ 0 + kn161 ≤ 243 := by omega
                    refine lv_iconst (v := 2) hx hb dX11_cellCame_223 (by decide) ?_
                    refine lv_icmp_ne (tgt := 237) hx hb dX11_cellCame_224 (by decide) (fun c224_163 => ?_) (fun c224_163 => ?_)
                    · skip
                      replace hW := wfP_i (wfP_l hW) (i_ne c224_163 rfl (rg_i kc_2))
                      have ic224_163 : v162.toInt ≠ (2 : Int32).toInt := fun z => c224_163 (Int32.toInt_inj.mp z)
                      have y164 : (2 : Int32).toInt = 2 := by decide
                      have q165 : rg (0) (1) v162 := rg_neH c224_163 rv162 kc_2
                      have uq165 : (0 : Int) ≤ v162.toInt ∧ v162.toInt ≤ 1 := q165
                      refine lv_iconst (v := 0) hx hb dX11_cellCame_237 (by decide) ?_
                      exact k_zret (v := (0 : Int32)) xa L161 hr hlocks (k_nar (rg_w kc_0 rfl)) (by omega) hzl ⟨hW, (mFi.sub (mFi.sub mFi.rf hi151 mSub_nil) hi161 (mSub_any 0 rfl (mSub_any 1 rfl (mSub_any 2 rfl (mSub_any 3 rfl (mSub_any 7 rfl (mSub_any 8 rfl (mSub_any 11 rfl (mSub_any 12 rfl (mSub_any 13 rfl (mSub_any 14 rfl mSub_nil))))))))))), (mFr.tr (mFr.tr mFr.rf hp151.1 rfl) hp161.1 rfl), rg_w kc_0 rfl, hp161.2.2.1, (by omega), trivial⟩ hcs.1 hcs.2 dX11_cellCame_238
                    · skip
                      replace hW := wfP_i (wfP_r hW) (i_eq c224_163 rfl (rg_i kc_2))
                      have ic224_163 := congrArg Int32.toInt c224_163
                      have y166 : (2 : Int32).toInt = 2 := by decide
                      have q167 : rg (2) (2) v162 := (rg_eq c224_163 rv162 kc_2).1
                      have uq167 : (2 : Int) ≤ v162.toInt ∧ v162.toInt ≤ 2 := q167
                      refine lv_aload_n hx hb dX11_cellCame_227 rfl (lv_at hl 7 rfl) ?_
                      refine lv_dup hx hb dX11_cellCame_228 rfl ?_
                      refine c_geti x L161 3 q2 13 109 al161_2 rfl rfl (wk_in kf_X11_182) dX11_cellCame_229 (fun v168 ev168 wv168 => ?_)
                      have rv168 : rg (-2147483648) (2147483647) v168 := rg_any v168
                      replace hW := (wfP_i (wfP_i (wfP_a hW v168) ev168) rv168)
                      have uv168 : (-2147483648 : Int) ≤ v168.toInt ∧ v168.toInt ≤ 2147483647 := rv168
                      refine lv_iconst (v := 1) hx hb dX11_cellCame_232 (by decide) ?_
                      refine lv_iadd hx hb dX11_cellCame_233 ?_
                      refine lv_topi (fun v169 ev169 => ?_)
                      have rv169 : rg (-2147483648) (2147483647) v169 := rg_any v169
                      replace hW := (wfP_i (wfP_i (wfP_a hW v169) ev169) rv169)
                      have uv169 : (-2147483648 : Int) ≤ v169.toInt ∧ v169.toInt ≤ 2147483647 := rv169
                      refine c_puti x L161 3 q2 13 109 al161_2 rfl rfl ⟨rfl, by decide +kernel⟩ (wk_in kf_X11_182) dX11_cellCame_234 (rg_any v169) (fun g170 H170 k170 eg170 L170 => ?_)
                      replace hW := (wfP_i (wfP_a hW g170) eg170)
                      refine lv_iconst (v := 0) hx hb dX11_cellCame_237 (by decide) ?_
                      exact k_zret (v := (0 : Int32)) xa L170 hr hlocks (k_nar (rg_w kc_0 rfl)) (by omega) hzl ⟨hW, (mFi.up (mFi.sub (mFi.sub mFi.rf hi151 mSub_nil) hi161 (mSub_any 0 rfl (mSub_any 1 rfl (mSub_any 2 rfl (mSub_any 3 rfl (mSub_any 7 rfl (mSub_any 8 rfl (mSub_any 11 rfl (mSub_any 12 rfl (mSub_any 13 rfl (mSub_any 14 rfl mSub_nil))))))))))) eg170 (mIn_at 6 rfl (Or.inr (Nat.div_one _)))), (mFr.upE (mFr.tr (mFr.tr mFr.rf hp151.1 rfl) hp161.1 rfl) eg170 rfl), rg_w kc_0 rfl, (cJ_up hp161.2.2.1 eg170 rfl), (by omega), trivial⟩ hcs.1 hcs.2 dX11_cellCame_238
                  · skip
                    replace hW := wfP_i (wfP_r hW) (i_eq c174_157 rfl (rg_i kc_0))
                    have ic174_157 := congrArg Int32.toInt c174_157
                    have y171 : (0 : Int32).toInt = 0 := by decide
                    exact absurd ((rg_eq c174_157 q146 kc_0).1 : rg (1) (0) v142) (fun q => rg_dead q rfl)
              · skip
                replace hW := wfP_i (wfP_r hW) (i_eq c119_144 rfl (rg_i kc_0))
                have ic119_144 := congrArg Int32.toInt c119_144
                have y172 : (0 : Int32).toInt = 0 := by decide
                have q173 : rg (0) (0) v142 := (rg_eq c119_144 rv142 kc_0).1
                have uq173 : (0 : Int) ≤ v142.toInt ∧ v142.toInt ≤ 0 := q173
                refine lv_aload_n hx hb dX11_cellCame_122 rfl (lv_at hl 5 rfl) ?_
                have al174 : Z.al 49 0 := hz.2 49 0 (show 0 < 1 from (by omega))
                refine c_getr (a := Z.ad 49 0) x L 11 i0 3 hal0 rfl rfl (wk_in kf_X11_67) dX11_cellCame_123 ?_
                refine lv_iload_n hx hb dX11_cellCame_126 rfl (lv_at hl 6 rfl) ?_
                refine lv_iconst (v := 2) hx hb dX11_cellCame_127 (by decide) ?_
                refine lv_idiv hx hb dX11_cellCame_128 (by decide) ?_
                refine lv_topi (fun v175 ev175 => ?_)
                have rv175 : rg (0) (3) v175 := (rg_div ev175 rp1 kc_2 rfl).1
                replace hW := (wfP_i (wfP_i (wfP_i (wfP_a hW v175) ev175) rv175) ((rg_div ev175 rp1 kc_2 rfl).2))
                have tv175 := (rg_div ev175 rp1 kc_2 rfl).2
                have y176 : (2 : Int32).toInt = 2 := by decide
                have uv175 : (0 : Int) ≤ v175.toInt ∧ v175.toInt ≤ 3 := rv175
                refine c_ldr (a := Z.ad 10 v175.toInt.toNat) x L 49 0 al174 rfl (by omega) (show v175.toInt < ((Z.n : Nat) : Int) from (by omega)) rfl dX11_cellCame_129 ?_
                have al177 : Z.al 10 v175.toInt.toNat := hz.2 10 v175.toInt.toNat (show v175.toInt.toNat < Z.n from (by omega))
                refine lv_iload hx hb dX11_cellCame_130 (lv_at hl 2 rfl) ?_
                refine c_cr (As := [.int v6]) (rest := []) x hml L 10 v175.toInt.toNat al177 rfl (d_kjoined l X g v175.toInt.toNat v6 ⟨by omega, by omega⟩ hJ (show v175.toInt.toNat < Z.n from (by omega)) hW) (wk_V kd_X10_joined kl_X11_185 ki_X10_joined ks_X10_X10_joined kn_X10) rfl ⟨rfl, rfl⟩ hd_kjoined ⟨Nat.le_of_ble_eq_true rfl, Nat.le_of_ble_eq_true rfl⟩ rfl hl.1 rfl (lv_room (Nat.le_of_ble_eq_true rfl)) dX11_cellCame_132 (fun v179 g178 H178 k178 hp178 L178 => ?_) hcs
                obtain ⟨hW, hi178, hp178⟩ := hp178
                replace hW := wfP_i hW ⟨hi178, hp178⟩
                have hvv179 := hp178.2.2
                rcases (show v179.toInt < 0 ∨ 0 ≤ v179.toInt from (by omega)) with hc180 | hc180
                · skip
                  replace hW := wfP_i (wfP_l hW) hc180
                  refine c_top (show Value.null = va_rf (cOpt Z 1 v179) from (by rw [cOpt_none hc180]; rfl)) ?_
                  refine lv_goto (tgt := 151) hx hb dX11_cellCame_135 (by decide) ?_
                  refine lv_astoreN (lv' := [(7, .null), (6, .int (1 : Int32)), (5, .int v6), (4, .int v4), (3, .int v2), (0, .ref (Z.ad 11 i0)), (1, .int p1), (2, .ref (Z.ad 3 q2))]) hx hb dX11_cellCame_151 hl (by decide) rfl (fun ls hl => ?_)
                  refine lv_aloadN hx hb dX11_cellCame_153 (lv_at hl 0 rfl) ?_
                  refine lv_ifnonnullN hx hb dX11_cellCame_155 ?_
                  refine lv_aload_n hx hb dX11_cellCame_158 rfl (lv_at hl 7 rfl) ?_
                  refine lv_dup hx hb dX11_cellCame_159 rfl ?_
                  refine c_geti x L178 3 q2 12 108 hq2 rfl rfl (wk_in kf_X11_192) dX11_cellCame_160 (fun v181 ev181 wv181 => ?_)
                  have rv181 : rg (-2147483648) (2147483647) v181 := rg_any v181
                  replace hW := (wfP_i (wfP_i (wfP_a hW v181) ev181) rv181)
                  have uv181 : (-2147483648 : Int) ≤ v181.toInt ∧ v181.toInt ≤ 2147483647 := rv181
                  refine lv_iconst (v := 1) hx hb dX11_cellCame_163 (by decide) ?_
                  refine lv_iadd hx hb dX11_cellCame_164 ?_
                  refine lv_topi (fun v182 ev182 => ?_)
                  have rv182 : rg (-2147483648) (2147483647) v182 := rg_any v182
                  replace hW := (wfP_i (wfP_i (wfP_a hW v182) ev182) rv182)
                  have uv182 : (-2147483648 : Int) ≤ v182.toInt ∧ v182.toInt ≤ 2147483647 := rv182
                  refine c_puti x L178 3 q2 12 108 hq2 rfl rfl ⟨rfl, by decide +kernel⟩ (wk_in kf_X11_192) dX11_cellCame_165 (rg_any v182) (fun g183 H183 k183 eg183 L183 => ?_)
                  replace hW := (wfP_i (wfP_a hW g183) eg183)
                  refine lv_goto (tgt := 237) hx hb dX11_cellCame_168 (by decide) ?_
                  refine lv_iconst (v := 0) hx hb dX11_cellCame_237 (by decide) ?_
                  exact k_zret (v := (0 : Int32)) xa L183 hr hlocks (k_nar (rg_w kc_0 rfl)) (by omega) hzl ⟨hW, (mFi.up (mFi.sub mFi.rf hi178 mSub_nil) eg183 (mIn_at 5 rfl (Or.inl rfl))), (mFr.upE (mFr.tr mFr.rf hp178.1 rfl) eg183 rfl), rg_w kc_0 rfl, (cJ_up hp178.2.1 eg183 rfl), (by omega), trivial⟩ hcs.1 hcs.2 dX11_cellCame_238
                · skip
                  replace hW := wfP_i (wfP_r hW) hc180
                  refine c_top (show Value.ref (Z.ad 1 v179.toInt.toNat) = va_rf (cOpt Z 1 v179) from (by rw [cOpt_some hc180]; rfl)) ?_
                  have hwv179 := hvv179 hc180
                  refine lv_goto (tgt := 151) hx hb dX11_cellCame_135 (by decide) ?_
                  refine lv_astore (lv' := [(7, .ref (Z.ad 1 v179.toInt.toNat)), (6, .int (1 : Int32)), (5, .int v6), (4, .int v4), (3, .int v2), (0, .ref (Z.ad 11 i0)), (1, .int p1), (2, .ref (Z.ad 3 q2))]) hx hb dX11_cellCame_151 hl (by decide) rfl (fun ls hl => ?_)
                  refine lv_aload hx hb dX11_cellCame_153 (lv_at hl 0 rfl) ?_
                  refine lv_ifnonnull (tgt := 171) hx hb dX11_cellCame_155 (by decide) ?_
                  refine lv_iload_n hx hb dX11_cellCame_171 rfl (lv_at hl 6 rfl) ?_
                  refine lv_iconst (v := 2) hx hb dX11_cellCame_172 (by decide) ?_
                  refine lv_irem hx hb dX11_cellCame_173 (by decide) ?_
                  refine m_top ev142 ?_
                  refine lv_if_ne (tgt := 197) hx hb dX11_cellCame_174 (by decide) (fun c174_184 => ?_) (fun c174_184 => ?_)
                  · skip
                    replace hW := wfP_i (wfP_l hW) (i_ne c174_184 rfl (rg_i kc_0))
                    have ic174_184 : v142.toInt ≠ (0 : Int32).toInt := fun z => c174_184 (Int32.toInt_inj.mp z)
                    have y185 : (0 : Int32).toInt = 0 := by decide
                    exact absurd (rg_neH c174_184 q173 kc_0 : rg (0) (-1) v142) (fun q => rg_dead q rfl)
                  · skip
                    replace hW := wfP_i (wfP_r hW) (i_eq c174_184 rfl (rg_i kc_0))
                    have ic174_184 := congrArg Int32.toInt c174_184
                    have y186 : (0 : Int32).toInt = 0 := by decide
                    refine lv_aload_n hx hb dX11_cellCame_177 rfl (lv_at hl 5 rfl) ?_
                    refine lv_aload hx hb dX11_cellCame_178 (lv_at hl 0 rfl) ?_
                    obtain ⟨v187, ev187⟩ : ∃ y : Int32, y = g178 43 v179.toInt.toNat := ⟨_, rfl⟩
                    replace hW := (wfP_i (wfP_a hW v187) ev187)
                    rcases (show v187.toInt < 0 ∨ 0 ≤ v187.toInt from (by omega)) with hc188 | hc188
                    · skip
                      replace hW := wfP_i (wfP_l hW) hc188
                      have q189 : rg (-2147483648) (-1) v187 := ⟨(rg_any v187).1, by omega⟩
                      refine c_geto (w := .null) x L178 1 v179.toInt.toNat 11 43 hwv179.1 rfl rfl (by show va_rf (cOpt Z 1 (g178 43 v179.toInt.toNat)) = _; rw [← ev187, cOpt_none (by omega)]; rfl) (wk_in kf_X11_195) dX11_cellCame_180 ?_
                      refine lv_iload_n hx hb dX11_cellCame_183 rfl (lv_at hl 4 rfl) ?_
                      refine lv_aload_n hx hb dX11_cellCame_184 rfl (lv_at hl 7 rfl) ?_
                      refine c_getr (a := Z.ad 7 q2) x L178 3 q2 2 hq2 rfl rfl (wk_in kf_X11_119) dX11_cellCame_185 ?_
                      have al193 : Z.al 25 q2 := hz.2 25 q2 (show q2 < 2 * Z.n from (by omega))
                      refine c_getr (a := Z.ad 25 q2) x L178 7 q2 0 al1 rfl rfl (wk_in kf_X11_175) dX11_cellCame_188 ?_
                      refine c_cv (As := [.null, .int v2, .ref (Z.ad 25 q2)]) (rest := []) x hml L178 11 i0 hal0 rfl (d_kpassOn_N l X g178 i0 v2 q2 ⟨by omega, by omega⟩ hal0 al193 hW) (wk_V kd_X11_passOn kl_X11_201 ki_X11_passOn ks_X11_X11_passOn kn_X11) rfl ⟨rfl, rfl⟩ hd_kpassOn_N ⟨Nat.le_of_ble_eq_true rfl, Nat.le_of_ble_eq_true rfl⟩ rfl hl.1 rfl (lv_room (Nat.le_of_ble_eq_true rfl)) dX11_cellCame_191 (fun  g194 H194 k194 hp194 L194 => ?_) hcs
                      obtain ⟨hW, hi194, hp194⟩ := hp194
                      replace hW := wfP_i hW ⟨hi194, hp194⟩
                      refine lv_goto (tgt := 237) hx hb dX11_cellCame_194 (by decide) ?_
                      refine lv_iconst (v := 0) hx hb dX11_cellCame_237 (by decide) ?_
                      exact k_zret (v := (0 : Int32)) xa L194 hr hlocks (k_nar (rg_w kc_0 rfl)) (by omega) hzl ⟨hW, (mFi.sub (mFi.sub mFi.rf hi178 mSub_nil) hi194 mSub_nil), (mFr.tr (mFr.tr mFr.rf hp178.1 rfl) hp194.1 rfl), rg_w kc_0 rfl, (cJ_fr hp178.2.1 hp194.1 rfl), (by omega), trivial⟩ hcs.1 hcs.2 dX11_cellCame_238
                    · skip
                      replace hW := wfP_i (wfP_r hW) hc188
                      have q190 : rg (0) (2147483647) v187 := ⟨by omega, (rg_any v187).2⟩
                      have hd191 := (hp178.2.1.2.1 v179.toInt.toNat hwv179.1).2.1
                      rw [← ev187] at hd191
                      have al192 : Z.al 1 v187.toInt.toNat := hd191.resolve_left (by omega)
                      refine c_geto (w := .ref (Z.ad 1 v187.toInt.toNat)) x L178 1 v179.toInt.toNat 11 43 hwv179.1 rfl rfl (by show va_rf (cOpt Z 1 (g178 43 v179.toInt.toNat)) = _; rw [← ev187, cOpt_some (by omega)]; rfl) (wk_in kf_X11_195) dX11_cellCame_180 ?_
                      refine lv_iload_n hx hb dX11_cellCame_183 rfl (lv_at hl 4 rfl) ?_
                      refine lv_aload_n hx hb dX11_cellCame_184 rfl (lv_at hl 7 rfl) ?_
                      refine c_getr (a := Z.ad 7 q2) x L178 3 q2 2 hq2 rfl rfl (wk_in kf_X11_119) dX11_cellCame_185 ?_
                      have al195 : Z.al 25 q2 := hz.2 25 q2 (show q2 < 2 * Z.n from (by omega))
                      refine c_getr (a := Z.ad 25 q2) x L178 7 q2 0 al1 rfl rfl (wk_in kf_X11_175) dX11_cellCame_188 ?_
                      refine c_cv (As := [.ref (Z.ad 1 v187.toInt.toNat), .int v2, .ref (Z.ad 25 q2)]) (rest := []) x hml L178 11 i0 hal0 rfl (d_kpassOn l X g178 i0 v187.toInt.toNat v2 q2 ⟨by omega, by omega⟩ hp178.2.1 hal0 al192 al195 hW) (wk_V kd_X11_passOn kl_X11_201 ki_X11_passOn ks_X11_X11_passOn kn_X11) rfl ⟨rfl, rfl⟩ hd_kpassOn ⟨Nat.le_of_ble_eq_true rfl, Nat.le_of_ble_eq_true rfl⟩ rfl hl.1 rfl (lv_room (Nat.le_of_ble_eq_true rfl)) dX11_cellCame_191 (fun  g196 H196 k196 hp196 L196 => ?_) hcs
                      obtain ⟨hW, hi196, hp196⟩ := hp196
                      replace hW := wfP_i hW ⟨hi196, hp196⟩
                      refine lv_goto (tgt := 237) hx hb dX11_cellCame_194 (by decide) ?_
                      refine lv_iconst (v := 0) hx hb dX11_cellCame_237 (by decide) ?_
                      exact k_zret (v := (0 : Int32)) xa L196 hr hlocks (k_nar (rg_w kc_0 rfl)) (by omega) hzl ⟨hW, (mFi.sub (mFi.sub mFi.rf hi178 mSub_nil) hi196 (mSub_any 4 rfl (mSub_any 5 rfl (mSub_any 9 rfl (mSub_any 10 rfl mSub_nil))))), (mFr.tr (mFr.tr mFr.rf hp178.1 rfl) hp196.1 rfl), rg_w kc_0 rfl, hp196.2.1, (by omega), trivial⟩ hcs.1 hcs.2 dX11_cellCame_238
          · skip
            replace hW := wfP_i (wfP_r hW) (i_eq c59_137 rfl (rg_i kc_5))
            have ic59_137 := congrArg Int32.toInt c59_137
            have y197 : (5 : Int32).toInt = 5 := by decide
            have q198 : rg (5) (5) v6 := (rg_eq c59_137 q133 kc_5).1
            have uq198 : (5 : Int) ≤ v6.toInt ∧ v6.toInt ≤ 5 := q198
            refine lv_aload_n hx hb dX11_cellCame_62 rfl (lv_at hl 6 rfl) ?_
            have al199 : Z.al 0 q2 := hz.2 0 q2 (show q2 < 2 * Z.n from (by omega))
            refine c_getr (a := Z.ad 0 q2) x L 3 q2 3 hq2 rfl rfl (wk_in kf_X11_140) dX11_cellCame_63 ?_
            refine lv_aload_n hx hb dX11_cellCame_66 rfl (lv_at hl 6 rfl) ?_
            refine c_getr (a := Z.ad 7 q2) x L 3 q2 2 hq2 rfl rfl (wk_in kf_X11_119) dX11_cellCame_67 ?_
            have al200 : Z.al 25 q2 := hz.2 25 q2 (show q2 < 2 * Z.n from (by omega))
            refine c_getr (a := Z.ad 25 q2) x L 7 q2 0 al1 rfl rfl (wk_in kf_X11_175) dX11_cellCame_70 ?_
            refine lv_iload hx hb dX11_cellCame_73 (lv_at hl 0 rfl) ?_
            refine c_ci (As := [.ref (Z.ad 25 q2), .int (1 : Int32)]) (rest := []) x hml L 0 q2 al199 rfl (d_kasmAdd l X g q2 q2 (1 : Int32) ⟨by omega, by omega⟩ al199 (hz.2 16 q2 (show q2 < 2 * Z.n from (by omega))) al200 (rg_w kc_1 rfl) hW) (wk_V kd_X0_add kl_X11_178 ki_X0_add ks_X0_X0_add kn_X0) rfl ⟨rfl, rfl⟩ hd_kasmAdd ⟨Nat.le_of_ble_eq_true rfl, Nat.le_of_ble_eq_true rfl⟩ rfl hl.1 rfl (lv_room (Nat.le_of_ble_eq_true rfl)) dX11_cellCame_75 (fun v202 g201 H201 k201 hp201 L201 => ?_) hcs
            obtain ⟨hW, hi201, hp201⟩ := hp201
            replace hW := wfP_i hW ⟨hi201, hp201⟩
            have rv202 : rg (0) (2) v202 := hp201.2.1
            have uv202 : (0 : Int) ≤ v202.toInt ∧ v202.toInt ≤ 2 := rv202
            have hw203 := hp201.2.2
            refine lv_istore (lv' := [(7, .int v202), (6, .int (1 : Int32)), (5, .int v6), (4, .int v4), (3, .int v2), (0, .ref (Z.ad 11 i0)), (1, .int p1), (2, .ref (Z.ad 3 q2))]) hx hb dX11_cellCame_78 hl (by decide) rfl (fun ls hl => ?_)
            refine lv_iload hx hb dX11_cellCame_80 (lv_at hl 0 rfl) ?_
            refine lv_iconst (v := 2) hx hb dX11_cellCame_82 (by decide) ?_
            refine lv_icmp_ne (tgt := 96) hx hb dX11_cellCame_83 (by decide) (fun c83_204 => ?_) (fun c83_204 => ?_)
            · skip
              replace hW := wfP_i (wfP_l hW) (i_ne c83_204 rfl (rg_i kc_2))
              have ic83_204 : v202.toInt ≠ (2 : Int32).toInt := fun z => c83_204 (Int32.toInt_inj.mp z)
              have y205 : (2 : Int32).toInt = 2 := by decide
              have q206 : rg (0) (1) v202 := rg_neH c83_204 rv202 kc_2
              have uq206 : (0 : Int) ≤ v202.toInt ∧ v202.toInt ≤ 1 := q206
              refine lv_iload hx hb dX11_cellCame_96 (lv_at hl 0 rfl) ?_
              refine lv_iconst (v := 1) hx hb dX11_cellCame_98 (by decide) ?_
              refine lv_icmp_ne (tgt := 106) hx hb dX11_cellCame_99 (by decide) (fun c99_207 => ?_) (fun c99_207 => ?_)
              · skip
                replace hW := wfP_i (wfP_l hW) (i_ne c99_207 rfl (rg_i kc_1))
                have ic99_207 : v202.toInt ≠ (1 : Int32).toInt := fun z => c99_207 (Int32.toInt_inj.mp z)
                have y208 : (1 : Int32).toInt = 1 := by decide
                have q209 : rg (0) (0) v202 := rg_neH c99_207 q206 kc_1
                have uq209 : (0 : Int) ≤ v202.toInt ∧ v202.toInt ≤ 0 := q209
                refine lv_iconst (v := 0) hx hb dX11_cellCame_106 (by decide) ?_
                exact k_zret (v := (0 : Int32)) xa L201 hr hlocks (k_nar (rg_w kc_0 rfl)) (by omega) hzl ⟨hW, (mFi.sub mFi.rf hi201 (mSub_any 1 rfl (mSub_any 2 rfl (mSub_any 8 rfl mSub_nil)))), (mFr.tr mFr.rf hp201.1 rfl), rg_w kc_0 rfl, (cJ_fr hJ hp201.1 rfl), (by omega), trivial⟩ hcs.1 hcs.2 dX11_cellCame_107
              · skip
                replace hW := wfP_i (wfP_r hW) (i_eq c99_207 rfl (rg_i kc_1))
                have ic99_207 := congrArg Int32.toInt c99_207
                have y210 : (1 : Int32).toInt = 1 := by decide
                have q211 : rg (1) (1) v202 := (rg_eq c99_207 q206 kc_1).1
                have uq211 : (1 : Int) ≤ v202.toInt ∧ v202.toInt ≤ 1 := q211
                refine lv_iconst (v := 1) hx hb dX11_cellCame_102 (by decide) ?_
                refine lv_goto (tgt := 107) hx hb dX11_cellCame_103 (by decide) ?_
                exact k_zret (v := (1 : Int32)) xa L201 hr hlocks (k_nar (rg_w kc_1 rfl)) (by omega) hzl ⟨hW, (mFi.sub mFi.rf hi201 (mSub_any 1 rfl (mSub_any 2 rfl (mSub_any 8 rfl mSub_nil)))), (mFr.tr mFr.rf hp201.1 rfl), rg_w kc_1 rfl, (cJ_fr hJ hp201.1 rfl), (by omega), trivial⟩ hcs.1 hcs.2 dX11_cellCame_107
            · skip
              replace hW := wfP_i (wfP_r hW) (i_eq c83_204 rfl (rg_i kc_2))
              have ic83_204 := congrArg Int32.toInt c83_204
              have y212 : (2 : Int32).toInt = 2 := by decide
              have q213 : rg (2) (2) v202 := (rg_eq c83_204 rv202 kc_2).1
              have uq213 : (2 : Int) ≤ v202.toInt ∧ v202.toInt ≤ 2 := q213
              refine lv_aload_n hx hb dX11_cellCame_86 rfl (lv_at hl 7 rfl) ?_
              refine lv_dup hx hb dX11_cellCame_87 rfl ?_
              refine c_geti x L201 3 q2 13 109 hq2 rfl rfl (wk_in kf_X11_182) dX11_cellCame_88 (fun v214 ev214 wv214 => ?_)
              have rv214 : rg (-2147483648) (2147483647) v214 := rg_any v214
              replace hW := (wfP_i (wfP_i (wfP_a hW v214) ev214) rv214)
              have uv214 : (-2147483648 : Int) ≤ v214.toInt ∧ v214.toInt ≤ 2147483647 := rv214
              refine lv_iconst (v := 1) hx hb dX11_cellCame_91 (by decide) ?_
              refine lv_iadd hx hb dX11_cellCame_92 ?_
              refine lv_topi (fun v215 ev215 => ?_)
              have rv215 : rg (-2147483648) (2147483647) v215 := rg_any v215
              replace hW := (wfP_i (wfP_i (wfP_a hW v215) ev215) rv215)
              have uv215 : (-2147483648 : Int) ≤ v215.toInt ∧ v215.toInt ≤ 2147483647 := rv215
              refine c_puti x L201 3 q2 13 109 hq2 rfl rfl ⟨rfl, by decide +kernel⟩ (wk_in kf_X11_182) dX11_cellCame_93 (rg_any v215) (fun g216 H216 k216 eg216 L216 => ?_)
              replace hW := (wfP_i (wfP_a hW g216) eg216)
              refine lv_iload hx hb dX11_cellCame_96 (lv_at hl 0 rfl) ?_
              refine lv_iconst (v := 1) hx hb dX11_cellCame_98 (by decide) ?_
              refine lv_icmp_ne (tgt := 106) hx hb dX11_cellCame_99 (by decide) (fun c99_217 => ?_) (fun c99_217 => ?_)
              · skip
                replace hW := wfP_i (wfP_l hW) (i_ne c99_217 rfl (rg_i kc_1))
                have ic99_217 : v202.toInt ≠ (1 : Int32).toInt := fun z => c99_217 (Int32.toInt_inj.mp z)
                have y218 : (1 : Int32).toInt = 1 := by decide
                refine lv_iconst (v := 0) hx hb dX11_cellCame_106 (by decide) ?_
                exact k_zret (v := (0 : Int32)) xa L216 hr hlocks (k_nar (rg_w kc_0 rfl)) (by omega) hzl ⟨hW, (mFi.up (mFi.sub mFi.rf hi201 (mSub_any 1 rfl (mSub_any 2 rfl (mSub_any 8 rfl mSub_nil)))) eg216 (mIn_at 6 rfl (Or.inr (Nat.div_one _)))), (mFr.upE (mFr.tr mFr.rf hp201.1 rfl) eg216 rfl), rg_w kc_0 rfl, (cJ_up (cJ_fr hJ hp201.1 rfl) eg216 rfl), (by omega), trivial⟩ hcs.1 hcs.2 dX11_cellCame_107
              · skip
                replace hW := wfP_i (wfP_r hW) (i_eq c99_217 rfl (rg_i kc_1))
                have ic99_217 := congrArg Int32.toInt c99_217
                have y219 : (1 : Int32).toInt = 1 := by decide
                exact absurd ((rg_eq c99_217 q213 kc_1).1 : rg (2) (1) v202) (fun q => rg_dead q rfl)
      · skip
        replace hW := wfP_i (wfP_r hW) (i_eq c46_131 rfl (rg_i kc_0))
        have ic46_131 := congrArg Int32.toInt c46_131
        have y220 : (0 : Int32).toInt = 0 := by decide
        have q221 : rg (0) (0) v6 := (rg_eq c46_131 rv6 kc_0).1
        have uq221 : (0 : Int) ≤ v6.toInt ∧ v6.toInt ≤ 0 := q221
        refine lv_iconst (v := 0) hx hb dX11_cellCame_49 (by decide) ?_
        exact k_zret (v := (0 : Int32)) xa L hr hlocks (k_nar (rg_w kc_0 rfl)) (by omega) hzl ⟨hW, mFi.rf, mFr.rf, rg_w kc_0 rfl, hJ, (by omega), trivial⟩ hcs.1 hcs.2 dX11_cellCame_50
