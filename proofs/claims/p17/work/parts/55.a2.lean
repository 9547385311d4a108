def rm_kedataCame (ms : Nat) : Room := { frames := 3, cells := 2, slots := 243 + 0 * ms, locals := 71 }
theorem hd_kedataCame : yX4_dataCame.cls = cRn 4 ∧ yX4_dataCame.cls ≠ "java/lang/invoke/MethodHandle" ∧ yX4_dataCame.cls ≠ "java/lang/invoke/VarHandle" ∧ (parseMethodDescriptor yX4_dataCame.desc).map (fun d => d.parameters.length) = some 4 := by decide +kernel
set_option maxHeartbeats 4000000 in
set_option maxRecDepth 100000 in
theorem c_kedataCame (l : Launch) {G : cG} {Z : cZ} (X : Int) (g : mSt) (i0 : Nat) (q1 : Nat) (q2 : Nat) (p3 : Int32) (p4 : Int32) (sz ms : Nat) (hX : 0 ≤ X ∧ (X + 1) ≤ 2000000000) (hJ : cJ Z g) (hMz : cMz ms 0 Z g) (hw2 : Z.w 2 + 0 ≤ 1000000) (hi0 : i0 < Z.n) (hq1 : Z.al 1 q1) (hq2 : Z.al 25 q2) (rp3 : rg (0) (1) p3) : Met l yX4_dataCame (wk (Cond.code yX4_dataCame cX4_dataCame 8 (some .int))) (rm_kedataCame ms) (va_Pc [.ref (Z.ad 4 i0), .ref (Z.ad 1 q1), .ref (Z.ad 25 q2), .int p3, .int p4] (cPreA G Z X g sz)) (kE 2 (243 + 0 * ms) (cAf Z sz) (cQiA G Z (X + 1) (fun r Z1 g1 => mFr [0, 1, 2, 46, 136, 512, 960, 992, 1024, 1056] g g1 ∧ rg (0) (2) r ∧ cJ Z1 g1 ∧ (∀ s, (g 386 s).toInt ≤ (g1 386 s).toInt ∧ (g1 386 s).toInt ≤ (g 386 s).toInt + 0) ∧ Z1.w 2 ≤ Z.w 2 + 0 ∧ True))) 2 (243 + 0 * ms) (cAf Z sz) := by
  refine Met.ofW (cc := cX4_dataCame) (maxL := 8) (ret := (some .int)) (by decide) rfl ?_
  intro p e s m args below meth c s₁ B hml hv
  obtain ⟨hav, hv⟩ := hv
  have hsz0 := hv.2.1
  subst hsz0
  have hr := B.returns
  have hlocks := B.notSynchronized
  obtain ⟨xa, L⟩ := k_start B rfl (fun w h => wk_in h) hv
  have hent : entryFrame m args 8 = entryFrame m ([.ref (Z.ad 4 i0), .ref (Z.ad 1 q1), .ref (Z.ad 25 q2), .int p3, .int p4] : List Value).toArray 8 := by rw [hav]
  rw [hent]
  have hl := lv_entry ([.ref (Z.ad 4 i0), .ref (Z.ad 1 q1), .ref (Z.ad 25 q2), .int p3, .int p4]) (n := 8) (Nat.le_of_ble_eq_true rfl)
  rw [lg_entry_eq]
  generalize (lg_sl ([.ref (Z.ad 4 i0), .ref (Z.ad 1 q1), .ref (Z.ad 25 q2), .int p3, .int p4]) ++ List.replicate (8 - (lg_sl ([.ref (Z.ad 4 i0), .ref (Z.ad 1 q1), .ref (Z.ad 25 q2), .int p3, .int p4])).length) Slot.unset).toArray = ls at hl ⊢
  have hl : lv_has ls 8 [(0, .ref (Z.ad 4 i0)), (1, .ref (Z.ad 1 q1)), (2, .ref (Z.ad 25 q2)), (3, .int p3), (4, .int p4)] := hl
  have x := xa.1
  have hx := x.1
  have hb := x.2.1
  have hz := x.2.2.2.2.2.2.2.1
  have hzn := hz.1
  have hzl : cZl Z Z 0 0 := cZl.rf
  have hcs : 0 ≤ 2 ∧ 0 ≤ 243 + 0 * ms := ⟨Nat.zero_le _, Nat.zero_le _⟩
  have hal0 : Z.al 4 i0 := hz.2 4 i0 (show i0 < Z.n from hi0)
  have up3 : (0 : Int) ≤ p3.toInt ∧ p3.toInt ≤ 1 := rp3
  have up4 : (-2147483648 : Int) ≤ p4.toInt ∧ p4.toInt ≤ 2147483647 := (rg_any p4)
  refine lv_aload_n hx hb dX4_dataCame_0 rfl (lv_at hl 1 rfl) ?_
  have e386_1 := ((show mFr [] g g from mFr.rf).at 386 rfl)
  have hMz1 := cMz.eq hMz e386_1 (show 0 ≤ 0 by decide)
  refine k_callr xa L (k_runV (As := []) (rest := []) ⟨hx, hb, hml, x.2.2.2.2.1, x.2.2.1⟩ (c_kassembler l X g q1 _ ms ⟨by omega, by omega⟩ hJ hMz1 (by omega) hq1) (cwV 0 x.2.2.1 (wk_V kd_X1_assembler kl_X4_156 ki_X1_assembler ks_X1_X1_assembler kn_X1) rfl rfl rfl hd_kassembler ⟨Nat.le_of_ble_eq_true rfl, Nat.le_of_ble_eq_true rfl⟩) ⟨cPreA.blind, c_recv x L hq1 rfl, fun U hU hW => k_pre xa L U hU hW⟩ rfl rfl hl.1 rfl (lv_room (Nat.le_of_ble_eq_true rfl)) dX4_dataCame_1 ⟨show 0 + 2 ≤ 2 by omega, show 0 + (243 + 0 * ms) ≤ 243 + 0 * ms by omega⟩) (fun v2 Z g1 H1 k1 kc1 kn1 hk1 hn1 hp1 hz1 xa L1 => ?_)
  have hsg1 := hp1.2.2.1
  have hww1 := hp1.2.2.2.1
  have ea1_0 := hz1.2.2.1 4 i0 hal0 (by omega)
  have ea1_1 := hz1.2.2.1 1 q1 hq1 (by omega)
  have ea1_2 := hz1.2.2.1 25 q2 hq2 (by omega)
  rw [← ea1_0] at hl
  rw [← ea1_1] at hl
  rw [← ea1_2] at hl
  have al1_0 := hz1.2.1 4 i0 hal0
  have al1_1 := hz1.2.1 1 q1 hq1
  have al1_2 := hz1.2.1 25 q2 hq2
  have hZn1 := hz1.1
  have x := xa.1
  have hz := x.2.2.2.2.2.2.2.1
  have hzn := hz.1
  obtain ⟨er1, aa1, ab1⟩ := hp1.2.2.2.2
  subst er1
  have hMy3 := (cMz.fr (a := 0) (b := 0) (show cMz ms (0 + 0) _ _ from cMz.eq hMz e386_1 (show 0 + 0 ≤ 0 by decide)) hz1.1 (fun s => (hsg1 s).2))
  have hzl := cZl.tr hzl hz1
  have hcs : 0 + kc1 ≤ 2 ∧ 0 + kn1 ≤ 243 + 0 * ms := by omega
  refine lv_astore (lv' := [(5, .ref (Z.ad 0 (8 + q1))), (0, .ref (Z.ad 4 i0)), (1, .ref (Z.ad 1 q1)), (2, .ref (Z.ad 25 q2)), (3, .int p3), (4, .int p4)]) hx hb dX4_dataCame_4 hl (by decide) rfl (fun ls hl => ?_)
  refine lv_aload hx hb dX4_dataCame_6 (lv_at hl 0 rfl) ?_
  refine lv_aload_n hx hb dX4_dataCame_8 rfl (lv_at hl 3 rfl) ?_
  refine lv_iload_n hx hb dX4_dataCame_9 rfl (lv_at hl 4 rfl) ?_
  refine c_ci (As := [.ref (Z.ad 25 q2), .int p3]) (rest := []) x hml L1 0 (8 + q1) aa1 rfl (c_kasmAdd l X g1 (8 + q1) q2 p3 ⟨by omega, by omega⟩ aa1 ab1 al1_2 (rg_w rp3 rfl)) (wk_V kd_X0_add kl_X4_160 ki_X0_add ks_X0_X0_add kn_X0) rfl ⟨rfl, rfl⟩ hd_kasmAdd ⟨Nat.le_of_ble_eq_true rfl, Nat.le_of_ble_eq_true rfl⟩ rfl hl.1 rfl (lv_room (Nat.le_of_ble_eq_true rfl)) dX4_dataCame_10 (fun v5 g4 H4 k4 hp4 L4 => ?_) hcs
  have rv5 : rg (0) (2) v5 := hp4.2.1
  have uv5 : (0 : Int) ≤ v5.toInt ∧ v5.toInt ≤ 2 := rv5
  have hw6 := hp4.2.2
  refine lv_istore (lv' := [(6, .int v5), (5, .ref (Z.ad 0 (8 + q1))), (0, .ref (Z.ad 4 i0)), (1, .ref (Z.ad 1 q1)), (2, .ref (Z.ad 25 q2)), (3, .int p3), (4, .int p4)]) hx hb dX4_dataCame_13 hl (by decide) rfl (fun ls hl => ?_)
  refine lv_iload hx hb dX4_dataCame_15 (lv_at hl 0 rfl) ?_
  refine lv_iconst (v := 1) hx hb dX4_dataCame_17 (by decide) ?_
  refine lv_icmp_ne (tgt := 96) hx hb dX4_dataCame_18 (by decide) (fun c18_7 => ?_) (fun c18_7 => ?_)
  · skip
    have ic18_7 : v5.toInt ≠ (1 : Int32).toInt := fun z => c18_7 (Int32.toInt_inj.mp z)
    have y8 : (1 : Int32).toInt = 1 := by decide
    refine lv_iload hx hb dX4_dataCame_96 (lv_at hl 0 rfl) ?_
    exact k_iret (v := v5) xa L4 hr hlocks (by omega) hzl ⟨(mFr.tr (mFr.tr mFr.rf hp1.1 rfl) hp4.1 rfl), rg_w rv5 rfl, (cJ_fr hp1.2.1 hp4.1 rfl), (fun s => by have h0 := congrArg Int32.toInt (congrFun e386_1 s); have w0 := hsg1 s; have hl := congrArg Int32.toInt (congrFun ((show mFr [1, 2, 512] g1 g4 from (mFr.tr mFr.rf hp4.1 rfl)).at 386 rfl) s); omega), (by omega), trivial⟩ hcs.1 hcs.2 dX4_dataCame_98
  · skip
    have ic18_7 := congrArg Int32.toInt c18_7
    have y9 : (1 : Int32).toInt = 1 := by decide
    have q10 : rg (1) (1) v5 := (rg_eq c18_7 rv5 kc_1).1
    have uq10 : (1 : Int) ≤ v5.toInt ∧ v5.toInt ≤ 1 := q10
    refine lv_aload_n hx hb dX4_dataCame_21 rfl (lv_at hl 2 rfl) ?_
    refine c_geti x L4 4 i0 8 136 al1_0 rfl rfl (wk_in kf_X4_165) dX4_dataCame_22 (fun v11 ev11 wv11 => ?_)
    have rv11 : rg 0 2000000000 v11 := rg_X ⟨by omega, by omega⟩ (clj_136 wv11)
    have uv11 : (0 : Int) ≤ v11.toInt ∧ v11.toInt ≤ 2000000000 := rv11
    refine lv_bipush (v := 20) hx hb dX4_dataCame_25 (by decide) ?_
    refine lv_irem hx hb dX4_dataCame_27 (by decide) ?_
    refine lv_topi (fun v12 ev12 => ?_)
    have rv12 : rg (0) (19) v12 := (rg_rem ev12 rv11 kc_20 rfl).1
    have tv12 := (rg_rem ev12 rv11 kc_20 rfl).2
    have y13 : (20 : Int32).toInt = 20 := by decide
    have uv12 : (0 : Int) ≤ v12.toInt ∧ v12.toInt ≤ 19 := rv12
    refine lv_istore (lv' := [(7, .int v12), (6, .int v5), (5, .ref (Z.ad 0 (8 + q1))), (0, .ref (Z.ad 4 i0)), (1, .ref (Z.ad 1 q1)), (2, .ref (Z.ad 25 q2)), (3, .int p3), (4, .int p4)]) hx hb dX4_dataCame_28 hl (by decide) rfl (fun ls hl => ?_)
    refine lv_aload hx hb dX4_dataCame_30 (lv_at hl 2 rfl) ?_
    refine c_getr (a := Z.ad 16 (8 + q1)) x L4 0 (8 + q1) 0 aa1 rfl rfl (wk_in kf_X4_168) dX4_dataCame_32 ?_
    refine lv_iconst (v := 0) hx hb dX4_dataCame_35 (by decide) ?_
    refine lv_aload_n hx hb dX4_dataCame_36 rfl (lv_at hl 3 rfl) ?_
    have al14 : Z.al 30 i0 := hz.2 30 i0 (show i0 < Z.n from (by omega))
    refine c_getr (a := Z.ad 30 i0) x L4 4 i0 9 al1_0 rfl rfl (wk_in kf_X4_24) dX4_dataCame_37 ?_
    refine lv_iload hx hb dX4_dataCame_40 (lv_at hl 0 rfl) ?_
    refine lv_sipush (v := 200) hx hb dX4_dataCame_42 (by decide) ?_
    refine lv_imul hx hb dX4_dataCame_45 ?_
    refine lv_topi (fun v15 ev15 => ?_)
    have rv15 : rg (0) (3800) v15 := (rg_mul ev15 rv12 kc_200 rfl).1
    have tv15 := (rg_mul ev15 rv12 kc_200 rfl).2
    have y16 : (200 : Int32).toInt = 200 := by decide
    have uv15 : (0 : Int) ≤ v15.toInt ∧ v15.toInt ≤ 3800 := rv15
    refine lv_aload hx hb dX4_dataCame_46 (lv_at hl 2 rfl) ?_
    refine c_geti x L4 0 (8 + q1) 2 2 aa1 rfl rfl (wk_in kf_X4_171) dX4_dataCame_48 (fun v17 ev17 wv17 => ?_)
    have rv17 : rg (-2147483648) (2147483647) v17 := rg_any v17
    have rrv17 : rg (1) (200) v17 := (by have hh := hw6 (by omega); rw [ev17]; exact ⟨hh.1, hh.2⟩)
    have uv17 : (1 : Int) ≤ v17.toInt ∧ v17.toInt ≤ 200 := rrv17
    refine c_copy (rest := []) x (hml.trans hl.1.symm) L4 16 (8 + q1) 30 i0 512 960 ab1 al14 rfl rfl rfl rfl ⟨rfl, rfl⟩ kl_X4_174 kw_cp (Int.le_trans (by decide) kc_0.1) (Int.le_trans (by decide) rv15.1) (Int.le_trans (by decide) rrv17.1) (Int.le_trans (Int.add_le_add kc_0.2 rrv17.2) (by decide)) (Int.le_trans (Int.add_le_add rv15.2 rrv17.2) (by decide)) (Nat.le_of_ble_eq_true rfl) (Nat.le_of_ble_eq_true rfl) dX4_dataCame_51 (fun g18 H18 k18 ec18 L18 => ?_)
    refine lv_aload_n hx hb dX4_dataCame_54 rfl (lv_at hl 3 rfl) ?_
    have al19 : Z.al 31 i0 := hz.2 31 i0 (show i0 < Z.n from (by omega))
    refine c_getr (a := Z.ad 31 i0) x L18 4 i0 10 al1_0 rfl rfl (wk_in kf_X4_28) dX4_dataCame_55 ?_
    refine lv_iload hx hb dX4_dataCame_58 (lv_at hl 0 rfl) ?_
    refine lv_aload hx hb dX4_dataCame_60 (lv_at hl 2 rfl) ?_
    refine c_geti x L18 0 (8 + q1) 2 2 aa1 rfl rfl (wk_in kf_X4_171) dX4_dataCame_62 (fun v20 ev20 wv20 => ?_)
    refine m_top (((mm_fr ev17 (cCpy_fr ec18) rfl)).trans ev20.symm) ?_
    refine c_st x L18 31 i0 992 al19 rfl rfl rv12 rfl (crj_992 (rg_w rrv17 rfl)) dX4_dataCame_65 (fun g21 H21 k21 eg21 L21 => ?_)
    refine lv_aload_n hx hb dX4_dataCame_66 rfl (lv_at hl 3 rfl) ?_
    have al22 : Z.al 32 i0 := hz.2 32 i0 (show i0 < Z.n from (by omega))
    refine c_getr (a := Z.ad 32 i0) x L21 4 i0 11 al1_0 rfl rfl (wk_in kf_X4_31) dX4_dataCame_67 ?_
    refine lv_iload hx hb dX4_dataCame_70 (lv_at hl 0 rfl) ?_
    refine lv_aload_n hx hb dX4_dataCame_72 rfl (lv_at hl 4 rfl) ?_
    refine c_geti x L21 1 q1 3 35 al1_1 rfl rfl (wk_in kf_X4_44) dX4_dataCame_73 (fun v23 ev23 wv23 => ?_)
    have rv23 : rg (-2147483648) (2147483647) v23 := rg_any v23
    have uv23 : (-2147483648 : Int) ≤ v23.toInt ∧ v23.toInt ≤ 2147483647 := rv23
    have sv23 : v23.toInt = (g 35 q1).toInt := congrArg Int32.toInt (ev23.trans (congrFun ((show mFr [0, 1, 2, 46, 136, 512, 960, 992, 1024, 1056] g g21 from (mFr.upE (mFr.tr (mFr.tr (mFr.tr mFr.rf hp1.1 rfl) hp4.1 rfl) (cCpy_fr ec18) rfl) eg21 rfl)).at 35 rfl) _))
    refine c_st x L21 32 i0 1024 al22 rfl rfl rv12 rfl (rg_any v23) dX4_dataCame_76 (fun g24 H24 k24 eg24 L24 => ?_)
    refine lv_aload_n hx hb dX4_dataCame_77 rfl (lv_at hl 3 rfl) ?_
    have al25 : Z.al 33 i0 := hz.2 33 i0 (show i0 < Z.n from (by omega))
    refine c_getr (a := Z.ad 33 i0) x L24 4 i0 12 al1_0 rfl rfl (wk_in kf_X4_34) dX4_dataCame_78 ?_
    refine lv_iload hx hb dX4_dataCame_81 (lv_at hl 0 rfl) ?_
    refine lv_iload hx hb dX4_dataCame_83 (lv_at hl 7 rfl) ?_
    refine c_st x L24 33 i0 1056 al25 rfl rfl rv12 rfl (rg_any p4) dX4_dataCame_85 (fun g26 H26 k26 eg26 L26 => ?_)
    refine lv_aload_n hx hb dX4_dataCame_86 rfl (lv_at hl 3 rfl) ?_
    refine lv_dup hx hb dX4_dataCame_87 rfl ?_
    refine c_geti x L26 4 i0 8 136 al1_0 rfl rfl (wk_in kf_X4_165) dX4_dataCame_88 (fun v27 ev27 wv27 => ?_)
    refine m_top (((mm_up (mm_up (mm_up (mm_fr ev11 (cCpy_fr ec18) rfl) eg21 rfl) eg24 rfl) eg26 rfl)).trans ev27.symm) ?_
    refine lv_iconst (v := 1) hx hb dX4_dataCame_91 (by decide) ?_
    refine lv_iadd hx hb dX4_dataCame_92 ?_
    refine lv_topi (fun v28 ev28 => ?_)
    have rv28 : rg (1) (2000000001) v28 := (rg_add ev28 rv11 kc_1 rfl).1
    have tv28 := (rg_add ev28 rv11 kc_1 rfl).2
    have y29 : (1 : Int32).toInt = 1 := by decide
    have uv28 : (1 : Int) ≤ v28.toInt ∧ v28.toInt ≤ 2000000001 := rv28
    have L30 := cL.mono L26 (show X ≤ X + 1 by omega)
    refine c_puti x L30 4 i0 8 136 al1_0 rfl rfl ⟨rfl, by decide +kernel⟩ (wk_in kf_X4_165) dX4_dataCame_93 (crj_136 (rg_inc ev28 (clj_136 wv11) (by omega) (by omega))) (fun g31 H31 k31 eg31 L31 => ?_)
    refine lv_iload hx hb dX4_dataCame_96 (lv_at hl 1 rfl) ?_
    exact k_iret (v := v5) xa L31 hr hlocks (by omega) hzl ⟨(mFr.upE (mFr.upE (mFr.upE (mFr.upE (mFr.tr (mFr.tr (mFr.tr mFr.rf hp1.1 rfl) hp4.1 rfl) (cCpy_fr ec18) rfl) eg21 rfl) eg24 rfl) eg26 rfl) eg31 rfl), rg_w q10 rfl, (cJ_up (cJ_up (cJ_up (cJ_up (cJ_fr (cJ_fr hp1.2.1 hp4.1 rfl) (cCpy_fr ec18) rfl) eg21 rfl) eg24 rfl) eg26 rfl) eg31 rfl), (fun s => by have h0 := congrArg Int32.toInt (congrFun e386_1 s); have w0 := hsg1 s; have hl := congrArg Int32.toInt (congrFun ((show mFr [1, 2, 136, 512, 960, 992, 1024, 1056] g1 g31 from (mFr.upE (mFr.upE (mFr.upE (mFr.upE (mFr.tr (mFr.tr mFr.rf hp4.1 rfl) (cCpy_fr ec18) rfl) eg21 rfl) eg24 rfl) eg26 rfl) eg31 rfl)).at 386 rfl) s); omega), (by omega), trivial⟩ hcs.1 hcs.2 dX4_dataCame_98

def rm_kcellCame (ms : Nat) : Room := { frames := 4, cells := 2, slots := 243 + 0 * ms, locals := 119 }
theorem hd_kcellCame : yX11_cellCame.cls = cRn 11 ∧ yX11_cellCame.cls ≠ "java/lang/invoke/MethodHandle" ∧ yX11_cellCame.cls ≠ "java/lang/invoke/VarHandle" ∧ (parseMethodDescriptor yX11_cellCame.desc).map (fun d => d.parameters.length) = some 2 := by decide +kernel
set_option maxHeartbeats 4000000 in
set_option maxRecDepth 100000 in
theorem c_kcellCame (l : Launch) {G : cG} {Z : cZ} (X : Int) (g : mSt) (i0 : Nat) (p1 : Int32) (q2 : Nat) (sz ms : Nat) (hX : 0 ≤ X ∧ (X + 1) ≤ 2000000000) (hJ : cJ Z g) (hMz : cMz ms 0 Z g) (hw2 : Z.w 2 + 0 ≤ 1000000) (hal0 : Z.al 11 i0) (rp1 : rg (0) (7) p1) (hq2 : Z.al 3 q2) (hd : p1.toInt < 2 * (Z.n : Int) ∧ q2 < 2 * Z.n) : Met l yX11_cellCame (wk (Cond.code yX11_cellCame cX11_cellCame 8 (some .boolean))) (rm_kcellCame ms) (va_Pc [.ref (Z.ad 11 i0), .int p1, .ref (Z.ad 3 q2)] (cPreA G Z X g sz)) (kE 2 (243 + 0 * ms) (cAf Z sz) (cQiA G Z (X + 1) (fun r Z1 g1 => mFr [0, 1, 2, 46, 67, 108, 109, 136, 512, 544, 576, 960, 992, 1024, 1056] g g1 ∧ rg (0) (1) r ∧ cJ Z1 g1 ∧ (∀ s, (g 386 s).toInt ≤ (g1 386 s).toInt ∧ (g1 386 s).toInt ≤ (g 386 s).toInt + 0) ∧ Z1.w 2 ≤ Z.w 2 + 0 ∧ True))) 2 (243 + 0 * ms) (cAf Z sz) := by
  refine Met.ofW (cc := cX11_cellCame) (maxL := 8) (ret := (some .boolean)) (by decide) rfl ?_
  intro p e s m args below meth c s₁ B hml hv
  obtain ⟨hav, hv⟩ := hv
  have hsz0 := hv.2.1
  subst hsz0
  have hr := B.returns
  have hlocks := B.notSynchronized
  obtain ⟨xa, L⟩ := k_start B rfl (fun w h => wk_in h) hv
  have hent : entryFrame m args 8 = entryFrame m ([.ref (Z.ad 11 i0), .int p1, .ref (Z.ad 3 q2)] : List Value).toArray 8 := by rw [hav]
  rw [hent]
  have hl := lv_entry ([.ref (Z.ad 11 i0), .int p1, .ref (Z.ad 3 q2)]) (n := 8) (Nat.le_of_ble_eq_true rfl)
  rw [lg_entry_eq]
  generalize (lg_sl ([.ref (Z.ad 11 i0), .int p1, .ref (Z.ad 3 q2)]) ++ List.replicate (8 - (lg_sl ([.ref (Z.ad 11 i0), .int p1, .ref (Z.ad 3 q2)])).length) Slot.unset).toArray = ls at hl ⊢
  have hl : lv_has ls 8 [(0, .ref (Z.ad 11 i0)), (1, .int p1), (2, .ref (Z.ad 3 q2))] := hl
  have x := xa.1
  have hx := x.1
  have hb := x.2.1
  have hz := x.2.2.2.2.2.2.2.1
  have hzn := hz.1
  have hzl : cZl Z Z 0 0 := cZl.rf
  have hcs : 0 ≤ 2 ∧ 0 ≤ 243 + 0 * ms := ⟨Nat.zero_le _, Nat.zero_le _⟩
  have up1 : (0 : Int) ≤ p1.toInt ∧ p1.toInt ≤ 7 := rp1
  refine lv_aload_n hx hb dX11_cellCame_0 rfl (lv_at hl 2 rfl) ?_
  have al1 : Z.al 7 q2 := hz.2 7 q2 (show q2 < 2 * Z.n from (by omega))
  refine c_getr (a := Z.ad 7 q2) x L 3 q2 2 hq2 rfl rfl (wk_in kf_X11_119) dX11_cellCame_1 ?_
  refine c_geti x L 7 q2 7 231 al1 rfl rfl (wk_in kf_X11_171) dX11_cellCame_4 (fun v2 ev2 wv2 => ?_)
  have rv2 : rg (-2147483648) (2147483647) v2 := rg_any v2
  have uv2 : (-2147483648 : Int) ≤ v2.toInt ∧ v2.toInt ≤ 2147483647 := rv2
  have sv2 : v2.toInt = (g 231 q2).toInt := congrArg Int32.toInt (ev2.trans (congrFun ((show mFr [0, 1, 2, 46, 67, 108, 109, 136, 512, 544, 576, 960, 992, 1024, 1056] g g from mFr.rf).at 231 rfl) _))
  refine lv_istore_n (lv' := [(3, .int v2), (0, .ref (Z.ad 11 i0)), (1, .int p1), (2, .ref (Z.ad 3 q2))]) hx hb dX11_cellCame_7 rfl hl (by decide) rfl (fun ls hl => ?_)
  refine lv_iload_n hx hb dX11_cellCame_8 rfl (lv_at hl 0 rfl) ?_
  refine lv_bipush (v := 20) hx hb dX11_cellCame_9 (by decide) ?_
  refine lv_iushr hx hb dX11_cellCame_11 rfl ?_
  refine lv_topi (fun v3 ev3 => ?_)
  have rv3 : rg (0) (4095) v3 := rg_ush ev3 20 rfl
  have uv3 : (0 : Int) ≤ v3.toInt ∧ v3.toInt ≤ 4095 := rv3
  refine lv_sipush (v := 255) hx hb dX11_cellCame_12 (by decide) ?_
  refine lv_iand hx hb dX11_cellCame_15 ?_
  refine lv_topi (fun v4 ev4 => ?_)
  have rv4 : rg (0) (255) v4 := rg_and ev4 8 255 (by decide) rfl
  have uv4 : (0 : Int) ≤ v4.toInt ∧ v4.toInt ≤ 255 := rv4
  refine lv_istore (lv' := [(4, .int v4), (3, .int v2), (0, .ref (Z.ad 11 i0)), (1, .int p1), (2, .ref (Z.ad 3 q2))]) hx hb dX11_cellCame_16 hl (by decide) rfl (fun ls hl => ?_)
  refine lv_iload_n hx hb dX11_cellCame_18 rfl (lv_at hl 1 rfl) ?_
  refine lv_iconst (v := 4) hx hb dX11_cellCame_19 (by decide) ?_
  refine lv_iushr hx hb dX11_cellCame_20 rfl ?_
  refine lv_topi (fun v5 ev5 => ?_)
  have rv5 : rg (0) (268435455) v5 := rg_ush ev5 4 rfl
  have uv5 : (0 : Int) ≤ v5.toInt ∧ v5.toInt ≤ 268435455 := rv5
  refine lv_ldc (own := RX11) (v := 65535) hx hb x.2.2.2.2.1 (x.2.2.1 _ (wk_in kk_X11_174)) dX11_cellCame_21 ?_
  refine lv_iand hx hb dX11_cellCame_23 ?_
  refine lv_topi (fun v6 ev6 => ?_)
  have rv6 : rg (0) (65535) v6 := rg_and ev6 16 65535 (by decide) rfl
  have uv6 : (0 : Int) ≤ v6.toInt ∧ v6.toInt ≤ 65535 := rv6
  refine lv_istore (lv' := [(5, .int v6), (4, .int v4), (3, .int v2), (0, .ref (Z.ad 11 i0)), (1, .int p1), (2, .ref (Z.ad 3 q2))]) hx hb dX11_cellCame_24 hl (by decide) rfl (fun ls hl => ?_)
  refine lv_iload_n hx hb dX11_cellCame_26 rfl (lv_at hl 2 rfl) ?_
  refine lv_iconst (v := 2) hx hb dX11_cellCame_27 (by decide) ?_
  refine lv_iand hx hb dX11_cellCame_28 ?_
  refine lv_topi (fun v7 ev7 => ?_)
  have rv7 : rg (-2147483648) (2147483647) v7 := rg_any v7
  have uv7 : (-2147483648 : Int) ≤ v7.toInt ∧ v7.toInt ≤ 2147483647 := rv7
  refine lv_if_eq (tgt := 36) hx hb dX11_cellCame_29 (by decide) (fun c29_8 => ?_) (fun c29_8 => ?_)
  · skip
    have ic29_8 := congrArg Int32.toInt c29_8
    have y9 : (0 : Int32).toInt = 0 := by decide
    have q10 : rg (0) (0) v7 := (rg_eq c29_8 rv7 kc_0).1
    have uq10 : (0 : Int) ≤ v7.toInt ∧ v7.toInt ≤ 0 := q10
    refine lv_iconst (v := 0) hx hb dX11_cellCame_36 (by decide) ?_
    refine lv_istore (lv' := [(6, .int (0 : Int32)), (5, .int v6), (4, .int v4), (3, .int v2), (0, .ref (Z.ad 11 i0)), (1, .int p1), (2, .ref (Z.ad 3 q2))]) hx hb dX11_cellCame_37 hl (by decide) rfl (fun ls hl => ?_)
    refine lv_iload hx hb dX11_cellCame_39 (lv_at hl 2 rfl) ?_
    refine lv_if_ne (tgt := 51) hx hb dX11_cellCame_41 (by decide) (fun c41_11 => ?_) (fun c41_11 => ?_)
    · skip
      have ic41_11 : v4.toInt ≠ (0 : Int32).toInt := fun z => c41_11 (Int32.toInt_inj.mp z)
      have y12 : (0 : Int32).toInt = 0 := by decide
      have q13 : rg (1) (255) v4 := rg_neL c41_11 rv4 kc_0
      have uq13 : (1 : Int) ≤ v4.toInt ∧ v4.toInt ≤ 255 := q13
      refine lv_iload hx hb dX11_cellCame_51 (lv_at hl 2 rfl) ?_
      refine lv_if_ne (tgt := 108) hx hb dX11_cellCame_53 (by decide) (fun c53_14 => ?_) (fun c53_14 => ?_)
      · skip
        have ic53_14 : v4.toInt ≠ (0 : Int32).toInt := fun z => c53_14 (Int32.toInt_inj.mp z)
        have y15 : (0 : Int32).toInt = 0 := by decide
        refine lv_null hx hb dX11_cellCame_108 ?_
        refine lv_astoreN (lv' := [(7, .null), (6, .int (0 : Int32)), (5, .int v6), (4, .int v4), (3, .int v2), (0, .ref (Z.ad 11 i0)), (1, .int p1), (2, .ref (Z.ad 3 q2))]) hx hb dX11_cellCame_109 hl (by decide) rfl (fun ls hl => ?_)
        refine lv_iload hx hb dX11_cellCame_111 (lv_at hl 3 rfl) ?_
        refine lv_if_ne (tgt := 153) hx hb dX11_cellCame_113 (by decide) (fun c113_16 => ?_) (fun c113_16 => ?_)
        · skip
          have ic113_16 : v4.toInt ≠ (0 : Int32).toInt := fun z => c113_16 (Int32.toInt_inj.mp z)
          have y17 : (0 : Int32).toInt = 0 := by decide
          refine lv_aloadN hx hb dX11_cellCame_153 (lv_at hl 0 rfl) ?_
          refine lv_ifnonnullN hx hb dX11_cellCame_155 ?_
          refine lv_aload_n hx hb dX11_cellCame_158 rfl (lv_at hl 7 rfl) ?_
          refine lv_dup hx hb dX11_cellCame_159 rfl ?_
          refine c_geti x L 3 q2 12 108 hq2 rfl rfl (wk_in kf_X11_192) dX11_cellCame_160 (fun v18 ev18 wv18 => ?_)
          have rv18 : rg (-2147483648) (2147483647) v18 := rg_any v18
          have uv18 : (-2147483648 : Int) ≤ v18.toInt ∧ v18.toInt ≤ 2147483647 := rv18
          have sv18 := congrArg Int32.toInt ev18
          refine lv_iconst (v := 1) hx hb dX11_cellCame_163 (by decide) ?_
          refine lv_iadd hx hb dX11_cellCame_164 ?_
          refine lv_topi (fun v19 ev19 => ?_)
          have rv19 : rg (-2147483648) (2147483647) v19 := rg_any v19
          have uv19 : (-2147483648 : Int) ≤ v19.toInt ∧ v19.toInt ≤ 2147483647 := rv19
          refine c_puti x L 3 q2 12 108 hq2 rfl rfl ⟨rfl, by decide +kernel⟩ (wk_in kf_X11_192) dX11_cellCame_165 (rg_any v19) (fun g20 H20 k20 eg20 L20 => ?_)
          refine lv_goto (tgt := 237) hx hb dX11_cellCame_168 (by decide) ?_
          refine lv_iconst (v := 0) hx hb dX11_cellCame_237 (by decide) ?_
          exact k_zret (v := (0 : Int32)) xa L20 hr hlocks (k_nar (rg_w kc_0 rfl)) (by omega) hzl ⟨(mFr.upE mFr.rf eg20 rfl), rg_w kc_0 rfl, (cJ_up hJ eg20 rfl), (fun s => by have hl := congrArg Int32.toInt (congrFun ((show mFr [108] g g20 from (mFr.upE mFr.rf eg20 rfl)).at 386 rfl) s); omega), (by omega), trivial⟩ hcs.1 hcs.2 dX11_cellCame_238
        · skip
          have ic113_16 := congrArg Int32.toInt c113_16
          have y21 : (0 : Int32).toInt = 0 := by decide
          exact absurd ((rg_eq c113_16 q13 kc_0).1 : rg (1) (0) v4) (fun q => rg_dead q rfl)
      · skip
        have ic53_14 := congrArg Int32.toInt c53_14
        have y22 : (0 : Int32).toInt = 0 := by decide
        exact absurd ((rg_eq c53_14 q13 kc_0).1 : rg (1) (0) v4) (fun q => rg_dead q rfl)
    · skip
      have ic41_11 := congrArg Int32.toInt c41_11
      have y23 : (0 : Int32).toInt = 0 := by decide
      have q24 : rg (0) (0) v4 := (rg_eq c41_11 rv4 kc_0).1
      have uq24 : (0 : Int) ≤ v4.toInt ∧ v4.toInt ≤ 0 := q24
      refine lv_iload hx hb dX11_cellCame_44 (lv_at hl 1 rfl) ?_
      refine lv_if_ne (tgt := 51) hx hb dX11_cellCame_46 (by decide) (fun c46_25 => ?_) (fun c46_25 => ?_)
      · skip
        have ic46_25 : v6.toInt ≠ (0 : Int32).toInt := fun z => c46_25 (Int32.toInt_inj.mp z)
        have y26 : (0 : Int32).toInt = 0 := by decide
        have q27 : rg (1) (65535) v6 := rg_neL c46_25 rv6 kc_0
        have uq27 : (1 : Int) ≤ v6.toInt ∧ v6.toInt ≤ 65535 := q27
        refine lv_iload hx hb dX11_cellCame_51 (lv_at hl 2 rfl) ?_
        refine lv_if_ne (tgt := 108) hx hb dX11_cellCame_53 (by decide) (fun c53_28 => ?_) (fun c53_28 => ?_)
        · skip
          have ic53_28 : v4.toInt ≠ (0 : Int32).toInt := fun z => c53_28 (Int32.toInt_inj.mp z)
          have y29 : (0 : Int32).toInt = 0 := by decide
          exact absurd (rg_neH c53_28 q24 kc_0 : rg (0) (-1) v4) (fun q => rg_dead q rfl)
        · skip
          have ic53_28 := congrArg Int32.toInt c53_28
          have y30 : (0 : Int32).toInt = 0 := by decide
          refine lv_iload hx hb dX11_cellCame_56 (lv_at hl 1 rfl) ?_
          refine lv_iconst (v := 5) hx hb dX11_cellCame_58 (by decide) ?_
          refine lv_icmp_ne (tgt := 108) hx hb dX11_cellCame_59 (by decide) (fun c59_31 => ?_) (fun c59_31 => ?_)
          · skip
            have ic59_31 : v6.toInt ≠ (5 : Int32).toInt := fun z => c59_31 (Int32.toInt_inj.mp z)
            have y32 : (5 : Int32).toInt = 5 := by decide
            refine lv_null hx hb dX11_cellCame_108 ?_
            refine lv_astoreN (lv' := [(7, .null), (6, .int (0 : Int32)), (5, .int v6), (4, .int v4), (3, .int v2), (0, .ref (Z.ad 11 i0)), (1, .int p1), (2, .ref (Z.ad 3 q2))]) hx hb dX11_cellCame_109 hl (by decide) rfl (fun ls hl => ?_)
            refine lv_iload hx hb dX11_cellCame_111 (lv_at hl 3 rfl) ?_
            refine lv_if_ne (tgt := 153) hx hb dX11_cellCame_113 (by decide) (fun c113_33 => ?_) (fun c113_33 => ?_)
            · skip
              have ic113_33 : v4.toInt ≠ (0 : Int32).toInt := fun z => c113_33 (Int32.toInt_inj.mp z)
              have y34 : (0 : Int32).toInt = 0 := by decide
              exact absurd (rg_neH c113_33 q24 kc_0 : rg (0) (-1) v4) (fun q => rg_dead q rfl)
            · skip
              have ic113_33 := congrArg Int32.toInt c113_33
              have y35 : (0 : Int32).toInt = 0 := by decide
              refine lv_iload_n hx hb dX11_cellCame_116 rfl (lv_at hl 6 rfl) ?_
              refine lv_iconst (v := 2) hx hb dX11_cellCame_117 (by decide) ?_
              refine lv_irem hx hb dX11_cellCame_118 (by decide) ?_
              refine lv_topi (fun v36 ev36 => ?_)
              have rv36 : rg (0) (1) v36 := (rg_rem ev36 rp1 kc_2 rfl).1
              have tv36 := (rg_rem ev36 rp1 kc_2 rfl).2
              have y37 : (2 : Int32).toInt = 2 := by decide
              have uv36 : (0 : Int) ≤ v36.toInt ∧ v36.toInt ≤ 1 := rv36
              refine lv_if_ne (tgt := 138) hx hb dX11_cellCame_119 (by decide) (fun c119_38 => ?_) (fun c119_38 => ?_)
              · skip
                have ic119_38 : v36.toInt ≠ (0 : Int32).toInt := fun z => c119_38 (Int32.toInt_inj.mp z)
                have y39 : (0 : Int32).toInt = 0 := by decide
                have q40 : rg (1) (1) v36 := rg_neL c119_38 rv36 kc_0
                have uq40 : (1 : Int) ≤ v36.toInt ∧ v36.toInt ≤ 1 := q40
                refine lv_aload_n hx hb dX11_cellCame_138 rfl (lv_at hl 5 rfl) ?_
                have al41 : Z.al 51 0 := hz.2 51 0 (show 0 < 1 from (by omega))
                refine c_getr (a := Z.ad 51 0) x L 11 i0 2 hal0 rfl rfl (wk_in kf_X11_63) dX11_cellCame_139 ?_
                refine lv_iload_n hx hb dX11_cellCame_142 rfl (lv_at hl 6 rfl) ?_
                refine lv_iconst (v := 2) hx hb dX11_cellCame_143 (by decide) ?_
                refine lv_idiv hx hb dX11_cellCame_144 (by decide) ?_
                refine lv_topi (fun v42 ev42 => ?_)
                have rv42 : rg (0) (3) v42 := (rg_div ev42 rp1 kc_2 rfl).1
                have tv42 := (rg_div ev42 rp1 kc_2 rfl).2
                have y43 : (2 : Int32).toInt = 2 := by decide
                have uv42 : (0 : Int) ≤ v42.toInt ∧ v42.toInt ≤ 3 := rv42
                refine c_ldr (a := Z.ad 4 v42.toInt.toNat) x L 51 0 al41 rfl (by omega) (show v42.toInt < ((Z.n : Nat) : Int) from (by omega)) rfl dX11_cellCame_145 ?_
                have al44 : Z.al 4 v42.toInt.toNat := hz.2 4 v42.toInt.toNat (show v42.toInt.toNat < Z.n from (by omega))
                refine lv_iload hx hb dX11_cellCame_146 (lv_at hl 2 rfl) ?_
                refine c_cr (As := [.int v6]) (rest := []) x hml L 4 v42.toInt.toNat al44 rfl (c_kactive l X g v42.toInt.toNat v6 ⟨by omega, by omega⟩ hJ (show v42.toInt.toNat < Z.n from (by omega))) (wk_V kd_X4_active kl_X11_189 ki_X4_active ks_X4_X4_active kn_X4) rfl ⟨rfl, rfl⟩ hd_kactive ⟨Nat.le_of_ble_eq_true rfl, Nat.le_of_ble_eq_true rfl⟩ rfl hl.1 rfl (lv_room (Nat.le_of_ble_eq_true rfl)) dX11_cellCame_148 (fun v46 g45 H45 k45 hp45 L45 => ?_) hcs
                have hvv46 := hp45.2.2
                rcases (show v46.toInt < 0 ∨ 0 ≤ v46.toInt from (by omega)) with hc47 | hc47
                · skip
                  refine c_top (show Value.null = va_rf (cOpt Z 1 v46) from (by rw [cOpt_none hc47]; rfl)) ?_
                  refine lv_astoreN (lv' := [(7, .null), (6, .int (0 : Int32)), (5, .int v6), (4, .int v4), (3, .int v2), (0, .ref (Z.ad 11 i0)), (1, .int p1), (2, .ref (Z.ad 3 q2))]) hx hb dX11_cellCame_151 hl (by decide) rfl (fun ls hl => ?_)
                  refine lv_aloadN hx hb dX11_cellCame_153 (lv_at hl 0 rfl) ?_
                  refine lv_ifnonnullN hx hb dX11_cellCame_155 ?_
                  refine lv_aload_n hx hb dX11_cellCame_158 rfl (lv_at hl 7 rfl) ?_
                  refine lv_dup hx hb dX11_cellCame_159 rfl ?_
                  refine c_geti x L45 3 q2 12 108 hq2 rfl rfl (wk_in kf_X11_192) dX11_cellCame_160 (fun v48 ev48 wv48 => ?_)
                  have rv48 : rg (-2147483648) (2147483647) v48 := rg_any v48
                  have uv48 : (-2147483648 : Int) ≤ v48.toInt ∧ v48.toInt ≤ 2147483647 := rv48
                  refine lv_iconst (v := 1) hx hb dX11_cellCame_163 (by decide) ?_
                  refine lv_iadd hx hb dX11_cellCame_164 ?_
                  refine lv_topi (fun v49 ev49 => ?_)
                  have rv49 : rg (-2147483648) (2147483647) v49 := rg_any v49
                  have uv49 : (-2147483648 : Int) ≤ v49.toInt ∧ v49.toInt ≤ 2147483647 := rv49
                  refine c_puti x L45 3 q2 12 108 hq2 rfl rfl ⟨rfl, by decide +kernel⟩ (wk_in kf_X11_192) dX11_cellCame_165 (rg_any v49) (fun g50 H50 k50 eg50 L50 => ?_)
                  refine lv_goto (tgt := 237) hx hb dX11_cellCame_168 (by decide) ?_
                  refine lv_iconst (v := 0) hx hb dX11_cellCame_237 (by decide) ?_
                  exact k_zret (v := (0 : Int32)) xa L50 hr hlocks (k_nar (rg_w kc_0 rfl)) (by omega) hzl ⟨(mFr.upE (mFr.tr mFr.rf hp45.1 rfl) eg50 rfl), rg_w kc_0 rfl, (cJ_up hp45.2.1 eg50 rfl), (fun s => by have hl := congrArg Int32.toInt (congrFun ((show mFr [108] g g50 from (mFr.upE (mFr.tr mFr.rf hp45.1 rfl) eg50 rfl)).at 386 rfl) s); omega), (by omega), trivial⟩ hcs.1 hcs.2 dX11_cellCame_238
                · skip
                  refine c_top (show Value.ref (Z.ad 1 v46.toInt.toNat) = va_rf (cOpt Z 1 v46) from (by rw [cOpt_some hc47]; rfl)) ?_
                  have hwv46 := hvv46 hc47
                  refine lv_astore (lv' := [(7, .ref (Z.ad 1 v46.toInt.toNat)), (6, .int (0 : Int32)), (5, .int v6), (4, .int v4), (3, .int v2), (0, .ref (Z.ad 11 i0)), (1, .int p1), (2, .ref (Z.ad 3 q2))]) hx hb dX11_cellCame_151 hl (by decide) rfl (fun ls hl => ?_)
                  refine lv_aload hx hb dX11_cellCame_153 (lv_at hl 0 rfl) ?_
                  refine lv_ifnonnull (tgt := 171) hx hb dX11_cellCame_155 (by decide) ?_
                  refine lv_iload_n hx hb dX11_cellCame_171 rfl (lv_at hl 6 rfl) ?_
                  refine lv_iconst (v := 2) hx hb dX11_cellCame_172 (by decide) ?_
                  refine lv_irem hx hb dX11_cellCame_173 (by decide) ?_
                  refine m_top ev36 ?_
                  refine lv_if_ne (tgt := 197) hx hb dX11_cellCame_174 (by decide) (fun c174_51 => ?_) (fun c174_51 => ?_)
                  · skip
                    have ic174_51 : v36.toInt ≠ (0 : Int32).toInt := fun z => c174_51 (Int32.toInt_inj.mp z)
                    have y52 : (0 : Int32).toInt = 0 := by decide
                    refine lv_aload_n hx hb dX11_cellCame_197 rfl (lv_at hl 5 rfl) ?_
                    refine c_getr (a := Z.ad 51 0) x L45 11 i0 2 hal0 rfl rfl (wk_in kf_X11_63) dX11_cellCame_198 ?_
                    refine lv_iload_n hx hb dX11_cellCame_201 rfl (lv_at hl 6 rfl) ?_
                    refine lv_iconst (v := 2) hx hb dX11_cellCame_202 (by decide) ?_
                    refine lv_idiv hx hb dX11_cellCame_203 (by decide) ?_
                    refine m_top ev42 ?_
                    refine c_ldr (a := Z.ad 4 v42.toInt.toNat) x L45 51 0 al41 rfl (by omega) (show v42.toInt < ((Z.n : Nat) : Int) from (by omega)) rfl dX11_cellCame_204 ?_
                    refine lv_aload hx hb dX11_cellCame_205 (lv_at hl 0 rfl) ?_
                    refine lv_aload_n hx hb dX11_cellCame_207 rfl (lv_at hl 7 rfl) ?_
                    refine c_getr (a := Z.ad 7 q2) x L45 3 q2 2 hq2 rfl rfl (wk_in kf_X11_119) dX11_cellCame_208 ?_
                    have al53 : Z.al 25 q2 := hz.2 25 q2 (show q2 < 2 * Z.n from (by omega))
                    refine c_getr (a := Z.ad 25 q2) x L45 7 q2 0 al1 rfl rfl (wk_in kf_X11_175) dX11_cellCame_211 ?_
                    refine lv_iload hx hb dX11_cellCame_214 (lv_at hl 1 rfl) ?_
                    refine lv_aload_n hx hb dX11_cellCame_216 rfl (lv_at hl 5 rfl) ?_
                    refine c_geti x L45 11 i0 10 362 hal0 rfl rfl (wk_in kf_X11_82) dX11_cellCame_217 (fun v54 ev54 wv54 => ?_)
                    have rv54 : rg (-2147483648) (2147483647) v54 := rg_any v54
                    have uv54 : (-2147483648 : Int) ≤ v54.toInt ∧ v54.toInt ≤ 2147483647 := rv54
                    have sv54 : v54.toInt = (g 362 i0).toInt := congrArg Int32.toInt (ev54.trans (congrFun ((show mFr [0, 1, 2, 46, 67, 108, 109, 136, 512, 544, 576, 960, 992, 1024, 1056] g g45 from (mFr.tr mFr.rf hp45.1 rfl)).at 362 rfl) _))
                    have e386_55 := ((show mFr [] g g45 from (mFr.tr mFr.rf hp45.1 rfl)).at 386 rfl)
                    have hMz55 := cMz.eq hMz e386_55 (show 0 ≤ 0 by decide)
                    refine k_calli xa L45 (k_runV (As := [.ref (Z.ad 1 v46.toInt.toNat), .ref (Z.ad 25 q2), .int (0 : Int32), .int v54]) (rest := []) ⟨hx, hb, hml, x.2.2.2.2.1, x.2.2.1⟩ (c_kedataCame l X g45 v42.toInt.toNat v46.toInt.toNat q2 (0 : Int32) v54 _ ms ⟨by omega, by omega⟩ hp45.2.1 hMz55 (by omega) (show v42.toInt.toNat < Z.n from (by omega)) hwv46.1 al53 (rg_w kc_0 rfl)) (cwV 4 x.2.2.1 (wk_V kd_X4_dataCame kl_X11_205 ki_X4_dataCame ks_X4_X4_dataCame kn_X4) rfl rfl rfl hd_kedataCame ⟨Nat.le_of_ble_eq_true rfl, Nat.le_of_ble_eq_true rfl⟩) ⟨cPreA.blind, c_recv x L45 al44 rfl, fun U hU hW => k_pre xa L45 U hU hW⟩ rfl rfl hl.1 rfl (lv_room (Nat.le_of_ble_eq_true rfl)) dX11_cellCame_220 ⟨show 0 + 2 ≤ 2 by omega, show 0 + (243 + 0 * ms) ≤ 243 + 0 * ms by omega⟩) (fun v56 Z g55 H55 k55 kc55 kn55 hk55 hn55 hp55 hz55 xa L55 => ?_)
                    have rv56 : rg (0) (2) v56 := hp55.2.1
                    have uv56 : (0 : Int) ≤ v56.toInt ∧ v56.toInt ≤ 2 := rv56
                    have hsg55 := hp55.2.2.2.1
                    have hww55 := hp55.2.2.2.2.1
                    have ea55_0 := hz55.2.2.1 1 v46.toInt.toNat hwv46.1 (by omega)
                    have ea55_1 := hz55.2.2.1 11 i0 hal0 (by omega)
                    have ea55_2 := hz55.2.2.1 3 q2 hq2 (by omega)
                    rw [← ea55_0] at hl
                    rw [← ea55_1] at hl
                    rw [← ea55_2] at hl
                    have al55_0 := hz55.2.1 1 v46.toInt.toNat hwv46.1
                    have al55_1 := hz55.2.1 11 i0 hal0
                    have al55_2 := hz55.2.1 3 q2 hq2
                    have hZn55 := hz55.1
                    have x := xa.1
                    have hz := x.2.2.2.2.2.2.2.1
                    have hzn := hz.1
                    have hMy57 := (cMz.fr (a := 0) (b := 0) (show cMz ms (0 + 0) _ _ from cMz.eq hMz e386_55 (show 0 + 0 ≤ 0 by decide)) hz55.1 (fun s => (hsg55 s).2))
                    have hzl := cZl.tr hzl hz55
                    have hcs : 0 + kc55 ≤ 2 ∧ 0 + kn55 ≤ 243 + 0 * ms := by omega
                    refine lv_iconst (v := 2) hx hb dX11_cellCame_223 (by decide) ?_
                    refine lv_icmp_ne (tgt := 237) hx hb dX11_cellCame_224 (by decide) (fun c224_58 => ?_) (fun c224_58 => ?_)
                    · skip
                      have ic224_58 : v56.toInt ≠ (2 : Int32).toInt := fun z => c224_58 (Int32.toInt_inj.mp z)
                      have y59 : (2 : Int32).toInt = 2 := by decide
                      have q60 : rg (0) (1) v56 := rg_neH c224_58 rv56 kc_2
                      have uq60 : (0 : Int) ≤ v56.toInt ∧ v56.toInt ≤ 1 := q60
                      refine lv_iconst (v := 0) hx hb dX11_cellCame_237 (by decide) ?_
                      exact k_zret (v := (0 : Int32)) xa L55 hr hlocks (k_nar (rg_w kc_0 rfl)) (by omega) hzl ⟨(mFr.tr (mFr.tr mFr.rf hp45.1 rfl) hp55.1 rfl), rg_w kc_0 rfl, hp55.2.2.1, (fun s => by have h0 := congrArg Int32.toInt (congrFun e386_55 s); have w0 := hsg55 s; have hl := congrArg Int32.toInt (congrFun ((show mFr [] g55 g55 from mFr.rf).at 386 rfl) s); omega), (by omega), trivial⟩ hcs.1 hcs.2 dX11_cellCame_238
                    · skip
                      have ic224_58 := congrArg Int32.toInt c224_58
                      have y61 : (2 : Int32).toInt = 2 := by decide
                      have q62 : rg (2) (2) v56 := (rg_eq c224_58 rv56 kc_2).1
                      have uq62 : (2 : Int) ≤ v56.toInt ∧ v56.toInt ≤ 2 := q62
                      refine lv_aload_n hx hb dX11_cellCame_227 rfl (lv_at hl 7 rfl) ?_
                      refine lv_dup hx hb dX11_cellCame_228 rfl ?_
                      refine c_geti x L55 3 q2 13 109 al55_2 rfl rfl (wk_in kf_X11_182) dX11_cellCame_229 (fun v63 ev63 wv63 => ?_)
                      have rv63 : rg (-2147483648) (2147483647) v63 := rg_any v63
                      have uv63 : (-2147483648 : Int) ≤ v63.toInt ∧ v63.toInt ≤ 2147483647 := rv63
                      refine lv_iconst (v := 1) hx hb dX11_cellCame_232 (by decide) ?_
                      refine lv_iadd hx hb dX11_cellCame_233 ?_
                      refine lv_topi (fun v64 ev64 => ?_)
                      have rv64 : rg (-2147483648) (2147483647) v64 := rg_any v64
                      have uv64 : (-2147483648 : Int) ≤ v64.toInt ∧ v64.toInt ≤ 2147483647 := rv64
                      refine c_puti x L55 3 q2 13 109 al55_2 rfl rfl ⟨rfl, by decide +kernel⟩ (wk_in kf_X11_182) dX11_cellCame_234 (rg_any v64) (fun g65 H65 k65 eg65 L65 => ?_)
                      refine lv_iconst (v := 0) hx hb dX11_cellCame_237 (by decide) ?_
                      exact k_zret (v := (0 : Int32)) xa L65 hr hlocks (k_nar (rg_w kc_0 rfl)) (by omega) hzl ⟨(mFr.upE (mFr.tr (mFr.tr mFr.rf hp45.1 rfl) hp55.1 rfl) eg65 rfl), rg_w kc_0 rfl, (cJ_up hp55.2.2.1 eg65 rfl), (fun s => by have h0 := congrArg Int32.toInt (congrFun e386_55 s); have w0 := hsg55 s; have hl := congrArg Int32.toInt (congrFun ((show mFr [109] g55 g65 from (mFr.upE mFr.rf eg65 rfl)).at 386 rfl) s); omega), (by omega), trivial⟩ hcs.1 hcs.2 dX11_cellCame_238
                  · skip
                    have ic174_51 := congrArg Int32.toInt c174_51
                    have y66 : (0 : Int32).toInt = 0 := by decide
                    exact absurd ((rg_eq c174_51 q40 kc_0).1 : rg (1) (0) v36) (fun q => rg_dead q rfl)
              · skip
                have ic119_38 := congrArg Int32.toInt c119_38
                have y67 : (0 : Int32).toInt = 0 := by decide
                have q68 : rg (0) (0) v36 := (rg_eq c119_38 rv36 kc_0).1
                have uq68 : (0 : Int) ≤ v36.toInt ∧ v36.toInt ≤ 0 := q68
                refine lv_aload_n hx hb dX11_cellCame_122 rfl (lv_at hl 5 rfl) ?_
                have al69 : Z.al 49 0 := hz.2 49 0 (show 0 < 1 from (by omega))
                refine c_getr (a := Z.ad 49 0) x L 11 i0 3 hal0 rfl rfl (wk_in kf_X11_67) dX11_cellCame_123 ?_
                refine lv_iload_n hx hb dX11_cellCame_126 rfl (lv_at hl 6 rfl) ?_
                refine lv_iconst (v := 2) hx hb dX11_cellCame_127 (by decide) ?_
                refine lv_idiv hx hb dX11_cellCame_128 (by decide) ?_
                refine lv_topi (fun v70 ev70 => ?_)
                have rv70 : rg (0) (3) v70 := (rg_div ev70 rp1 kc_2 rfl).1
                have tv70 := (rg_div ev70 rp1 kc_2 rfl).2
                have y71 : (2 : Int32).toInt = 2 := by decide
                have uv70 : (0 : Int) ≤ v70.toInt ∧ v70.toInt ≤ 3 := rv70
                refine c_ldr (a := Z.ad 10 v70.toInt.toNat) x L 49 0 al69 rfl (by omega) (show v70.toInt < ((Z.n : Nat) : Int) from (by omega)) rfl dX11_cellCame_129 ?_
                have al72 : Z.al 10 v70.toInt.toNat := hz.2 10 v70.toInt.toNat (show v70.toInt.toNat < Z.n from (by omega))
                refine lv_iload hx hb dX11_cellCame_130 (lv_at hl 2 rfl) ?_
                refine c_cr (As := [.int v6]) (rest := []) x hml L 10 v70.toInt.toNat al72 rfl (c_kjoined l X g v70.toInt.toNat v6 ⟨by omega, by omega⟩ hJ (show v70.toInt.toNat < Z.n from (by omega))) (wk_V kd_X10_joined kl_X11_185 ki_X10_joined ks_X10_X10_joined kn_X10) rfl ⟨rfl, rfl⟩ hd_kjoined ⟨Nat.le_of_ble_eq_true rfl, Nat.le_of_ble_eq_true rfl⟩ rfl hl.1 rfl (lv_room (Nat.le_of_ble_eq_true rfl)) dX11_cellCame_132 (fun v74 g73 H73 k73 hp73 L73 => ?_) hcs
                have hvv74 := hp73.2.2
                rcases (show v74.toInt < 0 ∨ 0 ≤ v74.toInt from (by omega)) with hc75 | hc75
                · skip
                  refine c_top (show Value.null = va_rf (cOpt Z 1 v74) from (by rw [cOpt_none hc75]; rfl)) ?_
                  refine lv_goto (tgt := 151) hx hb dX11_cellCame_135 (by decide) ?_
                  refine lv_astoreN (lv' := [(7, .null), (6, .int (0 : Int32)), (5, .int v6), (4, .int v4), (3, .int v2), (0, .ref (Z.ad 11 i0)), (1, .int p1), (2, .ref (Z.ad 3 q2))]) hx hb dX11_cellCame_151 hl (by decide) rfl (fun ls hl => ?_)
                  refine lv_aloadN hx hb dX11_cellCame_153 (lv_at hl 0 rfl) ?_
                  refine lv_ifnonnullN hx hb dX11_cellCame_155 ?_
                  refine lv_aload_n hx hb dX11_cellCame_158 rfl (lv_at hl 7 rfl) ?_
                  refine lv_dup hx hb dX11_cellCame_159 rfl ?_
                  refine c_geti x L73 3 q2 12 108 hq2 rfl rfl (wk_in kf_X11_192) dX11_cellCame_160 (fun v76 ev76 wv76 => ?_)
                  have rv76 : rg (-2147483648) (2147483647) v76 := rg_any v76
                  have uv76 : (-2147483648 : Int) ≤ v76.toInt ∧ v76.toInt ≤ 2147483647 := rv76
                  refine lv_iconst (v := 1) hx hb dX11_cellCame_163 (by decide) ?_
                  refine lv_iadd hx hb dX11_cellCame_164 ?_
                  refine lv_topi (fun v77 ev77 => ?_)
                  have rv77 : rg (-2147483648) (2147483647) v77 := rg_any v77
                  have uv77 : (-2147483648 : Int) ≤ v77.toInt ∧ v77.toInt ≤ 2147483647 := rv77
                  refine c_puti x L73 3 q2 12 108 hq2 rfl rfl ⟨rfl, by decide +kernel⟩ (wk_in kf_X11_192) dX11_cellCame_165 (rg_any v77) (fun g78 H78 k78 eg78 L78 => ?_)
                  refine lv_goto (tgt := 237) hx hb dX11_cellCame_168 (by decide) ?_
                  refine lv_iconst (v := 0) hx hb dX11_cellCame_237 (by decide) ?_
                  exact k_zret (v := (0 : Int32)) xa L78 hr hlocks (k_nar (rg_w kc_0 rfl)) (by omega) hzl ⟨(mFr.upE (mFr.tr mFr.rf hp73.1 rfl) eg78 rfl), rg_w kc_0 rfl, (cJ_up hp73.2.1 eg78 rfl), (fun s => by have hl := congrArg Int32.toInt (congrFun ((show mFr [108] g g78 from (mFr.upE (mFr.tr mFr.rf hp73.1 rfl) eg78 rfl)).at 386 rfl) s); omega), (by omega), trivial⟩ hcs.1 hcs.2 dX11_cellCame_238
                · skip
                  refine c_top (show Value.ref (Z.ad 1 v74.toInt.toNat) = va_rf (cOpt Z 1 v74) from (by rw [cOpt_some hc75]; rfl)) ?_
                  have hwv74 := hvv74 hc75
                  refine lv_goto (tgt := 151) hx hb dX11_cellCame_135 (by decide) ?_
                  refine lv_astore (lv' := [(7, .ref (Z.ad 1 v74.toInt.toNat)), (6, .int (0 : Int32)), (5, .int v6), (4, .int v4), (3, .int v2), (0, .ref (Z.ad 11 i0)), (1, .int p1), (2, .ref (Z.ad 3 q2))]) hx hb dX11_cellCame_151 hl (by decide) rfl (fun ls hl => ?_)
                  refine lv_aload hx hb dX11_cellCame_153 (lv_at hl 0 rfl) ?_
                  refine lv_ifnonnull (tgt := 171) hx hb dX11_cellCame_155 (by decide) ?_
                  refine lv_iload_n hx hb dX11_cellCame_171 rfl (lv_at hl 6 rfl) ?_
                  refine lv_iconst (v := 2) hx hb dX11_cellCame_172 (by decide) ?_
                  refine lv_irem hx hb dX11_cellCame_173 (by decide) ?_
                  refine m_top ev36 ?_
                  refine lv_if_ne (tgt := 197) hx hb dX11_cellCame_174 (by decide) (fun c174_79 => ?_) (fun c174_79 => ?_)
                  · skip
                    have ic174_79 : v36.toInt ≠ (0 : Int32).toInt := fun z => c174_79 (Int32.toInt_inj.mp z)
                    have y80 : (0 : Int32).toInt = 0 := by decide
                    exact absurd (rg_neH c174_79 q68 kc_0 : rg (0) (-1) v36) (fun q => rg_dead q rfl)
                  · skip
                    have ic174_79 := congrArg Int32.toInt c174_79
                    have y81 : (0 : Int32).toInt = 0 := by decide
                    refine lv_aload_n hx hb dX11_cellCame_177 rfl (lv_at hl 5 rfl) ?_
                    refine lv_aload hx hb dX11_cellCame_178 (lv_at hl 0 rfl) ?_
                    obtain ⟨v82, ev82⟩ : ∃ y : Int32, y = g73 43 v74.toInt.toNat := ⟨_, rfl⟩
                    rcases (show v82.toInt < 0 ∨ 0 ≤ v82.toInt from (by omega)) with hc83 | hc83
                    · skip
                      have q84 : rg (-2147483648) (-1) v82 := ⟨(rg_any v82).1, by omega⟩
                      refine c_geto (w := .null) x L73 1 v74.toInt.toNat 11 43 hwv74.1 rfl rfl (by show va_rf (cOpt Z 1 (g73 43 v74.toInt.toNat)) = _; rw [← ev82, cOpt_none (by omega)]; rfl) (wk_in kf_X11_195) dX11_cellCame_180 ?_
                      refine lv_iload_n hx hb dX11_cellCame_183 rfl (lv_at hl 4 rfl) ?_
                      refine lv_aload_n hx hb dX11_cellCame_184 rfl (lv_at hl 7 rfl) ?_
                      refine c_getr (a := Z.ad 7 q2) x L73 3 q2 2 hq2 rfl rfl (wk_in kf_X11_119) dX11_cellCame_185 ?_
                      have al88 : Z.al 25 q2 := hz.2 25 q2 (show q2 < 2 * Z.n from (by omega))
                      refine c_getr (a := Z.ad 25 q2) x L73 7 q2 0 al1 rfl rfl (wk_in kf_X11_175) dX11_cellCame_188 ?_
                      refine c_cv (As := [.null, .int v2, .ref (Z.ad 25 q2)]) (rest := []) x hml L73 11 i0 hal0 rfl (c_kpassOn_N l X g73 i0 v2 q2 ⟨by omega, by omega⟩ hal0 al88) (wk_V kd_X11_passOn kl_X11_201 ki_X11_passOn ks_X11_X11_passOn kn_X11) rfl ⟨rfl, rfl⟩ hd_kpassOn_N ⟨Nat.le_of_ble_eq_true rfl, Nat.le_of_ble_eq_true rfl⟩ rfl hl.1 rfl (lv_room (Nat.le_of_ble_eq_true rfl)) dX11_cellCame_191 (fun  g89 H89 k89 hp89 L89 => ?_) hcs
                      refine lv_goto (tgt := 237) hx hb dX11_cellCame_194 (by decide) ?_
                      refine lv_iconst (v := 0) hx hb dX11_cellCame_237 (by decide) ?_
                      exact k_zret (v := (0 : Int32)) xa L89 hr hlocks (k_nar (rg_w kc_0 rfl)) (by omega) hzl ⟨(mFr.tr (mFr.tr mFr.rf hp73.1 rfl) hp89.1 rfl), rg_w kc_0 rfl, (cJ_fr hp73.2.1 hp89.1 rfl), (fun s => by have hl := congrArg Int32.toInt (congrFun ((show mFr [] g g89 from (mFr.tr (mFr.tr mFr.rf hp73.1 rfl) hp89.1 rfl)).at 386 rfl) s); omega), (by omega), trivial⟩ hcs.1 hcs.2 dX11_cellCame_238
                    · skip
                      have q85 : rg (0) (2147483647) v82 := ⟨by omega, (rg_any v82).2⟩
                      have hd86 := (hp73.2.1.2.1 v74.toInt.toNat hwv74.1).2.1
                      rw [← ev82] at hd86
                      have al87 : Z.al 1 v82.toInt.toNat := hd86.resolve_left (by omega)
                      refine c_geto (w := .ref (Z.ad 1 v82.toInt.toNat)) x L73 1 v74.toInt.toNat 11 43 hwv74.1 rfl rfl (by show va_rf (cOpt Z 1 (g73 43 v74.toInt.toNat)) = _; rw [← ev82, cOpt_some (by omega)]; rfl) (wk_in kf_X11_195) dX11_cellCame_180 ?_
                      refine lv_iload_n hx hb dX11_cellCame_183 rfl (lv_at hl 4 rfl) ?_
                      refine lv_aload_n hx hb dX11_cellCame_184 rfl (lv_at hl 7 rfl) ?_
                      refine c_getr (a := Z.ad 7 q2) x L73 3 q2 2 hq2 rfl rfl (wk_in kf_X11_119) dX11_cellCame_185 ?_
                      have al90 : Z.al 25 q2 := hz.2 25 q2 (show q2 < 2 * Z.n from (by omega))
                      refine c_getr (a := Z.ad 25 q2) x L73 7 q2 0 al1 rfl rfl (wk_in kf_X11_175) dX11_cellCame_188 ?_
                      refine c_cv (As := [.ref (Z.ad 1 v82.toInt.toNat), .int v2, .ref (Z.ad 25 q2)]) (rest := []) x hml L73 11 i0 hal0 rfl (c_kpassOn l X g73 i0 v82.toInt.toNat v2 q2 ⟨by omega, by omega⟩ hp73.2.1 hal0 al87 al90) (wk_V kd_X11_passOn kl_X11_201 ki_X11_passOn ks_X11_X11_passOn kn_X11) rfl ⟨rfl, rfl⟩ hd_kpassOn ⟨Nat.le_of_ble_eq_true rfl, Nat.le_of_ble_eq_true rfl⟩ rfl hl.1 rfl (lv_room (Nat.le_of_ble_eq_true rfl)) dX11_cellCame_191 (fun  g91 H91 k91 hp91 L91 => ?_) hcs
                      refine lv_goto (tgt := 237) hx hb dX11_cellCame_194 (by decide) ?_
                      refine lv_iconst (v := 0) hx hb dX11_cellCame_237 (by decide) ?_
                      exact k_zret (v := (0 : Int32)) xa L91 hr hlocks (k_nar (rg_w kc_0 rfl)) (by omega) hzl ⟨(mFr.tr (mFr.tr mFr.rf hp73.1 rfl) hp91.1 rfl), rg_w kc_0 rfl, hp91.2.1, (fun s => by have hl := congrArg Int32.toInt (congrFun ((show mFr [67, 108, 544, 576] g g91 from (mFr.tr (mFr.tr mFr.rf hp73.1 rfl) hp91.1 rfl)).at 386 rfl) s); omega), (by omega), trivial⟩ hcs.1 hcs.2 dX11_cellCame_238
          · skip
            have ic59_31 := congrArg Int32.toInt c59_31
            have y92 : (5 : Int32).toInt = 5 := by decide
            have q93 : rg (5) (5) v6 := (rg_eq c59_31 q27 kc_5).1
            have uq93 : (5 : Int) ≤ v6.toInt ∧ v6.toInt ≤ 5 := q93
            refine lv_aload_n hx hb dX11_cellCame_62 rfl (lv_at hl 6 rfl) ?_
            have al94 : Z.al 0 q2 := hz.2 0 q2 (show q2 < 2 * Z.n from (by omega))
            refine c_getr (a := Z.ad 0 q2) x L 3 q2 3 hq2 rfl rfl (wk_in kf_X11_140) dX11_cellCame_63 ?_
            refine lv_aload_n hx hb dX11_cellCame_66 rfl (lv_at hl 6 rfl) ?_
            refine c_getr (a := Z.ad 7 q2) x L 3 q2 2 hq2 rfl rfl (wk_in kf_X11_119) dX11_cellCame_67 ?_
            have al95 : Z.al 25 q2 := hz.2 25 q2 (show q2 < 2 * Z.n from (by omega))
            refine c_getr (a := Z.ad 25 q2) x L 7 q2 0 al1 rfl rfl (wk_in kf_X11_175) dX11_cellCame_70 ?_
            refine lv_iload hx hb dX11_cellCame_73 (lv_at hl 0 rfl) ?_
            refine c_ci (As := [.ref (Z.ad 25 q2), .int (0 : Int32)]) (rest := []) x hml L 0 q2 al94 rfl (c_kasmAdd l X g q2 q2 (0 : Int32) ⟨by omega, by omega⟩ al94 (hz.2 16 q2 (show q2 < 2 * Z.n from (by omega))) al95 (rg_w kc_0 rfl)) (wk_V kd_X0_add kl_X11_178 ki_X0_add ks_X0_X0_add kn_X0) rfl ⟨rfl, rfl⟩ hd_kasmAdd ⟨Nat.le_of_ble_eq_true rfl, Nat.le_of_ble_eq_true rfl⟩ rfl hl.1 rfl (lv_room (Nat.le_of_ble_eq_true rfl)) dX11_cellCame_75 (fun v97 g96 H96 k96 hp96 L96 => ?_) hcs
            have rv97 : rg (0) (2) v97 := hp96.2.1
            have uv97 : (0 : Int) ≤ v97.toInt ∧ v97.toInt ≤ 2 := rv97
            have hw98 := hp96.2.2
            refine lv_istore (lv' := [(7, .int v97), (6, .int (0 : Int32)), (5, .int v6), (4, .int v4), (3, .int v2), (0, .ref (Z.ad 11 i0)), (1, .int p1), (2, .ref (Z.ad 3 q2))]) hx hb dX11_cellCame_78 hl (by decide) rfl (fun ls hl => ?_)
            refine lv_iload hx hb dX11_cellCame_80 (lv_at hl 0 rfl) ?_
            refine lv_iconst (v := 2) hx hb dX11_cellCame_82 (by decide) ?_
            refine lv_icmp_ne (tgt := 96) hx hb dX11_cellCame_83 (by decide) (fun c83_99 => ?_) (fun c83_99 => ?_)
            · skip
              have ic83_99 : v97.toInt ≠ (2 : Int32).toInt := fun z => c83_99 (Int32.toInt_inj.mp z)
              have y100 : (2 : Int32).toInt = 2 := by decide
              have q101 : rg (0) (1) v97 := rg_neH c83_99 rv97 kc_2
              have uq101 : (0 : Int) ≤ v97.toInt ∧ v97.toInt ≤ 1 := q101
              refine lv_iload hx hb dX11_cellCame_96 (lv_at hl 0 rfl) ?_
              refine lv_iconst (v := 1) hx hb dX11_cellCame_98 (by decide) ?_
              refine lv_icmp_ne (tgt := 106) hx hb dX11_cellCame_99 (by decide) (fun c99_102 => ?_) (fun c99_102 => ?_)
              · skip
                have ic99_102 : v97.toInt ≠ (1 : Int32).toInt := fun z => c99_102 (Int32.toInt_inj.mp z)
                have y103 : (1 : Int32).toInt = 1 := by decide
                have q104 : rg (0) (0) v97 := rg_neH c99_102 q101 kc_1
                have uq104 : (0 : Int) ≤ v97.toInt ∧ v97.toInt ≤ 0 := q104
                refine lv_iconst (v := 0) hx hb dX11_cellCame_106 (by decide) ?_
                exact k_zret (v := (0 : Int32)) xa L96 hr hlocks (k_nar (rg_w kc_0 rfl)) (by omega) hzl ⟨(mFr.tr mFr.rf hp96.1 rfl), rg_w kc_0 rfl, (cJ_fr hJ hp96.1 rfl), (fun s => by have hl := congrArg Int32.toInt (congrFun ((show mFr [1, 2, 512] g g96 from (mFr.tr mFr.rf hp96.1 rfl)).at 386 rfl) s); omega), (by omega), trivial⟩ hcs.1 hcs.2 dX11_cellCame_107
              · skip
                have ic99_102 := congrArg Int32.toInt c99_102
                have y105 : (1 : Int32).toInt = 1 := by decide
                have q106 : rg (1) (1) v97 := (rg_eq c99_102 q101 kc_1).1
                have uq106 : (1 : Int) ≤ v97.toInt ∧ v97.toInt ≤ 1 := q106
                refine lv_iconst (v := 1) hx hb dX11_cellCame_102 (by decide) ?_
                refine lv_goto (tgt := 107) hx hb dX11_cellCame_103 (by decide) ?_
                exact k_zret (v := (1 : Int32)) xa L96 hr hlocks (k_nar (rg_w kc_1 rfl)) (by omega) hzl ⟨(mFr.tr mFr.rf hp96.1 rfl), rg_w kc_1 rfl, (cJ_fr hJ hp96.1 rfl), (fun s => by have hl := congrArg Int32.toInt (congrFun ((show mFr [1, 2, 512] g g96 from (mFr.tr mFr.rf hp96.1 rfl)).at 386 rfl) s); omega), (by omega), trivial⟩ hcs.1 hcs.2 dX11_cellCame_107
            · skip
              have ic83_99 := congrArg Int32.toInt c83_99
              have y107 : (2 : Int32).toInt = 2 := by decide
              have q108 : rg (2) (2) v97 := (rg_eq c83_99 rv97 kc_2).1
              have uq108 : (2 : Int) ≤ v97.toInt ∧ v97.toInt ≤ 2 := q108
              refine lv_aload_n hx hb dX11_cellCame_86 rfl (lv_at hl 7 rfl) ?_
              refine lv_dup hx hb dX11_cellCame_87 rfl ?_
              refine c_geti x L96 3 q2 13 109 hq2 rfl rfl (wk_in kf_X11_182) dX11_cellCame_88 (fun v109 ev109 wv109 => ?_)
              have rv109 : rg (-2147483648) (2147483647) v109 := rg_any v109
              have uv109 : (-2147483648 : Int) ≤ v109.toInt ∧ v109.toInt ≤ 2147483647 := rv109
              refine lv_iconst (v := 1) hx hb dX11_cellCame_91 (by decide) ?_
              refine lv_iadd hx hb dX11_cellCame_92 ?_
              refine lv_topi (fun v110 ev110 => ?_)
              have rv110 : rg (-2147483648) (2147483647) v110 := rg_any v110
              have uv110 : (-2147483648 : Int) ≤ v110.toInt ∧ v110.toInt ≤ 2147483647 := rv110
              refine c_puti x L96 3 q2 13 109 hq2 rfl rfl ⟨rfl, by decide +kernel⟩ (wk_in kf_X11_182) dX11_cellCame_93 (rg_any v110) (fun g111 H111 k111 eg111 L111 => ?_)
              refine lv_iload hx hb dX11_cellCame_96 (lv_at hl 0 rfl) ?_
              refine lv_iconst (v := 1) hx hb dX11_cellCame_98 (by decide) ?_
              refine lv_icmp_ne (tgt := 106) hx hb dX11_cellCame_99 (by decide) (fun c99_112 => ?_) (fun c99_112 => ?_)
              · skip
                have ic99_112 : v97.toInt ≠ (1 : Int32).toInt := fun z => c99_112 (Int32.toInt_inj.mp z)
                have y113 : (1 : Int32).toInt = 1 := by decide
                refine lv_iconst (v := 0) hx hb dX11_cellCame_106 (by decide) ?_
                exact k_zret (v := (0 : Int32)) xa L111 hr hlocks (k_nar (rg_w kc_0 rfl)) (by omega) hzl ⟨(mFr.upE (mFr.tr mFr.rf hp96.1 rfl) eg111 rfl), rg_w kc_0 rfl, (cJ_up (cJ_fr hJ hp96.1 rfl) eg111 rfl), (fun s => by have hl := congrArg Int32.toInt (congrFun ((show mFr [1, 2, 109, 512] g g111 from (mFr.upE (mFr.tr mFr.rf hp96.1 rfl) eg111 rfl)).at 386 rfl) s); omega), (by omega), trivial⟩ hcs.1 hcs.2 dX11_cellCame_107
              · skip
                have ic99_112 := congrArg Int32.toInt c99_112
                have y114 : (1 : Int32).toInt = 1 := by decide
                exact absurd ((rg_eq c99_112 q108 kc_1).1 : rg (2) (1) v97) (fun q => rg_dead q rfl)
      · skip
        have ic46_25 := congrArg Int32.toInt c46_25
        have y115 : (0 : Int32).toInt = 0 := by decide
        have q116 : rg (0) (0) v6 := (rg_eq c46_25 rv6 kc_0).1
        have uq116 : (0 : Int) ≤ v6.toInt ∧ v6.toInt ≤ 0 := q116
        refine lv_iconst (v := 0) hx hb dX11_cellCame_49 (by decide) ?_
        exact k_zret (v := (0 : Int32)) xa L hr hlocks (k_nar (rg_w kc_0 rfl)) (by omega) hzl ⟨mFr.rf, rg_w kc_0 rfl, hJ, (fun s => by have hl := congrArg Int32.toInt (congrFun ((show mFr [] g g from mFr.rf).at 386 rfl) s); omega), (by omega), trivial⟩ hcs.1 hcs.2 dX11_cellCame_50
  · skip
    have ic29_8 : v7.toInt ≠ (0 : Int32).toInt := fun z => c29_8 (Int32.toInt_inj.mp z)
    have y117 : (0 : Int32).toInt = 0 := by decide
    refine lv_iconst (v := 1) hx hb dX11_cellCame_32 (by decide) ?_
    refine lv_goto (tgt := 37) hx hb dX11_cellCame_33 (by decide) ?_
    refine lv_istore (lv' := [(6, .int (1 : Int32)), (5, .int v6), (4, .int v4), (3, .int v2), (0, .ref (Z.ad 11 i0)), (1, .int p1), (2, .ref (Z.ad 3 q2))]) hx hb dX11_cellCame_37 hl (by decide) rfl (fun ls hl => ?_)
    refine lv_iload hx hb dX11_cellCame_39 (lv_at hl 2 rfl) ?_
    refine lv_if_ne (tgt := 51) hx hb dX11_cellCame_41 (by decide) (fun c41_118 => ?_) (fun c41_118 => ?_)
    · skip
      have ic41_118 : v4.toInt ≠ (0 : Int32).toInt := fun z => c41_118 (Int32.toInt_inj.mp z)
      have y119 : (0 : Int32).toInt = 0 := by decide
      have q120 : rg (1) (255) v4 := rg_neL c41_118 rv4 kc_0
      have uq120 : (1 : Int) ≤ v4.toInt ∧ v4.toInt ≤ 255 := q120
      refine lv_iload hx hb dX11_cellCame_51 (lv_at hl 2 rfl) ?_
      refine lv_if_ne (tgt := 108) hx hb dX11_cellCame_53 (by decide) (fun c53_121 => ?_) (fun c53_121 => ?_)
      · skip
        have ic53_121 : v4.toInt ≠ (0 : Int32).toInt := fun z => c53_121 (Int32.toInt_inj.mp z)
        have y122 : (0 : Int32).toInt = 0 := by decide
        refine lv_null hx hb dX11_cellCame_108 ?_
        refine lv_astoreN (lv' := [(7, .null), (6, .int (1 : Int32)), (5, .int v6), (4, .int v4), (3, .int v2), (0, .ref (Z.ad 11 i0)), (1, .int p1), (2, .ref (Z.ad 3 q2))]) hx hb dX11_cellCame_109 hl (by decide) rfl (fun ls hl => ?_)
        refine lv_iload hx hb dX11_cellCame_111 (lv_at hl 3 rfl) ?_
        refine lv_if_ne (tgt := 153) hx hb dX11_cellCame_113 (by decide) (fun c113_123 => ?_) (fun c113_123 => ?_)
        · skip
          have ic113_123 : v4.toInt ≠ (0 : Int32).toInt := fun z => c113_123 (Int32.toInt_inj.mp z)
          have y124 : (0 : Int32).toInt = 0 := by decide
          refine lv_aloadN hx hb dX11_cellCame_153 (lv_at hl 0 rfl) ?_
          refine lv_ifnonnullN hx hb dX11_cellCame_155 ?_
          refine lv_aload_n hx hb dX11_cellCame_158 rfl (lv_at hl 7 rfl) ?_
          refine lv_dup hx hb dX11_cellCame_159 rfl ?_
          refine c_geti x L 3 q2 12 108 hq2 rfl rfl (wk_in kf_X11_192) dX11_cellCame_160 (fun v125 ev125 wv125 => ?_)
          have rv125 : rg (-2147483648) (2147483647) v125 := rg_any v125
          have uv125 : (-2147483648 : Int) ≤ v125.toInt ∧ v125.toInt ≤ 2147483647 := rv125
          have sv125 := congrArg Int32.toInt ev125
          refine lv_iconst (v := 1) hx hb dX11_cellCame_163 (by decide) ?_
          refine lv_iadd hx hb dX11_cellCame_164 ?_
          refine lv_topi (fun v126 ev126 => ?_)
          have rv126 : rg (-2147483648) (2147483647) v126 := rg_any v126
          have uv126 : (-2147483648 : Int) ≤ v126.toInt ∧ v126.toInt ≤ 2147483647 := rv126
          refine c_puti x L 3 q2 12 108 hq2 rfl rfl ⟨rfl, by decide +kernel⟩ (wk_in kf_X11_192) dX11_cellCame_165 (rg_any v126) (fun g127 H127 k127 eg127 L127 => ?_)
          refine lv_goto (tgt := 237) hx hb dX11_cellCame_168 (by decide) ?_
          refine lv_iconst (v := 0) hx hb dX11_cellCame_237 (by decide) ?_
          exact k_zret (v := (0 : Int32)) xa L127 hr hlocks (k_nar (rg_w kc_0 rfl)) (by omega) hzl ⟨(mFr.upE mFr.rf eg127 rfl), rg_w kc_0 rfl, (cJ_up hJ eg127 rfl), (fun s => by have hl := congrArg Int32.toInt (congrFun ((show mFr [108] g g127 from (mFr.upE mFr.rf eg127 rfl)).at 386 rfl) s); omega), (by omega), trivial⟩ hcs.1 hcs.2 dX11_cellCame_238
        · skip
          have ic113_123 := congrArg Int32.toInt c113_123
          have y128 : (0 : Int32).toInt = 0 := by decide
          exact absurd ((rg_eq c113_123 q120 kc_0).1 : rg (1) (0) v4) (fun q => rg_dead q rfl)
      · skip
        have ic53_121 := congrArg Int32.toInt c53_121
        have y129 : (0 : Int32).toInt = 0 := by decide
        exact absurd ((rg_eq c53_121 q120 kc_0).1 : rg (1) (0) v4) (fun q => rg_dead q rfl)
    · skip
      have ic41_118 := congrArg Int32.toInt c41_118
      have y130 : (0 : Int32).toInt = 0 := by decide
      have q131 : rg (0) (0) v4 := (rg_eq c41_118 rv4 kc_0).1
      have uq131 : (0 : Int) ≤ v4.toInt ∧ v4.toInt ≤ 0 := q131
      refine lv_iload hx hb dX11_cellCame_44 (lv_at hl 1 rfl) ?_
      refine lv_if_ne (tgt := 51) hx hb dX11_cellCame_46 (by decide) (fun c46_132 => ?_) (fun c46_132 => ?_)
      · skip
        have ic46_132 : v6.toInt ≠ (0 : Int32).toInt := fun z => c46_132 (Int32.toInt_inj.mp z)
        have y133 : (0 : Int32).toInt = 0 := by decide
        have q134 : rg (1) (65535) v6 := rg_neL c46_132 rv6 kc_0
        have uq134 : (1 : Int) ≤ v6.toInt ∧ v6.toInt ≤ 65535 := q134
        refine lv_iload hx hb dX11_cellCame_51 (lv_at hl 2 rfl) ?_
        refine lv_if_ne (tgt := 108) hx hb dX11_cellCame_53 (by decide) (fun c53_135 => ?_) (fun c53_135 => ?_)
        · skip
          have ic53_135 : v4.toInt ≠ (0 : Int32).toInt := fun z => c53_135 (Int32.toInt_inj.mp z)
          have y136 : (0 : Int32).toInt = 0 := by decide
          exact absurd (rg_neH c53_135 q131 kc_0 : rg (0) (-1) v4) (fun q => rg_dead q rfl)
        · skip
          have ic53_135 := congrArg Int32.toInt c53_135
          have y137 : (0 : Int32).toInt = 0 := by decide
          refine lv_iload hx hb dX11_cellCame_56 (lv_at hl 1 rfl) ?_
          refine lv_iconst (v := 5) hx hb dX11_cellCame_58 (by decide) ?_
          refine lv_icmp_ne (tgt := 108) hx hb dX11_cellCame_59 (by decide) (fun c59_138 => ?_) (fun c59_138 => ?_)
          · skip
            have ic59_138 : v6.toInt ≠ (5 : Int32).toInt := fun z => c59_138 (Int32.toInt_inj.mp z)
            have y139 : (5 : Int32).toInt = 5 := by decide
            refine lv_null hx hb dX11_cellCame_108 ?_
            refine lv_astoreN (lv' := [(7, .null), (6, .int (1 : Int32)), (5, .int v6), (4, .int v4), (3, .int v2), (0, .ref (Z.ad 11 i0)), (1, .int p1), (2, .ref (Z.ad 3 q2))]) hx hb dX11_cellCame_109 hl (by decide) rfl (fun ls hl => ?_)
            refine lv_iload hx hb dX11_cellCame_111 (lv_at hl 3 rfl) ?_
            refine lv_if_ne (tgt := 153) hx hb dX11_cellCame_113 (by decide) (fun c113_140 => ?_) (fun c113_140 => ?_)
            · skip
              have ic113_140 : v4.toInt ≠ (0 : Int32).toInt := fun z => c113_140 (Int32.toInt_inj.mp z)
              have y141 : (0 : Int32).toInt = 0 := by decide
              exact absurd (rg_neH c113_140 q131 kc_0 : rg (0) (-1) v4) (fun q => rg_dead q rfl)
            · skip
              have ic113_140 := congrArg Int32.toInt c113_140
              have y142 : (0 : Int32).toInt = 0 := by decide
              refine lv_iload_n hx hb dX11_cellCame_116 rfl (lv_at hl 6 rfl) ?_
              refine lv_iconst (v := 2) hx hb dX11_cellCame_117 (by decide) ?_
              refine lv_irem hx hb dX11_cellCame_118 (by decide) ?_
              refine lv_topi (fun v143 ev143 => ?_)
              have rv143 : rg (0) (1) v143 := (rg_rem ev143 rp1 kc_2 rfl).1
              have tv143 := (rg_rem ev143 rp1 kc_2 rfl).2
              have y144 : (2 : Int32).toInt = 2 := by decide
              have uv143 : (0 : Int) ≤ v143.toInt ∧ v143.toInt ≤ 1 := rv143
              refine lv_if_ne (tgt := 138) hx hb dX11_cellCame_119 (by decide) (fun c119_145 => ?_) (fun c119_145 => ?_)
              · skip
                have ic119_145 : v143.toInt ≠ (0 : Int32).toInt := fun z => c119_145 (Int32.toInt_inj.mp z)
                have y146 : (0 : Int32).toInt = 0 := by decide
                have q147 : rg (1) (1) v143 := rg_neL c119_145 rv143 kc_0
                have uq147 : (1 : Int) ≤ v143.toInt ∧ v143.toInt ≤ 1 := q147
                refine lv_aload_n hx hb dX11_cellCame_138 rfl (lv_at hl 5 rfl) ?_
                have al148 : Z.al 51 0 := hz.2 51 0 (show 0 < 1 from (by omega))
                refine c_getr (a := Z.ad 51 0) x L 11 i0 2 hal0 rfl rfl (wk_in kf_X11_63) dX11_cellCame_139 ?_
                refine lv_iload_n hx hb dX11_cellCame_142 rfl (lv_at hl 6 rfl) ?_
                refine lv_iconst (v := 2) hx hb dX11_cellCame_143 (by decide) ?_
                refine lv_idiv hx hb dX11_cellCame_144 (by decide) ?_
                refine lv_topi (fun v149 ev149 => ?_)
                have rv149 : rg (0) (3) v149 := (rg_div ev149 rp1 kc_2 rfl).1
                have tv149 := (rg_div ev149 rp1 kc_2 rfl).2
                have y150 : (2 : Int32).toInt = 2 := by decide
                have uv149 : (0 : Int) ≤ v149.toInt ∧ v149.toInt ≤ 3 := rv149
                refine c_ldr (a := Z.ad 4 v149.toInt.toNat) x L 51 0 al148 rfl (by omega) (show v149.toInt < ((Z.n : Nat) : Int) from (by omega)) rfl dX11_cellCame_145 ?_
                have al151 : Z.al 4 v149.toInt.toNat := hz.2 4 v149.toInt.toNat (show v149.toInt.toNat < Z.n from (by omega))
                refine lv_iload hx hb dX11_cellCame_146 (lv_at hl 2 rfl) ?_
                refine c_cr (As := [.int v6]) (rest := []) x hml L 4 v149.toInt.toNat al151 rfl (c_kactive l X g v149.toInt.toNat v6 ⟨by omega, by omega⟩ hJ (show v149.toInt.toNat < Z.n from (by omega))) (wk_V kd_X4_active kl_X11_189 ki_X4_active ks_X4_X4_active kn_X4) rfl ⟨rfl, rfl⟩ hd_kactive ⟨Nat.le_of_ble_eq_true rfl, Nat.le_of_ble_eq_true rfl⟩ rfl hl.1 rfl (lv_room (Nat.le_of_ble_eq_true rfl)) dX11_cellCame_148 (fun v153 g152 H152 k152 hp152 L152 => ?_) hcs
                have hvv153 := hp152.2.2
                rcases (show v153.toInt < 0 ∨ 0 ≤ v153.toInt from (by omega)) with hc154 | hc154
                · skip
                  refine c_top (show Value.null = va_rf (cOpt Z 1 v153) from (by rw [cOpt_none hc154]; rfl)) ?_
                  refine lv_astoreN (lv' := [(7, .null), (6, .int (1 : Int32)), (5, .int v6), (4, .int v4), (3, .int v2), (0, .ref (Z.ad 11 i0)), (1, .int p1), (2, .ref (Z.ad 3 q2))]) hx hb dX11_cellCame_151 hl (by decide) rfl (fun ls hl => ?_)
                  refine lv_aloadN hx hb dX11_cellCame_153 (lv_at hl 0 rfl) ?_
                  refine lv_ifnonnullN hx hb dX11_cellCame_155 ?_
                  refine lv_aload_n hx hb dX11_cellCame_158 rfl (lv_at hl 7 rfl) ?_
                  refine lv_dup hx hb dX11_cellCame_159 rfl ?_
                  refine c_geti x L152 3 q2 12 108 hq2 rfl rfl (wk_in kf_X11_192) dX11_cellCame_160 (fun v155 ev155 wv155 => ?_)
                  have rv155 : rg (-2147483648) (2147483647) v155 := rg_any v155
                  have uv155 : (-2147483648 : Int) ≤ v155.toInt ∧ v155.toInt ≤ 2147483647 := rv155
                  refine lv_iconst (v := 1) hx hb dX11_cellCame_163 (by decide) ?_
                  refine lv_iadd hx hb dX11_cellCame_164 ?_
                  refine lv_topi (fun v156 ev156 => ?_)
                  have rv156 : rg (-2147483648) (2147483647) v156 := rg_any v156
                  have uv156 : (-2147483648 : Int) ≤ v156.toInt ∧ v156.toInt ≤ 2147483647 := rv156
                  refine c_puti x L152 3 q2 12 108 hq2 rfl rfl ⟨rfl, by decide +kernel⟩ (wk_in kf_X11_192) dX11_cellCame_165 (rg_any v156) (fun g157 H157 k157 eg157 L157 => ?_)
                  refine lv_goto (tgt := 237) hx hb dX11_cellCame_168 (by decide) ?_
                  refine lv_iconst (v := 0) hx hb dX11_cellCame_237 (by decide) ?_
                  exact k_zret (v := (0 : Int32)) xa L157 hr hlocks (k_nar (rg_w kc_0 rfl)) (by omega) hzl ⟨(mFr.upE (mFr.tr mFr.rf hp152.1 rfl) eg157 rfl), rg_w kc_0 rfl, (cJ_up hp152.2.1 eg157 rfl), (fun s => by have hl := congrArg Int32.toInt (congrFun ((show mFr [108] g g157 from (mFr.upE (mFr.tr mFr.rf hp152.1 rfl) eg157 rfl)).at 386 rfl) s); omega), (by omega), trivial⟩ hcs.1 hcs.2 dX11_cellCame_238
                · skip
                  refine c_top (show Value.ref (Z.ad 1 v153.toInt.toNat) = va_rf (cOpt Z 1 v153) from (by rw [cOpt_some hc154]; rfl)) ?_
                  have hwv153 := hvv153 hc154
                  refine lv_astore (lv' := [(7, .ref (Z.ad 1 v153.toInt.toNat)), (6, .int (1 : Int32)), (5, .int v6), (4, .int v4), (3, .int v2), (0, .ref (Z.ad 11 i0)), (1, .int p1), (2, .ref (Z.ad 3 q2))]) hx hb dX11_cellCame_151 hl (by decide) rfl (fun ls hl => ?_)
                  refine lv_aload hx hb dX11_cellCame_153 (lv_at hl 0 rfl) ?_
                  refine lv_ifnonnull (tgt := 171) hx hb dX11_cellCame_155 (by decide) ?_
                  refine lv_iload_n hx hb dX11_cellCame_171 rfl (lv_at hl 6 rfl) ?_
                  refine lv_iconst (v := 2) hx hb dX11_cellCame_172 (by decide) ?_
                  refine lv_irem hx hb dX11_cellCame_173 (by decide) ?_
                  refine m_top ev143 ?_
                  refine lv_if_ne (tgt := 197) hx hb dX11_cellCame_174 (by decide) (fun c174_158 => ?_) (fun c174_158 => ?_)
                  · skip
                    have ic174_158 : v143.toInt ≠ (0 : Int32).toInt := fun z => c174_158 (Int32.toInt_inj.mp z)
                    have y159 : (0 : Int32).toInt = 0 := by decide
                    refine lv_aload_n hx hb dX11_cellCame_197 rfl (lv_at hl 5 rfl) ?_
                    refine c_getr (a := Z.ad 51 0) x L152 11 i0 2 hal0 rfl rfl (wk_in kf_X11_63) dX11_cellCame_198 ?_
                    refine lv_iload_n hx hb dX11_cellCame_201 rfl (lv_at hl 6 rfl) ?_
                    refine lv_iconst (v := 2) hx hb dX11_cellCame_202 (by decide) ?_
                    refine lv_idiv hx hb dX11_cellCame_203 (by decide) ?_
                    refine m_top ev149 ?_
                    refine c_ldr (a := Z.ad 4 v149.toInt.toNat) x L152 51 0 al148 rfl (by omega) (show v149.toInt < ((Z.n : Nat) : Int) from (by omega)) rfl dX11_cellCame_204 ?_
                    refine lv_aload hx hb dX11_cellCame_205 (lv_at hl 0 rfl) ?_
                    refine lv_aload_n hx hb dX11_cellCame_207 rfl (lv_at hl 7 rfl) ?_
                    refine c_getr (a := Z.ad 7 q2) x L152 3 q2 2 hq2 rfl rfl (wk_in kf_X11_119) dX11_cellCame_208 ?_
                    have al160 : Z.al 25 q2 := hz.2 25 q2 (show q2 < 2 * Z.n from (by omega))
                    refine c_getr (a := Z.ad 25 q2) x L152 7 q2 0 al1 rfl rfl (wk_in kf_X11_175) dX11_cellCame_211 ?_
                    refine lv_iload hx hb dX11_cellCame_214 (lv_at hl 1 rfl) ?_
                    refine lv_aload_n hx hb dX11_cellCame_216 rfl (lv_at hl 5 rfl) ?_
                    refine c_geti x L152 11 i0 10 362 hal0 rfl rfl (wk_in kf_X11_82) dX11_cellCame_217 (fun v161 ev161 wv161 => ?_)
                    have rv161 : rg (-2147483648) (2147483647) v161 := rg_any v161
                    have uv161 : (-2147483648 : Int) ≤ v161.toInt ∧ v161.toInt ≤ 2147483647 := rv161
                    have sv161 : v161.toInt = (g 362 i0).toInt := congrArg Int32.toInt (ev161.trans (congrFun ((show mFr [0, 1, 2, 46, 67, 108, 109, 136, 512, 544, 576, 960, 992, 1024, 1056] g g152 from (mFr.tr mFr.rf hp152.1 rfl)).at 362 rfl) _))
                    have e386_162 := ((show mFr [] g g152 from (mFr.tr mFr.rf hp152.1 rfl)).at 386 rfl)
                    have hMz162 := cMz.eq hMz e386_162 (show 0 ≤ 0 by decide)
                    refine k_calli xa L152 (k_runV (As := [.ref (Z.ad 1 v153.toInt.toNat), .ref (Z.ad 25 q2), .int (1 : Int32), .int v161]) (rest := []) ⟨hx, hb, hml, x.2.2.2.2.1, x.2.2.1⟩ (c_kedataCame l X g152 v149.toInt.toNat v153.toInt.toNat q2 (1 : Int32) v161 _ ms ⟨by omega, by omega⟩ hp152.2.1 hMz162 (by omega) (show v149.toInt.toNat < Z.n from (by omega)) hwv153.1 al160 (rg_w kc_1 rfl)) (cwV 4 x.2.2.1 (wk_V kd_X4_dataCame kl_X11_205 ki_X4_dataCame ks_X4_X4_dataCame kn_X4) rfl rfl rfl hd_kedataCame ⟨Nat.le_of_ble_eq_true rfl, Nat.le_of_ble_eq_true rfl⟩) ⟨cPreA.blind, c_recv x L152 al151 rfl, fun U hU hW => k_pre xa L152 U hU hW⟩ rfl rfl hl.1 rfl (lv_room (Nat.le_of_ble_eq_true rfl)) dX11_cellCame_220 ⟨show 0 + 2 ≤ 2 by omega, show 0 + (243 + 0 * ms) ≤ 243 + 0 * ms by omega⟩) (fun v163 Z g162 H162 k162 kc162 kn162 hk162 hn162 hp162 hz162 xa L162 => ?_)
                    have rv163 : rg (0) (2) v163 := hp162.2.1
                    have uv163 : (0 : Int) ≤ v163.toInt ∧ v163.toInt ≤ 2 := rv163
                    have hsg162 := hp162.2.2.2.1
                    have hww162 := hp162.2.2.2.2.1
                    have ea162_0 := hz162.2.2.1 1 v153.toInt.toNat hwv153.1 (by omega)
                    have ea162_1 := hz162.2.2.1 11 i0 hal0 (by omega)
                    have ea162_2 := hz162.2.2.1 3 q2 hq2 (by omega)
                    rw [← ea162_0] at hl
                    rw [← ea162_1] at hl
                    rw [← ea162_2] at hl
                    have al162_0 := hz162.2.1 1 v153.toInt.toNat hwv153.1
                    have al162_1 := hz162.2.1 11 i0 hal0
                    have al162_2 := hz162.2.1 3 q2 hq2
                    have hZn162 := hz162.1
                    have x := xa.1
                    have hz := x.2.2.2.2.2.2.2.1
                    have hzn := hz.1
                    have hMy164 := (cMz.fr (a := 0) (b := 0) (show cMz ms (0 + 0) _ _ from cMz.eq hMz e386_162 (show 0 + 0 ≤ 0 by decide)) hz162.1 (fun s => (hsg162 s).2))
                    have hzl := cZl.tr hzl hz162
                    have hcs : 0 + kc162 ≤ 2 ∧ 0 + kn162 ≤ 243 + 0 * ms := by omega
                    refine lv_iconst (v := 2) hx hb dX11_cellCame_223 (by decide) ?_
                    refine lv_icmp_ne (tgt := 237) hx hb dX11_cellCame_224 (by decide) (fun c224_165 => ?_) (fun c224_165 => ?_)
                    · skip
                      have ic224_165 : v163.toInt ≠ (2 : Int32).toInt := fun z => c224_165 (Int32.toInt_inj.mp z)
                      have y166 : (2 : Int32).toInt = 2 := by decide
                      have q167 : rg (0) (1) v163 := rg_neH c224_165 rv163 kc_2
                      have uq167 : (0 : Int) ≤ v163.toInt ∧ v163.toInt ≤ 1 := q167
                      refine lv_iconst (v := 0) hx hb dX11_cellCame_237 (by decide) ?_
                      exact k_zret (v := (0 : Int32)) xa L162 hr hlocks (k_nar (rg_w kc_0 rfl)) (by omega) hzl ⟨(mFr.tr (mFr.tr mFr.rf hp152.1 rfl) hp162.1 rfl), rg_w kc_0 rfl, hp162.2.2.1, (fun s => by have h0 := congrArg Int32.toInt (congrFun e386_162 s); have w0 := hsg162 s; have hl := congrArg Int32.toInt (congrFun ((show mFr [] g162 g162 from mFr.rf).at 386 rfl) s); omega), (by omega), trivial⟩ hcs.1 hcs.2 dX11_cellCame_238
                    · skip
                      have ic224_165 := congrArg Int32.toInt c224_165
                      have y168 : (2 : Int32).toInt = 2 := by decide
                      have q169 : rg (2) (2) v163 := (rg_eq c224_165 rv163 kc_2).1
                      have uq169 : (2 : Int) ≤ v163.toInt ∧ v163.toInt ≤ 2 := q169
                      refine lv_aload_n hx hb dX11_cellCame_227 rfl (lv_at hl 7 rfl) ?_
                      refine lv_dup hx hb dX11_cellCame_228 rfl ?_
                      refine c_geti x L162 3 q2 13 109 al162_2 rfl rfl (wk_in kf_X11_182) dX11_cellCame_229 (fun v170 ev170 wv170 => ?_)
                      have rv170 : rg (-2147483648) (2147483647) v170 := rg_any v170
                      have uv170 : (-2147483648 : Int) ≤ v170.toInt ∧ v170.toInt ≤ 2147483647 := rv170
                      refine lv_iconst (v := 1) hx hb dX11_cellCame_232 (by decide) ?_
                      refine lv_iadd hx hb dX11_cellCame_233 ?_
                      refine lv_topi (fun v171 ev171 => ?_)
                      have rv171 : rg (-2147483648) (2147483647) v171 := rg_any v171
                      have uv171 : (-2147483648 : Int) ≤ v171.toInt ∧ v171.toInt ≤ 2147483647 := rv171
                      refine c_puti x L162 3 q2 13 109 al162_2 rfl rfl ⟨rfl, by decide +kernel⟩ (wk_in kf_X11_182) dX11_cellCame_234 (rg_any v171) (fun g172 H172 k172 eg172 L172 => ?_)
                      refine lv_iconst (v := 0) hx hb dX11_cellCame_237 (by decide) ?_
                      exact k_zret (v := (0 : Int32)) xa L172 hr hlocks (k_nar (rg_w kc_0 rfl)) (by omega) hzl ⟨(mFr.upE (mFr.tr (mFr.tr mFr.rf hp152.1 rfl) hp162.1 rfl) eg172 rfl), rg_w kc_0 rfl, (cJ_up hp162.2.2.1 eg172 rfl), (fun s => by have h0 := congrArg Int32.toInt (congrFun e386_162 s); have w0 := hsg162 s; have hl := congrArg Int32.toInt (congrFun ((show mFr [109] g162 g172 from (mFr.upE mFr.rf eg172 rfl)).at 386 rfl) s); omega), (by omega), trivial⟩ hcs.1 hcs.2 dX11_cellCame_238
                  · skip
                    have ic174_158 := congrArg Int32.toInt c174_158
                    have y173 : (0 : Int32).toInt = 0 := by decide
                    exact absurd ((rg_eq c174_158 q147 kc_0).1 : rg (1) (0) v143) (fun q => rg_dead q rfl)
              · skip
                have ic119_145 := congrArg Int32.toInt c119_145
                have y174 : (0 : Int32).toInt = 0 := by decide
                have q175 : rg (0) (0) v143 := (rg_eq c119_145 rv143 kc_0).1
                have uq175 : (0 : Int) ≤ v143.toInt ∧ v143.toInt ≤ 0 := q175
                refine lv_aload_n hx hb dX11_cellCame_122 rfl (lv_at hl 5 rfl) ?_
                have al176 : Z.al 49 0 := hz.2 49 0 (show 0 < 1 from (by omega))
                refine c_getr (a := Z.ad 49 0) x L 11 i0 3 hal0 rfl rfl (wk_in kf_X11_67) dX11_cellCame_123 ?_
                refine lv_iload_n hx hb dX11_cellCame_126 rfl (lv_at hl 6 rfl) ?_
                refine lv_iconst (v := 2) hx hb dX11_cellCame_127 (by decide) ?_
                refine lv_idiv hx hb dX11_cellCame_128 (by decide) ?_
                refine lv_topi (fun v177 ev177 => ?_)
                have rv177 : rg (0) (3) v177 := (rg_div ev177 rp1 kc_2 rfl).1
                have tv177 := (rg_div ev177 rp1 kc_2 rfl).2
                have y178 : (2 : Int32).toInt = 2 := by decide
                have uv177 : (0 : Int) ≤ v177.toInt ∧ v177.toInt ≤ 3 := rv177
                refine c_ldr (a := Z.ad 10 v177.toInt.toNat) x L 49 0 al176 rfl (by omega) (show v177.toInt < ((Z.n : Nat) : Int) from (by omega)) rfl dX11_cellCame_129 ?_
                have al179 : Z.al 10 v177.toInt.toNat := hz.2 10 v177.toInt.toNat (show v177.toInt.toNat < Z.n from (by omega))
                refine lv_iload hx hb dX11_cellCame_130 (lv_at hl 2 rfl) ?_
                refine c_cr (As := [.int v6]) (rest := []) x hml L 10 v177.toInt.toNat al179 rfl (c_kjoined l X g v177.toInt.toNat v6 ⟨by omega, by omega⟩ hJ (show v177.toInt.toNat < Z.n from (by omega))) (wk_V kd_X10_joined kl_X11_185 ki_X10_joined ks_X10_X10_joined kn_X10) rfl ⟨rfl, rfl⟩ hd_kjoined ⟨Nat.le_of_ble_eq_true rfl, Nat.le_of_ble_eq_true rfl⟩ rfl hl.1 rfl (lv_room (Nat.le_of_ble_eq_true rfl)) dX11_cellCame_132 (fun v181 g180 H180 k180 hp180 L180 => ?_) hcs
                have hvv181 := hp180.2.2
                rcases (show v181.toInt < 0 ∨ 0 ≤ v181.toInt from (by omega)) with hc182 | hc182
                · skip
                  refine c_top (show Value.null = va_rf (cOpt Z 1 v181) from (by rw [cOpt_none hc182]; rfl)) ?_
                  refine lv_goto (tgt := 151) hx hb dX11_cellCame_135 (by decide) ?_
                  refine lv_astoreN (lv' := [(7, .null), (6, .int (1 : Int32)), (5, .int v6), (4, .int v4), (3, .int v2), (0, .ref (Z.ad 11 i0)), (1, .int p1), (2, .ref (Z.ad 3 q2))]) hx hb dX11_cellCame_151 hl (by decide) rfl (fun ls hl => ?_)
                  refine lv_aloadN hx hb dX11_cellCame_153 (lv_at hl 0 rfl) ?_
                  refine lv_ifnonnullN hx hb dX11_cellCame_155 ?_
                  refine lv_aload_n hx hb dX11_cellCame_158 rfl (lv_at hl 7 rfl) ?_
                  refine lv_dup hx hb dX11_cellCame_159 rfl ?_
                  refine c_geti x L180 3 q2 12 108 hq2 rfl rfl (wk_in kf_X11_192) dX11_cellCame_160 (fun v183 ev183 wv183 => ?_)
                  have rv183 : rg (-2147483648) (2147483647) v183 := rg_any v183
                  have uv183 : (-2147483648 : Int) ≤ v183.toInt ∧ v183.toInt ≤ 2147483647 := rv183
                  refine lv_iconst (v := 1) hx hb dX11_cellCame_163 (by decide) ?_
                  refine lv_iadd hx hb dX11_cellCame_164 ?_
                  refine lv_topi (fun v184 ev184 => ?_)
                  have rv184 : rg (-2147483648) (2147483647) v184 := rg_any v184
                  have uv184 : (-2147483648 : Int) ≤ v184.toInt ∧ v184.toInt ≤ 2147483647 := rv184
                  refine c_puti x L180 3 q2 12 108 hq2 rfl rfl ⟨rfl, by decide +kernel⟩ (wk_in kf_X11_192) dX11_cellCame_165 (rg_any v184) (fun g185 H185 k185 eg185 L185 => ?_)
                  refine lv_goto (tgt := 237) hx hb dX11_cellCame_168 (by decide) ?_
                  refine lv_iconst (v := 0) hx hb dX11_cellCame_237 (by decide) ?_
                  exact k_zret (v := (0 : Int32)) xa L185 hr hlocks (k_nar (rg_w kc_0 rfl)) (by omega) hzl ⟨(mFr.upE (mFr.tr mFr.rf hp180.1 rfl) eg185 rfl), rg_w kc_0 rfl, (cJ_up hp180.2.1 eg185 rfl), (fun s => by have hl := congrArg Int32.toInt (congrFun ((show mFr [108] g g185 from (mFr.upE (mFr.tr mFr.rf hp180.1 rfl) eg185 rfl)).at 386 rfl) s); omega), (by omega), trivial⟩ hcs.1 hcs.2 dX11_cellCame_238
                · skip
                  refine c_top (show Value.ref (Z.ad 1 v181.toInt.toNat) = va_rf (cOpt Z 1 v181) from (by rw [cOpt_some hc182]; rfl)) ?_
                  have hwv181 := hvv181 hc182
                  refine lv_goto (tgt := 151) hx hb dX11_cellCame_135 (by decide) ?_
                  refine lv_astore (lv' := [(7, .ref (Z.ad 1 v181.toInt.toNat)), (6, .int (1 : Int32)), (5, .int v6), (4, .int v4), (3, .int v2), (0, .ref (Z.ad 11 i0)), (1, .int p1), (2, .ref (Z.ad 3 q2))]) hx hb dX11_cellCame_151 hl (by decide) rfl (fun ls hl => ?_)
                  refine lv_aload hx hb dX11_cellCame_153 (lv_at hl 0 rfl) ?_
                  refine lv_ifnonnull (tgt := 171) hx hb dX11_cellCame_155 (by decide) ?_
                  refine lv_iload_n hx hb dX11_cellCame_171 rfl (lv_at hl 6 rfl) ?_
                  refine lv_iconst (v := 2) hx hb dX11_cellCame_172 (by decide) ?_
                  refine lv_irem hx hb dX11_cellCame_173 (by decide) ?_
                  refine m_top ev143 ?_
                  refine lv_if_ne (tgt := 197) hx hb dX11_cellCame_174 (by decide) (fun c174_186 => ?_) (fun c174_186 => ?_)
                  · skip
                    have ic174_186 : v143.toInt ≠ (0 : Int32).toInt := fun z => c174_186 (Int32.toInt_inj.mp z)
                    have y187 : (0 : Int32).toInt = 0 := by decide
                    exact absurd (rg_neH c174_186 q175 kc_0 : rg (0) (-1) v143) (fun q => rg_dead q rfl)
                  · skip
                    have ic174_186 := congrArg Int32.toInt c174_186
                    have y188 : (0 : Int32).toInt = 0 := by decide
                    refine lv_aload_n hx hb dX11_cellCame_177 rfl (lv_at hl 5 rfl) ?_
                    refine lv_aload hx hb dX11_cellCame_178 (lv_at hl 0 rfl) ?_
                    obtain ⟨v189, ev189⟩ : ∃ y : Int32, y = g180 43 v181.toInt.toNat := ⟨_, rfl⟩
                    rcases (show v189.toInt < 0 ∨ 0 ≤ v189.toInt from (by omega)) with hc190 | hc190
                    · skip
                      have q191 : rg (-2147483648) (-1) v189 := ⟨(rg_any v189).1, by omega⟩
                      refine c_geto (w := .null) x L180 1 v181.toInt.toNat 11 43 hwv181.1 rfl rfl (by show va_rf (cOpt Z 1 (g180 43 v181.toInt.toNat)) = _; rw [← ev189, cOpt_none (by omega)]; rfl) (wk_in kf_X11_195) dX11_cellCame_180 ?_
                      refine lv_iload_n hx hb dX11_cellCame_183 rfl (lv_at hl 4 rfl) ?_
                      refine lv_aload_n hx hb dX11_cellCame_184 rfl (lv_at hl 7 rfl) ?_
                      refine c_getr (a := Z.ad 7 q2) x L180 3 q2 2 hq2 rfl rfl (wk_in kf_X11_119) dX11_cellCame_185 ?_
                      have al195 : Z.al 25 q2 := hz.2 25 q2 (show q2 < 2 * Z.n from (by omega))
                      refine c_getr (a := Z.ad 25 q2) x L180 7 q2 0 al1 rfl rfl (wk_in kf_X11_175) dX11_cellCame_188 ?_
                      refine c_cv (As := [.null, .int v2, .ref (Z.ad 25 q2)]) (rest := []) x hml L180 11 i0 hal0 rfl (c_kpassOn_N l X g180 i0 v2 q2 ⟨by omega, by omega⟩ hal0 al195) (wk_V kd_X11_passOn kl_X11_201 ki_X11_passOn ks_X11_X11_passOn kn_X11) rfl ⟨rfl, rfl⟩ hd_kpassOn_N ⟨Nat.le_of_ble_eq_true rfl, Nat.le_of_ble_eq_true rfl⟩ rfl hl.1 rfl (lv_room (Nat.le_of_ble_eq_true rfl)) dX11_cellCame_191 (fun  g196 H196 k196 hp196 L196 => ?_) hcs
                      refine lv_goto (tgt := 237) hx hb dX11_cellCame_194 (by decide) ?_
                      refine lv_iconst (v := 0) hx hb dX11_cellCame_237 (by decide) ?_
                      exact k_zret (v := (0 : Int32)) xa L196 hr hlocks (k_nar (rg_w kc_0 rfl)) (by omega) hzl ⟨(mFr.tr (mFr.tr mFr.rf hp180.1 rfl) hp196.1 rfl), rg_w kc_0 rfl, (cJ_fr hp180.2.1 hp196.1 rfl), (fun s => by have hl := congrArg Int32.toInt (congrFun ((show mFr [] g g196 from (mFr.tr (mFr.tr mFr.rf hp180.1 rfl) hp196.1 rfl)).at 386 rfl) s); omega), (by omega), trivial⟩ hcs.1 hcs.2 dX11_cellCame_238
                    · skip
                      have q192 : rg (0) (2147483647) v189 := ⟨by omega, (rg_any v189).2⟩
                      have hd193 := (hp180.2.1.2.1 v181.toInt.toNat hwv181.1).2.1
                      rw [← ev189] at hd193
                      have al194 : Z.al 1 v189.toInt.toNat := hd193.resolve_left (by omega)
                      refine c_geto (w := .ref (Z.ad 1 v189.toInt.toNat)) x L180 1 v181.toInt.toNat 11 43 hwv181.1 rfl rfl (by show va_rf (cOpt Z 1 (g180 43 v181.toInt.toNat)) = _; rw [← ev189, cOpt_some (by omega)]; rfl) (wk_in kf_X11_195) dX11_cellCame_180 ?_
                      refine lv_iload_n hx hb dX11_cellCame_183 rfl (lv_at hl 4 rfl) ?_
                      refine lv_aload_n hx hb dX11_cellCame_184 rfl (lv_at hl 7 rfl) ?_
                      refine c_getr (a := Z.ad 7 q2) x L180 3 q2 2 hq2 rfl rfl (wk_in kf_X11_119) dX11_cellCame_185 ?_
                      have al197 : Z.al 25 q2 := hz.2 25 q2 (show q2 < 2 * Z.n from (by omega))
                      refine c_getr (a := Z.ad 25 q2) x L180 7 q2 0 al1 rfl rfl (wk_in kf_X11_175) dX11_cellCame_188 ?_
                      refine c_cv (As := [.ref (Z.ad 1 v189.toInt.toNat), .int v2, .ref (Z.ad 25 q2)]) (rest := []) x hml L180 11 i0 hal0 rfl (c_kpassOn l X g180 i0 v189.toInt.toNat v2 q2 ⟨by omega, by omega⟩ hp180.2.1 hal0 al194 al197) (wk_V kd_X11_passOn kl_X11_201 ki_X11_passOn ks_X11_X11_passOn kn_X11) rfl ⟨rfl, rfl⟩ hd_kpassOn ⟨Nat.le_of_ble_eq_true rfl, Nat.le_of_ble_eq_true rfl⟩ rfl hl.1 rfl (lv_room (Nat.le_of_ble_eq_true rfl)) dX11_cellCame_191 (fun  g198 H198 k198 hp198 L198 => ?_) hcs
                      refine lv_goto (tgt := 237) hx hb dX11_cellCame_194 (by decide) ?_
                      refine lv_iconst (v := 0) hx hb dX11_cellCame_237 (by decide) ?_
                      exact k_zret (v := (0 : Int32)) xa L198 hr hlocks (k_nar (rg_w kc_0 rfl)) (by omega) hzl ⟨(mFr.tr (mFr.tr mFr.rf hp180.1 rfl) hp198.1 rfl), rg_w kc_0 rfl, hp198.2.1, (fun s => by have hl := congrArg Int32.toInt (congrFun ((show mFr [67, 108, 544, 576] g g198 from (mFr.tr (mFr.tr mFr.rf hp180.1 rfl) hp198.1 rfl)).at 386 rfl) s); omega), (by omega), trivial⟩ hcs.1 hcs.2 dX11_cellCame_238
          · skip
            have ic59_138 := congrArg Int32.toInt c59_138
            have y199 : (5 : Int32).toInt = 5 := by decide
            have q200 : rg (5) (5) v6 := (rg_eq c59_138 q134 kc_5).1
            have uq200 : (5 : Int) ≤ v6.toInt ∧ v6.toInt ≤ 5 := q200
            refine lv_aload_n hx hb dX11_cellCame_62 rfl (lv_at hl 6 rfl) ?_
            have al201 : Z.al 0 q2 := hz.2 0 q2 (show q2 < 2 * Z.n from (by omega))
            refine c_getr (a := Z.ad 0 q2) x L 3 q2 3 hq2 rfl rfl (wk_in kf_X11_140) dX11_cellCame_63 ?_
            refine lv_aload_n hx hb dX11_cellCame_66 rfl (lv_at hl 6 rfl) ?_
            refine c_getr (a := Z.ad 7 q2) x L 3 q2 2 hq2 rfl rfl (wk_in kf_X11_119) dX11_cellCame_67 ?_
            have al202 : Z.al 25 q2 := hz.2 25 q2 (show q2 < 2 * Z.n from (by omega))
            refine c_getr (a := Z.ad 25 q2) x L 7 q2 0 al1 rfl rfl (wk_in kf_X11_175) dX11_cellCame_70 ?_
            refine lv_iload hx hb dX11_cellCame_73 (lv_at hl 0 rfl) ?_
            refine c_ci (As := [.ref (Z.ad 25 q2), .int (1 : Int32)]) (rest := []) x hml L 0 q2 al201 rfl (c_kasmAdd l X g q2 q2 (1 : Int32) ⟨by omega, by omega⟩ al201 (hz.2 16 q2 (show q2 < 2 * Z.n from (by omega))) al202 (rg_w kc_1 rfl)) (wk_V kd_X0_add kl_X11_178 ki_X0_add ks_X0_X0_add kn_X0) rfl ⟨rfl, rfl⟩ hd_kasmAdd ⟨Nat.le_of_ble_eq_true rfl, Nat.le_of_ble_eq_true rfl⟩ rfl hl.1 rfl (lv_room (Nat.le_of_ble_eq_true rfl)) dX11_cellCame_75 (fun v204 g203 H203 k203 hp203 L203 => ?_) hcs
            have rv204 : rg (0) (2) v204 := hp203.2.1
            have uv204 : (0 : Int) ≤ v204.toInt ∧ v204.toInt ≤ 2 := rv204
            have hw205 := hp203.2.2
            refine lv_istore (lv' := [(7, .int v204), (6, .int (1 : Int32)), (5, .int v6), (4, .int v4), (3, .int v2), (0, .ref (Z.ad 11 i0)), (1, .int p1), (2, .ref (Z.ad 3 q2))]) hx hb dX11_cellCame_78 hl (by decide) rfl (fun ls hl => ?_)
            refine lv_iload hx hb dX11_cellCame_80 (lv_at hl 0 rfl) ?_
            refine lv_iconst (v := 2) hx hb dX11_cellCame_82 (by decide) ?_
            refine lv_icmp_ne (tgt := 96) hx hb dX11_cellCame_83 (by decide) (fun c83_206 => ?_) (fun c83_206 => ?_)
            · skip
              have ic83_206 : v204.toInt ≠ (2 : Int32).toInt := fun z => c83_206 (Int32.toInt_inj.mp z)
              have y207 : (2 : Int32).toInt = 2 := by decide
              have q208 : rg (0) (1) v204 := rg_neH c83_206 rv204 kc_2
              have uq208 : (0 : Int) ≤ v204.toInt ∧ v204.toInt ≤ 1 := q208
              refine lv_iload hx hb dX11_cellCame_96 (lv_at hl 0 rfl) ?_
              refine lv_iconst (v := 1) hx hb dX11_cellCame_98 (by decide) ?_
              refine lv_icmp_ne (tgt := 106) hx hb dX11_cellCame_99 (by decide) (fun c99_209 => ?_) (fun c99_209 => ?_)
              · skip
                have ic99_209 : v204.toInt ≠ (1 : Int32).toInt := fun z => c99_209 (Int32.toInt_inj.mp z)
                have y210 : (1 : Int32).toInt = 1 := by decide
                have q211 : rg (0) (0) v204 := rg_neH c99_209 q208 kc_1
                have uq211 : (0 : Int) ≤ v204.toInt ∧ v204.toInt ≤ 0 := q211
                refine lv_iconst (v := 0) hx hb dX11_cellCame_106 (by decide) ?_
                exact k_zret (v := (0 : Int32)) xa L203 hr hlocks (k_nar (rg_w kc_0 rfl)) (by omega) hzl ⟨(mFr.tr mFr.rf hp203.1 rfl), rg_w kc_0 rfl, (cJ_fr hJ hp203.1 rfl), (fun s => by have hl := congrArg Int32.toInt (congrFun ((show mFr [1, 2, 512] g g203 from (mFr.tr mFr.rf hp203.1 rfl)).at 386 rfl) s); omega), (by omega), trivial⟩ hcs.1 hcs.2 dX11_cellCame_107
              · skip
                have ic99_209 := congrArg Int32.toInt c99_209
                have y212 : (1 : Int32).toInt = 1 := by decide
                have q213 : rg (1) (1) v204 := (rg_eq c99_209 q208 kc_1).1
                have uq213 : (1 : Int) ≤ v204.toInt ∧ v204.toInt ≤ 1 := q213
                refine lv_iconst (v := 1) hx hb dX11_cellCame_102 (by decide) ?_
                refine lv_goto (tgt := 107) hx hb dX11_cellCame_103 (by decide) ?_
                exact k_zret (v := (1 : Int32)) xa L203 hr hlocks (k_nar (rg_w kc_1 rfl)) (by omega) hzl ⟨(mFr.tr mFr.rf hp203.1 rfl), rg_w kc_1 rfl, (cJ_fr hJ hp203.1 rfl), (fun s => by have hl := congrArg Int32.toInt (congrFun ((show mFr [1, 2, 512] g g203 from (mFr.tr mFr.rf hp203.1 rfl)).at 386 rfl) s); omega), (by omega), trivial⟩ hcs.1 hcs.2 dX11_cellCame_107
            · skip
              have ic83_206 := congrArg Int32.toInt c83_206
              have y214 : (2 : Int32).toInt = 2 := by decide
              have q215 : rg (2) (2) v204 := (rg_eq c83_206 rv204 kc_2).1
              have uq215 : (2 : Int) ≤ v204.toInt ∧ v204.toInt ≤ 2 := q215
              refine lv_aload_n hx hb dX11_cellCame_86 rfl (lv_at hl 7 rfl) ?_
              refine lv_dup hx hb dX11_cellCame_87 rfl ?_
              refine c_geti x L203 3 q2 13 109 hq2 rfl rfl (wk_in kf_X11_182) dX11_cellCame_88 (fun v216 ev216 wv216 => ?_)
              have rv216 : rg (-2147483648) (2147483647) v216 := rg_any v216
              have uv216 : (-2147483648 : Int) ≤ v216.toInt ∧ v216.toInt ≤ 2147483647 := rv216
              refine lv_iconst (v := 1) hx hb dX11_cellCame_91 (by decide) ?_
              refine lv_iadd hx hb dX11_cellCame_92 ?_
              refine lv_topi (fun v217 ev217 => ?_)
              have rv217 : rg (-2147483648) (2147483647) v217 := rg_any v217
              have uv217 : (-2147483648 : Int) ≤ v217.toInt ∧ v217.toInt ≤ 2147483647 := rv217
              refine c_puti x L203 3 q2 13 109 hq2 rfl rfl ⟨rfl, by decide +kernel⟩ (wk_in kf_X11_182) dX11_cellCame_93 (rg_any v217) (fun g218 H218 k218 eg218 L218 => ?_)
              refine lv_iload hx hb dX11_cellCame_96 (lv_at hl 0 rfl) ?_
              refine lv_iconst (v := 1) hx hb dX11_cellCame_98 (by decide) ?_
              refine lv_icmp_ne (tgt := 106) hx hb dX11_cellCame_99 (by decide) (fun c99_219 => ?_) (fun c99_219 => ?_)
              · skip
                have ic99_219 : v204.toInt ≠ (1 : Int32).toInt := fun z => c99_219 (Int32.toInt_inj.mp z)
                have y220 : (1 : Int32).toInt = 1 := by decide
                refine lv_iconst (v := 0) hx hb dX11_cellCame_106 (by decide) ?_
                exact k_zret (v := (0 : Int32)) xa L218 hr hlocks (k_nar (rg_w kc_0 rfl)) (by omega) hzl ⟨(mFr.upE (mFr.tr mFr.rf hp203.1 rfl) eg218 rfl), rg_w kc_0 rfl, (cJ_up (cJ_fr hJ hp203.1 rfl) eg218 rfl), (fun s => by have hl := congrArg Int32.toInt (congrFun ((show mFr [1, 2, 109, 512] g g218 from (mFr.upE (mFr.tr mFr.rf hp203.1 rfl) eg218 rfl)).at 386 rfl) s); omega), (by omega), trivial⟩ hcs.1 hcs.2 dX11_cellCame_107
              · skip
                have ic99_219 := congrArg Int32.toInt c99_219
                have y221 : (1 : Int32).toInt = 1 := by decide
                exact absurd ((rg_eq c99_219 q215 kc_1).1 : rg (2) (1) v204) (fun q => rg_dead q rfl)
      · skip
        have ic46_132 := congrArg Int32.toInt c46_132
        have y222 : (0 : Int32).toInt = 0 := by decide
        have q223 : rg (0) (0) v6 := (rg_eq c46_132 rv6 kc_0).1
        have uq223 : (0 : Int) ≤ v6.toInt ∧ v6.toInt ≤ 0 := q223
        refine lv_iconst (v := 0) hx hb dX11_cellCame_49 (by decide) ?_
        exact k_zret (v := (0 : Int32)) xa L hr hlocks (k_nar (rg_w kc_0 rfl)) (by omega) hzl ⟨mFr.rf, rg_w kc_0 rfl, hJ, (fun s => by have hl := congrArg Int32.toInt (congrFun ((show mFr [] g g from mFr.rf).at 386 rfl) s); omega), (by omega), trivial⟩ hcs.1 hcs.2 dX11_cellCame_50
