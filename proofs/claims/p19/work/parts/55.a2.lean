def rm_kedataCame (ms : Nat) : Room := { frames := 3, cells := 2, slots := 243 + 0 * ms, locals := 71 }
theorem hd_kedataCame : yX4_dataCame.cls = cRn 4 ∧ yX4_dataCame.cls ≠ "java/lang/invoke/MethodHandle" ∧ yX4_dataCame.cls ≠ "java/lang/invoke/VarHandle" ∧ (parseMethodDescriptor yX4_dataCame.desc).map (fun d => d.parameters.length) = some 4 := by decide +kernel
set_option maxHeartbeats 4000000 in
set_option maxRecDepth 100000 in
theorem c_kedataCame (l : Launch) {G : cG} {Z : cZ} (X : Int) (g : mSt) (i0 : Nat) (q1 : Nat) (q2 : Nat) (p3 : Int32) (p4 : Int32) (sz ms : Nat) (hX : 0 ≤ X ∧ (X + 1) ≤ 2000000000) (hJ : cJ Z g) (hMz : cMz ms 0 Z g) (hw2 : Z.w 2 + 0 ≤ 1000000) (hi0 : i0 < Z.n) (hq1 : Z.al 1 q1) (hq2 : Z.al 25 q2) (rp3 : rg (0) (1) p3) : Met l yX4_dataCame (wk (Cond.code yX4_dataCame cX4_dataCame 8 (some .int))) (rm_kedataCame ms) (va_Pc [.ref (Z.ad 4 i0), .ref (Z.ad 1 q1), .ref (Z.ad 25 q2), .int p3, .int p4] (cPreA G Z X g sz)) (kE 2 (243 + 0 * ms) (cAf Z sz) (cQiA G Z (X + 1) (fun r Z1 g1 => mFr [0, 1, 2, 46, 136, 512, 960, 992, 1024, 1056] g g1 ∧ rg (0) (2) r ∧ cJ Z1 g1 ∧ (∀ s, (g 386 s).toInt ≤ (g1 386 s).toInt ∧ (g1 386 s).toInt ≤ (g 386 s).toInt + 0) ∧ Z1.w 2 ≤ Z.w 2 + 0 ∧ True))) 2 (243 + 0 * ms) (cAf Z sz) := by
  refine Met.ofW (cc := cX4_dataCame) (maxL := 8) (ret := (some .int)) (by decide) rfl ?_
  intro p e s m args below meth c s₁ B hml hv
  obtain ⟨hav, hv⟩ := hv
  have hsz0 := hv.2.1
  subst hsz0
  have hr := B.returns
  have hlocks := B.notSynchronized
  obtain ⟨xa, L⟩ := k_start B rfl (fun w h => wk_in h) hv
  have hent : entryFrame m args 8 = entryFrame m ([.ref (Z.ad 4 i0), .ref (Z.ad 1 q1), .ref (Z.ad 25 q2), .int p3, .int p4] : List Value).toArray 8 := by rw [hav]
  rw [hent]
  have hl := lv_entry ([.ref (Z.ad 4 i0), .ref (Z.ad 1 q1), .ref (Z.ad 25 q2), .int p3, .int p4]) (n := 8) (Nat.le_of_ble_eq_true rfl)
  rw [lg_entry_eq]
  generalize (lg_sl ([.ref (Z.ad 4 i0), .ref (Z.ad 1 q1), .ref (Z.ad 25 q2), .int p3, .int p4]) ++ List.replicate (8 - (lg_sl ([.ref (Z.ad 4 i0), .ref (Z.ad 1 q1), .ref (Z.ad 25 q2), .int p3, .int p4])).length) Slot.unset).toArray = ls at hl ⊢
  have hl : lv_has ls 8 [(0, .ref (Z.ad 4 i0)), (1, .ref (Z.ad 1 q1)), (2, .ref (Z.ad 25 q2)), (3, .int p3), (4, .int p4)] := hl
  have x := xa.1
  have hx := x.1
  have hb := x.2.1
  have hz := x.2.2.2.2.2.2.2.1
  have hzn := hz.1
  have hzl : cZl Z Z 0 0 := cZl.rf
  have hcs : 0 ≤ 2 ∧ 0 ≤ 243 + 0 * ms := ⟨Nat.zero_le _, Nat.zero_le _⟩
  have hal0 : Z.al 4 i0 := hz.2 4 i0 (show i0 < Z.n from hi0)
  have up3 : (0 : Int) ≤ p3.toInt ∧ p3.toInt ≤ 1 := rp3
  have up4 : (-2147483648 : Int) ≤ p4.toInt ∧ p4.toInt ≤ 2147483647 := (rg_any p4)
  refine lv_aload_n hx hb dX4_dataCame_0 rfl (lv_at hl 1 rfl) ?_
  have e386_1 := ((show mFr [] g g from mFr.rf).at 386 rfl)
  have hMz1 := cMz.eq hMz e386_1 (show 0 ≤ 0 by decide)
  refine k_callr xa L (k_runV (As := []) (rest := []) ⟨hx, hb, hml, x.2.2.2.2.1, x.2.2.1⟩ (c_kassembler l X g q1 _ ms ⟨by omega, by omega⟩ hJ hMz1 (by omega) hq1) (cwV 0 x.2.2.1 (wk_V kd_X1_assembler kl_X4_156 ki_X1_assembler ks_X1_X1_assembler kn_X1) rfl rfl rfl hd_kassembler ⟨Nat.le_of_ble_eq_true rfl, Nat.le_of_ble_eq_true rfl⟩) ⟨cPreA.blind, c_recv x L hq1 rfl, fun U hU hW => k_pre xa L U hU hW⟩ rfl rfl hl.1 rfl (lv_room (Nat.le_of_ble_eq_true rfl)) dX4_dataCame_1 ⟨show 0 + 2 ≤ 2 by omega, show 0 + (243 + 0 * ms) ≤ 243 + 0 * ms by omega⟩) (fun v2 Z g1 H1 k1 kc1 kn1 hk1 hn1 hp1 hz1 xa L1 => ?_)
  have hsg1 := hp1.2.2.1
  have hww1 := hp1.2.2.2.1
  have ea1_0 := hz1.2.2.1 4 i0 hal0 (by omega)
  have ea1_1 := hz1.2.2.1 1 q1 hq1 (by omega)
  have ea1_2 := hz1.2.2.1 25 q2 hq2 (by omega)
  rw [← ea1_0] at hl
  rw [← ea1_1] at hl
  rw [← ea1_2] at hl
  have al1_0 := hz1.2.1 4 i0 hal0
  have al1_1 := hz1.2.1 1 q1 hq1
  have al1_2 := hz1.2.1 25 q2 hq2
  have hZn1 := hz1.1
  have x := xa.1
  have hz := x.2.2.2.2.2.2.2.1
  have hzn := hz.1
  obtain ⟨er1, aa1, ab1⟩ := hp1.2.2.2.2
  subst er1
  have hMy3 := (cMz.fr (a := 0) (b := 0) (show cMz ms (0 + 0) _ _ from cMz.eq hMz e386_1 (show 0 + 0 ≤ 0 by decide)) hz1.1 (fun s => (hsg1 s).2))
  have hzl := cZl.tr hzl hz1
  have hcs : 0 + kc1 ≤ 2 ∧ 0 + kn1 ≤ 243 + 0 * ms := by omega
  refine lv_astore (lv' := [(5, .ref (Z.ad 0 (8 + q1))), (0, .ref (Z.ad 4 i0)), (1, .ref (Z.ad 1 q1)), (2, .ref (Z.ad 25 q2)), (3, .int p3), (4, .int p4)]) hx hb dX4_dataCame_4 hl (by decide) rfl (fun ls hl => ?_)
  refine lv_aload hx hb dX4_dataCame_6 (lv_at hl 0 rfl) ?_
  refine lv_aload_n hx hb dX4_dataCame_8 rfl (lv_at hl 3 rfl) ?_
  refine lv_iload_n hx hb dX4_dataCame_9 rfl (lv_at hl 4 rfl) ?_
  refine c_ci (As := [.ref (Z.ad 25 q2), .int p3]) (rest := []) x hml L1 0 (8 + q1) aa1 rfl (c_kasmAdd l X g1 (8 + q1) q2 p3 ⟨by omega, by omega⟩ aa1 ab1 al1_2 (rg_w rp3 rfl)) (wk_V kd_X0_add kl_X4_160 ki_X0_add ks_X0_X0_add kn_X0) rfl ⟨rfl, rfl⟩ hd_kasmAdd ⟨Nat.le_of_ble_eq_true rfl, Nat.le_of_ble_eq_true rfl⟩ rfl hl.1 rfl (lv_room (Nat.le_of_ble_eq_true rfl)) dX4_dataCame_10 (fun v5 g4 H4 k4 hp4 L4 => ?_) hcs
  have rv5 : rg (0) (2) v5 := hp4.2.1
  have uv5 : (0 : Int) ≤ v5.toInt ∧ v5.toInt ≤ 2 := rv5
  have hw6 := hp4.2.2
  refine lv_istore (lv' := [(6, .int v5), (5, .ref (Z.ad 0 (8 + q1))), (0, .ref (Z.ad 4 i0)), (1, .ref (Z.ad 1 q1)), (2, .ref (Z.ad 25 q2)), (3, .int p3), (4, .int p4)]) hx hb dX4_dataCame_13 hl (by decide) rfl (fun ls hl => ?_)
  refine lv_iload hx hb dX4_dataCame_15 (lv_at hl 0 rfl) ?_
  refine lv_iconst (v := 1) hx hb dX4_dataCame_17 (by decide) ?_
  refine lv_icmp_ne (tgt := 96) hx hb dX4_dataCame_18 (by decide) (fun c18_7 => ?_) (fun c18_7 => ?_)
  · skip
    have ic18_7 : v5.toInt ≠ (1 : Int32).toInt := fun z => c18_7 (Int32.toInt_inj.mp z)
    have y8 : (1 : Int32).toInt = 1 := by decide
    refine lv_iload hx hb dX4_dataCame_96 (lv_at hl 0 rfl) ?_
    exact k_iret (v := v5) xa L4 hr hlocks (by omega) hzl ⟨(mFr.tr (mFr.tr mFr.rf hp1.1 rfl) hp4.1 rfl), rg_w rv5 rfl, (cJ_fr hp1.2.1 hp4.1 rfl), (fun s => by have h0 := congrArg Int32.toInt (congrFun e386_1 s); have w0 := hsg1 s; have hl := congrArg Int32.toInt (congrFun ((show mFr [1, 2, 512] g1 g4 from (mFr.tr mFr.rf hp4.1 rfl)).at 386 rfl) s); omega), (by omega), trivial⟩ hcs.1 hcs.2 dX4_dataCame_98
  · skip
    have ic18_7 := congrArg Int32.toInt c18_7
    have y9 : (1 : Int32).toInt = 1 := by decide
    have q10 : rg (1) (1) v5 := (rg_eq c18_7 rv5 kc_1).1
    have uq10 : (1 : Int) ≤ v5.toInt ∧ v5.toInt ≤ 1 := q10
    refine lv_aload_n hx hb dX4_dataCame_21 rfl (lv_at hl 2 rfl) ?_
    refine c_geti x L4 4 i0 8 136 al1_0 rfl rfl (wk_in kf_X4_165) dX4_dataCame_22 (fun v11 ev11 wv11 => ?_)
    have rv11 : rg 0 2000000000 v11 := rg_X ⟨by omega, by omega⟩ (clj_136 wv11)
    have uv11 : (0 : Int) ≤ v11.toInt ∧ v11.toInt ≤ 2000000000 := rv11
    refine lv_bipush (v := 20) hx hb dX4_dataCame_25 (by decide) ?_
    refine lv_irem hx hb dX4_dataCame_27 (by decide) ?_
    refine lv_topi (fun v12 ev12 => ?_)
    have rv12 : rg (0) (19) v12 := (rg_rem ev12 rv11 kc_20 rfl).1
    have tv12 := (rg_rem ev12 rv11 kc_20 rfl).2
    have y13 : (20 : Int32).toInt = 20 := by decide
    have uv12 : (0 : Int) ≤ v12.toInt ∧ v12.toInt ≤ 19 := rv12
    refine lv_istore (lv' := [(7, .int v12), (6, .int v5), (5, .ref (Z.ad 0 (8 + q1))), (0, .ref (Z.ad 4 i0)), (1, .ref (Z.ad 1 q1)), (2, .ref (Z.ad 25 q2)), (3, .int p3), (4, .int p4)]) hx hb dX4_dataCame_28 hl (by decide) rfl (fun ls hl => ?_)
    refine lv_aload hx hb dX4_dataCame_30 (lv_at hl 2 rfl) ?_
    refine c_getr (a := Z.ad 16 (8 + q1)) x L4 0 (8 + q1) 0 aa1 rfl rfl (wk_in kf_X4_168) dX4_dataCame_32 ?_
    refine lv_iconst (v := 0) hx hb dX4_dataCame_35 (by decide) ?_
    refine lv_aload_n hx hb dX4_dataCame_36 rfl (lv_at hl 3 rfl) ?_
    have al14 : Z.al 30 i0 := hz.2 30 i0 (show i0 < Z.n from (by omega))
    refine c_getr (a := Z.ad 30 i0) x L4 4 i0 9 al1_0 rfl rfl (wk_in kf_X4_24) dX4_dataCame_37 ?_
    refine lv_iload hx hb dX4_dataCame_40 (lv_at hl 0 rfl) ?_
    refine lv_sipush (v := 200) hx hb dX4_dataCame_42 (by decide) ?_
    refine lv_imul hx hb dX4_dataCame_45 ?_
    refine lv_topi (fun v15 ev15 => ?_)
    have rv15 : rg (0) (3800) v15 := (rg_mul ev15 rv12 kc_200 rfl).1
    have tv15 := (rg_mul ev15 rv12 kc_200 rfl).2
    have y16 : (200 : Int32).toInt = 200 := by decide
    have uv15 : (0 : Int) ≤ v15.toInt ∧ v15.toInt ≤ 3800 := rv15
    refine lv_aload hx hb dX4_dataCame_46 (lv_at hl 2 rfl) ?_
    refine c_geti x L4 0 (8 + q1) 2 2 aa1 rfl rfl (wk_in kf_X4_171) dX4_dataCame_48 (fun v17 ev17 wv17 => ?_)
    have rv17 : rg (-2147483648) (2147483647) v17 := rg_any v17
    have rrv17 : rg (1) (200) v17 := (by have hh := hw6 (by omega); rw [ev17]; exact ⟨hh.1, hh.2⟩)
    have uv17 : (1 : Int) ≤ v17.toInt ∧ v17.toInt ≤ 200 := rrv17
    refine c_copy (rest := []) x (hml.trans hl.1.symm) L4 16 (8 + q1) 30 i0 512 960 ab1 al14 rfl rfl rfl rfl ⟨rfl, rfl⟩ kl_X4_174 kw_cp (Int.le_trans (by decide) kc_0.1) (Int.le_trans (by decide) rv15.1) (Int.le_trans (by decide) rrv17.1) (Int.le_trans (Int.add_le_add kc_0.2 rrv17.2) (by decide)) (Int.le_trans (Int.add_le_add rv15.2 rrv17.2) (by decide)) (Nat.le_of_ble_eq_true rfl) (Nat.le_of_ble_eq_true rfl) dX4_dataCame_51 (fun g18 H18 k18 ec18 L18 => ?_)
    refine lv_aload_n hx hb dX4_dataCame_54 rfl (lv_at hl 3 rfl) ?_
    have al19 : Z.al 31 i0 := hz.2 31 i0 (show i0 < Z.n from (by omega))
    refine c_getr (a := Z.ad 31 i0) x L18 4 i0 10 al1_0 rfl rfl (wk_in kf_X4_28) dX4_dataCame_55 ?_
    refine lv_iload hx hb dX4_dataCame_58 (lv_at hl 0 rfl) ?_
    refine lv_aload hx hb dX4_dataCame_60 (lv_at hl 2 rfl) ?_
    refine c_geti x L18 0 (8 + q1) 2 2 aa1 rfl rfl (wk_in kf_X4_171) dX4_dataCame_62 (fun v20 ev20 wv20 => ?_)
    refine m_top (((mm_fr ev17 (cCpy_fr ec18) rfl)).trans ev20.symm) ?_
    refine c_st x L18 31 i0 992 al19 rfl rfl rv12 rfl (crj_992 (rg_w rrv17 rfl)) dX4_dataCame_65 (fun g21 H21 k21 eg21 L21 => ?_)
    refine lv_aload_n hx hb dX4_dataCame_66 rfl (lv_at hl 3 rfl) ?_
    have al22 : Z.al 32 i0 := hz.2 32 i0 (show i0 < Z.n from (by omega))
    refine c_getr (a := Z.ad 32 i0) x L21 4 i0 11 al1_0 rfl rfl (wk_in kf_X4_31) dX4_dataCame_67 ?_
    refine lv_iload hx hb dX4_dataCame_70 (lv_at hl 0 rfl) ?_
    refine lv_aload_n hx hb dX4_dataCame_72 rfl (lv_at hl 4 rfl) ?_
    refine c_geti x L21 1 q1 3 35 al1_1 rfl rfl (wk_in kf_X4_44) dX4_dataCame_73 (fun v23 ev23 wv23 => ?_)
    have rv23 : rg (-2147483648) (2147483647) v23 := rg_any v23
    have uv23 : (-2147483648 : Int) ≤ v23.toInt ∧ v23.toInt ≤ 2147483647 := rv23
    have sv23 : v23.toInt = (g 35 q1).toInt := congrArg Int32.toInt (ev23.trans (congrFun ((show mFr [0, 1, 2, 46, 136, 512, 960, 992, 1024, 1056] g g21 from (mFr.upE (mFr.tr (mFr.tr (mFr.tr mFr.rf hp1.1 rfl) hp4.1 rfl) (cCpy_fr ec18) rfl) eg21 rfl)).at 35 rfl) _))
    refine c_st x L21 32 i0 1024 al22 rfl rfl rv12 rfl (rg_any v23) dX4_dataCame_76 (fun g24 H24 k24 eg24 L24 => ?_)
    refine lv_aload_n hx hb dX4_dataCame_77 rfl (lv_at hl 3 rfl) ?_
    have al25 : Z.al 33 i0 := hz.2 33 i0 (show i0 < Z.n from (by omega))
    refine c_getr (a := Z.ad 33 i0) x L24 4 i0 12 al1_0 rfl rfl (wk_in kf_X4_34) dX4_dataCame_78 ?_
    refine lv_iload hx hb dX4_dataCame_81 (lv_at hl 0 rfl) ?_
    refine lv_iload hx hb dX4_dataCame_83 (lv_at hl 7 rfl) ?_
    refine c_st x L24 33 i0 1056 al25 rfl rfl rv12 rfl (rg_any p4) dX4_dataCame_85 (fun g26 H26 k26 eg26 L26 => ?_)
    refine lv_aload_n hx hb dX4_dataCame_86 rfl (lv_at hl 3 rfl) ?_
    refine lv_dup hx hb dX4_dataCame_87 rfl ?_
    refine c_geti x L26 4 i0 8 136 al1_0 rfl rfl (wk_in kf_X4_165) dX4_dataCame_88 (fun v27 ev27 wv27 => ?_)
    refine m_top (((mm_up (mm_up (mm_up (mm_fr ev11 (cCpy_fr ec18) rfl) eg21 rfl) eg24 rfl) eg26 rfl)).trans ev27.symm) ?_
    refine lv_iconst (v := 1) hx hb dX4_dataCame_91 (by decide) ?_
    refine lv_iadd hx hb dX4_dataCame_92 ?_
    refine lv_topi (fun v28 ev28 => ?_)
    have rv28 : rg (1) (2000000001) v28 := (rg_add ev28 rv11 kc_1 rfl).1
    have tv28 := (rg_add ev28 rv11 kc_1 rfl).2
    have y29 : (1 : Int32).toInt = 1 := by decide
    have uv28 : (1 : Int) ≤ v28.toInt ∧ v28.toInt ≤ 2000000001 := rv28
    have L30 := cL.mono L26 (show X ≤ X + 1 by omega)
    refine c_puti x L30 4 i0 8 136 al1_0 rfl rfl ⟨rfl, by decide +kernel⟩ (wk_in kf_X4_165) dX4_dataCame_93 (crj_136 (rg_inc ev28 (clj_136 wv11) (by omega) (by omega))) (fun g31 H31 k31 eg31 L31 => ?_)
    refine lv_iload hx hb dX4_dataCame_96 (lv_at hl 1 rfl) ?_
    exact k_iret (v := v5) xa L31 hr hlocks (by omega) hzl ⟨(mFr.upE (mFr.upE (mFr.upE (mFr.upE (mFr.tr (mFr.tr (mFr.tr mFr.rf hp1.1 rfl) hp4.1 rfl) (cCpy_fr ec18) rfl) eg21 rfl) eg24 rfl) eg26 rfl) eg31 rfl), rg_w q10 rfl, (cJ_up (cJ_up (cJ_up (cJ_up (cJ_fr (cJ_fr hp1.2.1 hp4.1 rfl) (cCpy_fr ec18) rfl) eg21 rfl) eg24 rfl) eg26 rfl) eg31 rfl), (fun s => by have h0 := congrArg Int32.toInt (congrFun e386_1 s); have w0 := hsg1 s; have hl := congrArg Int32.toInt (congrFun ((show mFr [1, 2, 136, 512, 960, 992, 1024, 1056] g1 g31 from (mFr.upE (mFr.upE (mFr.upE (mFr.upE (mFr.tr (mFr.tr mFr.rf hp4.1 rfl) (cCpy_fr ec18) rfl) eg21 rfl) eg24 rfl) eg26 rfl) eg31 rfl)).at 386 rfl) s); omega), (by omega), trivial⟩ hcs.1 hcs.2 dX4_dataCame_98
