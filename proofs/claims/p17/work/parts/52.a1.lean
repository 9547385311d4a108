def rm_klset (ms : Nat) : Room := { frames := 2, cells := 0, slots := 0 + 0 * ms, locals := 43 }
theorem hd_klset : yJx4a65c_set_bcc79.cls = cRn 12 ∧ yJx4a65c_set_bcc79.cls ≠ "java/lang/invoke/MethodHandle" ∧ yJx4a65c_set_bcc79.cls ≠ "java/lang/invoke/VarHandle" ∧ (parseMethodDescriptor yJx4a65c_set_bcc79.desc).map (fun d => d.parameters.length) = some 2 := by decide +kernel
set_option maxHeartbeats 4000000 in
set_option maxRecDepth 100000 in
theorem c_klset (l : Launch) {G : cG} {Z : cZ} (X : Int) (g : mSt) (i0 : Nat) (p1 : Int32) (p2 : Int32) (sz ms : Nat) (hX : 0 ≤ X ∧ X ≤ 2000000000) (hJ : cJ Z g) (hMz : cMz ms 0 Z g) (hw2 : Z.w 2 + 0 ≤ 1000000) (hi0 : i0 < 2 * Z.n) (hc2 : 0 ≤ p2.toInt) (hq2 : Z.al 1 p2.toInt.toNat) (hlt : 0 ≤ p1.toInt ∧ p1.toInt < (g 386 i0).toInt) (hsd : (g 32 p2.toInt.toNat).toInt = (i0 : Int)) : Met l yJx4a65c_set_bcc79 (wk (Cond.code yJx4a65c_set_bcc79 cJx4a65c_set_bcc79 4 (some (.object "java/lang/Object")))) (rm_klset ms) (va_Pc [.ref (Z.ad 12 i0), .int p1, .ref (Z.ad 1 p2.toInt.toNat)] (cPreA G Z X g sz)) (kE 0 (0 + 0 * ms) (cAf Z sz) (cQrA G Z X (fun r Z1 g1 => mFr [1728] g g1 ∧ cJ Z1 g1 ∧ (∀ s, (g 386 s).toInt ≤ (g1 386 s).toInt ∧ (g1 386 s).toInt ≤ (g 386 s).toInt + 0) ∧ Z1.w 2 ≤ Z.w 2 + 0 ∧ True))) 0 (0 + 0 * ms) (cAf Z sz) := by
  refine Met.ofW (cc := cJx4a65c_set_bcc79) (maxL := 4) (ret := (some (.object "java/lang/Object"))) (by decide) rfl ?_
  intro p e s m args below meth c s₁ B hml hv
  obtain ⟨hav, hv⟩ := hv
  have hsz0 := hv.2.1
  subst hsz0
  have hr := B.returns
  have hlocks := B.notSynchronized
  obtain ⟨xa, L⟩ := k_start B rfl (fun w h => wk_in h) hv
  have hent : entryFrame m args 4 = entryFrame m ([.ref (Z.ad 12 i0), .int p1, .ref (Z.ad 1 p2.toInt.toNat)] : List Value).toArray 4 := by rw [hav]
  rw [hent]
  have hl := lv_entry ([.ref (Z.ad 12 i0), .int p1, .ref (Z.ad 1 p2.toInt.toNat)]) (n := 4) (Nat.le_of_ble_eq_true rfl)
  rw [lg_entry_eq]
  generalize (lg_sl ([.ref (Z.ad 12 i0), .int p1, .ref (Z.ad 1 p2.toInt.toNat)]) ++ List.replicate (4 - (lg_sl ([.ref (Z.ad 12 i0), .int p1, .ref (Z.ad 1 p2.toInt.toNat)])).length) Slot.unset).toArray = ls at hl ⊢
  have hl : lv_has ls 4 [(0, .ref (Z.ad 12 i0)), (1, .int p1), (2, .ref (Z.ad 1 p2.toInt.toNat))] := hl
  have x := xa.1
  have hx := x.1
  have hb := x.2.1
  have hz := x.2.2.2.2.2.2.2.1
  have hzn := hz.1
  have hzl : cZl Z Z 0 0 := cZl.rf
  have hcs : 0 ≤ 0 ∧ 0 ≤ 0 + 0 * ms := ⟨Nat.zero_le _, Nat.zero_le _⟩
  have hal0 : Z.al 12 i0 := hz.2 12 i0 (show i0 < 2 * Z.n from hi0)
  have up1 : (-2147483648 : Int) ≤ p1.toInt ∧ p1.toInt ≤ 2147483647 := (rg_any p1)
  refine lv_iload_n hx hb dJx4a65c_set_bcc79_0 rfl (lv_at hl 1 rfl) ?_
  refine lv_aload_n hx hb dJx4a65c_set_bcc79_1 rfl (lv_at hl 0 rfl) ?_
  refine c_geti x L 12 i0 2 386 hal0 rfl rfl (wk_in kf_Jx4a65c_48) dJx4a65c_set_bcc79_2 (fun v1 ev1 wv1 => ?_)
  have rv1 : rg (-2147483648) (2147483647) v1 := rg_any v1
  have uv1 : (-2147483648 : Int) ≤ v1.toInt ∧ v1.toInt ≤ 2147483647 := rv1
  have sv1 : v1.toInt = (g 386 i0).toInt := congrArg Int32.toInt (ev1.trans (congrFun ((show mFr [1728] g g from mFr.rf).at 386 rfl) _))
  refine c_si (As := [.int p1, .int v1]) (rest := []) x hml L (c_kcheckIndex l X g p1 v1 hX (by omega)) (wk_T kt_J15_checkIndex_7cf53 kl_Jx4a65c_118 kn_J15 (wk_all kd_J15_checkIndex_7cf53)) rfl ⟨rfl, rfl⟩ hd_kcheckIndex ⟨Nat.le_of_ble_eq_true rfl, Nat.le_of_ble_eq_true rfl⟩ rfl hl.1 rfl (lv_room (Nat.le_of_ble_eq_true rfl)) dJx4a65c_set_bcc79_5 (fun v3 g2 H2 k2 hp2 L2 => ?_) hcs
  have rv3 : rg (0) (2147483646) v3 := hp2.2.1
  have uv3 : (0 : Int) ≤ v3.toInt ∧ v3.toInt ≤ 2147483646 := rv3
  refine lv_pop hx hb dJx4a65c_set_bcc79_8 rfl ?_
  refine lv_aload_n hx hb dJx4a65c_set_bcc79_9 rfl (lv_at hl 0 rfl) ?_
  refine lv_iload_n hx hb dJx4a65c_set_bcc79_10 rfl (lv_at hl 1 rfl) ?_
  have y4 := congrArg Int32.toInt (congrFun ((show mFr [] g g2 from (mFr.tr mFr.rf hp2.1 rfl)).at 386 rfl) (i0))
  have y5 := congrArg Int32.toInt (mm_fr ev1 hp2.1 rfl)
  refine c_cr (As := [.int p1]) (rest := []) x hml L2 12 i0 hal0 rfl (c_kelementData l X g2 i0 p1 hX (cJ_fr hJ hp2.1 rfl) (show i0 < 2 * Z.n from (by omega)) (by omega)) (wk_V kd_Jx4a65c_elementData_915e3 kl_Jx4a65c_123 ki_Jx4a65c_elementData_915e3 ks_Jx4a65c_Jx4a65c_elementData_915e3 kn_Jx4a65c) rfl ⟨rfl, rfl⟩ hd_kelementData ⟨Nat.le_of_ble_eq_true rfl, Nat.le_of_ble_eq_true rfl⟩ rfl hl.1 rfl (lv_room (Nat.le_of_ble_eq_true rfl)) dJx4a65c_set_bcc79_11 (fun v7 g6 H6 k6 hp6 L6 => ?_) hcs
  have hvv7 := hp6.2.2
  rw [(show mFr [1728] g g2 from (mFr.tr mFr.rf hp2.1 rfl)).at 32 rfl] at hvv7
  refine c_top (show Value.ref (Z.ad 1 v7.toInt.toNat) = va_rf (cOpt Z 1 v7) from (by rw [cOpt_some hvv7.1]; rfl)) ?_
  refine lv_astore_n (lv' := [(3, .ref (Z.ad 1 v7.toInt.toNat)), (0, .ref (Z.ad 12 i0)), (1, .int p1), (2, .ref (Z.ad 1 p2.toInt.toNat))]) hx hb dJx4a65c_set_bcc79_14 rfl hl (by decide) rfl (fun ls hl => ?_)
  refine lv_aload_n hx hb dJx4a65c_set_bcc79_15 rfl (lv_at hl 1 rfl) ?_
  have ho8 := cJ_own hp6.2.1 (s := i0) (by omega) (by rw [← (mm_fr (mm_fr ev1 hp2.1 rfl) hp6.1 rfl)]; omega)
  refine c_geto (w := .ref (Z.ad 54 i0)) x L6 12 i0 1 385 hal0 rfl rfl (by rw [cTo_own ho8.1]; rfl) (wk_in kf_Jx4a65c_9) dJx4a65c_set_bcc79_16 ?_
  refine lv_iload_n hx hb dJx4a65c_set_bcc79_19 rfl (lv_at hl 2 rfl) ?_
  refine lv_aload_n hx hb dJx4a65c_set_bcc79_20 rfl (lv_at hl 3 rfl) ?_
  refine c_str xa L6 54 i0 1728 ho8.2 (Or.inr rfl) rfl hp6.2.1 (i := p1) (by omega) (show p1.toInt < ((((g6 1729 i0).toInt.toNat : Nat)) : Int) from (by have := (hp6.2.1.2.2.1 i0 (by omega)).2.1; have : p1.toInt < (g6 386 i0).toInt := (by rw [← (mm_fr (mm_fr ev1 hp2.1 rfl) hp6.1 rfl)]; omega); omega)) hc2 hq2 dJx4a65c_set_bcc79_21 (fun g9 H9 k9 eg9 L9 => ?_)
  have hJ10 := cJ_set hp6.2.1 (by omega) (by show (((p1.toInt.toNat : Nat)) : Int) < _; have : p1.toInt < (g6 386 i0).toInt := (by rw [← (mm_fr (mm_fr ev1 hp2.1 rfl) hp6.1 rfl)]; omega); omega) ⟨hc2, hq2, by rw [(show mFr [1728] g g6 from (mFr.tr (mFr.tr mFr.rf hp2.1 rfl) hp6.1 rfl)).at 32 rfl]; omega⟩ eg9
  refine lv_aload_n hx hb dJx4a65c_set_bcc79_22 rfl (lv_at hl 0 rfl) ?_
  exact k_aret xa L9 hr (Or.inl ⟨_, rfl⟩) hlocks (Int.le_refl _) hzl ⟨(mFr.upE (mFr.tr (mFr.tr mFr.rf hp2.1 rfl) hp6.1 rfl) eg9 rfl), hJ10, (fun s => by have hl := congrArg Int32.toInt (congrFun ((show mFr [1728] g g9 from (mFr.upE (mFr.tr (mFr.tr mFr.rf hp2.1 rfl) hp6.1 rfl) eg9 rfl)).at 386 rfl) s); omega), (by omega), trivial⟩ hcs.1 hcs.2 dJx4a65c_set_bcc79_23

def rm_kkeep_4 (ms : Nat) : Room := { frames := 7, cells := 1, slots := 0 + 1 * ms, locals := 163 }
theorem hd_kkeep_4 : yX8_keep.cls ≠ "java/lang/invoke/MethodHandle" ∧ yX8_keep.cls ≠ "java/lang/invoke/VarHandle" ∧ (parseMethodDescriptor yX8_keep.desc).map (fun d => d.parameters.length) = some 1 := by decide +kernel
set_option maxHeartbeats 4000000 in
set_option maxRecDepth 100000 in
theorem c_kkeep_4 (l : Launch) {G : cG} {Z : cZ} (X : Int) (g : mSt) (i0 : Nat) (p1 : Int32) (sz ms : Nat) (hX : 0 ≤ X ∧ X ≤ 2000000000) (hJ : cJ Z g) (hMz : cMz ms 1 Z g) (hw2 : Z.w 2 + 0 ≤ 1000000) (hi0 : i0 < Z.n) (hc1 : 0 ≤ p1.toInt) (hq1 : Z.al 1 p1.toInt.toNat) (hsd : (g 32 p1.toInt.toNat).toInt = (i0 : Int)) : Met l yX8_keep (wk (Cond.code yX8_keep cX8_keep 3 none)) (rm_kkeep_4 ms) (va_Pc [.ref (Z.ad 4 i0), .ref (Z.ad 1 p1.toInt.toNat)] (cPreA G Z X g sz)) (kE 1 (0 + 1 * ms) (cAf Z sz) (cQvA G Z X (fun Z1 g1 => mFr [384, 385, 386, 1728, 1729] g g1 ∧ cJ Z1 g1 ∧ (∀ s, (g 386 s).toInt ≤ (g1 386 s).toInt ∧ (g1 386 s).toInt ≤ (g 386 s).toInt + 1) ∧ Z1.w 2 ≤ Z.w 2 + 0 ∧ True))) 1 (0 + 1 * ms) (cAf Z sz) := by
  refine Met.ofW (cc := cX8_keep) (maxL := 3) (ret := none) (by decide) rfl ?_
  intro p e s m args below meth c s₁ B hml hv
  obtain ⟨hav, hv⟩ := hv
  have hsz0 := hv.2.1
  subst hsz0
  have hr := B.returns
  have hlocks := B.notSynchronized
  obtain ⟨xa, L⟩ := k_start B rfl (fun w h => wk_in h) hv
  have hent : entryFrame m args 3 = entryFrame m ([.ref (Z.ad 4 i0), .ref (Z.ad 1 p1.toInt.toNat)] : List Value).toArray 3 := by rw [hav]
  rw [hent]
  have hl := lv_entry ([.ref (Z.ad 4 i0), .ref (Z.ad 1 p1.toInt.toNat)]) (n := 3) (Nat.le_of_ble_eq_true rfl)
  rw [lg_entry_eq]
  generalize (lg_sl ([.ref (Z.ad 4 i0), .ref (Z.ad 1 p1.toInt.toNat)]) ++ List.replicate (3 - (lg_sl ([.ref (Z.ad 4 i0), .ref (Z.ad 1 p1.toInt.toNat)])).length) Slot.unset).toArray = ls at hl ⊢
  have hl : lv_has ls 3 [(0, .ref (Z.ad 4 i0)), (1, .ref (Z.ad 1 p1.toInt.toNat))] := hl
  have x := xa.1
  have hx := x.1
  have hb := x.2.1
  have hz := x.2.2.2.2.2.2.2.1
  have hzn := hz.1
  have hzl : cZl Z Z 0 0 := cZl.rf
  have hcs : 0 ≤ 1 ∧ 0 ≤ 0 + 1 * ms := ⟨Nat.zero_le _, Nat.zero_le _⟩
  have hal0 : Z.al 4 i0 := hz.2 4 i0 (show i0 < Z.n from hi0)
  refine lv_aload_n hx hb dX8_keep_0 rfl (lv_at hl 0 rfl) ?_
  refine lv_aload_n hx hb dX8_keep_1 rfl (lv_at hl 1 rfl) ?_
  refine c_geti x L 1 p1.toInt.toNat 1 33 hq1 rfl rfl (wk_in kf_X8_38) dX8_keep_2 (fun v1 ev1 wv1 => ?_)
  have rv1 : rg (-2147483648) (2147483647) v1 := rg_any v1
  have uv1 : (-2147483648 : Int) ≤ v1.toInt ∧ v1.toInt ≤ 2147483647 := rv1
  have sv1 : v1.toInt = (g 33 p1.toInt.toNat).toInt := congrArg Int32.toInt (ev1.trans (congrFun ((show mFr [384, 385, 386, 1728, 1729] g g from mFr.rf).at 33 rfl) _))
  refine lv_aload_n hx hb dX8_keep_5 rfl (lv_at hl 1 rfl) ?_
  refine c_geti x L 1 p1.toInt.toNat 2 34 hq1 rfl rfl (wk_in kf_X8_41) dX8_keep_6 (fun v2 ev2 wv2 => ?_)
  have rv2 : rg (0) (1) v2 := clj_34 wv2
  have uv2 : (0 : Int) ≤ v2.toInt ∧ v2.toInt ≤ 1 := rv2
  have sv2 : v2.toInt = (g 34 p1.toInt.toNat).toInt := congrArg Int32.toInt (ev2.trans (congrFun ((show mFr [384, 385, 386, 1728, 1729] g g from mFr.rf).at 34 rfl) _))
  refine c_ciU (n := 2) (owner := "CellSwitch$Side") (x0 := ⟨"CellSwitch$Side", "placeOfReference", "(IZ)I"⟩) (As := [.int v1, .int v2]) (rest := []) x hml L 4 i0 hal0 rfl (c_kplaceOfReference_4 l X g i0 v1 v2 hX hJ (show i0 < Z.n from (by omega)) (rg_w rv2 rfl)) (wk_U kd_X8_placeOfReference kl_X8_45 km_CellSwitchSide_CellSwitchSide_placeOfReference ks_X4_CellSwitchSide_X8_placeOfReference ki_X8_placeOfReference kn_X8) rfl ⟨rfl, rfl⟩ rfl (by decide +kernel) ⟨Nat.le_of_ble_eq_true rfl, Nat.le_of_ble_eq_true rfl⟩ rfl hl.1 rfl (lv_room (Nat.le_of_ble_eq_true rfl)) dX8_keep_9 (fun v4 g3 H3 k3 hp3 L3 => ?_) hcs
  have rv4 : rg (-1) (2147483646) v4 := hp3.2.1
  have uv4 : (-1 : Int) ≤ v4.toInt ∧ v4.toInt ≤ 2147483646 := rv4
  have hw5 := hp3.2.2.2
  refine lv_istore_n (lv' := [(2, .int v4), (0, .ref (Z.ad 4 i0)), (1, .ref (Z.ad 1 p1.toInt.toNat))]) hx hb dX8_keep_12 rfl hl (by decide) rfl (fun ls hl => ?_)
  refine lv_iload_n hx hb dX8_keep_13 rfl (lv_at hl 0 rfl) ?_
  refine lv_if_ge (tgt := 29) hx hb dX8_keep_14 (by decide) (fun c14_6 => ?_) (fun c14_6 => ?_)
  · skip
    have ic14_6 := Int32.le_iff_toInt_le.mp c14_6
    have q7 : rg (0) (2147483646) v4 := (rg_le c14_6 kc_0 rv4).2
    have uq7 : (0 : Int) ≤ v4.toInt ∧ v4.toInt ≤ 2147483646 := q7
    refine lv_aload_n hx hb dX8_keep_29 rfl (lv_at hl 1 rfl) ?_
    have al8 : Z.al 12 i0 := hz.2 12 i0 (show i0 < 2 * Z.n from (by omega))
    refine c_getr (a := Z.ad 12 i0) x L3 4 i0 2 hal0 rfl rfl (wk_in kf_X8_10) dX8_keep_30 ?_
    refine lv_iload_n hx hb dX8_keep_33 rfl (lv_at hl 0 rfl) ?_
    refine lv_aload_n hx hb dX8_keep_34 rfl (lv_at hl 2 rfl) ?_
    have y9 := congrArg Int32.toInt (congrFun ((show mFr [] g g3 from (mFr.tr mFr.rf hp3.1 rfl)).at 386 rfl) (i0))
    have y10 := congrArg Int32.toInt (congrFun ((show mFr [] g g3 from (mFr.tr mFr.rf hp3.1 rfl)).at 32 rfl) (p1.toInt.toNat))
    have e386_11 := ((show mFr [] g g3 from (mFr.tr mFr.rf hp3.1 rfl)).at 386 rfl)
    have hMz11 := cMz.eq hMz e386_11 (show 0 ≤ 1 by decide)
    refine k_callr xa L3 (k_runV (As := [.int v4, .ref (Z.ad 1 p1.toInt.toNat)]) (rest := []) ⟨hx, hb, hml, x.2.2.2.2.1, x.2.2.1⟩ (c_klset l X g3 i0 v4 p1 _ ms hX hp3.2.2.1 hMz11 (by omega) (show i0 < 2 * Z.n from (by omega)) hc1 hq1 (by omega) (by omega)) (cwV 2 x.2.2.1 (wk_V kd_Jx4a65c_set_bcc79 kl_X8_53 ki_Jx4a65c_set_bcc79 ks_Jx4a65c_Jx4a65c_set_bcc79 kn_Jx4a65c) rfl rfl rfl hd_klset ⟨Nat.le_of_ble_eq_true rfl, Nat.le_of_ble_eq_true rfl⟩) ⟨cPreA.blind, c_recv x L3 al8 rfl, fun U hU hW => k_pre xa L3 U hU hW⟩ rfl rfl hl.1 rfl (lv_room (Nat.le_of_ble_eq_true rfl)) dX8_keep_35 ⟨show 0 + 0 ≤ 1 by omega, show 0 + (0 + 0 * ms) ≤ 0 + 1 * ms by omega⟩) (fun v12 Z g11 H11 k11 kc11 kn11 hk11 hn11 hp11 hz11 xa L11 => ?_)
    have hsg11 := hp11.2.2.1
    have hww11 := hp11.2.2.2.1
    have ea11_0 := hz11.2.2.1 4 i0 hal0 (by omega)
    have ea11_1 := hz11.2.2.1 1 p1.toInt.toNat hq1 (by omega)
    rw [← ea11_0] at hl
    rw [← ea11_1] at hl
    have al11_0 := hz11.2.1 4 i0 hal0
    have al11_1 := hz11.2.1 1 p1.toInt.toNat hq1
    have hZn11 := hz11.1
    have x := xa.1
    have hz := x.2.2.2.2.2.2.2.1
    have hzn := hz.1
    have hMy13 := (cMz.fr (a := 1) (b := 0) (show cMz ms (1 + 0) _ _ from cMz.eq hMz e386_11 (show 1 + 0 ≤ 1 by decide)) hz11.1 (fun s => (hsg11 s).2))
    have hzl := cZl.tr hzl hz11
    have hcs : 0 + kc11 ≤ 1 ∧ 0 + kn11 ≤ 0 + 1 * ms := by omega
    refine lv_pop hx hb dX8_keep_38 rfl ?_
    exact k_vret xa L11 hr hlocks (Int.le_refl _) hzl ⟨(mFr.tr (mFr.tr mFr.rf hp3.1 rfl) hp11.1 rfl), hp11.2.1, (fun s => by have h0 := congrArg Int32.toInt (congrFun e386_11 s); have w0 := hsg11 s; have hl := congrArg Int32.toInt (congrFun ((show mFr [] g11 g11 from mFr.rf).at 386 rfl) s); omega), (by omega), trivial⟩ hcs.1 hcs.2 dX8_keep_39
  · skip
    have ic14_6 := Int32.lt_iff_toInt_lt.mp (rg_nle c14_6)
    have q14 : rg (-1) (-1) v4 := (rg_lt (rg_nle c14_6) rv4 kc_0).1
    have uq14 : (-1 : Int) ≤ v4.toInt ∧ v4.toInt ≤ -1 := q14
    refine lv_aload_n hx hb dX8_keep_17 rfl (lv_at hl 1 rfl) ?_
    have al15 : Z.al 12 i0 := hz.2 12 i0 (show i0 < 2 * Z.n from (by omega))
    refine c_getr (a := Z.ad 12 i0) x L3 4 i0 2 hal0 rfl rfl (wk_in kf_X8_10) dX8_keep_18 ?_
    refine lv_aload_n hx hb dX8_keep_21 rfl (lv_at hl 2 rfl) ?_
    have y16 := congrArg Int32.toInt (congrFun ((show mFr [] g g3 from (mFr.tr mFr.rf hp3.1 rfl)).at 32 rfl) (p1.toInt.toNat))
    have e386_17 := ((show mFr [] g g3 from (mFr.tr mFr.rf hp3.1 rfl)).at 386 rfl)
    have hMz17 := cMz.eq hMz e386_17 (show 1 ≤ 1 by decide)
    refine k_calli xa L3 (k_runV (As := [.ref (Z.ad 1 p1.toInt.toNat)]) (rest := []) ⟨hx, hb, hml, x.2.2.2.2.1, x.2.2.1⟩ (c_kladd l X g3 i0 p1 _ ms hX hp3.2.2.1 hMz17 (by omega) (show i0 < 2 * Z.n from (by omega)) hc1 hq1 (by omega)) (cwV 1 x.2.2.1 (wk_V kd_Jx4a65c_add_9ea2d kl_X8_49 ki_Jx4a65c_add_9ea2d ks_Jx4a65c_Jx4a65c_add_9ea2d kn_Jx4a65c) rfl rfl rfl hd_kladd ⟨Nat.le_of_ble_eq_true rfl, Nat.le_of_ble_eq_true rfl⟩) ⟨cPreA.blind, c_recv x L3 al15 rfl, fun U hU hW => k_pre xa L3 U hU hW⟩ rfl rfl hl.1 rfl (lv_room (Nat.le_of_ble_eq_true rfl)) dX8_keep_22 ⟨show 0 + 1 ≤ 1 by omega, show 0 + (0 + 1 * ms) ≤ 0 + 1 * ms by omega⟩) (fun v18 Z g17 H17 k17 kc17 kn17 hk17 hn17 hp17 hz17 xa L17 => ?_)
    have rv18 : rg (1) (1) v18 := hp17.2.1
    have uv18 : (1 : Int) ≤ v18.toInt ∧ v18.toInt ≤ 1 := rv18
    have hsg17 := hp17.2.2.2.1
    have hww17 := hp17.2.2.2.2.1
    have ea17_0 := hz17.2.2.1 4 i0 hal0 (by omega)
    have ea17_1 := hz17.2.2.1 1 p1.toInt.toNat hq1 (by omega)
    rw [← ea17_0] at hl
    rw [← ea17_1] at hl
    have al17_0 := hz17.2.1 4 i0 hal0
    have al17_1 := hz17.2.1 1 p1.toInt.toNat hq1
    have hZn17 := hz17.1
    have x := xa.1
    have hz := x.2.2.2.2.2.2.2.1
    have hzn := hz.1
    have hMy19 := (cMz.fr (a := 0) (b := 1) (show cMz ms (0 + 1) _ _ from cMz.eq hMz e386_17 (show 0 + 1 ≤ 1 by decide)) hz17.1 (fun s => (hsg17 s).2))
    have hzl := cZl.tr hzl hz17
    have hcs : 0 + kc17 ≤ 1 ∧ 0 + kn17 ≤ 0 + 1 * ms := by omega
    refine lv_pop hx hb dX8_keep_25 rfl ?_
    refine lv_goto (tgt := 39) hx hb dX8_keep_26 (by decide) ?_
    exact k_vret xa L17 hr hlocks (Int.le_refl _) hzl ⟨(mFr.tr (mFr.tr mFr.rf hp3.1 rfl) hp17.1 rfl), hp17.2.2.1, (fun s => by have h0 := congrArg Int32.toInt (congrFun e386_17 s); have w0 := hsg17 s; have hl := congrArg Int32.toInt (congrFun ((show mFr [] g17 g17 from mFr.rf).at 386 rfl) s); omega), (by omega), trivial⟩ hcs.1 hcs.2 dX8_keep_39

def rm_kkeep_10 (ms : Nat) : Room := { frames := 7, cells := 1, slots := 0 + 1 * ms, locals := 163 }
theorem hd_kkeep_10 : yX8_keep.cls ≠ "java/lang/invoke/MethodHandle" ∧ yX8_keep.cls ≠ "java/lang/invoke/VarHandle" ∧ (parseMethodDescriptor yX8_keep.desc).map (fun d => d.parameters.length) = some 1 := by decide +kernel
set_option maxHeartbeats 4000000 in
set_option maxRecDepth 100000 in
theorem c_kkeep_10 (l : Launch) {G : cG} {Z : cZ} (X : Int) (g : mSt) (i0 : Nat) (p1 : Int32) (sz ms : Nat) (hX : 0 ≤ X ∧ X ≤ 2000000000) (hJ : cJ Z g) (hMz : cMz ms 1 Z g) (hw2 : Z.w 2 + 0 ≤ 1000000) (hi0 : i0 < Z.n) (hc1 : 0 ≤ p1.toInt) (hq1 : Z.al 1 p1.toInt.toNat) (hsd : (g 32 p1.toInt.toNat).toInt = (Z.n : Int) + (i0 : Int)) : Met l yX8_keep (wk (Cond.code yX8_keep cX8_keep 3 none)) (rm_kkeep_10 ms) (va_Pc [.ref (Z.ad 10 i0), .ref (Z.ad 1 p1.toInt.toNat)] (cPreA G Z X g sz)) (kE 1 (0 + 1 * ms) (cAf Z sz) (cQvA G Z X (fun Z1 g1 => mFr [384, 385, 386, 1728, 1729] g g1 ∧ cJ Z1 g1 ∧ (∀ s, (g 386 s).toInt ≤ (g1 386 s).toInt ∧ (g1 386 s).toInt ≤ (g 386 s).toInt + 1) ∧ Z1.w 2 ≤ Z.w 2 + 0 ∧ True))) 1 (0 + 1 * ms) (cAf Z sz) := by
  refine Met.ofW (cc := cX8_keep) (maxL := 3) (ret := none) (by decide) rfl ?_
  intro p e s m args below meth c s₁ B hml hv
  obtain ⟨hav, hv⟩ := hv
  have hsz0 := hv.2.1
  subst hsz0
  have hr := B.returns
  have hlocks := B.notSynchronized
  obtain ⟨xa, L⟩ := k_start B rfl (fun w h => wk_in h) hv
  have hent : entryFrame m args 3 = entryFrame m ([.ref (Z.ad 10 i0), .ref (Z.ad 1 p1.toInt.toNat)] : List Value).toArray 3 := by rw [hav]
  rw [hent]
  have hl := lv_entry ([.ref (Z.ad 10 i0), .ref (Z.ad 1 p1.toInt.toNat)]) (n := 3) (Nat.le_of_ble_eq_true rfl)
  rw [lg_entry_eq]
  generalize (lg_sl ([.ref (Z.ad 10 i0), .ref (Z.ad 1 p1.toInt.toNat)]) ++ List.replicate (3 - (lg_sl ([.ref (Z.ad 10 i0), .ref (Z.ad 1 p1.toInt.toNat)])).length) Slot.unset).toArray = ls at hl ⊢
  have hl : lv_has ls 3 [(0, .ref (Z.ad 10 i0)), (1, .ref (Z.ad 1 p1.toInt.toNat))] := hl
  have x := xa.1
  have hx := x.1
  have hb := x.2.1
  have hz := x.2.2.2.2.2.2.2.1
  have hzn := hz.1
  have hzl : cZl Z Z 0 0 := cZl.rf
  have hcs : 0 ≤ 1 ∧ 0 ≤ 0 + 1 * ms := ⟨Nat.zero_le _, Nat.zero_le _⟩
  have hal0 : Z.al 10 i0 := hz.2 10 i0 (show i0 < Z.n from hi0)
  refine lv_aload_n hx hb dX8_keep_0 rfl (lv_at hl 0 rfl) ?_
  refine lv_aload_n hx hb dX8_keep_1 rfl (lv_at hl 1 rfl) ?_
  refine c_geti x L 1 p1.toInt.toNat 1 33 hq1 rfl rfl (wk_in kf_X8_38) dX8_keep_2 (fun v1 ev1 wv1 => ?_)
  have rv1 : rg (-2147483648) (2147483647) v1 := rg_any v1
  have uv1 : (-2147483648 : Int) ≤ v1.toInt ∧ v1.toInt ≤ 2147483647 := rv1
  have sv1 : v1.toInt = (g 33 p1.toInt.toNat).toInt := congrArg Int32.toInt (ev1.trans (congrFun ((show mFr [384, 385, 386, 1728, 1729] g g from mFr.rf).at 33 rfl) _))
  refine lv_aload_n hx hb dX8_keep_5 rfl (lv_at hl 1 rfl) ?_
  refine c_geti x L 1 p1.toInt.toNat 2 34 hq1 rfl rfl (wk_in kf_X8_41) dX8_keep_6 (fun v2 ev2 wv2 => ?_)
  have rv2 : rg (0) (1) v2 := clj_34 wv2
  have uv2 : (0 : Int) ≤ v2.toInt ∧ v2.toInt ≤ 1 := rv2
  have sv2 : v2.toInt = (g 34 p1.toInt.toNat).toInt := congrArg Int32.toInt (ev2.trans (congrFun ((show mFr [384, 385, 386, 1728, 1729] g g from mFr.rf).at 34 rfl) _))
  refine c_ciU (n := 2) (owner := "CellSwitch$Side") (x0 := ⟨"CellSwitch$Side", "placeOfReference", "(IZ)I"⟩) (As := [.int v1, .int v2]) (rest := []) x hml L 10 i0 hal0 rfl (c_kplaceOfReference_10 l X g i0 v1 v2 hX hJ (show i0 < Z.n from (by omega)) (rg_w rv2 rfl)) (wk_U kd_X8_placeOfReference kl_X8_45 km_CellSwitchSide_CellSwitchSide_placeOfReference ks_X10_CellSwitchSide_X8_placeOfReference ki_X8_placeOfReference kn_X8) rfl ⟨rfl, rfl⟩ rfl (by decide +kernel) ⟨Nat.le_of_ble_eq_true rfl, Nat.le_of_ble_eq_true rfl⟩ rfl hl.1 rfl (lv_room (Nat.le_of_ble_eq_true rfl)) dX8_keep_9 (fun v4 g3 H3 k3 hp3 L3 => ?_) hcs
  have rv4 : rg (-1) (2147483646) v4 := hp3.2.1
  have uv4 : (-1 : Int) ≤ v4.toInt ∧ v4.toInt ≤ 2147483646 := rv4
  have hw5 := hp3.2.2.2
  refine lv_istore_n (lv' := [(2, .int v4), (0, .ref (Z.ad 10 i0)), (1, .ref (Z.ad 1 p1.toInt.toNat))]) hx hb dX8_keep_12 rfl hl (by decide) rfl (fun ls hl => ?_)
  refine lv_iload_n hx hb dX8_keep_13 rfl (lv_at hl 0 rfl) ?_
  refine lv_if_ge (tgt := 29) hx hb dX8_keep_14 (by decide) (fun c14_6 => ?_) (fun c14_6 => ?_)
  · skip
    have ic14_6 := Int32.le_iff_toInt_le.mp c14_6
    have q7 : rg (0) (2147483646) v4 := (rg_le c14_6 kc_0 rv4).2
    have uq7 : (0 : Int) ≤ v4.toInt ∧ v4.toInt ≤ 2147483646 := q7
    refine lv_aload_n hx hb dX8_keep_29 rfl (lv_at hl 1 rfl) ?_
    have al8 : Z.al 12 (Z.n + i0) := hz.2 12 (Z.n + i0) (show (Z.n + i0) < 2 * Z.n from (by omega))
    refine c_getr (a := Z.ad 12 (Z.n + i0)) x L3 10 i0 2 hal0 rfl rfl (wk_in kf_X8_10) dX8_keep_30 ?_
    refine lv_iload_n hx hb dX8_keep_33 rfl (lv_at hl 0 rfl) ?_
    refine lv_aload_n hx hb dX8_keep_34 rfl (lv_at hl 2 rfl) ?_
    have y9 := congrArg Int32.toInt (congrFun ((show mFr [] g g3 from (mFr.tr mFr.rf hp3.1 rfl)).at 386 rfl) ((Z.n + i0)))
    have y10 := congrArg Int32.toInt (congrFun ((show mFr [] g g3 from (mFr.tr mFr.rf hp3.1 rfl)).at 32 rfl) (p1.toInt.toNat))
    have e386_11 := ((show mFr [] g g3 from (mFr.tr mFr.rf hp3.1 rfl)).at 386 rfl)
    have hMz11 := cMz.eq hMz e386_11 (show 0 ≤ 1 by decide)
    refine k_callr xa L3 (k_runV (As := [.int v4, .ref (Z.ad 1 p1.toInt.toNat)]) (rest := []) ⟨hx, hb, hml, x.2.2.2.2.1, x.2.2.1⟩ (c_klset l X g3 (Z.n + i0) v4 p1 _ ms hX hp3.2.2.1 hMz11 (by omega) (show (Z.n + i0) < 2 * Z.n from (by omega)) hc1 hq1 (by omega) (by omega)) (cwV 2 x.2.2.1 (wk_V kd_Jx4a65c_set_bcc79 kl_X8_53 ki_Jx4a65c_set_bcc79 ks_Jx4a65c_Jx4a65c_set_bcc79 kn_Jx4a65c) rfl rfl rfl hd_klset ⟨Nat.le_of_ble_eq_true rfl, Nat.le_of_ble_eq_true rfl⟩) ⟨cPreA.blind, c_recv x L3 al8 rfl, fun U hU hW => k_pre xa L3 U hU hW⟩ rfl rfl hl.1 rfl (lv_room (Nat.le_of_ble_eq_true rfl)) dX8_keep_35 ⟨show 0 + 0 ≤ 1 by omega, show 0 + (0 + 0 * ms) ≤ 0 + 1 * ms by omega⟩) (fun v12 Z g11 H11 k11 kc11 kn11 hk11 hn11 hp11 hz11 xa L11 => ?_)
    have hsg11 := hp11.2.2.1
    have hww11 := hp11.2.2.2.1
    have ea11_0 := hz11.2.2.1 10 i0 hal0 (by omega)
    have ea11_1 := hz11.2.2.1 1 p1.toInt.toNat hq1 (by omega)
    rw [← ea11_0] at hl
    rw [← ea11_1] at hl
    have al11_0 := hz11.2.1 10 i0 hal0
    have al11_1 := hz11.2.1 1 p1.toInt.toNat hq1
    have hZn11 := hz11.1
    have x := xa.1
    have hz := x.2.2.2.2.2.2.2.1
    have hzn := hz.1
    have hMy13 := (cMz.fr (a := 1) (b := 0) (show cMz ms (1 + 0) _ _ from cMz.eq hMz e386_11 (show 1 + 0 ≤ 1 by decide)) hz11.1 (fun s => (hsg11 s).2))
    have hzl := cZl.tr hzl hz11
    have hcs : 0 + kc11 ≤ 1 ∧ 0 + kn11 ≤ 0 + 1 * ms := by omega
    refine lv_pop hx hb dX8_keep_38 rfl ?_
    exact k_vret xa L11 hr hlocks (Int.le_refl _) hzl ⟨(mFr.tr (mFr.tr mFr.rf hp3.1 rfl) hp11.1 rfl), hp11.2.1, (fun s => by have h0 := congrArg Int32.toInt (congrFun e386_11 s); have w0 := hsg11 s; have hl := congrArg Int32.toInt (congrFun ((show mFr [] g11 g11 from mFr.rf).at 386 rfl) s); omega), (by omega), trivial⟩ hcs.1 hcs.2 dX8_keep_39
  · skip
    have ic14_6 := Int32.lt_iff_toInt_lt.mp (rg_nle c14_6)
    have q14 : rg (-1) (-1) v4 := (rg_lt (rg_nle c14_6) rv4 kc_0).1
    have uq14 : (-1 : Int) ≤ v4.toInt ∧ v4.toInt ≤ -1 := q14
    refine lv_aload_n hx hb dX8_keep_17 rfl (lv_at hl 1 rfl) ?_
    have al15 : Z.al 12 (Z.n + i0) := hz.2 12 (Z.n + i0) (show (Z.n + i0) < 2 * Z.n from (by omega))
    refine c_getr (a := Z.ad 12 (Z.n + i0)) x L3 10 i0 2 hal0 rfl rfl (wk_in kf_X8_10) dX8_keep_18 ?_
    refine lv_aload_n hx hb dX8_keep_21 rfl (lv_at hl 2 rfl) ?_
    have y16 := congrArg Int32.toInt (congrFun ((show mFr [] g g3 from (mFr.tr mFr.rf hp3.1 rfl)).at 32 rfl) (p1.toInt.toNat))
    have e386_17 := ((show mFr [] g g3 from (mFr.tr mFr.rf hp3.1 rfl)).at 386 rfl)
    have hMz17 := cMz.eq hMz e386_17 (show 1 ≤ 1 by decide)
    refine k_calli xa L3 (k_runV (As := [.ref (Z.ad 1 p1.toInt.toNat)]) (rest := []) ⟨hx, hb, hml, x.2.2.2.2.1, x.2.2.1⟩ (c_kladd l X g3 (Z.n + i0) p1 _ ms hX hp3.2.2.1 hMz17 (by omega) (show (Z.n + i0) < 2 * Z.n from (by omega)) hc1 hq1 (by omega)) (cwV 1 x.2.2.1 (wk_V kd_Jx4a65c_add_9ea2d kl_X8_49 ki_Jx4a65c_add_9ea2d ks_Jx4a65c_Jx4a65c_add_9ea2d kn_Jx4a65c) rfl rfl rfl hd_kladd ⟨Nat.le_of_ble_eq_true rfl, Nat.le_of_ble_eq_true rfl⟩) ⟨cPreA.blind, c_recv x L3 al15 rfl, fun U hU hW => k_pre xa L3 U hU hW⟩ rfl rfl hl.1 rfl (lv_room (Nat.le_of_ble_eq_true rfl)) dX8_keep_22 ⟨show 0 + 1 ≤ 1 by omega, show 0 + (0 + 1 * ms) ≤ 0 + 1 * ms by omega⟩) (fun v18 Z g17 H17 k17 kc17 kn17 hk17 hn17 hp17 hz17 xa L17 => ?_)
    have rv18 : rg (1) (1) v18 := hp17.2.1
    have uv18 : (1 : Int) ≤ v18.toInt ∧ v18.toInt ≤ 1 := rv18
    have hsg17 := hp17.2.2.2.1
    have hww17 := hp17.2.2.2.2.1
    have ea17_0 := hz17.2.2.1 10 i0 hal0 (by omega)
    have ea17_1 := hz17.2.2.1 1 p1.toInt.toNat hq1 (by omega)
    rw [← ea17_0] at hl
    rw [← ea17_1] at hl
    have al17_0 := hz17.2.1 10 i0 hal0
    have al17_1 := hz17.2.1 1 p1.toInt.toNat hq1
    have hZn17 := hz17.1
    have x := xa.1
    have hz := x.2.2.2.2.2.2.2.1
    have hzn := hz.1
    have hMy19 := (cMz.fr (a := 0) (b := 1) (show cMz ms (0 + 1) _ _ from cMz.eq hMz e386_17 (show 0 + 1 ≤ 1 by decide)) hz17.1 (fun s => (hsg17 s).2))
    have hzl := cZl.tr hzl hz17
    have hcs : 0 + kc17 ≤ 1 ∧ 0 + kn17 ≤ 0 + 1 * ms := by omega
    refine lv_pop hx hb dX8_keep_25 rfl ?_
    refine lv_goto (tgt := 39) hx hb dX8_keep_26 (by decide) ?_
    exact k_vret xa L17 hr hlocks (Int.le_refl _) hzl ⟨(mFr.tr (mFr.tr mFr.rf hp3.1 rfl) hp17.1 rfl), hp17.2.2.1, (fun s => by have h0 := congrArg Int32.toInt (congrFun e386_17 s); have w0 := hsg17 s; have hl := congrArg Int32.toInt (congrFun ((show mFr [] g17 g17 from mFr.rf).at 386 rfl) s); omega), (by omega), trivial⟩ hcs.1 hcs.2 dX8_keep_39

def rm_keadd (ms : Nat) : Room := { frames := 8, cells := 1, slots := 0 + 1 * ms, locals := 185 }
theorem hd_keadd : yX4_add.cls = cRn 4 ∧ yX4_add.cls ≠ "java/lang/invoke/MethodHandle" ∧ yX4_add.cls ≠ "java/lang/invoke/VarHandle" ∧ (parseMethodDescriptor yX4_add.desc).map (fun d => d.parameters.length) = some 1 := by decide +kernel
set_option maxHeartbeats 4000000 in
set_option maxRecDepth 100000 in
theorem c_keadd (l : Launch) {G : cG} {Z : cZ} (X : Int) (g : mSt) (i0 : Nat) (p1 : Int32) (sz ms : Nat) (hX : 0 ≤ X ∧ X ≤ 2000000000) (hJ : cJ Z g) (hMz : cMz ms 1 Z g) (hw2 : Z.w 2 + 0 ≤ 1000000) (hi0 : i0 < Z.n) (hc1 : 0 ≤ p1.toInt) (hq1 : Z.al 1 p1.toInt.toNat) (hsd : (g 32 p1.toInt.toNat).toInt = (i0 : Int)) : Met l yX4_add (wk (Cond.code yX4_add cX4_add 2 none)) (rm_keadd ms) (va_Pc [.ref (Z.ad 4 i0), .ref (Z.ad 1 p1.toInt.toNat)] (cPreA G Z X g sz)) (kE 1 (0 + 1 * ms) (cAf Z sz) (cQvA G Z X (fun Z1 g1 => mFr [35, 135, 384, 385, 386, 1536, 1728, 1729] g g1 ∧ cJ Z1 g1 ∧ (∀ s, (g 386 s).toInt ≤ (g1 386 s).toInt ∧ (g1 386 s).toInt ≤ (g 386 s).toInt + 1) ∧ Z1.w 2 ≤ Z.w 2 + 0 ∧ True))) 1 (0 + 1 * ms) (cAf Z sz) := by
  refine Met.ofW (cc := cX4_add) (maxL := 2) (ret := none) (by decide) rfl ?_
  intro p e s m args below meth c s₁ B hml hv
  obtain ⟨hav, hv⟩ := hv
  have hsz0 := hv.2.1
  subst hsz0
  have hr := B.returns
  have hlocks := B.notSynchronized
  obtain ⟨xa, L⟩ := k_start B rfl (fun w h => wk_in h) hv
  have hent : entryFrame m args 2 = entryFrame m ([.ref (Z.ad 4 i0), .ref (Z.ad 1 p1.toInt.toNat)] : List Value).toArray 2 := by rw [hav]
  rw [hent]
  have hl := lv_entry ([.ref (Z.ad 4 i0), .ref (Z.ad 1 p1.toInt.toNat)]) (n := 2) (Nat.le_of_ble_eq_true rfl)
  rw [lg_entry_eq]
  generalize (lg_sl ([.ref (Z.ad 4 i0), .ref (Z.ad 1 p1.toInt.toNat)]) ++ List.replicate (2 - (lg_sl ([.ref (Z.ad 4 i0), .ref (Z.ad 1 p1.toInt.toNat)])).length) Slot.unset).toArray = ls at hl ⊢
  have hl : lv_has ls 2 [(0, .ref (Z.ad 4 i0)), (1, .ref (Z.ad 1 p1.toInt.toNat))] := hl
  have x := xa.1
  have hx := x.1
  have hb := x.2.1
  have hz := x.2.2.2.2.2.2.2.1
  have hzn := hz.1
  have hzl : cZl Z Z 0 0 := cZl.rf
  have hcs : 0 ≤ 1 ∧ 0 ≤ 0 + 1 * ms := ⟨Nat.zero_le _, Nat.zero_le _⟩
  have hal0 : Z.al 4 i0 := hz.2 4 i0 (show i0 < Z.n from hi0)
  refine lv_aload_n hx hb dX4_add_0 rfl (lv_at hl 0 rfl) ?_
  refine c_geti x L 4 i0 7 135 hal0 rfl rfl (wk_in kf_X4_37) dX4_add_1 (fun v1 ev1 wv1 => ?_)
  have rv1 : rg (0) (40) v1 := clj_135 wv1
  have uv1 : (0 : Int) ≤ v1.toInt ∧ v1.toInt ≤ 40 := rv1
  have sv1 := congrArg Int32.toInt ev1
  refine lv_bipush (v := 40) hx hb dX4_add_4 (by decide) ?_
  refine lv_icmp_ge (tgt := 42) hx hb dX4_add_6 (by decide) (fun c6_2 => ?_) (fun c6_2 => ?_)
  · skip
    have ic6_2 := Int32.le_iff_toInt_le.mp c6_2
    have q3 : rg (40) (40) v1 := (rg_le c6_2 kc_40 rv1).2
    have uq3 : (40 : Int) ≤ v1.toInt ∧ v1.toInt ≤ 40 := q3
    exact k_vret xa L hr hlocks (Int.le_refl _) hzl ⟨mFr.rf, hJ, (fun s => by have hl := congrArg Int32.toInt (congrFun ((show mFr [] g g from mFr.rf).at 386 rfl) s); omega), (by omega), trivial⟩ hcs.1 hcs.2 dX4_add_42
  · skip
    have ic6_2 := Int32.lt_iff_toInt_lt.mp (rg_nle c6_2)
    have q4 : rg (0) (39) v1 := (rg_lt (rg_nle c6_2) rv1 kc_40).1
    have uq4 : (0 : Int) ≤ v1.toInt ∧ v1.toInt ≤ 39 := q4
    refine lv_aload_n hx hb dX4_add_9 rfl (lv_at hl 1 rfl) ?_
    refine lv_aload_n hx hb dX4_add_10 rfl (lv_at hl 0 rfl) ?_
    refine c_geti x L 4 i0 7 135 hal0 rfl rfl (wk_in kf_X4_37) dX4_add_11 (fun v5 ev5 wv5 => ?_)
    refine m_top ((ev1).trans ev5.symm) ?_
    refine c_puti x L 1 p1.toInt.toNat 3 35 hq1 rfl rfl ⟨rfl, by decide +kernel⟩ (wk_in kf_X4_44) dX4_add_14 (rg_any v1) (fun g6 H6 k6 eg6 L6 => ?_)
    refine lv_aload_n hx hb dX4_add_17 rfl (lv_at hl 0 rfl) ?_
    have al7 : Z.al 48 i0 := hz.2 48 i0 (show i0 < Z.n from (by omega))
    refine c_getr (a := Z.ad 48 i0) x L6 4 i0 6 hal0 rfl rfl (wk_in kf_X4_20) dX4_add_18 ?_
    refine lv_aload_n hx hb dX4_add_21 rfl (lv_at hl 0 rfl) ?_
    refine c_geti x L6 4 i0 7 135 hal0 rfl rfl (wk_in kf_X4_37) dX4_add_22 (fun v8 ev8 wv8 => ?_)
    refine m_top (((mm_up ev1 eg6 rfl)).trans ev8.symm) ?_
    refine lv_aload_n hx hb dX4_add_25 rfl (lv_at hl 1 rfl) ?_
    refine c_str xa L6 48 i0 1536 al7 (Or.inl rfl) rfl (cJ_up hJ eg6 rfl) (i := v1) (by omega) (show v1.toInt < ((40 : Nat) : Int) by omega) hc1 hq1 dX4_add_26 (fun g9 H9 k9 eg9 L9 => ?_)
    refine lv_aload_n hx hb dX4_add_27 rfl (lv_at hl 0 rfl) ?_
    refine lv_dup hx hb dX4_add_28 rfl ?_
    refine c_geti x L9 4 i0 7 135 hal0 rfl rfl (wk_in kf_X4_37) dX4_add_29 (fun v10 ev10 wv10 => ?_)
    refine m_top (((mm_up (mm_up ev1 eg6 rfl) eg9 rfl)).trans ev10.symm) ?_
    refine lv_iconst (v := 1) hx hb dX4_add_32 (by decide) ?_
    refine lv_iadd hx hb dX4_add_33 ?_
    refine lv_topi (fun v11 ev11 => ?_)
    have rv11 : rg (1) (40) v11 := (rg_add ev11 q4 kc_1 rfl).1
    have tv11 := (rg_add ev11 q4 kc_1 rfl).2
    have y12 : (1 : Int32).toInt = 1 := by decide
    have uv11 : (1 : Int) ≤ v11.toInt ∧ v11.toInt ≤ 40 := rv11
    refine c_puti x L9 4 i0 7 135 hal0 rfl rfl ⟨rfl, by decide +kernel⟩ (wk_in kf_X4_37) dX4_add_34 (crj_135 (rg_w rv11 rfl)) (fun g13 H13 k13 eg13 L13 => ?_)
    have hJ14 := cJ_num (cJ_up hJ eg6 rfl) (k := v1.toNatClampNeg) (by have := congrArg Int32.toInt (mm_up ev1 eg6 rfl); show (((v1.toInt.toNat : Nat)) : Int) = _; omega) (fun s => (clj_135 (L6.2.2 135 s)).2) ⟨hc1, hq1, by rw [(show mFr [35, 135, 384, 385, 386, 1536, 1728, 1729] g g6 from (mFr.upE mFr.rf eg6 rfl)).at 32 rfl]; omega⟩ eg9 eg13 (by have := congrArg Int32.toInt (mm_up ev1 eg6 rfl); omega)
    refine lv_aload_n hx hb dX4_add_37 rfl (lv_at hl 0 rfl) ?_
    refine lv_aload_n hx hb dX4_add_38 rfl (lv_at hl 1 rfl) ?_
    have y15 := congrArg Int32.toInt (congrFun ((show mFr [35, 135, 1536] g g13 from (mFr.upE (mFr.upE (mFr.upE mFr.rf eg6 rfl) eg9 rfl) eg13 rfl)).at 32 rfl) (p1.toInt.toNat))
    have e386_16 := ((show mFr [35, 135, 1536] g g13 from (mFr.upE (mFr.upE (mFr.upE mFr.rf eg6 rfl) eg9 rfl) eg13 rfl)).at 386 rfl)
    have hMz16 := cMz.eq hMz e386_16 (show 1 ≤ 1 by decide)
    refine k_callv xa L13 (k_runU (x := ⟨"CellSwitch$EndSide", "keep", "(LCellSwitch$Call;)V"⟩) (As := [.ref (Z.ad 1 p1.toInt.toNat)]) (rest := []) ⟨hx, hb, hml, x.2.2.2.2.1, x.2.2.1⟩ (c_kkeep_4 l X g13 i0 p1 _ ms hX hJ14 hMz16 (by omega) (show i0 < Z.n from (by omega)) hc1 hq1 (by omega)) (va_cwU 1 x.2.2.1 (wk_U (owner := "CellSwitch$Side") kd_X8_keep kl_X4_47 km_CellSwitchEndSide_CellSwitchSide_keep ks_X4_CellSwitchEndSide_X8_keep ki_X8_keep kn_X8) rfl rfl rfl rfl (by decide +kernel) ⟨Nat.le_of_ble_eq_true rfl, Nat.le_of_ble_eq_true rfl⟩) ⟨cPreA.blind, c_recv x L13 hal0 rfl, fun U hU hW => k_pre xa L13 U hU hW⟩ rfl rfl hl.1 rfl (lv_room (Nat.le_of_ble_eq_true rfl)) dX4_add_39 ⟨show 0 + 1 ≤ 1 by omega, show 0 + (0 + 1 * ms) ≤ 0 + 1 * ms by omega⟩) (fun  Z g16 H16 k16 kc16 kn16 hk16 hn16 hp16 hz16 xa L16 => ?_)
    have hsg16 := hp16.2.2.1
    have hww16 := hp16.2.2.2.1
    have ea16_0 := hz16.2.2.1 4 i0 hal0 (by omega)
    have ea16_1 := hz16.2.2.1 1 p1.toInt.toNat hq1 (by omega)
    rw [← ea16_0] at hl
    rw [← ea16_1] at hl
    have al16_0 := hz16.2.1 4 i0 hal0
    have al16_1 := hz16.2.1 1 p1.toInt.toNat hq1
    have hZn16 := hz16.1
    have x := xa.1
    have hz := x.2.2.2.2.2.2.2.1
    have hzn := hz.1
    have hMy17 := (cMz.fr (a := 0) (b := 1) (show cMz ms (0 + 1) _ _ from cMz.eq hMz e386_16 (show 0 + 1 ≤ 1 by decide)) hz16.1 (fun s => (hsg16 s).2))
    have hzl := cZl.tr hzl hz16
    have hcs : 0 + kc16 ≤ 1 ∧ 0 + kn16 ≤ 0 + 1 * ms := by omega
    exact k_vret xa L16 hr hlocks (Int.le_refl _) hzl ⟨(mFr.tr (mFr.upE (mFr.upE (mFr.upE mFr.rf eg6 rfl) eg9 rfl) eg13 rfl) hp16.1 rfl), hp16.2.1, (fun s => by have h0 := congrArg Int32.toInt (congrFun e386_16 s); have w0 := hsg16 s; have hl := congrArg Int32.toInt (congrFun ((show mFr [] g16 g16 from mFr.rf).at 386 rfl) s); omega), (by omega), trivial⟩ hcs.1 hcs.2 dX4_add_42

def rm_kaskc (ms : Nat) : Room := { frames := 9, cells := 2, slots := 18 + 1 * ms, locals := 206 }
theorem hd_kaskc : yX4_ask.cls = cRn 4 ∧ yX4_ask.cls ≠ "java/lang/invoke/MethodHandle" ∧ yX4_ask.cls ≠ "java/lang/invoke/VarHandle" ∧ (parseMethodDescriptor yX4_ask.desc).map (fun d => d.parameters.length) = some 3 := by decide +kernel
set_option maxHeartbeats 4000000 in
set_option maxRecDepth 100000 in
theorem c_kaskc (l : Launch) {G : cG} {Z : cZ} (X : Int) (g : mSt) (i0 : Nat) (p1 : Int32) (p2 : Int32) (p3 : Int32) (sz ms : Nat) (hX : 0 ≤ X ∧ X ≤ 2000000000) (hJ : cJ Z g) (hMz : cMz ms 1 Z g) (hw2 : Z.w 2 + 1 ≤ 1000000) (hi0 : i0 < Z.n) : Met l yX4_ask (wk (Cond.code yX4_ask cX4_ask 5 (some .int))) (rm_kaskc ms) (va_Pc [.ref (Z.ad 4 i0), .int p1, .int p2, .int p3] (cPreA G Z X g sz)) (kE 2 (18 + 1 * ms) (cAf Z sz) (cQiA G Z X (fun r Z1 g1 => mFr [32, 33, 34, 35, 36, 37, 38, 39, 40, 41, 42, 43, 44, 45, 46, 47, 48, 49, 131, 135, 198, 384, 385, 386, 832, 864, 1536, 1728, 1729] g g1 ∧ rg (-2147483648) (2147483647) r ∧ cJ Z1 g1 ∧ (∀ s, (g 386 s).toInt ≤ (g1 386 s).toInt ∧ (g1 386 s).toInt ≤ (g 386 s).toInt + 1) ∧ Z1.w 2 ≤ Z.w 2 + 1 ∧ True))) 2 (18 + 1 * ms) (cAf Z sz) := by
  refine Met.ofW (cc := cX4_ask) (maxL := 5) (ret := (some .int)) (by decide) rfl ?_
  intro p e s m args below meth c s₁ B hml hv
  obtain ⟨hav, hv⟩ := hv
  have hsz0 := hv.2.1
  subst hsz0
  have hr := B.returns
  have hlocks := B.notSynchronized
  obtain ⟨xa, L⟩ := k_start B rfl (fun w h => wk_in h) hv
  have hent : entryFrame m args 5 = entryFrame m ([.ref (Z.ad 4 i0), .int p1, .int p2, .int p3] : List Value).toArray 5 := by rw [hav]
  rw [hent]
  have hl := lv_entry ([.ref (Z.ad 4 i0), .int p1, .int p2, .int p3]) (n := 5) (Nat.le_of_ble_eq_true rfl)
  rw [lg_entry_eq]
  generalize (lg_sl ([.ref (Z.ad 4 i0), .int p1, .int p2, .int p3]) ++ List.replicate (5 - (lg_sl ([.ref (Z.ad 4 i0), .int p1, .int p2, .int p3])).length) Slot.unset).toArray = ls at hl ⊢
  have hl : lv_has ls 5 [(0, .ref (Z.ad 4 i0)), (1, .int p1), (2, .int p2), (3, .int p3)] := hl
  have x := xa.1
  have hx := x.1
  have hb := x.2.1
  have hz := x.2.2.2.2.2.2.2.1
  have hzn := hz.1
  have hzl : cZl Z Z 0 0 := cZl.rf
  have hcs : 0 ≤ 2 ∧ 0 ≤ 18 + 1 * ms := ⟨Nat.zero_le _, Nat.zero_le _⟩
  have hal0 : Z.al 4 i0 := hz.2 4 i0 (show i0 < Z.n from hi0)
  have up1 : (-2147483648 : Int) ≤ p1.toInt ∧ p1.toInt ≤ 2147483647 := (rg_any p1)
  have up2 : (-2147483648 : Int) ≤ p2.toInt ∧ p2.toInt ≤ 2147483647 := (rg_any p2)
  have up3 : (-2147483648 : Int) ≤ p3.toInt ∧ p3.toInt ≤ 2147483647 := (rg_any p3)
  refine lv_aload_n hx hb dX4_ask_0 rfl (lv_at hl 0 rfl) ?_
  refine c_ci (As := []) (rest := []) x hml L 4 i0 hal0 rfl (c_khasRoom l X g i0 hX hJ (show i0 < Z.n from (by omega))) (wk_V kd_X4_hasRoom kl_X4_51 ki_X4_hasRoom ks_X4_X4_hasRoom kn_X4) rfl ⟨rfl, rfl⟩ hd_khasRoom ⟨Nat.le_of_ble_eq_true rfl, Nat.le_of_ble_eq_true rfl⟩ rfl hl.1 rfl (lv_room (Nat.le_of_ble_eq_true rfl)) dX4_ask_1 (fun v2 g1 H1 k1 hp1 L1 => ?_) hcs
  have rv2 : rg (0) (1) v2 := hp1.2.1
  have uv2 : (0 : Int) ≤ v2.toInt ∧ v2.toInt ≤ 1 := rv2
  refine lv_if_eq (tgt := 30) hx hb dX4_ask_4 (by decide) (fun c4_3 => ?_) (fun c4_3 => ?_)
  · skip
    have ic4_3 := congrArg Int32.toInt c4_3
    have y4 : (0 : Int32).toInt = 0 := by decide
    have q5 : rg (0) (0) v2 := (rg_eq c4_3 rv2 kc_0).1
    have uq5 : (0 : Int) ≤ v2.toInt ∧ v2.toInt ≤ 0 := q5
    refine lv_bipush (v := (-3)) hx hb dX4_ask_30 (by decide) ?_
    exact k_iret (v := (-3 : Int32)) xa L1 hr hlocks (Int.le_refl _) hzl ⟨(mFr.tr mFr.rf hp1.1 rfl), rg_w kc_m3 rfl, hp1.2.2.1, (fun s => by have hl := congrArg Int32.toInt (congrFun ((show mFr [] g g1 from (mFr.tr mFr.rf hp1.1 rfl)).at 386 rfl) s); omega), (by omega), trivial⟩ hcs.1 hcs.2 dX4_ask_32
  · skip
    have ic4_3 : v2.toInt ≠ (0 : Int32).toInt := fun z => c4_3 (Int32.toInt_inj.mp z)
    have y6 : (0 : Int32).toInt = 0 := by decide
    have q7 : rg (1) (1) v2 := rg_neL c4_3 rv2 kc_0
    have uq7 : (1 : Int) ≤ v2.toInt ∧ v2.toInt ≤ 1 := q7
    refine lv_aload_n hx hb dX4_ask_7 rfl (lv_at hl 0 rfl) ?_
    have al8 : Z.al 5 i0 := hz.2 5 i0 (show i0 < 2 * Z.n from (by omega))
    refine c_getrS (a := Z.ad 5 i0) x L1 4 i0 1 hal0 rfl rfl (wk_in kf_X4_55) (fun y h => u_same (x.2.2.1 _ (wk_in ke_CellSwitchEndSide_CellSwitchSide_line)) y h) dX4_ask_8 ?_
    have al9 : Z.al 6 i0 := hz.2 6 i0 (show i0 < 2 * Z.n from (by omega))
    refine c_getr (a := Z.ad 6 i0) x L1 5 i0 1 al8 rfl rfl (wk_in kf_X4_59) dX4_ask_11 ?_
    refine c_geti x L1 6 i0 6 198 al9 rfl rfl (wk_in kf_X4_65) dX4_ask_14 (fun v10 ev10 wv10 => ?_)
    have rv10 : rg (0) (10) v10 := clj_198 wv10
    have uv10 : (0 : Int) ≤ v10.toInt ∧ v10.toInt ≤ 10 := rv10
    refine lv_aload_n hx hb dX4_ask_17 rfl (lv_at hl 0 rfl) ?_
    refine c_getrS (a := Z.ad 5 i0) x L1 4 i0 1 hal0 rfl rfl (wk_in kf_X4_55) (fun y h => u_same (x.2.2.1 _ (wk_in ke_CellSwitchEndSide_CellSwitchSide_line)) y h) dX4_ask_18 ?_
    refine c_getr (a := Z.ad 6 i0) x L1 5 i0 1 al8 rfl rfl (wk_in kf_X4_59) dX4_ask_21 ?_
    refine c_geti x L1 6 i0 0 192 al9 rfl rfl (wk_in kf_X4_70) dX4_ask_24 (fun v11 ev11 wv11 => ?_)
    have rv11 : rg (10) (10) v11 := clj_192 wv11
    refine m_top (rg_lit rv11 (show (10 : Int32).toInt = 10 from (by decide))) ?_
    refine lv_icmp_lt (tgt := 33) hx hb dX4_ask_27 (by decide) (fun c27_12 => ?_) (fun c27_12 => ?_)
    · skip
      have ic27_12 := Int32.lt_iff_toInt_lt.mp c27_12
      have q13 : rg (0) (9) v10 := (rg_lt c27_12 rv10 kc_10).1
      have uq13 : (0 : Int) ≤ v10.toInt ∧ v10.toInt ≤ 9 := q13
      refine lv_aload_n hx hb dX4_ask_33 rfl (lv_at hl 0 rfl) ?_
      refine lv_dup hx hb dX4_ask_34 rfl ?_
      refine c_getiS x L1 4 i0 3 131 hal0 rfl rfl (wk_in kf_X4_73) (fun y h => u_same (x.2.2.1 _ (wk_in ke_CellSwitchEndSide_CellSwitchSide_lastReference)) y h) dX4_ask_35 (fun v14 ev14 wv14 => ?_)
      have rv14 : rg (-2147483648) (2147483647) v14 := rg_any v14
      have uv14 : (-2147483648 : Int) ≤ v14.toInt ∧ v14.toInt ≤ 2147483647 := rv14
      refine lv_iconst (v := 1) hx hb dX4_ask_38 (by decide) ?_
      refine lv_iadd hx hb dX4_ask_39 ?_
      refine lv_topi (fun v15 ev15 => ?_)
      have rv15 : rg (-2147483648) (2147483647) v15 := rg_any v15
      have uv15 : (-2147483648 : Int) ≤ v15.toInt ∧ v15.toInt ≤ 2147483647 := rv15
      refine c_putiS x L1 4 i0 3 131 hal0 rfl rfl ⟨rfl, by decide +kernel⟩ (wk_in kf_X4_73) (fun y h => u_same (x.2.2.1 _ (wk_in ke_CellSwitchEndSide_CellSwitchSide_lastReference)) y h) dX4_ask_40 (rg_any v15) (fun g16 H16 k16 eg16 L16 => ?_)
      refine k_newCall xa L16 (wk_in kc_lX4_18) (wk_in kx_X1) (wk_in kn_X1) (show 0 + 1 ≤ 2 by omega) (show 0 + 18 ≤ 18 + 1 * ms by omega) dX4_ask_43 (fun a17 H17 O17 hfr17 hAa17 L17 => ?_)
      have hcs : 0 + 1 ≤ 2 ∧ 0 + 18 ≤ 18 + 1 * ms := by omega
      refine lv_dup hx hb dX4_ask_46 rfl ?_
      refine lv_aload_n hx hb dX4_ask_47 rfl (lv_at hl 0 rfl) ?_
      refine lv_aload_n hx hb dX4_ask_48 rfl (lv_at hl 0 rfl) ?_
      refine c_getiS x L17 4 i0 3 131 hal0 rfl rfl (wk_in kf_X4_73) (fun y h => u_same (x.2.2.1 _ (wk_in ke_CellSwitchEndSide_CellSwitchSide_lastReference)) y h) dX4_ask_49 (fun v18 ev18 wv18 => ?_)
      refine m_top (((mm_st eg16)).trans ev18.symm) ?_
      refine lv_iconst (v := 1) hx hb dX4_ask_52 (by decide) ?_
      obtain ⟨sd20, hsd20⟩ := k_sd i0 (by omega)
      refine k_initCall (rest := [.ref a17]) xa (hml.trans hl.1.symm) L17 O17 hfr17 hAa17 (cJ_up hp1.2.2.1 eg16 rfl) (by omega) sd20 v15 (1 : Int32) (cSd_4 hsd20 (by omega)) ⟨by omega, by omega⟩ (rg_w kc_1 rfl) (wk_good kd_X1_init) (wk_in kl_X4_76) (wk_in ki_X1_init) (wk_in kn_X1) ⟨Nat.le_of_ble_eq_true rfl, Nat.le_of_ble_eq_true rfl⟩ (Nat.le_of_ble_eq_true rfl) hcs dX4_ask_53 (fun v19 Z g19 H19 k19 hv19 hz19 hww19 xa L19 hJ19 al19 ad19 eg19 hne19 => ?_)
      have hc19 : 0 ≤ v19.toInt := by omega
      have fr19 : mFr [32, 33, 34, 35, 36, 37, 38, 39, 40, 41, 42, 43, 44, 45, 46, 47, 48, 49] g16 g19 := by rw [eg19]; exact gNew_fr
      subst ad19
      have ea19_0 := hz19.2.2.1 4 i0 hal0 (by omega)
      rw [← ea19_0] at hl
      have al19_0 := hz19.2.1 4 i0 hal0
      have hZn19 := hz19.1
      have x := xa.1
      have hz := x.2.2.2.2.2.2.2.1
      have hzn := hz.1
      have e32_19 : sd20 = g19 32 v19.toInt.toNat := by rw [eg19]; exact (if_pos ⟨rfl, by decide, by decide⟩ : gNew g16 v19.toInt.toNat sd20 v15 (1 : Int32) 32 v19.toInt.toNat = _).symm
      have hzl := cZl.tr hzl hz19
      have e386_19 := ((show mFr [32, 33, 34, 35, 36, 37, 38, 39, 40, 41, 42, 43, 44, 45, 46, 47, 48, 49, 131] g g19 from (mFr.tr (mFr.upE (mFr.tr mFr.rf hp1.1 rfl) eg16 rfl) fr19 rfl)).at 386 rfl)
      have hMz19 := cMz.mv hMz hz19.1 e386_19
      refine lv_astore (lv' := [(4, .ref (Z.ad 1 v19.toInt.toNat)), (0, .ref (Z.ad 4 i0)), (1, .int p1), (2, .int p2), (3, .int p3)]) hx hb dX4_ask_56 hl (by decide) rfl (fun ls hl => ?_)
      refine lv_aload hx hb dX4_ask_58 (lv_at hl 0 rfl) ?_
      refine lv_iload_n hx hb dX4_ask_60 rfl (lv_at hl 2 rfl) ?_
      refine c_puti x L19 1 v19.toInt.toNat 7 39 al19 rfl rfl ⟨rfl, by decide +kernel⟩ (wk_in kf_X4_79) dX4_ask_61 (rg_any p1) (fun g21 H21 k21 eg21 L21 => ?_)
      refine lv_aload hx hb dX4_ask_64 (lv_at hl 0 rfl) ?_
      refine lv_iload_n hx hb dX4_ask_66 rfl (lv_at hl 3 rfl) ?_
      refine c_puti x L21 1 v19.toInt.toNat 6 38 al19 rfl rfl ⟨rfl, by decide +kernel⟩ (wk_in kf_X4_82) dX4_ask_67 (rg_any p2) (fun g22 H22 k22 eg22 L22 => ?_)
      refine lv_aload hx hb dX4_ask_70 (lv_at hl 0 rfl) ?_
      refine lv_iconst (v := 1) hx hb dX4_ask_72 (by decide) ?_
      refine lv_iload_n hx hb dX4_ask_73 rfl (lv_at hl 4 rfl) ?_
      refine lv_bipush (v := 8) hx hb dX4_ask_74 (by decide) ?_
      refine lv_iadd hx hb dX4_ask_76 ?_
      refine lv_topi (fun v23 ev23 => ?_)
      have rv23 : rg (-2147483648) (2147483647) v23 := rg_any v23
      have uv23 : (-2147483648 : Int) ≤ v23.toInt ∧ v23.toInt ≤ 2147483647 := rv23
      refine c_cv (As := [.int (1 : Int32), .int v23]) (rest := []) x hml L22 1 v19.toInt.toNat al19 rfl (c_kenter l X g22 v19.toInt.toNat (1 : Int32) v23 hX (cJ_up (cJ_up hJ19 eg21 rfl) eg22 rfl) al19) (wk_V kd_X1_enter kl_X4_85 ki_X1_enter ks_X1_X1_enter kn_X1) rfl ⟨rfl, rfl⟩ hd_kenter ⟨Nat.le_of_ble_eq_true rfl, Nat.le_of_ble_eq_true rfl⟩ rfl hl.1 rfl (lv_room (Nat.le_of_ble_eq_true rfl)) dX4_ask_77 (fun  g24 H24 k24 hp24 L24 => ?_) hcs
      refine lv_aload_n hx hb dX4_ask_80 rfl (lv_at hl 1 rfl) ?_
      refine lv_aload hx hb dX4_ask_81 (lv_at hl 0 rfl) ?_
      have y25 := congrArg Int32.toInt (mm_fr (mm_up (mm_up e32_19 eg21 rfl) eg22 rfl) hp24.1 rfl)
      have e386_26 := ((show mFr [36, 38, 39, 41, 42, 44, 45, 46, 48] g19 g24 from (mFr.tr (mFr.upE (mFr.upE mFr.rf eg21 rfl) eg22 rfl) hp24.1 rfl)).at 386 rfl)
      have hMz26 := cMz.eq hMz19 e386_26 (show 1 ≤ 1 by decide)
      refine k_callv xa L24 (k_runV (As := [.ref (Z.ad 1 v19.toInt.toNat)]) (rest := []) ⟨hx, hb, hml, x.2.2.2.2.1, x.2.2.1⟩ (c_keadd l X g24 i0 v19 _ ms hX hp24.2.1 hMz26 (by omega) (show i0 < Z.n from (by omega)) hc19 al19 (by omega)) (cwV 1 x.2.2.1 (wk_V kd_X4_add kl_X4_89 ki_X4_add ks_X4_X4_add kn_X4) rfl rfl rfl hd_keadd ⟨Nat.le_of_ble_eq_true rfl, Nat.le_of_ble_eq_true rfl⟩) ⟨cPreA.blind, c_recv x L24 al19_0 rfl, fun U hU hW => k_pre xa L24 U hU hW⟩ rfl rfl hl.1 rfl (lv_room (Nat.le_of_ble_eq_true rfl)) dX4_ask_83 ⟨show 0 + 1 + 1 ≤ 2 by omega, show 0 + 18 + (0 + 1 * ms) ≤ 18 + 1 * ms by omega⟩) (fun  Z g26 H26 k26 kc26 kn26 hk26 hn26 hp26 hz26 xa L26 => ?_)
      have hsg26 := hp26.2.2.1
      have hww26 := hp26.2.2.2.1
      have ea26_0 := hz26.2.2.1 1 v19.toInt.toNat al19 (by omega)
      have ea26_1 := hz26.2.2.1 4 i0 al19_0 (by omega)
      rw [← ea26_0] at hl
      rw [← ea26_1] at hl
      have al26_0 := hz26.2.1 1 v19.toInt.toNat al19
      have al26_1 := hz26.2.1 4 i0 al19_0
      have hZn26 := hz26.1
      have x := xa.1
      have hz := x.2.2.2.2.2.2.2.1
      have hzn := hz.1
      have hMy27 := (cMz.fr (a := 0) (b := 1) (show cMz ms (0 + 1) _ _ from cMz.eq hMz19 e386_26 (show 0 + 1 ≤ 1 by decide)) hz26.1 (fun s => (hsg26 s).2))
      have hzl := cZl.tr hzl hz26
      have hcs : 0 + 1 + kc26 ≤ 2 ∧ 0 + 18 + kn26 ≤ 18 + 1 * ms := by omega
      refine lv_aload_n hx hb dX4_ask_86 rfl (lv_at hl 1 rfl) ?_
      refine lv_aload hx hb dX4_ask_87 (lv_at hl 0 rfl) ?_
      refine c_cv (As := [.ref (Z.ad 1 v19.toInt.toNat)]) (rest := []) x hml L26 4 i0 al26_1 rfl (c_ksaySetup_4 l X g26 i0 v19.toInt.toNat hX (show i0 < Z.n from (by omega)) al26_0) (wk_V kd_X4_saySetup kl_X4_92 ki_X4_saySetup ks_X4_X4_saySetup kn_X4) rfl ⟨rfl, rfl⟩ hd_ksaySetup_4 ⟨Nat.le_of_ble_eq_true rfl, Nat.le_of_ble_eq_true rfl⟩ rfl hl.1 rfl (lv_room (Nat.le_of_ble_eq_true rfl)) dX4_ask_89 (fun  g28 H28 k28 hp28 L28 => ?_) hcs
      refine lv_aload hx hb dX4_ask_92 (lv_at hl 0 rfl) ?_
      refine c_geti x L28 1 v19.toInt.toNat 3 35 al26_0 rfl rfl (wk_in kf_X4_44) dX4_ask_94 (fun v29 ev29 wv29 => ?_)
      have rv29 : rg (-2147483648) (2147483647) v29 := rg_any v29
      have uv29 : (-2147483648 : Int) ≤ v29.toInt ∧ v29.toInt ≤ 2147483647 := rv29
      exact k_iret (v := v29) xa L28 hr hlocks (Int.le_refl _) hzl ⟨(mFr.tr (mFr.tr (mFr.tr (mFr.upE (mFr.upE (mFr.tr (mFr.upE (mFr.tr mFr.rf hp1.1 rfl) eg16 rfl) fr19 rfl) eg21 rfl) eg22 rfl) hp24.1 rfl) hp26.1 rfl) hp28.1 rfl), rg_w rv29 rfl, (cJ_fr hp26.2.1 hp28.1 rfl), (fun s => by have h0 := congrArg Int32.toInt (congrFun e386_19 s); have h1 := congrArg Int32.toInt (congrFun e386_26 s); have w1 := hsg26 s; have hl := congrArg Int32.toInt (congrFun ((show mFr [198, 832, 864] g26 g28 from (mFr.tr mFr.rf hp28.1 rfl)).at 386 rfl) s); omega), (by omega), trivial⟩ hcs.1 hcs.2 dX4_ask_97
    · skip
      have ic27_12 := Int32.le_iff_toInt_le.mp (rg_nlt c27_12)
      have q30 : rg (10) (10) v10 := (rg_le (rg_nlt c27_12) kc_10 rv10).2
      have uq30 : (10 : Int) ≤ v10.toInt ∧ v10.toInt ≤ 10 := q30
      refine lv_bipush (v := (-3)) hx hb dX4_ask_30 (by decide) ?_
      exact k_iret (v := (-3 : Int32)) xa L1 hr hlocks (Int.le_refl _) hzl ⟨(mFr.tr mFr.rf hp1.1 rfl), rg_w kc_m3 rfl, hp1.2.2.1, (fun s => by have hl := congrArg Int32.toInt (congrFun ((show mFr [] g g1 from (mFr.tr mFr.rf hp1.1 rfl)).at 386 rfl) s); omega), (by omega), trivial⟩ hcs.1 hcs.2 dX4_ask_32

def rm_ksetupCame_4 (ms : Nat) : Room := { frames := 9, cells := 2, slots := 18 + 1 * ms, locals := 206 }
theorem hd_ksetupCame_4 : yX4_setupCame.cls = cRn 4 ∧ yX4_setupCame.cls ≠ "java/lang/invoke/MethodHandle" ∧ yX4_setupCame.cls ≠ "java/lang/invoke/VarHandle" ∧ (parseMethodDescriptor yX4_setupCame.desc).map (fun d => d.parameters.length) = some 2 := by decide +kernel
set_option maxHeartbeats 4000000 in
set_option maxRecDepth 100000 in
theorem c_ksetupCame_4 (l : Launch) {G : cG} {Z : cZ} (X : Int) (g : mSt) (i0 : Nat) (q1 : Nat) (p2 : Int32) (sz ms : Nat) (hX : 0 ≤ X ∧ X ≤ 2000000000) (hJ : cJ Z g) (hMz : cMz ms 1 Z g) (hw2 : Z.w 2 + 1 ≤ 1000000) (hi0 : i0 < Z.n) (hq1 : Z.al 9 q1) : Met l yX4_setupCame (wk (Cond.code yX4_setupCame cX4_setupCame 4 none)) (rm_ksetupCame_4 ms) (va_Pc [.ref (Z.ad 4 i0), .ref (Z.ad 9 q1), .int p2] (cPreA G Z X g sz)) (kE 2 (18 + 1 * ms) (cAf Z sz) (cQvA G Z X (fun Z1 g1 => mFr [32, 33, 34, 35, 36, 37, 38, 39, 40, 41, 42, 43, 44, 45, 46, 47, 48, 49, 135, 198, 384, 385, 386, 832, 864, 1536, 1728, 1729] g g1 ∧ cJ Z1 g1 ∧ (∀ s, (g 386 s).toInt ≤ (g1 386 s).toInt ∧ (g1 386 s).toInt ≤ (g 386 s).toInt + 1) ∧ Z1.w 2 ≤ Z.w 2 + 1 ∧ True))) 2 (18 + 1 * ms) (cAf Z sz) := by
  refine Met.ofW (cc := cX4_setupCame) (maxL := 4) (ret := none) (by decide) rfl ?_
  intro p e s m args below meth c s₁ B hml hv
  obtain ⟨hav, hv⟩ := hv
  have hsz0 := hv.2.1
  subst hsz0
  have hr := B.returns
  have hlocks := B.notSynchronized
  obtain ⟨xa, L⟩ := k_start B rfl (fun w h => wk_in h) hv
  have hent : entryFrame m args 4 = entryFrame m ([.ref (Z.ad 4 i0), .ref (Z.ad 9 q1), .int p2] : List Value).toArray 4 := by rw [hav]
  rw [hent]
  have hl := lv_entry ([.ref (Z.ad 4 i0), .ref (Z.ad 9 q1), .int p2]) (n := 4) (Nat.le_of_ble_eq_true rfl)
  rw [lg_entry_eq]
  generalize (lg_sl ([.ref (Z.ad 4 i0), .ref (Z.ad 9 q1), .int p2]) ++ List.replicate (4 - (lg_sl ([.ref (Z.ad 4 i0), .ref (Z.ad 9 q1), .int p2])).length) Slot.unset).toArray = ls at hl ⊢
  have hl : lv_has ls 4 [(0, .ref (Z.ad 4 i0)), (1, .ref (Z.ad 9 q1)), (2, .int p2)] := hl
  have x := xa.1
  have hx := x.1
  have hb := x.2.1
  have hz := x.2.2.2.2.2.2.2.1
  have hzn := hz.1
  have hzl : cZl Z Z 0 0 := cZl.rf
  have hcs : 0 ≤ 2 ∧ 0 ≤ 18 + 1 * ms := ⟨Nat.zero_le _, Nat.zero_le _⟩
  have hal0 : Z.al 4 i0 := hz.2 4 i0 (show i0 < Z.n from hi0)
  have up2 : (-2147483648 : Int) ≤ p2.toInt ∧ p2.toInt ≤ 2147483647 := (rg_any p2)
  refine lv_aload_n hx hb dX4_setupCame_0 rfl (lv_at hl 0 rfl) ?_
  refine c_ci (As := []) (rest := []) x hml L 4 i0 hal0 rfl (c_khasRoom l X g i0 hX hJ (show i0 < Z.n from (by omega))) (wk_V kd_X4_hasRoom kl_X4_51 ki_X4_hasRoom ks_X4_X4_hasRoom kn_X4) rfl ⟨rfl, rfl⟩ hd_khasRoom ⟨Nat.le_of_ble_eq_true rfl, Nat.le_of_ble_eq_true rfl⟩ rfl hl.1 rfl (lv_room (Nat.le_of_ble_eq_true rfl)) dX4_setupCame_1 (fun v2 g1 H1 k1 hp1 L1 => ?_) hcs
  have rv2 : rg (0) (1) v2 := hp1.2.1
  have uv2 : (0 : Int) ≤ v2.toInt ∧ v2.toInt ≤ 1 := rv2
  refine lv_if_ne (tgt := 21) hx hb dX4_setupCame_4 (by decide) (fun c4_3 => ?_) (fun c4_3 => ?_)
  · skip
    have ic4_3 : v2.toInt ≠ (0 : Int32).toInt := fun z => c4_3 (Int32.toInt_inj.mp z)
    have y4 : (0 : Int32).toInt = 0 := by decide
    have q5 : rg (1) (1) v2 := rg_neL c4_3 rv2 kc_0
    have uq5 : (1 : Int) ≤ v2.toInt ∧ v2.toInt ≤ 1 := q5
    refine k_newCall xa L1 (wk_in kc_lX4_18) (wk_in kx_X1) (wk_in kn_X1) (show 0 + 1 ≤ 2 by omega) (show 0 + 18 ≤ 18 + 1 * ms by omega) dX4_setupCame_21 (fun a6 H6 O6 hfr6 hAa6 L6 => ?_)
    have hcs : 0 + 1 ≤ 2 ∧ 0 + 18 ≤ 18 + 1 * ms := by omega
    refine lv_dup hx hb dX4_setupCame_24 rfl ?_
    refine lv_aload_n hx hb dX4_setupCame_25 rfl (lv_at hl 0 rfl) ?_
    refine lv_aload_n hx hb dX4_setupCame_26 rfl (lv_at hl 1 rfl) ?_
    refine c_geti x L6 9 q1 1 289 hq1 rfl rfl (wk_in kf_X4_112) dX4_setupCame_27 (fun v7 ev7 wv7 => ?_)
    have rv7 : rg (-2147483648) (2147483647) v7 := rg_any v7
    have uv7 : (-2147483648 : Int) ≤ v7.toInt ∧ v7.toInt ≤ 2147483647 := rv7
    have sv7 : v7.toInt = (g 289 q1).toInt := congrArg Int32.toInt (ev7.trans (congrFun ((show mFr [32, 33, 34, 35, 36, 37, 38, 39, 40, 41, 42, 43, 44, 45, 46, 47, 48, 49, 135, 198, 384, 385, 386, 832, 864, 1536, 1728, 1729] g g1 from (mFr.tr mFr.rf hp1.1 rfl)).at 289 rfl) _))
    refine lv_iconst (v := 0) hx hb dX4_setupCame_30 (by decide) ?_
    obtain ⟨sd9, hsd9⟩ := k_sd i0 (by omega)
    refine k_initCall (rest := [.ref a6]) xa (hml.trans hl.1.symm) L6 O6 hfr6 hAa6 hp1.2.2.1 (by omega) sd9 v7 (0 : Int32) (cSd_4 hsd9 (by omega)) ⟨by omega, by omega⟩ (rg_w kc_0 rfl) (wk_good kd_X1_init) (wk_in kl_X4_76) (wk_in ki_X1_init) (wk_in kn_X1) ⟨Nat.le_of_ble_eq_true rfl, Nat.le_of_ble_eq_true rfl⟩ (Nat.le_of_ble_eq_true rfl) hcs dX4_setupCame_31 (fun v8 Z g8 H8 k8 hv8 hz8 hww8 xa L8 hJ8 al8 ad8 eg8 hne8 => ?_)
    have hc8 : 0 ≤ v8.toInt := by omega
    have fr8 : mFr [32, 33, 34, 35, 36, 37, 38, 39, 40, 41, 42, 43, 44, 45, 46, 47, 48, 49] g1 g8 := by rw [eg8]; exact gNew_fr
    subst ad8
    have ea8_0 := hz8.2.2.1 4 i0 hal0 (by omega)
    have ea8_1 := hz8.2.2.1 9 q1 hq1 (by omega)
    rw [← ea8_0] at hl
    rw [← ea8_1] at hl
    have al8_0 := hz8.2.1 4 i0 hal0
    have al8_1 := hz8.2.1 9 q1 hq1
    have hZn8 := hz8.1
    have x := xa.1
    have hz := x.2.2.2.2.2.2.2.1
    have hzn := hz.1
    have e32_8 : sd9 = g8 32 v8.toInt.toNat := by rw [eg8]; exact (if_pos ⟨rfl, by decide, by decide⟩ : gNew g1 v8.toInt.toNat sd9 v7 (0 : Int32) 32 v8.toInt.toNat = _).symm
    have hzl := cZl.tr hzl hz8
    have e386_8 := ((show mFr [32, 33, 34, 35, 36, 37, 38, 39, 40, 41, 42, 43, 44, 45, 46, 47, 48, 49] g g8 from (mFr.tr (mFr.tr mFr.rf hp1.1 rfl) fr8 rfl)).at 386 rfl)
    have hMz8 := cMz.mv hMz hz8.1 e386_8
    refine lv_astore_n (lv' := [(3, .ref (Z.ad 1 v8.toInt.toNat)), (0, .ref (Z.ad 4 i0)), (1, .ref (Z.ad 9 q1)), (2, .int p2)]) hx hb dX4_setupCame_34 rfl hl (by decide) rfl (fun ls hl => ?_)
    refine lv_aload_n hx hb dX4_setupCame_35 rfl (lv_at hl 0 rfl) ?_
    refine lv_aload_n hx hb dX4_setupCame_36 rfl (lv_at hl 2 rfl) ?_
    refine c_geti x L8 9 q1 4 292 al8_1 rfl rfl (wk_in kf_X4_117) dX4_setupCame_37 (fun v10 ev10 wv10 => ?_)
    have rv10 : rg (-2147483648) (2147483647) v10 := rg_any v10
    have uv10 : (-2147483648 : Int) ≤ v10.toInt ∧ v10.toInt ≤ 2147483647 := rv10
    have sv10 : v10.toInt = (g 292 q1).toInt := congrArg Int32.toInt (ev10.trans (congrFun ((show mFr [32, 33, 34, 35, 36, 37, 38, 39, 40, 41, 42, 43, 44, 45, 46, 47, 48, 49, 135, 198, 384, 385, 386, 832, 864, 1536, 1728, 1729] g g8 from (mFr.tr (mFr.tr mFr.rf hp1.1 rfl) fr8 rfl)).at 292 rfl) _))
    refine c_puti x L8 1 v8.toInt.toNat 7 39 al8 rfl rfl ⟨rfl, by decide +kernel⟩ (wk_in kf_X4_79) dX4_setupCame_40 (rg_any v10) (fun g11 H11 k11 eg11 L11 => ?_)
    refine lv_aload_n hx hb dX4_setupCame_43 rfl (lv_at hl 0 rfl) ?_
    refine lv_aload_n hx hb dX4_setupCame_44 rfl (lv_at hl 2 rfl) ?_
    refine c_geti x L11 9 q1 5 293 al8_1 rfl rfl (wk_in kf_X4_120) dX4_setupCame_45 (fun v12 ev12 wv12 => ?_)
    have rv12 : rg (-2147483648) (2147483647) v12 := rg_any v12
    have uv12 : (-2147483648 : Int) ≤ v12.toInt ∧ v12.toInt ≤ 2147483647 := rv12
    have sv12 : v12.toInt = (g 293 q1).toInt := congrArg Int32.toInt (ev12.trans (congrFun ((show mFr [32, 33, 34, 35, 36, 37, 38, 39, 40, 41, 42, 43, 44, 45, 46, 47, 48, 49, 135, 198, 384, 385, 386, 832, 864, 1536, 1728, 1729] g g11 from (mFr.upE (mFr.tr (mFr.tr mFr.rf hp1.1 rfl) fr8 rfl) eg11 rfl)).at 293 rfl) _))
    refine c_puti x L11 1 v8.toInt.toNat 6 38 al8 rfl rfl ⟨rfl, by decide +kernel⟩ (wk_in kf_X4_82) dX4_setupCame_48 (rg_any v12) (fun g13 H13 k13 eg13 L13 => ?_)
    refine lv_aload_n hx hb dX4_setupCame_51 rfl (lv_at hl 0 rfl) ?_
    refine lv_aload_n hx hb dX4_setupCame_52 rfl (lv_at hl 2 rfl) ?_
    refine c_geti x L13 9 q1 6 294 al8_1 rfl rfl (wk_in kf_X4_121) dX4_setupCame_53 (fun v14 ev14 wv14 => ?_)
    have rv14 : rg (-2147483648) (2147483647) v14 := rg_any v14
    have uv14 : (-2147483648 : Int) ≤ v14.toInt ∧ v14.toInt ≤ 2147483647 := rv14
    have sv14 : v14.toInt = (g 294 q1).toInt := congrArg Int32.toInt (ev14.trans (congrFun ((show mFr [32, 33, 34, 35, 36, 37, 38, 39, 40, 41, 42, 43, 44, 45, 46, 47, 48, 49, 135, 198, 384, 385, 386, 832, 864, 1536, 1728, 1729] g g13 from (mFr.upE (mFr.upE (mFr.tr (mFr.tr mFr.rf hp1.1 rfl) fr8 rfl) eg11 rfl) eg13 rfl)).at 294 rfl) _))
    refine c_puti x L13 1 v8.toInt.toNat 5 37 al8 rfl rfl ⟨rfl, by decide +kernel⟩ (wk_in kf_X4_124) dX4_setupCame_56 (rg_any v14) (fun g15 H15 k15 eg15 L15 => ?_)
    refine lv_aload_n hx hb dX4_setupCame_59 rfl (lv_at hl 1 rfl) ?_
    refine lv_aload_n hx hb dX4_setupCame_60 rfl (lv_at hl 0 rfl) ?_
    have y16 := congrArg Int32.toInt (mm_up (mm_up (mm_up e32_8 eg11 rfl) eg13 rfl) eg15 rfl)
    have e386_17 := ((show mFr [37, 38, 39] g8 g15 from (mFr.upE (mFr.upE (mFr.upE mFr.rf eg11 rfl) eg13 rfl) eg15 rfl)).at 386 rfl)
    have hMz17 := cMz.eq hMz8 e386_17 (show 1 ≤ 1 by decide)
    refine k_callv xa L15 (k_runV (As := [.ref (Z.ad 1 v8.toInt.toNat)]) (rest := []) ⟨hx, hb, hml, x.2.2.2.2.1, x.2.2.1⟩ (c_keadd l X g15 i0 v8 _ ms hX (cJ_up (cJ_up (cJ_up hJ8 eg11 rfl) eg13 rfl) eg15 rfl) hMz17 (by omega) (show i0 < Z.n from (by omega)) hc8 al8 (by omega)) (cwV 1 x.2.2.1 (wk_V kd_X4_add kl_X4_89 ki_X4_add ks_X4_X4_add kn_X4) rfl rfl rfl hd_keadd ⟨Nat.le_of_ble_eq_true rfl, Nat.le_of_ble_eq_true rfl⟩) ⟨cPreA.blind, c_recv x L15 al8_0 rfl, fun U hU hW => k_pre xa L15 U hU hW⟩ rfl rfl hl.1 rfl (lv_room (Nat.le_of_ble_eq_true rfl)) dX4_setupCame_61 ⟨show 0 + 1 + 1 ≤ 2 by omega, show 0 + 18 + (0 + 1 * ms) ≤ 18 + 1 * ms by omega⟩) (fun  Z g17 H17 k17 kc17 kn17 hk17 hn17 hp17 hz17 xa L17 => ?_)
    have hsg17 := hp17.2.2.1
    have hww17 := hp17.2.2.2.1
    have ea17_0 := hz17.2.2.1 1 v8.toInt.toNat al8 (by omega)
    have ea17_1 := hz17.2.2.1 4 i0 al8_0 (by omega)
    have ea17_2 := hz17.2.2.1 9 q1 al8_1 (by omega)
    rw [← ea17_0] at hl
    rw [← ea17_1] at hl
    rw [← ea17_2] at hl
    have al17_0 := hz17.2.1 1 v8.toInt.toNat al8
    have al17_1 := hz17.2.1 4 i0 al8_0
    have al17_2 := hz17.2.1 9 q1 al8_1
    have hZn17 := hz17.1
    have x := xa.1
    have hz := x.2.2.2.2.2.2.2.1
    have hzn := hz.1
    have hMy18 := (cMz.fr (a := 0) (b := 1) (show cMz ms (0 + 1) _ _ from cMz.eq hMz8 e386_17 (show 0 + 1 ≤ 1 by decide)) hz17.1 (fun s => (hsg17 s).2))
    have hzl := cZl.tr hzl hz17
    have hcs : 0 + 1 + kc17 ≤ 2 ∧ 0 + 18 + kn17 ≤ 18 + 1 * ms := by omega
    refine lv_aload_n hx hb dX4_setupCame_64 rfl (lv_at hl 1 rfl) ?_
    refine c_geti x L17 4 i0 4 132 al17_1 rfl rfl (wk_in kf_X4_11) dX4_setupCame_65 (fun v19 ev19 wv19 => ?_)
    have rv19 : rg (-2147483648) (2147483647) v19 := rg_any v19
    have uv19 : (-2147483648 : Int) ≤ v19.toInt ∧ v19.toInt ≤ 2147483647 := rv19
    have sv19 : v19.toInt = (g 132 i0).toInt := congrArg Int32.toInt (ev19.trans (congrFun ((show mFr [32, 33, 34, 35, 36, 37, 38, 39, 40, 41, 42, 43, 44, 45, 46, 47, 48, 49, 135, 198, 384, 385, 386, 832, 864, 1536, 1728, 1729] g g17 from (mFr.tr (mFr.upE (mFr.upE (mFr.upE (mFr.tr (mFr.tr mFr.rf hp1.1 rfl) fr8 rfl) eg11 rfl) eg13 rfl) eg15 rfl) hp17.1 rfl)).at 132 rfl) _))
    refine lv_iconst (v := 2) hx hb dX4_setupCame_68 (by decide) ?_
    refine lv_icmp_ne (tgt := 94) hx hb dX4_setupCame_69 (by decide) (fun c69_20 => ?_) (fun c69_20 => ?_)
    · skip
      have ic69_20 : v19.toInt ≠ (2 : Int32).toInt := fun z => c69_20 (Int32.toInt_inj.mp z)
      have y21 : (2 : Int32).toInt = 2 := by decide
      refine lv_aload_n hx hb dX4_setupCame_94 rfl (lv_at hl 1 rfl) ?_
      refine c_geti x L17 4 i0 4 132 al17_1 rfl rfl (wk_in kf_X4_11) dX4_setupCame_95 (fun v22 ev22 wv22 => ?_)
      refine m_top ((ev19).trans ev22.symm) ?_
      refine lv_iconst (v := 1) hx hb dX4_setupCame_98 (by decide) ?_
      refine lv_icmp_ne (tgt := 123) hx hb dX4_setupCame_99 (by decide) (fun c99_23 => ?_) (fun c99_23 => ?_)
      · skip
        have ic99_23 : v19.toInt ≠ (1 : Int32).toInt := fun z => c99_23 (Int32.toInt_inj.mp z)
        have y24 : (1 : Int32).toInt = 1 := by decide
        refine lv_aload_n hx hb dX4_setupCame_123 rfl (lv_at hl 1 rfl) ?_
        refine lv_aload_n hx hb dX4_setupCame_124 rfl (lv_at hl 0 rfl) ?_
        refine lv_iload_n hx hb dX4_setupCame_125 rfl (lv_at hl 3 rfl) ?_
        refine c_cv (As := [.ref (Z.ad 1 v8.toInt.toNat), .int p2]) (rest := []) x hml L17 4 i0 al17_1 rfl (c_kanswer l X g17 i0 v8.toInt.toNat p2 hX hp17.2.1 (show i0 < Z.n from (by omega)) al17_0) (wk_V kd_X4_answer kl_X4_133 ki_X4_answer ks_X4_X4_answer kn_X4) rfl ⟨rfl, rfl⟩ hd_kanswer ⟨Nat.le_of_ble_eq_true rfl, Nat.le_of_ble_eq_true rfl⟩ rfl hl.1 rfl (lv_room (Nat.le_of_ble_eq_true rfl)) dX4_setupCame_126 (fun  g25 H25 k25 hp25 L25 => ?_) hcs
        exact k_vret xa L25 hr hlocks (Int.le_refl _) hzl ⟨(mFr.tr (mFr.tr (mFr.upE (mFr.upE (mFr.upE (mFr.tr (mFr.tr mFr.rf hp1.1 rfl) fr8 rfl) eg11 rfl) eg13 rfl) eg15 rfl) hp17.1 rfl) hp25.1 rfl), hp25.2.1, (fun s => by have h0 := congrArg Int32.toInt (congrFun e386_8 s); have h1 := congrArg Int32.toInt (congrFun e386_17 s); have w1 := hsg17 s; have hl := congrArg Int32.toInt (congrFun ((show mFr [36, 41, 42, 44, 45, 46, 48, 198, 832, 864] g17 g25 from (mFr.tr mFr.rf hp25.1 rfl)).at 386 rfl) s); omega), (by omega), trivial⟩ hcs.1 hcs.2 dX4_setupCame_129
      · skip
        have ic99_23 := congrArg Int32.toInt c99_23
        have y26 : (1 : Int32).toInt = 1 := by decide
        have q27 : rg (1) (1) v19 := (rg_eq c99_23 rv19 kc_1).1
        have uq27 : (1 : Int) ≤ v19.toInt ∧ v19.toInt ≤ 1 := q27
        refine lv_aload_n hx hb dX4_setupCame_102 rfl (lv_at hl 0 rfl) ?_
        refine lv_bipush (v := 6) hx hb dX4_setupCame_103 (by decide) ?_
        refine lv_iload_n hx hb dX4_setupCame_105 rfl (lv_at hl 3 rfl) ?_
        refine lv_aload_n hx hb dX4_setupCame_106 rfl (lv_at hl 1 rfl) ?_
        refine c_geti x L17 4 i0 5 133 al17_1 rfl rfl (wk_in kf_X4_15) dX4_setupCame_107 (fun v28 ev28 wv28 => ?_)
        have rv28 : rg (-2147483648) (2147483647) v28 := rg_any v28
        have uv28 : (-2147483648 : Int) ≤ v28.toInt ∧ v28.toInt ≤ 2147483647 := rv28
        have sv28 : v28.toInt = (g 133 i0).toInt := congrArg Int32.toInt (ev28.trans (congrFun ((show mFr [32, 33, 34, 35, 36, 37, 38, 39, 40, 41, 42, 43, 44, 45, 46, 47, 48, 49, 135, 198, 384, 385, 386, 832, 864, 1536, 1728, 1729] g g17 from (mFr.tr (mFr.upE (mFr.upE (mFr.upE (mFr.tr (mFr.tr mFr.rf hp1.1 rfl) fr8 rfl) eg11 rfl) eg13 rfl) eg15 rfl) hp17.1 rfl)).at 133 rfl) _))
        refine lv_iadd hx hb dX4_setupCame_110 ?_
        refine lv_topi (fun v29 ev29 => ?_)
        have rv29 : rg (-2147483648) (2147483647) v29 := rg_any v29
        have uv29 : (-2147483648 : Int) ≤ v29.toInt ∧ v29.toInt ≤ 2147483647 := rv29
        refine c_cv (As := [.int (6 : Int32), .int v29]) (rest := []) x hml L17 1 v8.toInt.toNat al17_0 rfl (c_kenter l X g17 v8.toInt.toNat (6 : Int32) v29 hX hp17.2.1 al17_0) (wk_V kd_X1_enter kl_X4_85 ki_X1_enter ks_X1_X1_enter kn_X1) rfl ⟨rfl, rfl⟩ hd_kenter ⟨Nat.le_of_ble_eq_true rfl, Nat.le_of_ble_eq_true rfl⟩ rfl hl.1 rfl (lv_room (Nat.le_of_ble_eq_true rfl)) dX4_setupCame_111 (fun  g30 H30 k30 hp30 L30 => ?_) hcs
        refine lv_aload_n hx hb dX4_setupCame_114 rfl (lv_at hl 1 rfl) ?_
        refine lv_iconst (v := 2) hx hb dX4_setupCame_115 (by decide) ?_
        refine lv_aload_n hx hb dX4_setupCame_116 rfl (lv_at hl 0 rfl) ?_
        refine c_cvU (n := 2) (owner := "CellSwitch$Side") (x0 := ⟨"CellSwitch$EndSide", "sayPlain", "(ILCellSwitch$Call;)V"⟩) (As := [.int (2 : Int32), .ref (Z.ad 1 v8.toInt.toNat)]) (rest := []) x hml L30 4 i0 al17_1 rfl (c_ksayPlain_4 l X g30 i0 (2 : Int32) v8.toInt.toNat hX (show i0 < Z.n from (by omega)) al17_0) (wk_U kd_X8_sayPlain kl_X4_129 km_CellSwitchEndSide_CellSwitchSide_sayPlain ks_X4_CellSwitchEndSide_X8_sayPlain ki_X8_sayPlain kn_X8) rfl ⟨rfl, rfl⟩ rfl (by decide +kernel) ⟨Nat.le_of_ble_eq_true rfl, Nat.le_of_ble_eq_true rfl⟩ rfl hl.1 rfl (lv_room (Nat.le_of_ble_eq_true rfl)) dX4_setupCame_117 (fun  g31 H31 k31 hp31 L31 => ?_) hcs
        refine lv_goto (tgt := 129) hx hb dX4_setupCame_120 (by decide) ?_
        exact k_vret xa L31 hr hlocks (Int.le_refl _) hzl ⟨(mFr.tr (mFr.tr (mFr.tr (mFr.upE (mFr.upE (mFr.upE (mFr.tr (mFr.tr mFr.rf hp1.1 rfl) fr8 rfl) eg11 rfl) eg13 rfl) eg15 rfl) hp17.1 rfl) hp30.1 rfl) hp31.1 rfl), (cJ_fr hp30.2.1 hp31.1 rfl), (fun s => by have h0 := congrArg Int32.toInt (congrFun e386_8 s); have h1 := congrArg Int32.toInt (congrFun e386_17 s); have w1 := hsg17 s; have hl := congrArg Int32.toInt (congrFun ((show mFr [36, 41, 42, 44, 45, 46, 48, 198, 832, 864] g17 g31 from (mFr.tr (mFr.tr mFr.rf hp30.1 rfl) hp31.1 rfl)).at 386 rfl) s); omega), (by omega), trivial⟩ hcs.1 hcs.2 dX4_setupCame_129
    · skip
      have ic69_20 := congrArg Int32.toInt c69_20
      have y32 : (2 : Int32).toInt = 2 := by decide
      have q33 : rg (2) (2) v19 := (rg_eq c69_20 rv19 kc_2).1
      have uq33 : (2 : Int) ≤ v19.toInt ∧ v19.toInt ≤ 2 := q33
      refine lv_aload_n hx hb dX4_setupCame_72 rfl (lv_at hl 0 rfl) ?_
      refine lv_bipush (v := 17) hx hb dX4_setupCame_73 (by decide) ?_
      refine c_cv (As := [.int (17 : Int32)]) (rest := []) x hml L17 1 v8.toInt.toNat al17_0 rfl (c_kfinish l X g17 v8.toInt.toNat (17 : Int32) hX hp17.2.1 al17_0) (wk_V kd_X1_finish kl_X4_125 ki_X1_finish ks_X1_X1_finish kn_X1) rfl ⟨rfl, rfl⟩ hd_kfinish ⟨Nat.le_of_ble_eq_true rfl, Nat.le_of_ble_eq_true rfl⟩ rfl hl.1 rfl (lv_room (Nat.le_of_ble_eq_true rfl)) dX4_setupCame_75 (fun  g34 H34 k34 hp34 L34 => ?_) hcs
      refine lv_aload_n hx hb dX4_setupCame_78 rfl (lv_at hl 1 rfl) ?_
      refine lv_bipush (v := 90) hx hb dX4_setupCame_79 (by decide) ?_
      refine lv_aload_n hx hb dX4_setupCame_81 rfl (lv_at hl 0 rfl) ?_
      refine c_geti x L34 1 v8.toInt.toNat 1 33 al17_0 rfl rfl (wk_in kf_X4_97) dX4_setupCame_82 (fun v35 ev35 wv35 => ?_)
      have rv35 : rg (-2147483648) (2147483647) v35 := rg_any v35
      have uv35 : (-2147483648 : Int) ≤ v35.toInt ∧ v35.toInt ≤ 2147483647 := rv35
      refine lv_iconst (v := 0) hx hb dX4_setupCame_85 (by decide) ?_
      refine lv_bipush (v := 17) hx hb dX4_setupCame_86 (by decide) ?_
      refine c_cvU (n := 4) (owner := "CellSwitch$Side") (x0 := ⟨"CellSwitch$EndSide", "sayCause", "(IIZI)V"⟩) (As := [.int (90 : Int32), .int v35, .int (0 : Int32), .int (17 : Int32)]) (rest := []) x hml L34 4 i0 al17_1 rfl (c_ksayCause_4 l X g34 i0 (90 : Int32) v35 (0 : Int32) (17 : Int32) hX (show i0 < Z.n from (by omega)) (rg_w kc_0 rfl)) (wk_U kd_X8_sayCause kl_X4_113 km_CellSwitchEndSide_CellSwitchSide_sayCause ks_X4_CellSwitchEndSide_X8_sayCause ki_X8_sayCause kn_X8) rfl ⟨rfl, rfl⟩ rfl (by decide +kernel) ⟨Nat.le_of_ble_eq_true rfl, Nat.le_of_ble_eq_true rfl⟩ rfl hl.1 rfl (lv_room (Nat.le_of_ble_eq_true rfl)) dX4_setupCame_88 (fun  g36 H36 k36 hp36 L36 => ?_) hcs
      refine lv_goto (tgt := 129) hx hb dX4_setupCame_91 (by decide) ?_
      exact k_vret xa L36 hr hlocks (Int.le_refl _) hzl ⟨(mFr.tr (mFr.tr (mFr.tr (mFr.upE (mFr.upE (mFr.upE (mFr.tr (mFr.tr mFr.rf hp1.1 rfl) fr8 rfl) eg11 rfl) eg13 rfl) eg15 rfl) hp17.1 rfl) hp34.1 rfl) hp36.1 rfl), (cJ_fr hp34.2.1 hp36.1 rfl), (fun s => by have h0 := congrArg Int32.toInt (congrFun e386_8 s); have h1 := congrArg Int32.toInt (congrFun e386_17 s); have w1 := hsg17 s; have hl := congrArg Int32.toInt (congrFun ((show mFr [36, 40, 41, 42, 44, 45, 46, 48, 198, 832, 864] g17 g36 from (mFr.tr (mFr.tr mFr.rf hp34.1 rfl) hp36.1 rfl)).at 386 rfl) s); omega), (by omega), trivial⟩ hcs.1 hcs.2 dX4_setupCame_129
  · skip
    have ic4_3 := congrArg Int32.toInt c4_3
    have y37 : (0 : Int32).toInt = 0 := by decide
    have q38 : rg (0) (0) v2 := (rg_eq c4_3 rv2 kc_0).1
    have uq38 : (0 : Int) ≤ v2.toInt ∧ v2.toInt ≤ 0 := q38
    refine lv_aload_n hx hb dX4_setupCame_7 rfl (lv_at hl 0 rfl) ?_
    refine lv_bipush (v := 90) hx hb dX4_setupCame_8 (by decide) ?_
    refine lv_aload_n hx hb dX4_setupCame_10 rfl (lv_at hl 1 rfl) ?_
    refine c_geti x L1 9 q1 1 289 hq1 rfl rfl (wk_in kf_X4_112) dX4_setupCame_11 (fun v39 ev39 wv39 => ?_)
    have rv39 : rg (-2147483648) (2147483647) v39 := rg_any v39
    have uv39 : (-2147483648 : Int) ≤ v39.toInt ∧ v39.toInt ≤ 2147483647 := rv39
    have sv39 : v39.toInt = (g 289 q1).toInt := congrArg Int32.toInt (ev39.trans (congrFun ((show mFr [32, 33, 34, 35, 36, 37, 38, 39, 40, 41, 42, 43, 44, 45, 46, 47, 48, 49, 135, 198, 384, 385, 386, 832, 864, 1536, 1728, 1729] g g1 from (mFr.tr mFr.rf hp1.1 rfl)).at 289 rfl) _))
    refine lv_iconst (v := 0) hx hb dX4_setupCame_14 (by decide) ?_
    refine lv_bipush (v := 47) hx hb dX4_setupCame_15 (by decide) ?_
    refine c_cvU (n := 4) (owner := "CellSwitch$Side") (x0 := ⟨"CellSwitch$EndSide", "sayCause", "(IIZI)V"⟩) (As := [.int (90 : Int32), .int v39, .int (0 : Int32), .int (47 : Int32)]) (rest := []) x hml L1 4 i0 hal0 rfl (c_ksayCause_4 l X g1 i0 (90 : Int32) v39 (0 : Int32) (47 : Int32) hX (show i0 < Z.n from (by omega)) (rg_w kc_0 rfl)) (wk_U kd_X8_sayCause kl_X4_113 km_CellSwitchEndSide_CellSwitchSide_sayCause ks_X4_CellSwitchEndSide_X8_sayCause ki_X8_sayCause kn_X8) rfl ⟨rfl, rfl⟩ rfl (by decide +kernel) ⟨Nat.le_of_ble_eq_true rfl, Nat.le_of_ble_eq_true rfl⟩ rfl hl.1 rfl (lv_room (Nat.le_of_ble_eq_true rfl)) dX4_setupCame_17 (fun  g40 H40 k40 hp40 L40 => ?_) hcs
    exact k_vret xa L40 hr hlocks (Int.le_refl _) hzl ⟨(mFr.tr (mFr.tr mFr.rf hp1.1 rfl) hp40.1 rfl), (cJ_fr hp1.2.2.1 hp40.1 rfl), (fun s => by have hl := congrArg Int32.toInt (congrFun ((show mFr [198, 832, 864] g g40 from (mFr.tr (mFr.tr mFr.rf hp1.1 rfl) hp40.1 rfl)).at 386 rfl) s); omega), (by omega), trivial⟩ hcs.1 hcs.2 dX4_setupCame_20

def rm_ksetupCame_10 (ms : Nat) : Room := { frames := 8, cells := 4, slots := 36 + 2 * ms, locals := 185 }
theorem hd_ksetupCame_10 : yX10_setupCame.cls = cRn 10 ∧ yX10_setupCame.cls ≠ "java/lang/invoke/MethodHandle" ∧ yX10_setupCame.cls ≠ "java/lang/invoke/VarHandle" ∧ (parseMethodDescriptor yX10_setupCame.desc).map (fun d => d.parameters.length) = some 2 := by decide +kernel
set_option maxHeartbeats 4000000 in
set_option maxRecDepth 100000 in
theorem c_ksetupCame_10 (l : Launch) {G : cG} {Z : cZ} (X : Int) (g : mSt) (i0 : Nat) (q1 : Nat) (p2 : Int32) (sz ms : Nat) (hX : 0 ≤ X ∧ X ≤ 2000000000) (hJ : cJ Z g) (hMz : cMz ms 2 Z g) (hw2 : Z.w 2 + 2 ≤ 1000000) (hi0 : i0 < Z.n) (hq1 : Z.al 9 q1) (hcl : 0 ≤ (g 291 q1).toInt) : Met l yX10_setupCame (wk (Cond.code yX10_setupCame cX10_setupCame 7 none)) (rm_ksetupCame_10 ms) (va_Pc [.ref (Z.ad 10 i0), .ref (Z.ad 9 q1), .int p2] (cPreA G Z X g sz)) (kE 4 (36 + 2 * ms) (cAf Z sz) (cQvA G Z X (fun Z1 g1 => mFr [32, 33, 34, 35, 36, 37, 38, 39, 40, 41, 42, 43, 44, 45, 46, 47, 48, 49, 198, 323, 384, 385, 386, 832, 864, 1728, 1729] g g1 ∧ cJ Z1 g1 ∧ (∀ s, (g 386 s).toInt ≤ (g1 386 s).toInt ∧ (g1 386 s).toInt ≤ (g 386 s).toInt + 2) ∧ Z1.w 2 ≤ Z.w 2 + 2 ∧ True))) 4 (36 + 2 * ms) (cAf Z sz) := by
  refine Met.ofW (cc := cX10_setupCame) (maxL := 7) (ret := none) (by decide) rfl ?_
  intro p e s m args below meth c s₁ B hml hv
  obtain ⟨hav, hv⟩ := hv
  have hsz0 := hv.2.1
  subst hsz0
  have hr := B.returns
  have hlocks := B.notSynchronized
  obtain ⟨xa, L⟩ := k_start B rfl (fun w h => wk_in h) hv
  have hent : entryFrame m args 7 = entryFrame m ([.ref (Z.ad 10 i0), .ref (Z.ad 9 q1), .int p2] : List Value).toArray 7 := by rw [hav]
  rw [hent]
  have hl := lv_entry ([.ref (Z.ad 10 i0), .ref (Z.ad 9 q1), .int p2]) (n := 7) (Nat.le_of_ble_eq_true rfl)
  rw [lg_entry_eq]
  generalize (lg_sl ([.ref (Z.ad 10 i0), .ref (Z.ad 9 q1), .int p2]) ++ List.replicate (7 - (lg_sl ([.ref (Z.ad 10 i0), .ref (Z.ad 9 q1), .int p2])).length) Slot.unset).toArray = ls at hl ⊢
  have hl : lv_has ls 7 [(0, .ref (Z.ad 10 i0)), (1, .ref (Z.ad 9 q1)), (2, .int p2)] := hl
  have x := xa.1
  have hx := x.1
  have hb := x.2.1
  have hz := x.2.2.2.2.2.2.2.1
  have hzn := hz.1
  have hzl : cZl Z Z 0 0 := cZl.rf
  have hcs : 0 ≤ 4 ∧ 0 ≤ 36 + 2 * ms := ⟨Nat.zero_le _, Nat.zero_le _⟩
  have hal0 : Z.al 10 i0 := hz.2 10 i0 (show i0 < Z.n from hi0)
  have up2 : (-2147483648 : Int) ≤ p2.toInt ∧ p2.toInt ≤ 2147483647 := (rg_any p2)
  refine lv_aload_n hx hb dX10_setupCame_0 rfl (lv_at hl 0 rfl) ?_
  refine lv_aload_n hx hb dX10_setupCame_1 rfl (lv_at hl 1 rfl) ?_
  refine c_ci (As := [.ref (Z.ad 9 q1)]) (rest := []) x hml L 10 i0 hal0 rfl (c_krefusal l X g i0 q1 hX hJ (show i0 < Z.n from (by omega)) hq1 (by omega)) (wk_V kd_X10_refusal kl_X10_81 ki_X10_refusal ks_X10_X10_refusal kn_X10) rfl ⟨rfl, rfl⟩ hd_krefusal ⟨Nat.le_of_ble_eq_true rfl, Nat.le_of_ble_eq_true rfl⟩ rfl hl.1 rfl (lv_room (Nat.le_of_ble_eq_true rfl)) dX10_setupCame_2 (fun v2 g1 H1 k1 hp1 L1 => ?_) hcs
  have rv2 : rg (0) (96) v2 := hp1.2.1
  have uv2 : (0 : Int) ≤ v2.toInt ∧ v2.toInt ≤ 96 := rv2
  have hw3 := hp1.2.2.2
  refine lv_istore_n (lv' := [(3, .int v2), (0, .ref (Z.ad 10 i0)), (1, .ref (Z.ad 9 q1)), (2, .int p2)]) hx hb dX10_setupCame_5 rfl hl (by decide) rfl (fun ls hl => ?_)
  refine lv_iload_n hx hb dX10_setupCame_6 rfl (lv_at hl 0 rfl) ?_
  refine lv_if_eq (tgt := 23) hx hb dX10_setupCame_7 (by decide) (fun c7_4 => ?_) (fun c7_4 => ?_)
  · skip
    have ic7_4 := congrArg Int32.toInt c7_4
    have y5 : (0 : Int32).toInt = 0 := by decide
    have q6 : rg (0) (0) v2 := (rg_eq c7_4 rv2 kc_0).1
    have uq6 : (0 : Int) ≤ v2.toInt ∧ v2.toInt ≤ 0 := q6
    refine lv_aload_n hx hb dX10_setupCame_23 rfl (lv_at hl 1 rfl) ?_
    have al7 : Z.al 49 0 := hz.2 49 0 (show 0 < 1 from (by omega))
    refine c_getr (a := Z.ad 49 0) x L1 10 i0 4 hal0 rfl rfl (wk_in kf_X10_9) dX10_setupCame_24 ?_
    refine lv_aload_n hx hb dX10_setupCame_27 rfl (lv_at hl 2 rfl) ?_
    refine c_geti x L1 9 q1 3 291 hq1 rfl rfl (wk_in kf_X10_68) dX10_setupCame_28 (fun v8 ev8 wv8 => ?_)
    have rv8 : rg (-2147483648) (2147483647) v8 := rg_any v8
    have uv8 : (-2147483648 : Int) ≤ v8.toInt ∧ v8.toInt ≤ 2147483647 := rv8
    have sv8 : v8.toInt = (g 291 q1).toInt := congrArg Int32.toInt (ev8.trans (congrFun ((show mFr [32, 33, 34, 35, 36, 37, 38, 39, 40, 41, 42, 43, 44, 45, 46, 47, 48, 49, 198, 323, 384, 385, 386, 832, 864, 1728, 1729] g g1 from (mFr.tr mFr.rf hp1.1 rfl)).at 291 rfl) _))
    refine c_ldr (a := Z.ad 10 v8.toInt.toNat) x L1 49 0 al7 rfl (by omega) (show v8.toInt < ((Z.n : Nat) : Int) from (by omega)) rfl dX10_setupCame_31 ?_
    have al9 : Z.al 10 v8.toInt.toNat := hz.2 10 v8.toInt.toNat (show v8.toInt.toNat < Z.n from (by omega))
    refine lv_astore (lv' := [(4, .ref (Z.ad 10 v8.toInt.toNat)), (3, .int v2), (0, .ref (Z.ad 10 i0)), (1, .ref (Z.ad 9 q1)), (2, .int p2)]) hx hb dX10_setupCame_32 hl (by decide) rfl (fun ls hl => ?_)
    refine lv_aload hx hb dX10_setupCame_34 (lv_at hl 0 rfl) ?_
    refine lv_dup hx hb dX10_setupCame_36 rfl ?_
    refine c_getiS x L1 10 v8.toInt.toNat 3 323 al9 rfl rfl (wk_in kf_X10_92) (fun y h => u_same (x.2.2.1 _ (wk_in ke_CellSwitchSwitchSide_CellSwitchSide_lastReference)) y h) dX10_setupCame_37 (fun v10 ev10 wv10 => ?_)
    have rv10 : rg (-2147483648) (2147483647) v10 := rg_any v10
    have uv10 : (-2147483648 : Int) ≤ v10.toInt ∧ v10.toInt ≤ 2147483647 := rv10
    refine lv_iconst (v := 1) hx hb dX10_setupCame_40 (by decide) ?_
    refine lv_iadd hx hb dX10_setupCame_41 ?_
    refine lv_topi (fun v11 ev11 => ?_)
    have rv11 : rg (-2147483648) (2147483647) v11 := rg_any v11
    have uv11 : (-2147483648 : Int) ≤ v11.toInt ∧ v11.toInt ≤ 2147483647 := rv11
    refine c_putiS x L1 10 v8.toInt.toNat 3 323 al9 rfl rfl ⟨rfl, by decide +kernel⟩ (wk_in kf_X10_92) (fun y h => u_same (x.2.2.1 _ (wk_in ke_CellSwitchSwitchSide_CellSwitchSide_lastReference)) y h) dX10_setupCame_42 (rg_any v11) (fun g12 H12 k12 eg12 L12 => ?_)
    refine k_newCall xa L12 (wk_in kc_lX10_29_b) (wk_in kx_X1) (wk_in kn_X1) (show 0 + 1 ≤ 4 by omega) (show 0 + 18 ≤ 36 + 2 * ms by omega) dX10_setupCame_45 (fun a13 H13 O13 hfr13 hAa13 L13 => ?_)
    have hcs : 0 + 1 ≤ 4 ∧ 0 + 18 ≤ 36 + 2 * ms := by omega
    refine lv_dup hx hb dX10_setupCame_48 rfl ?_
    refine lv_aload_n hx hb dX10_setupCame_49 rfl (lv_at hl 2 rfl) ?_
    refine lv_aload_n hx hb dX10_setupCame_50 rfl (lv_at hl 3 rfl) ?_
    refine c_geti x L13 9 q1 1 289 hq1 rfl rfl (wk_in kf_X10_85) dX10_setupCame_51 (fun v14 ev14 wv14 => ?_)
    have rv14 : rg (-2147483648) (2147483647) v14 := rg_any v14
    have uv14 : (-2147483648 : Int) ≤ v14.toInt ∧ v14.toInt ≤ 2147483647 := rv14
    have sv14 : v14.toInt = (g 289 q1).toInt := congrArg Int32.toInt (ev14.trans (congrFun ((show mFr [32, 33, 34, 35, 36, 37, 38, 39, 40, 41, 42, 43, 44, 45, 46, 47, 48, 49, 198, 323, 384, 385, 386, 832, 864, 1728, 1729] g g12 from (mFr.upE (mFr.tr mFr.rf hp1.1 rfl) eg12 rfl)).at 289 rfl) _))
    refine lv_iconst (v := 0) hx hb dX10_setupCame_54 (by decide) ?_
    obtain ⟨sd16, hsd16⟩ := k_sd (Z.n + i0) (by omega)
    refine k_initCall (rest := [.ref a13]) xa (hml.trans hl.1.symm) L13 O13 hfr13 hAa13 (cJ_up hp1.2.2.1 eg12 rfl) (by omega) sd16 v14 (0 : Int32) (cSd_10 hsd16) ⟨by omega, by omega⟩ (rg_w kc_0 rfl) (wk_good kd_X1_init) (wk_in kl_X10_95) (wk_in ki_X1_init) (wk_in kn_X1) ⟨Nat.le_of_ble_eq_true rfl, Nat.le_of_ble_eq_true rfl⟩ (Nat.le_of_ble_eq_true rfl) hcs dX10_setupCame_55 (fun v15 Z g15 H15 k15 hv15 hz15 hww15 xa L15 hJ15 al15 ad15 eg15 hne15 => ?_)
    have hc15 : 0 ≤ v15.toInt := by omega
    have fr15 : mFr [32, 33, 34, 35, 36, 37, 38, 39, 40, 41, 42, 43, 44, 45, 46, 47, 48, 49] g12 g15 := by rw [eg15]; exact gNew_fr
    subst ad15
    have ea15_0 := hz15.2.2.1 10 v8.toInt.toNat al9 (by omega)
    have ea15_1 := hz15.2.2.1 10 i0 hal0 (by omega)
    have ea15_2 := hz15.2.2.1 9 q1 hq1 (by omega)
    rw [← ea15_0] at hl
    rw [← ea15_1] at hl
    rw [← ea15_2] at hl
    have al15_0 := hz15.2.1 10 v8.toInt.toNat al9
    have al15_1 := hz15.2.1 10 i0 hal0
    have al15_2 := hz15.2.1 9 q1 hq1
    have hZn15 := hz15.1
    have x := xa.1
    have hz := x.2.2.2.2.2.2.2.1
    have hzn := hz.1
    have e32_15 : sd16 = g15 32 v15.toInt.toNat := by rw [eg15]; exact (if_pos ⟨rfl, by decide, by decide⟩ : gNew g12 v15.toInt.toNat sd16 v14 (0 : Int32) 32 v15.toInt.toNat = _).symm
    have hzl := cZl.tr hzl hz15
    have e386_15 := ((show mFr [32, 33, 34, 35, 36, 37, 38, 39, 40, 41, 42, 43, 44, 45, 46, 47, 48, 49, 323] g g15 from (mFr.tr (mFr.upE (mFr.tr mFr.rf hp1.1 rfl) eg12 rfl) fr15 rfl)).at 386 rfl)
    have hMz15 := cMz.mv hMz hz15.1 e386_15
    refine lv_astore (lv' := [(5, .ref (Z.ad 1 v15.toInt.toNat)), (4, .ref (Z.ad 10 v8.toInt.toNat)), (3, .int v2), (0, .ref (Z.ad 10 i0)), (1, .ref (Z.ad 9 q1)), (2, .int p2)]) hx hb dX10_setupCame_58 hl (by decide) rfl (fun ls hl => ?_)
    refine k_newCall xa L15 (wk_in kc_lX10_29_b) (wk_in kx_X1) (wk_in kn_X1) (show 0 + 1 + 1 ≤ 4 by omega) (show 0 + 18 + 18 ≤ 36 + 2 * ms by omega) dX10_setupCame_60 (fun a17 H17 O17 hfr17 hAa17 L17 => ?_)
    have hcs : 0 + 1 + 1 ≤ 4 ∧ 0 + 18 + 18 ≤ 36 + 2 * ms := by omega
    refine lv_dup hx hb dX10_setupCame_63 rfl ?_
    refine lv_aload hx hb dX10_setupCame_64 (lv_at hl 1 rfl) ?_
    refine lv_aload hx hb dX10_setupCame_66 (lv_at hl 1 rfl) ?_
    refine c_getiS x L17 10 v8.toInt.toNat 3 323 al15_0 rfl rfl (wk_in kf_X10_92) (fun y h => u_same (x.2.2.1 _ (wk_in ke_CellSwitchSwitchSide_CellSwitchSide_lastReference)) y h) dX10_setupCame_68 (fun v18 ev18 wv18 => ?_)
    refine m_top (((mm_fr (mm_st eg12) fr15 rfl)).trans ev18.symm) ?_
    refine lv_iconst (v := 1) hx hb dX10_setupCame_71 (by decide) ?_
    obtain ⟨sd20, hsd20⟩ := k_sd (Z.n + v8.toInt.toNat) (by omega)
    refine k_initCall (rest := [.ref a17]) xa (hml.trans hl.1.symm) L17 O17 hfr17 hAa17 hJ15 (by omega) sd20 v11 (1 : Int32) (cSd_10 hsd20) ⟨by omega, by omega⟩ (rg_w kc_1 rfl) (wk_good kd_X1_init) (wk_in kl_X10_95) (wk_in ki_X1_init) (wk_in kn_X1) ⟨Nat.le_of_ble_eq_true rfl, Nat.le_of_ble_eq_true rfl⟩ (Nat.le_of_ble_eq_true rfl) hcs dX10_setupCame_72 (fun v19 Z g19 H19 k19 hv19 hz19 hww19 xa L19 hJ19 al19 ad19 eg19 hne19 => ?_)
    have hc19 : 0 ≤ v19.toInt := by omega
    have fr19 : mFr [32, 33, 34, 35, 36, 37, 38, 39, 40, 41, 42, 43, 44, 45, 46, 47, 48, 49] g15 g19 := by rw [eg19]; exact gNew_fr
    subst ad19
    have ea19_0 := hz19.2.2.1 1 v15.toInt.toNat al15 (by omega)
    have ea19_1 := hz19.2.2.1 10 v8.toInt.toNat al15_0 (by omega)
    have ea19_2 := hz19.2.2.1 10 i0 al15_1 (by omega)
    have ea19_3 := hz19.2.2.1 9 q1 al15_2 (by omega)
    rw [← ea19_0] at hl
    rw [← ea19_1] at hl
    rw [← ea19_2] at hl
    rw [← ea19_3] at hl
    have al19_0 := hz19.2.1 1 v15.toInt.toNat al15
    have al19_1 := hz19.2.1 10 v8.toInt.toNat al15_0
    have al19_2 := hz19.2.1 10 i0 al15_1
    have al19_3 := hz19.2.1 9 q1 al15_2
    have hZn19 := hz19.1
    have x := xa.1
    have hz := x.2.2.2.2.2.2.2.1
    have hzn := hz.1
    have e32_19 : sd20 = g19 32 v19.toInt.toNat := by rw [eg19]; exact (if_pos ⟨rfl, by decide, by decide⟩ : gNew g15 v19.toInt.toNat sd20 v11 (1 : Int32) 32 v19.toInt.toNat = _).symm
    have hzl := cZl.tr hzl hz19
    have e32b19_0 : sd16 = g19 32 v15.toInt.toNat := (e32_15).trans (by rw [eg19]; exact (gNew_o (fun z => hne19 _ al15 z.1)).symm)
    have e386_19 := ((show mFr [32, 33, 34, 35, 36, 37, 38, 39, 40, 41, 42, 43, 44, 45, 46, 47, 48, 49] g15 g19 from (mFr.tr mFr.rf fr19 rfl)).at 386 rfl)
    have hMz19 := cMz.mv hMz15 hz19.1 e386_19
    refine lv_astore (lv' := [(6, .ref (Z.ad 1 v19.toInt.toNat)), (5, .ref (Z.ad 1 v15.toInt.toNat)), (4, .ref (Z.ad 10 v8.toInt.toNat)), (3, .int v2), (0, .ref (Z.ad 10 i0)), (1, .ref (Z.ad 9 q1)), (2, .int p2)]) hx hb dX10_setupCame_75 hl (by decide) rfl (fun ls hl => ?_)
    refine lv_aload hx hb dX10_setupCame_77 (lv_at hl 1 rfl) ?_
    refine lv_aload hx hb dX10_setupCame_79 (lv_at hl 0 rfl) ?_
    refine c_putr (ty := tyX1 11) (v := v19) (w := .ref (Z.ad 1 v19.toInt.toNat)) x L19 1 v15.toInt.toNat 11 43 al19_0 rfl rfl rfl (tyX1_ok 11 (by decide)) (by rw [show cTo Z v19 1 v15.toInt.toNat 11 = some (Z.ad 1 v19.toInt.toNat) from cOpt_some hc19]; rfl) rfl rfl (wk_in kf_X10_42) dX10_setupCame_81 (rg_any _) (fun g21 H21 k21 eg21 L21 => ?_)
    have hJ22 := cJ_p43 hJ19 eg21 al19
    refine lv_aload hx hb dX10_setupCame_84 (lv_at hl 0 rfl) ?_
    refine lv_aload hx hb dX10_setupCame_86 (lv_at hl 1 rfl) ?_
    refine c_putr (ty := tyX1 11) (v := v15) (w := .ref (Z.ad 1 v15.toInt.toNat)) x L21 1 v19.toInt.toNat 11 43 al19 rfl rfl rfl (tyX1_ok 11 (by decide)) (by rw [show cTo Z v15 1 v19.toInt.toNat 11 = some (Z.ad 1 v15.toInt.toNat) from cOpt_some hc15]; rfl) rfl rfl (wk_in kf_X10_42) dX10_setupCame_88 (rg_any _) (fun g23 H23 k23 eg23 L23 => ?_)
    have hJ24 := cJ_p43 hJ22 eg23 al19_0
    refine lv_aload hx hb dX10_setupCame_91 (lv_at hl 0 rfl) ?_
    refine lv_aload_n hx hb dX10_setupCame_93 rfl (lv_at hl 4 rfl) ?_
    refine c_getcS x L23 10 i0 0 al19_2 rfl (wk_in kf_X10_73) (fun y h => u_same (x.2.2.1 _ (wk_in ke_CellSwitchSwitchSide_CellSwitchSide_link)) y h) dX10_setupCame_94 (fun v25 ev25 => ?_)
    have tv25 : v25.toInt = ((i0 : Nat) : Int) := cCv_s ev25 rfl (by omega)
    have rv25 : rg (0) (3) v25 := ⟨by omega, by omega⟩
    refine c_puti x L23 1 v19.toInt.toNat 7 39 al19 rfl rfl ⟨rfl, by decide +kernel⟩ (wk_in kf_X10_98) dX10_setupCame_97 (rg_any v25) (fun g26 H26 k26 eg26 L26 => ?_)
    refine lv_aload hx hb dX10_setupCame_100 (lv_at hl 1 rfl) ?_
    refine lv_aload_n hx hb dX10_setupCame_102 rfl (lv_at hl 5 rfl) ?_
    refine c_geti x L26 9 q1 5 293 al19_3 rfl rfl (wk_in kf_X10_74) dX10_setupCame_103 (fun v27 ev27 wv27 => ?_)
    have rv27 : rg (-2147483648) (2147483647) v27 := rg_any v27
    have uv27 : (-2147483648 : Int) ≤ v27.toInt ∧ v27.toInt ≤ 2147483647 := rv27
    have sv27 : v27.toInt = (g 293 q1).toInt := congrArg Int32.toInt (ev27.trans (congrFun ((show mFr [32, 33, 34, 35, 36, 37, 38, 39, 40, 41, 42, 43, 44, 45, 46, 47, 48, 49, 198, 323, 384, 385, 386, 832, 864, 1728, 1729] g g26 from (mFr.upE (mFr.upE (mFr.upE (mFr.tr (mFr.tr (mFr.upE (mFr.tr mFr.rf hp1.1 rfl) eg12 rfl) fr15 rfl) fr19 rfl) eg21 rfl) eg23 rfl) eg26 rfl)).at 293 rfl) _))
    refine c_puti x L26 1 v15.toInt.toNat 6 38 al19_0 rfl rfl ⟨rfl, by decide +kernel⟩ (wk_in kf_X10_35) dX10_setupCame_106 (rg_any v27) (fun g28 H28 k28 eg28 L28 => ?_)
    refine lv_aload hx hb dX10_setupCame_109 (lv_at hl 0 rfl) ?_
    refine lv_aload_n hx hb dX10_setupCame_111 rfl (lv_at hl 5 rfl) ?_
    refine c_geti x L28 9 q1 5 293 al19_3 rfl rfl (wk_in kf_X10_74) dX10_setupCame_112 (fun v29 ev29 wv29 => ?_)
    refine m_top (((mm_up ev27 eg28 rfl)).trans ev29.symm) ?_
    refine c_puti x L28 1 v19.toInt.toNat 6 38 al19 rfl rfl ⟨rfl, by decide +kernel⟩ (wk_in kf_X10_35) dX10_setupCame_115 (rg_any v27) (fun g30 H30 k30 eg30 L30 => ?_)
    refine lv_aload hx hb dX10_setupCame_118 (lv_at hl 1 rfl) ?_
    refine lv_aload_n hx hb dX10_setupCame_120 rfl (lv_at hl 4 rfl) ?_
    refine c_ci (As := []) (rest := [.ref (Z.ad 1 v15.toInt.toNat)]) x hml L30 10 i0 al19_2 rfl (c_kleastChannel l X g30 i0 hX (cJ_up (cJ_up (cJ_up hJ24 eg26 rfl) eg28 rfl) eg30 rfl) (show i0 < Z.n from (by omega))) (wk_V kd_X10_leastChannel kl_X10_101 ki_X10_leastChannel ks_X10_X10_leastChannel kn_X10) rfl ⟨rfl, rfl⟩ hd_kleastChannel ⟨Nat.le_of_ble_eq_true rfl, Nat.le_of_ble_eq_true rfl⟩ rfl hl.1 rfl (lv_room (Nat.le_of_ble_eq_true rfl)) dX10_setupCame_121 (fun v32 g31 H31 k31 hp31 L31 => ?_) hcs
    have rv32 : rg (-2147483648) (2147483647) v32 := hp31.2.1
    have uv32 : (-2147483648 : Int) ≤ v32.toInt ∧ v32.toInt ≤ 2147483647 := rv32
    refine c_puti x L31 1 v15.toInt.toNat 5 37 al19_0 rfl rfl ⟨rfl, by decide +kernel⟩ (wk_in kf_X10_50) dX10_setupCame_124 (rg_any v32) (fun g33 H33 k33 eg33 L33 => ?_)
    refine lv_aload hx hb dX10_setupCame_127 (lv_at hl 0 rfl) ?_
    refine lv_aload hx hb dX10_setupCame_129 (lv_at hl 2 rfl) ?_
    refine c_ci (As := []) (rest := [.ref (Z.ad 1 v19.toInt.toNat)]) x hml L33 10 v8.toInt.toNat al19_1 rfl (c_kleastChannel l X g33 v8.toInt.toNat hX (cJ_up hp31.2.2.1 eg33 rfl) (show v8.toInt.toNat < Z.n from (by omega))) (wk_V kd_X10_leastChannel kl_X10_101 ki_X10_leastChannel ks_X10_X10_leastChannel kn_X10) rfl ⟨rfl, rfl⟩ hd_kleastChannel ⟨Nat.le_of_ble_eq_true rfl, Nat.le_of_ble_eq_true rfl⟩ rfl hl.1 rfl (lv_room (Nat.le_of_ble_eq_true rfl)) dX10_setupCame_131 (fun v35 g34 H34 k34 hp34 L34 => ?_) hcs
    have rv35 : rg (-2147483648) (2147483647) v35 := hp34.2.1
    have uv35 : (-2147483648 : Int) ≤ v35.toInt ∧ v35.toInt ≤ 2147483647 := rv35
    refine c_puti x L34 1 v19.toInt.toNat 5 37 al19 rfl rfl ⟨rfl, by decide +kernel⟩ (wk_in kf_X10_50) dX10_setupCame_134 (rg_any v35) (fun g36 H36 k36 eg36 L36 => ?_)
    refine lv_aload hx hb dX10_setupCame_137 (lv_at hl 1 rfl) ?_
    refine lv_iconst (v := 3) hx hb dX10_setupCame_139 (by decide) ?_
    refine lv_iconst (v := 0) hx hb dX10_setupCame_140 (by decide) ?_
    refine c_cv (As := [.int (3 : Int32), .int (0 : Int32)]) (rest := []) x hml L36 1 v15.toInt.toNat al19_0 rfl (c_kenter l X g36 v15.toInt.toNat (3 : Int32) (0 : Int32) hX (cJ_up hp34.2.2.1 eg36 rfl) al19_0) (wk_V kd_X1_enter kl_X10_104 ki_X1_enter ks_X1_X1_enter kn_X1) rfl ⟨rfl, rfl⟩ hd_kenter ⟨Nat.le_of_ble_eq_true rfl, Nat.le_of_ble_eq_true rfl⟩ rfl hl.1 rfl (lv_room (Nat.le_of_ble_eq_true rfl)) dX10_setupCame_141 (fun  g37 H37 k37 hp37 L37 => ?_) hcs
    refine lv_aload hx hb dX10_setupCame_144 (lv_at hl 0 rfl) ?_
    refine lv_bipush (v := 6) hx hb dX10_setupCame_146 (by decide) ?_
    refine lv_iload_n hx hb dX10_setupCame_148 rfl (lv_at hl 6 rfl) ?_
    refine lv_bipush (v := 8) hx hb dX10_setupCame_149 (by decide) ?_
    refine lv_iadd hx hb dX10_setupCame_151 ?_
    refine lv_topi (fun v38 ev38 => ?_)
    have rv38 : rg (-2147483648) (2147483647) v38 := rg_any v38
    have uv38 : (-2147483648 : Int) ≤ v38.toInt ∧ v38.toInt ≤ 2147483647 := rv38
    refine c_cv (As := [.int (6 : Int32), .int v38]) (rest := []) x hml L37 1 v19.toInt.toNat al19 rfl (c_kenter l X g37 v19.toInt.toNat (6 : Int32) v38 hX hp37.2.1 al19) (wk_V kd_X1_enter kl_X10_104 ki_X1_enter ks_X1_X1_enter kn_X1) rfl ⟨rfl, rfl⟩ hd_kenter ⟨Nat.le_of_ble_eq_true rfl, Nat.le_of_ble_eq_true rfl⟩ rfl hl.1 rfl (lv_room (Nat.le_of_ble_eq_true rfl)) dX10_setupCame_152 (fun  g39 H39 k39 hp39 L39 => ?_) hcs
    refine lv_aload_n hx hb dX10_setupCame_155 rfl (lv_at hl 4 rfl) ?_
    refine lv_aload hx hb dX10_setupCame_156 (lv_at hl 1 rfl) ?_
    have y40 := congrArg Int32.toInt (mm_fr (mm_fr (mm_up (mm_fr (mm_up (mm_fr (mm_up (mm_up (mm_up (mm_up (mm_up e32b19_0 eg21 rfl) eg23 rfl) eg26 rfl) eg28 rfl) eg30 rfl) hp31.1 rfl) eg33 rfl) hp34.1 rfl) eg36 rfl) hp37.1 rfl) hp39.1 rfl)
    have e386_41 := ((show mFr [36, 37, 38, 39, 41, 42, 43, 44, 45, 46, 48] g19 g39 from (mFr.tr (mFr.tr (mFr.upE (mFr.tr (mFr.upE (mFr.tr (mFr.upE (mFr.upE (mFr.upE (mFr.upE (mFr.upE mFr.rf eg21 rfl) eg23 rfl) eg26 rfl) eg28 rfl) eg30 rfl) hp31.1 rfl) eg33 rfl) hp34.1 rfl) eg36 rfl) hp37.1 rfl) hp39.1 rfl)).at 386 rfl)
    have hMz41 := cMz.eq hMz19 e386_41 (show 1 ≤ 2 by decide)
    refine k_callv xa L39 (k_runU (x := ⟨"CellSwitch$SwitchSide", "keep", "(LCellSwitch$Call;)V"⟩) (As := [.ref (Z.ad 1 v15.toInt.toNat)]) (rest := []) ⟨hx, hb, hml, x.2.2.2.2.1, x.2.2.1⟩ (c_kkeep_10 l X g39 i0 v15 _ ms hX hp39.2.1 hMz41 (by omega) (show i0 < Z.n from (by omega)) hc15 al19_0 (by omega)) (va_cwU 1 x.2.2.1 (wk_U (owner := "CellSwitch$Side") kd_X8_keep kl_X10_108 km_CellSwitchSwitchSide_CellSwitchSide_keep ks_X10_CellSwitchSwitchSide_X8_keep ki_X8_keep kn_X8) rfl rfl rfl rfl (by decide +kernel) ⟨Nat.le_of_ble_eq_true rfl, Nat.le_of_ble_eq_true rfl⟩) ⟨cPreA.blind, c_recv x L39 al19_2 rfl, fun U hU hW => k_pre xa L39 U hU hW⟩ rfl rfl hl.1 rfl (lv_room (Nat.le_of_ble_eq_true rfl)) dX10_setupCame_158 ⟨show 0 + 1 + 1 + 1 ≤ 4 by omega, show 0 + 18 + 18 + (0 + 1 * ms) ≤ 36 + 2 * ms by omega⟩) (fun  Z g41 H41 k41 kc41 kn41 hk41 hn41 hp41 hz41 xa L41 => ?_)
    have hsg41 := hp41.2.2.1
    have hww41 := hp41.2.2.2.1
    have ea41_0 := hz41.2.2.1 1 v19.toInt.toNat al19 (by omega)
    have ea41_1 := hz41.2.2.1 1 v15.toInt.toNat al19_0 (by omega)
    have ea41_2 := hz41.2.2.1 10 v8.toInt.toNat al19_1 (by omega)
    have ea41_3 := hz41.2.2.1 10 i0 al19_2 (by omega)
    have ea41_4 := hz41.2.2.1 9 q1 al19_3 (by omega)
    rw [← ea41_0] at hl
    rw [← ea41_1] at hl
    rw [← ea41_2] at hl
    rw [← ea41_3] at hl
    rw [← ea41_4] at hl
    have al41_0 := hz41.2.1 1 v19.toInt.toNat al19
    have al41_1 := hz41.2.1 1 v15.toInt.toNat al19_0
    have al41_2 := hz41.2.1 10 v8.toInt.toNat al19_1
    have al41_3 := hz41.2.1 10 i0 al19_2
    have al41_4 := hz41.2.1 9 q1 al19_3
    have hZn41 := hz41.1
    have x := xa.1
    have hz := x.2.2.2.2.2.2.2.1
    have hzn := hz.1
    have hMy42 := (cMz.fr (a := 1) (b := 1) (show cMz ms (1 + 1) _ _ from cMz.eq hMz19 e386_41 (show 1 + 1 ≤ 2 by decide)) hz41.1 (fun s => (hsg41 s).2))
    have hzl := cZl.tr hzl hz41
    have hcs : 0 + 1 + 1 + kc41 ≤ 4 ∧ 0 + 18 + 18 + kn41 ≤ 36 + 2 * ms := by omega
    refine lv_aload hx hb dX10_setupCame_161 (lv_at hl 2 rfl) ?_
    refine lv_aload hx hb dX10_setupCame_163 (lv_at hl 0 rfl) ?_
    have y43 := congrArg Int32.toInt (mm_fr (mm_fr (mm_fr (mm_up (mm_fr (mm_up (mm_fr (mm_up (mm_up (mm_up (mm_up (mm_up e32_19 eg21 rfl) eg23 rfl) eg26 rfl) eg28 rfl) eg30 rfl) hp31.1 rfl) eg33 rfl) hp34.1 rfl) eg36 rfl) hp37.1 rfl) hp39.1 rfl) hp41.1 rfl)
    have e386_44 := ((show mFr [] g41 g41 from mFr.rf).at 386 rfl)
    have hMz44 := cMz.eq hMy42 e386_44 (show 1 ≤ 1 by decide)
    refine k_callv xa L41 (k_runU (x := ⟨"CellSwitch$SwitchSide", "keep", "(LCellSwitch$Call;)V"⟩) (As := [.ref (Z.ad 1 v19.toInt.toNat)]) (rest := []) ⟨hx, hb, hml, x.2.2.2.2.1, x.2.2.1⟩ (c_kkeep_10 l X g41 v8.toInt.toNat v19 _ ms hX hp41.2.1 hMz44 (by omega) (show v8.toInt.toNat < Z.n from (by omega)) hc19 al41_0 (by omega)) (va_cwU 1 x.2.2.1 (wk_U (owner := "CellSwitch$Side") kd_X8_keep kl_X10_108 km_CellSwitchSwitchSide_CellSwitchSide_keep ks_X10_CellSwitchSwitchSide_X8_keep ki_X8_keep kn_X8) rfl rfl rfl rfl (by decide +kernel) ⟨Nat.le_of_ble_eq_true rfl, Nat.le_of_ble_eq_true rfl⟩) ⟨cPreA.blind, c_recv x L41 al41_2 rfl, fun U hU hW => k_pre xa L41 U hU hW⟩ rfl rfl hl.1 rfl (lv_room (Nat.le_of_ble_eq_true rfl)) dX10_setupCame_165 ⟨show 0 + 1 + 1 + kc41 + 1 ≤ 4 by omega, show 0 + 18 + 18 + kn41 + (0 + 1 * ms) ≤ 36 + 2 * ms by omega⟩) (fun  Z g44 H44 k44 kc44 kn44 hk44 hn44 hp44 hz44 xa L44 => ?_)
    have hsg44 := hp44.2.2.1
    have hww44 := hp44.2.2.2.1
    have ea44_0 := hz44.2.2.1 1 v19.toInt.toNat al41_0 (by omega)
    have ea44_1 := hz44.2.2.1 1 v15.toInt.toNat al41_1 (by omega)
    have ea44_2 := hz44.2.2.1 10 v8.toInt.toNat al41_2 (by omega)
    have ea44_3 := hz44.2.2.1 10 i0 al41_3 (by omega)
    have ea44_4 := hz44.2.2.1 9 q1 al41_4 (by omega)
    rw [← ea44_0] at hl
    rw [← ea44_1] at hl
    rw [← ea44_2] at hl
    rw [← ea44_3] at hl
    rw [← ea44_4] at hl
    have al44_0 := hz44.2.1 1 v19.toInt.toNat al41_0
    have al44_1 := hz44.2.1 1 v15.toInt.toNat al41_1
    have al44_2 := hz44.2.1 10 v8.toInt.toNat al41_2
    have al44_3 := hz44.2.1 10 i0 al41_3
    have al44_4 := hz44.2.1 9 q1 al41_4
    have hZn44 := hz44.1
    have x := xa.1
    have hz := x.2.2.2.2.2.2.2.1
    have hzn := hz.1
    have hMy45 := (cMz.fr (a := 0) (b := 1) (show cMz ms (0 + 1) _ _ from cMz.eq hMy42 e386_44 (show 0 + 1 ≤ 1 by decide)) hz44.1 (fun s => (hsg44 s).2))
    have hzl := cZl.tr hzl hz44
    have hcs : 0 + 1 + 1 + kc41 + kc44 ≤ 4 ∧ 0 + 18 + 18 + kn41 + kn44 ≤ 36 + 2 * ms := by omega
    refine lv_aload_n hx hb dX10_setupCame_168 rfl (lv_at hl 4 rfl) ?_
    refine lv_aload hx hb dX10_setupCame_169 (lv_at hl 1 rfl) ?_
    refine c_cv (As := [.ref (Z.ad 1 v15.toInt.toNat)]) (rest := []) x hml L44 10 i0 al44_3 rfl (c_ksayProceeding l X g44 i0 v15.toInt.toNat hX (show i0 < Z.n from (by omega)) al44_1) (wk_V kd_X10_sayProceeding kl_X10_112 ki_X10_sayProceeding ks_X10_X10_sayProceeding kn_X10) rfl ⟨rfl, rfl⟩ hd_ksayProceeding ⟨Nat.le_of_ble_eq_true rfl, Nat.le_of_ble_eq_true rfl⟩ rfl hl.1 rfl (lv_room (Nat.le_of_ble_eq_true rfl)) dX10_setupCame_171 (fun  g46 H46 k46 hp46 L46 => ?_) hcs
    refine lv_aload hx hb dX10_setupCame_174 (lv_at hl 2 rfl) ?_
    refine lv_aload hx hb dX10_setupCame_176 (lv_at hl 0 rfl) ?_
    refine c_cv (As := [.ref (Z.ad 1 v19.toInt.toNat)]) (rest := []) x hml L46 10 v8.toInt.toNat al44_2 rfl (c_ksaySetup_10 l X g46 v8.toInt.toNat v19.toInt.toNat hX (show v8.toInt.toNat < Z.n from (by omega)) al44_0) (wk_V kd_X10_saySetup kl_X10_115 ki_X10_saySetup ks_X10_X10_saySetup kn_X10) rfl ⟨rfl, rfl⟩ hd_ksaySetup_10 ⟨Nat.le_of_ble_eq_true rfl, Nat.le_of_ble_eq_true rfl⟩ rfl hl.1 rfl (lv_room (Nat.le_of_ble_eq_true rfl)) dX10_setupCame_178 (fun  g47 H47 k47 hp47 L47 => ?_) hcs
    exact k_vret xa L47 hr hlocks (Int.le_refl _) hzl ⟨(mFr.tr (mFr.tr (mFr.tr (mFr.tr (mFr.tr (mFr.tr (mFr.upE (mFr.tr (mFr.upE (mFr.tr (mFr.upE (mFr.upE (mFr.upE (mFr.upE (mFr.upE (mFr.tr (mFr.tr (mFr.upE (mFr.tr mFr.rf hp1.1 rfl) eg12 rfl) fr15 rfl) fr19 rfl) eg21 rfl) eg23 rfl) eg26 rfl) eg28 rfl) eg30 rfl) hp31.1 rfl) eg33 rfl) hp34.1 rfl) eg36 rfl) hp37.1 rfl) hp39.1 rfl) hp41.1 rfl) hp44.1 rfl) hp46.1 rfl) hp47.1 rfl), (cJ_fr (cJ_fr hp44.2.1 hp46.1 rfl) hp47.1 rfl), (fun s => by have h0 := congrArg Int32.toInt (congrFun e386_15 s); have h1 := congrArg Int32.toInt (congrFun e386_19 s); have h2 := congrArg Int32.toInt (congrFun e386_41 s); have w2 := hsg41 s; have h3 := congrArg Int32.toInt (congrFun e386_44 s); have w3 := hsg44 s; have hl := congrArg Int32.toInt (congrFun ((show mFr [198, 832, 864] g44 g47 from (mFr.tr (mFr.tr mFr.rf hp46.1 rfl) hp47.1 rfl)).at 386 rfl) s); omega), (by omega), trivial⟩ hcs.1 hcs.2 dX10_setupCame_181
  · skip
    have ic7_4 : v2.toInt ≠ (0 : Int32).toInt := fun z => c7_4 (Int32.toInt_inj.mp z)
    have y48 : (0 : Int32).toInt = 0 := by decide
    have q49 : rg (1) (96) v2 := rg_neL c7_4 rv2 kc_0
    have uq49 : (1 : Int) ≤ v2.toInt ∧ v2.toInt ≤ 96 := q49
    refine lv_aload_n hx hb dX10_setupCame_10 rfl (lv_at hl 1 rfl) ?_
    refine lv_bipush (v := 90) hx hb dX10_setupCame_11 (by decide) ?_
    refine lv_aload_n hx hb dX10_setupCame_13 rfl (lv_at hl 2 rfl) ?_
    refine c_geti x L1 9 q1 1 289 hq1 rfl rfl (wk_in kf_X10_85) dX10_setupCame_14 (fun v50 ev50 wv50 => ?_)
    have rv50 : rg (-2147483648) (2147483647) v50 := rg_any v50
    have uv50 : (-2147483648 : Int) ≤ v50.toInt ∧ v50.toInt ≤ 2147483647 := rv50
    have sv50 : v50.toInt = (g 289 q1).toInt := congrArg Int32.toInt (ev50.trans (congrFun ((show mFr [32, 33, 34, 35, 36, 37, 38, 39, 40, 41, 42, 43, 44, 45, 46, 47, 48, 49, 198, 323, 384, 385, 386, 832, 864, 1728, 1729] g g1 from (mFr.tr mFr.rf hp1.1 rfl)).at 289 rfl) _))
    refine lv_iconst (v := 0) hx hb dX10_setupCame_17 (by decide) ?_
    refine lv_iload_n hx hb dX10_setupCame_18 rfl (lv_at hl 0 rfl) ?_
    refine c_cvU (n := 4) (owner := "CellSwitch$Side") (x0 := ⟨"CellSwitch$SwitchSide", "sayCause", "(IIZI)V"⟩) (As := [.int (90 : Int32), .int v50, .int (0 : Int32), .int v2]) (rest := []) x hml L1 10 i0 hal0 rfl (c_ksayCause_10 l X g1 i0 (90 : Int32) v50 (0 : Int32) v2 hX (show i0 < Z.n from (by omega)) (rg_w kc_0 rfl)) (wk_U kd_X8_sayCause kl_X10_88 km_CellSwitchSwitchSide_CellSwitchSide_sayCause ks_X10_CellSwitchSwitchSide_X8_sayCause ki_X8_sayCause kn_X8) rfl ⟨rfl, rfl⟩ rfl (by decide +kernel) ⟨Nat.le_of_ble_eq_true rfl, Nat.le_of_ble_eq_true rfl⟩ rfl hl.1 rfl (lv_room (Nat.le_of_ble_eq_true rfl)) dX10_setupCame_19 (fun  g51 H51 k51 hp51 L51 => ?_) hcs
    exact k_vret xa L51 hr hlocks (Int.le_refl _) hzl ⟨(mFr.tr (mFr.tr mFr.rf hp1.1 rfl) hp51.1 rfl), (cJ_fr hp1.2.2.1 hp51.1 rfl), (fun s => by have hl := congrArg Int32.toInt (congrFun ((show mFr [198, 832, 864] g g51 from (mFr.tr (mFr.tr mFr.rf hp1.1 rfl) hp51.1 rfl)).at 386 rfl) s); omega), (by omega), trivial⟩ hcs.1 hcs.2 dX10_setupCame_22

def rm_kcame_4 (ms : Nat) : Room := { frames := 10, cells := 2, slots := 18 + 1 * ms, locals := 229 }
theorem hd_kcame_4 : yX8_came.cls ≠ "java/lang/invoke/MethodHandle" ∧ yX8_came.cls ≠ "java/lang/invoke/VarHandle" ∧ (parseMethodDescriptor yX8_came.desc).map (fun d => d.parameters.length) = some 2 := by decide +kernel
set_option maxHeartbeats 4000000 in
set_option maxRecDepth 100000 in
theorem c_kcame_4 (l : Launch) {G : cG} {Z : cZ} (X : Int) (g : mSt) (i0 : Nat) (q1 : Nat) (p2 : Int32) (sz ms : Nat) (hX : 0 ≤ X ∧ X ≤ 2000000000) (hJ : cJ Z g) (hMz : cMz ms 1 Z g) (hw2 : Z.w 2 + 1 ≤ 1000000) (hi0 : i0 < Z.n) (hq1 : Z.al 9 q1) (hsig : (g 288 q1).toInt = 5 → 0 ≤ (g 291 q1).toInt) : Met l yX8_came (wk (Cond.code yX8_came cX8_came 5 none)) (rm_kcame_4 ms) (va_Pc [.ref (Z.ad 4 i0), .ref (Z.ad 9 q1), .int p2] (cPreA G Z X g sz)) (kE 2 (18 + 1 * ms) (cAf Z sz) (cQvA G Z X (fun Z1 g1 => mFr [32, 33, 34, 35, 36, 37, 38, 39, 40, 41, 42, 43, 44, 45, 46, 47, 48, 49, 135, 198, 384, 385, 386, 832, 864, 1536, 1728, 1729] g g1 ∧ cJ Z1 g1 ∧ (∀ s, (g 386 s).toInt ≤ (g1 386 s).toInt ∧ (g1 386 s).toInt ≤ (g 386 s).toInt + 1) ∧ Z1.w 2 ≤ Z.w 2 + 1 ∧ True))) 2 (18 + 1 * ms) (cAf Z sz) := by
  refine Met.ofW (cc := cX8_came) (maxL := 5) (ret := none) (by decide) rfl ?_
  intro p e s m args below meth c s₁ B hml hv
  obtain ⟨hav, hv⟩ := hv
  have hsz0 := hv.2.1
  subst hsz0
  have hr := B.returns
  have hlocks := B.notSynchronized
  obtain ⟨xa, L⟩ := k_start B rfl (fun w h => wk_in h) hv
  have hent : entryFrame m args 5 = entryFrame m ([.ref (Z.ad 4 i0), .ref (Z.ad 9 q1), .int p2] : List Value).toArray 5 := by rw [hav]
  rw [hent]
  have hl := lv_entry ([.ref (Z.ad 4 i0), .ref (Z.ad 9 q1), .int p2]) (n := 5) (Nat.le_of_ble_eq_true rfl)
  rw [lg_entry_eq]
  generalize (lg_sl ([.ref (Z.ad 4 i0), .ref (Z.ad 9 q1), .int p2]) ++ List.replicate (5 - (lg_sl ([.ref (Z.ad 4 i0), .ref (Z.ad 9 q1), .int p2])).length) Slot.unset).toArray = ls at hl ⊢
  have hl : lv_has ls 5 [(0, .ref (Z.ad 4 i0)), (1, .ref (Z.ad 9 q1)), (2, .int p2)] := hl
  have x := xa.1
  have hx := x.1
  have hb := x.2.1
  have hz := x.2.2.2.2.2.2.2.1
  have hzn := hz.1
  have hzl : cZl Z Z 0 0 := cZl.rf
  have hcs : 0 ≤ 2 ∧ 0 ≤ 18 + 1 * ms := ⟨Nat.zero_le _, Nat.zero_le _⟩
  have hal0 : Z.al 4 i0 := hz.2 4 i0 (show i0 < Z.n from hi0)
  have up2 : (-2147483648 : Int) ≤ p2.toInt ∧ p2.toInt ≤ 2147483647 := (rg_any p2)
  refine lv_aload_n hx hb dX8_came_0 rfl (lv_at hl 0 rfl) ?_
  refine lv_aload_n hx hb dX8_came_1 rfl (lv_at hl 1 rfl) ?_
  refine c_geti x L 9 q1 1 289 hq1 rfl rfl (wk_in kf_X8_57) dX8_came_2 (fun v1 ev1 wv1 => ?_)
  have rv1 : rg (-2147483648) (2147483647) v1 := rg_any v1
  have uv1 : (-2147483648 : Int) ≤ v1.toInt ∧ v1.toInt ≤ 2147483647 := rv1
  have sv1 : v1.toInt = (g 289 q1).toInt := congrArg Int32.toInt (ev1.trans (congrFun ((show mFr [32, 33, 34, 35, 36, 37, 38, 39, 40, 41, 42, 43, 44, 45, 46, 47, 48, 49, 135, 198, 384, 385, 386, 832, 864, 1536, 1728, 1729] g g from mFr.rf).at 289 rfl) _))
  refine lv_aload_n hx hb dX8_came_5 rfl (lv_at hl 1 rfl) ?_
  refine c_geti x L 9 q1 2 290 hq1 rfl rfl (wk_in kf_X8_60) dX8_came_6 (fun v2 ev2 wv2 => ?_)
  have rv2 : rg (0) (1) v2 := clj_290 wv2
  have uv2 : (0 : Int) ≤ v2.toInt ∧ v2.toInt ≤ 1 := rv2
  have sv2 : v2.toInt = (g 290 q1).toInt := congrArg Int32.toInt (ev2.trans (congrFun ((show mFr [32, 33, 34, 35, 36, 37, 38, 39, 40, 41, 42, 43, 44, 45, 46, 47, 48, 49, 135, 198, 384, 385, 386, 832, 864, 1536, 1728, 1729] g g from mFr.rf).at 290 rfl) _))
  refine lv_if_ne (tgt := 16) hx hb dX8_came_9 (by decide) (fun c9_3 => ?_) (fun c9_3 => ?_)
  · skip
    have ic9_3 : v2.toInt ≠ (0 : Int32).toInt := fun z => c9_3 (Int32.toInt_inj.mp z)
    have y4 : (0 : Int32).toInt = 0 := by decide
    have q5 : rg (1) (1) v2 := rg_neL c9_3 rv2 kc_0
    have uq5 : (1 : Int) ≤ v2.toInt ∧ v2.toInt ≤ 1 := q5
    refine lv_iconst (v := 0) hx hb dX8_came_16 (by decide) ?_
    refine c_ciU (n := 2) (owner := "CellSwitch$Side") (x0 := ⟨"CellSwitch$Side", "placeOfReference", "(IZ)I"⟩) (As := [.int v1, .int (0 : Int32)]) (rest := []) x hml L 4 i0 hal0 rfl (c_kplaceOfReference_4 l X g i0 v1 (0 : Int32) hX hJ (show i0 < Z.n from (by omega)) (rg_w kc_0 rfl)) (wk_U kd_X8_placeOfReference kl_X8_45 km_CellSwitchSide_CellSwitchSide_placeOfReference ks_X4_CellSwitchSide_X8_placeOfReference ki_X8_placeOfReference kn_X8) rfl ⟨rfl, rfl⟩ rfl (by decide +kernel) ⟨Nat.le_of_ble_eq_true rfl, Nat.le_of_ble_eq_true rfl⟩ rfl hl.1 rfl (lv_room (Nat.le_of_ble_eq_true rfl)) dX8_came_17 (fun v7 g6 H6 k6 hp6 L6 => ?_) hcs
    have rv7 : rg (-1) (2147483646) v7 := hp6.2.1
    have uv7 : (-1 : Int) ≤ v7.toInt ∧ v7.toInt ≤ 2147483646 := rv7
    have hw8 := hp6.2.2.2
    refine lv_istore_n (lv' := [(3, .int v7), (0, .ref (Z.ad 4 i0)), (1, .ref (Z.ad 9 q1)), (2, .int p2)]) hx hb dX8_came_20 rfl hl (by decide) rfl (fun ls hl => ?_)
    refine lv_iload_n hx hb dX8_came_21 rfl (lv_at hl 0 rfl) ?_
    refine lv_if_ge (tgt := 29) hx hb dX8_came_22 (by decide) (fun c22_9 => ?_) (fun c22_9 => ?_)
    · skip
      have ic22_9 := Int32.le_iff_toInt_le.mp c22_9
      have q10 : rg (0) (2147483646) v7 := (rg_le c22_9 kc_0 rv7).2
      have uq10 : (0 : Int) ≤ v7.toInt ∧ v7.toInt ≤ 2147483646 := q10
      refine lv_aload_n hx hb dX8_came_29 rfl (lv_at hl 1 rfl) ?_
      have al11 : Z.al 12 i0 := hz.2 12 i0 (show i0 < 2 * Z.n from (by omega))
      refine c_getr (a := Z.ad 12 i0) x L6 4 i0 2 hal0 rfl rfl (wk_in kf_X8_10) dX8_came_30 ?_
      refine lv_iload_n hx hb dX8_came_33 rfl (lv_at hl 0 rfl) ?_
      have y12 := congrArg Int32.toInt (congrFun ((show mFr [] g g6 from (mFr.tr mFr.rf hp6.1 rfl)).at 386 rfl) (i0))
      refine c_cr (As := [.int v7]) (rest := []) x hml L6 12 i0 al11 rfl (c_klget l X g6 i0 v7 hX hp6.2.2.1 (show i0 < 2 * Z.n from (by omega)) (by omega)) (wk_V kd_Jx4a65c_get_915e3 kl_X8_28 ki_Jx4a65c_get_915e3 ks_Jx4a65c_Jx4a65c_get_915e3 kn_Jx4a65c) rfl ⟨rfl, rfl⟩ hd_klget ⟨Nat.le_of_ble_eq_true rfl, Nat.le_of_ble_eq_true rfl⟩ rfl hl.1 rfl (lv_room (Nat.le_of_ble_eq_true rfl)) dX8_came_34 (fun v14 g13 H13 k13 hp13 L13 => ?_) hcs
      have hvv14 := hp13.2.2
      refine c_top (show Value.ref (Z.ad 1 v14.toInt.toNat) = va_rf (cOpt Z 1 v14) from (by rw [cOpt_some hvv14.1]; rfl)) ?_
      refine c_cast x L13 1 v14.toInt.toNat hvv14.2.1 rfl (wk_in kc_lX8_32) dX8_came_37 ?_
      refine lv_astore (lv' := [(4, .ref (Z.ad 1 v14.toInt.toNat)), (3, .int v7), (0, .ref (Z.ad 4 i0)), (1, .ref (Z.ad 9 q1)), (2, .int p2)]) hx hb dX8_came_40 hl (by decide) rfl (fun ls hl => ?_)
      refine lv_aload hx hb dX8_came_42 (lv_at hl 0 rfl) ?_
      refine lv_ifnull hx hb dX8_came_44 ?_
      refine lv_aload hx hb dX8_came_47 (lv_at hl 0 rfl) ?_
      refine c_ci (As := []) (rest := []) x hml L13 1 v14.toInt.toNat hvv14.2.1 rfl (c_kisOpen l X g13 v14.toInt.toNat hX hvv14.2.1) (wk_V kd_X1_isOpen kl_X8_34 ki_X1_isOpen ks_X1_X1_isOpen kn_X1) rfl ⟨rfl, rfl⟩ hd_kisOpen ⟨Nat.le_of_ble_eq_true rfl, Nat.le_of_ble_eq_true rfl⟩ rfl hl.1 rfl (lv_room (Nat.le_of_ble_eq_true rfl)) dX8_came_49 (fun v16 g15 H15 k15 hp15 L15 => ?_) hcs
      have rv16 : rg (0) (1) v16 := hp15.2.1
      have uv16 : (0 : Int) ≤ v16.toInt ∧ v16.toInt ≤ 1 := rv16
      refine lv_if_ne (tgt := 108) hx hb dX8_came_52 (by decide) (fun c52_17 => ?_) (fun c52_17 => ?_)
      · skip
        have ic52_17 : v16.toInt ≠ (0 : Int32).toInt := fun z => c52_17 (Int32.toInt_inj.mp z)
        have y18 : (0 : Int32).toInt = 0 := by decide
        have q19 : rg (1) (1) v16 := rg_neL c52_17 rv16 kc_0
        have uq19 : (1 : Int) ≤ v16.toInt ∧ v16.toInt ≤ 1 := q19
        refine lv_aload_n hx hb dX8_came_108 rfl (lv_at hl 3 rfl) ?_
        refine c_geti x L15 9 q1 0 288 hq1 rfl rfl (wk_in kf_X8_63) dX8_came_109 (fun v20 ev20 wv20 => ?_)
        have rv20 : rg (-2147483648) (2147483647) v20 := rg_any v20
        have uv20 : (-2147483648 : Int) ≤ v20.toInt ∧ v20.toInt ≤ 2147483647 := rv20
        have sv20 : v20.toInt = (g 288 q1).toInt := congrArg Int32.toInt (ev20.trans (congrFun ((show mFr [32, 33, 34, 35, 36, 37, 38, 39, 40, 41, 42, 43, 44, 45, 46, 47, 48, 49, 135, 198, 384, 385, 386, 832, 864, 1536, 1728, 1729] g g15 from (mFr.tr (mFr.tr (mFr.tr mFr.rf hp6.1 rfl) hp13.1 rfl) hp15.1 rfl)).at 288 rfl) _))
        refine lv_bipush (v := 77) hx hb dX8_came_112 (by decide) ?_
        refine lv_icmp_eq (tgt := 126) hx hb dX8_came_114 (by decide) (fun c114_21 => ?_) (fun c114_21 => ?_)
        · skip
          have ic114_21 := congrArg Int32.toInt c114_21
          have y22 : (77 : Int32).toInt = 77 := by decide
          have q23 : rg (77) (77) v20 := (rg_eq c114_21 rv20 kc_77).1
          have uq23 : (77 : Int) ≤ v20.toInt ∧ v20.toInt ≤ 77 := q23
          refine lv_aload_n hx hb dX8_came_126 rfl (lv_at hl 2 rfl) ?_
          refine lv_aload hx hb dX8_came_127 (lv_at hl 0 rfl) ?_
          refine lv_aload_n hx hb dX8_came_129 rfl (lv_at hl 3 rfl) ?_
          refine lv_iload_n hx hb dX8_came_130 rfl (lv_at hl 4 rfl) ?_
          refine c_cvU (n := 3) (owner := "CellSwitch$Side") (x0 := ⟨"CellSwitch$Side", "cleared", "(LCellSwitch$Call;LCellSwitch$Signal;I)V"⟩) (As := [.ref (Z.ad 1 v14.toInt.toNat), .ref (Z.ad 9 q1), .int p2]) (rest := []) x hml L15 4 i0 hal0 rfl (c_kcleared_4 l X g15 i0 v14.toInt.toNat q1 p2 hX (cJ_fr hp13.2.1 hp15.1 rfl) (show i0 < Z.n from (by omega)) hvv14.2.1 hq1) (wk_U kd_X8_cleared kl_X8_74 km_CellSwitchSide_CellSwitchSide_cleared ks_X4_CellSwitchSide_X8_cleared ki_X8_cleared kn_X8) rfl ⟨rfl, rfl⟩ rfl (by decide +kernel) ⟨Nat.le_of_ble_eq_true rfl, Nat.le_of_ble_eq_true rfl⟩ rfl hl.1 rfl (lv_room (Nat.le_of_ble_eq_true rfl)) dX8_came_131 (fun  g24 H24 k24 hp24 L24 => ?_) hcs
          refine lv_goto (tgt := 153) hx hb dX8_came_134 (by decide) ?_
          exact k_vret xa L24 hr hlocks (Int.le_refl _) hzl ⟨(mFr.tr (mFr.tr (mFr.tr (mFr.tr mFr.rf hp6.1 rfl) hp13.1 rfl) hp15.1 rfl) hp24.1 rfl), hp24.2.1, (fun s => by have hl := congrArg Int32.toInt (congrFun ((show mFr [36, 40, 41, 42, 44, 45, 46, 48, 198, 832, 864] g g24 from (mFr.tr (mFr.tr (mFr.tr (mFr.tr mFr.rf hp6.1 rfl) hp13.1 rfl) hp15.1 rfl) hp24.1 rfl)).at 386 rfl) s); omega), (by omega), trivial⟩ hcs.1 hcs.2 dX8_came_153
        · skip
          have ic114_21 : v20.toInt ≠ (77 : Int32).toInt := fun z => c114_21 (Int32.toInt_inj.mp z)
          have y25 : (77 : Int32).toInt = 77 := by decide
          refine lv_aload_n hx hb dX8_came_117 rfl (lv_at hl 3 rfl) ?_
          refine c_geti x L15 9 q1 0 288 hq1 rfl rfl (wk_in kf_X8_63) dX8_came_118 (fun v26 ev26 wv26 => ?_)
          refine m_top ((ev20).trans ev26.symm) ?_
          refine lv_bipush (v := 90) hx hb dX8_came_121 (by decide) ?_
          refine lv_icmp_ne (tgt := 137) hx hb dX8_came_123 (by decide) (fun c123_27 => ?_) (fun c123_27 => ?_)
          · skip
            have ic123_27 : v20.toInt ≠ (90 : Int32).toInt := fun z => c123_27 (Int32.toInt_inj.mp z)
            have y28 : (90 : Int32).toInt = 90 := by decide
            refine lv_aload_n hx hb dX8_came_137 rfl (lv_at hl 3 rfl) ?_
            refine c_geti x L15 9 q1 0 288 hq1 rfl rfl (wk_in kf_X8_63) dX8_came_138 (fun v29 ev29 wv29 => ?_)
            refine m_top ((ev20).trans ev29.symm) ?_
            refine lv_iconst (v := 5) hx hb dX8_came_141 (by decide) ?_
            refine lv_icmp_eq (tgt := 153) hx hb dX8_came_142 (by decide) (fun c142_30 => ?_) (fun c142_30 => ?_)
            · skip
              have ic142_30 := congrArg Int32.toInt c142_30
              have y31 : (5 : Int32).toInt = 5 := by decide
              have q32 : rg (5) (5) v20 := (rg_eq c142_30 rv20 kc_5).1
              have uq32 : (5 : Int) ≤ v20.toInt ∧ v20.toInt ≤ 5 := q32
              exact k_vret xa L15 hr hlocks (Int.le_refl _) hzl ⟨(mFr.tr (mFr.tr (mFr.tr mFr.rf hp6.1 rfl) hp13.1 rfl) hp15.1 rfl), (cJ_fr hp13.2.1 hp15.1 rfl), (fun s => by have hl := congrArg Int32.toInt (congrFun ((show mFr [] g g15 from (mFr.tr (mFr.tr (mFr.tr mFr.rf hp6.1 rfl) hp13.1 rfl) hp15.1 rfl)).at 386 rfl) s); omega), (by omega), trivial⟩ hcs.1 hcs.2 dX8_came_153
            · skip
              have ic142_30 : v20.toInt ≠ (5 : Int32).toInt := fun z => c142_30 (Int32.toInt_inj.mp z)
              have y33 : (5 : Int32).toInt = 5 := by decide
              refine lv_aload_n hx hb dX8_came_145 rfl (lv_at hl 2 rfl) ?_
              refine lv_aload hx hb dX8_came_146 (lv_at hl 0 rfl) ?_
              refine lv_aload_n hx hb dX8_came_148 rfl (lv_at hl 3 rfl) ?_
              refine lv_iload_n hx hb dX8_came_149 rfl (lv_at hl 4 rfl) ?_
              refine c_cvA (n := 3) (owner := "CellSwitch$Side") (x0 := ⟨"CellSwitch$Side", "progress", "(LCellSwitch$Call;LCellSwitch$Signal;I)V"⟩) (As := [.ref (Z.ad 1 v14.toInt.toNat), .ref (Z.ad 9 q1), .int p2]) (rest := []) x hml L15 4 i0 hal0 rfl (c_kprogress_4 l X g15 i0 v14.toInt.toNat q1 p2 hX (cJ_fr hp13.2.1 hp15.1 rfl) (show i0 < Z.n from (by omega)) hvv14.2.1 hq1) (wk_U kd_X4_progress kl_X8_78 km_CellSwitchSide_CellSwitchSide_progress ks_X4_CellSwitchSide_X4_progress ki_X4_progress kn_X4) rfl ⟨rfl, rfl⟩ (List.mem_of_getElem? (i := 2) rfl) (by decide +kernel) ⟨Nat.le_of_ble_eq_true rfl, Nat.le_of_ble_eq_true rfl⟩ rfl hl.1 rfl (lv_room (Nat.le_of_ble_eq_true rfl)) dX8_came_150 (fun  g34 H34 k34 hp34 L34 => ?_) hcs
              exact k_vret xa L34 hr hlocks (Int.le_refl _) hzl ⟨(mFr.tr (mFr.tr (mFr.tr (mFr.tr mFr.rf hp6.1 rfl) hp13.1 rfl) hp15.1 rfl) hp34.1 rfl), hp34.2.1, (fun s => by have hl := congrArg Int32.toInt (congrFun ((show mFr [36, 37, 40, 41, 42, 44, 45, 46, 48, 198, 832, 864] g g34 from (mFr.tr (mFr.tr (mFr.tr (mFr.tr mFr.rf hp6.1 rfl) hp13.1 rfl) hp15.1 rfl) hp34.1 rfl)).at 386 rfl) s); omega), (by omega), trivial⟩ hcs.1 hcs.2 dX8_came_153
          · skip
            have ic123_27 := congrArg Int32.toInt c123_27
            have y35 : (90 : Int32).toInt = 90 := by decide
            have q36 : rg (90) (90) v20 := (rg_eq c123_27 rv20 kc_90).1
            have uq36 : (90 : Int) ≤ v20.toInt ∧ v20.toInt ≤ 90 := q36
            refine lv_aload_n hx hb dX8_came_126 rfl (lv_at hl 2 rfl) ?_
            refine lv_aload hx hb dX8_came_127 (lv_at hl 0 rfl) ?_
            refine lv_aload_n hx hb dX8_came_129 rfl (lv_at hl 3 rfl) ?_
            refine lv_iload_n hx hb dX8_came_130 rfl (lv_at hl 4 rfl) ?_
            refine c_cvU (n := 3) (owner := "CellSwitch$Side") (x0 := ⟨"CellSwitch$Side", "cleared", "(LCellSwitch$Call;LCellSwitch$Signal;I)V"⟩) (As := [.ref (Z.ad 1 v14.toInt.toNat), .ref (Z.ad 9 q1), .int p2]) (rest := []) x hml L15 4 i0 hal0 rfl (c_kcleared_4 l X g15 i0 v14.toInt.toNat q1 p2 hX (cJ_fr hp13.2.1 hp15.1 rfl) (show i0 < Z.n from (by omega)) hvv14.2.1 hq1) (wk_U kd_X8_cleared kl_X8_74 km_CellSwitchSide_CellSwitchSide_cleared ks_X4_CellSwitchSide_X8_cleared ki_X8_cleared kn_X8) rfl ⟨rfl, rfl⟩ rfl (by decide +kernel) ⟨Nat.le_of_ble_eq_true rfl, Nat.le_of_ble_eq_true rfl⟩ rfl hl.1 rfl (lv_room (Nat.le_of_ble_eq_true rfl)) dX8_came_131 (fun  g37 H37 k37 hp37 L37 => ?_) hcs
            refine lv_goto (tgt := 153) hx hb dX8_came_134 (by decide) ?_
            exact k_vret xa L37 hr hlocks (Int.le_refl _) hzl ⟨(mFr.tr (mFr.tr (mFr.tr (mFr.tr mFr.rf hp6.1 rfl) hp13.1 rfl) hp15.1 rfl) hp37.1 rfl), hp37.2.1, (fun s => by have hl := congrArg Int32.toInt (congrFun ((show mFr [36, 40, 41, 42, 44, 45, 46, 48, 198, 832, 864] g g37 from (mFr.tr (mFr.tr (mFr.tr (mFr.tr mFr.rf hp6.1 rfl) hp13.1 rfl) hp15.1 rfl) hp37.1 rfl)).at 386 rfl) s); omega), (by omega), trivial⟩ hcs.1 hcs.2 dX8_came_153
      · skip
        have ic52_17 := congrArg Int32.toInt c52_17
        have y38 : (0 : Int32).toInt = 0 := by decide
        have q39 : rg (0) (0) v16 := (rg_eq c52_17 rv16 kc_0).1
        have uq39 : (0 : Int) ≤ v16.toInt ∧ v16.toInt ≤ 0 := q39
        refine lv_aload_n hx hb dX8_came_55 rfl (lv_at hl 3 rfl) ?_
        refine c_geti x L15 9 q1 0 288 hq1 rfl rfl (wk_in kf_X8_63) dX8_came_56 (fun v40 ev40 wv40 => ?_)
        have rv40 : rg (-2147483648) (2147483647) v40 := rg_any v40
        have uv40 : (-2147483648 : Int) ≤ v40.toInt ∧ v40.toInt ≤ 2147483647 := rv40
        have sv40 : v40.toInt = (g 288 q1).toInt := congrArg Int32.toInt (ev40.trans (congrFun ((show mFr [32, 33, 34, 35, 36, 37, 38, 39, 40, 41, 42, 43, 44, 45, 46, 47, 48, 49, 135, 198, 384, 385, 386, 832, 864, 1536, 1728, 1729] g g15 from (mFr.tr (mFr.tr (mFr.tr mFr.rf hp6.1 rfl) hp13.1 rfl) hp15.1 rfl)).at 288 rfl) _))
        refine lv_iconst (v := 5) hx hb dX8_came_59 (by decide) ?_
        refine lv_icmp_ne (tgt := 72) hx hb dX8_came_60 (by decide) (fun c60_41 => ?_) (fun c60_41 => ?_)
        · skip
          have ic60_41 : v40.toInt ≠ (5 : Int32).toInt := fun z => c60_41 (Int32.toInt_inj.mp z)
          have y42 : (5 : Int32).toInt = 5 := by decide
          refine lv_aload_n hx hb dX8_came_72 rfl (lv_at hl 3 rfl) ?_
          refine c_geti x L15 9 q1 0 288 hq1 rfl rfl (wk_in kf_X8_63) dX8_came_73 (fun v43 ev43 wv43 => ?_)
          refine m_top ((ev40).trans ev43.symm) ?_
          refine lv_bipush (v := 77) hx hb dX8_came_76 (by decide) ?_
          refine lv_icmp_ne (tgt := 153) hx hb dX8_came_78 (by decide) (fun c78_44 => ?_) (fun c78_44 => ?_)
          · skip
            have ic78_44 : v40.toInt ≠ (77 : Int32).toInt := fun z => c78_44 (Int32.toInt_inj.mp z)
            have y45 : (77 : Int32).toInt = 77 := by decide
            exact k_vret xa L15 hr hlocks (Int.le_refl _) hzl ⟨(mFr.tr (mFr.tr (mFr.tr mFr.rf hp6.1 rfl) hp13.1 rfl) hp15.1 rfl), (cJ_fr hp13.2.1 hp15.1 rfl), (fun s => by have hl := congrArg Int32.toInt (congrFun ((show mFr [] g g15 from (mFr.tr (mFr.tr (mFr.tr mFr.rf hp6.1 rfl) hp13.1 rfl) hp15.1 rfl)).at 386 rfl) s); omega), (by omega), trivial⟩ hcs.1 hcs.2 dX8_came_153
          · skip
            have ic78_44 := congrArg Int32.toInt c78_44
            have y46 : (77 : Int32).toInt = 77 := by decide
            have q47 : rg (77) (77) v40 := (rg_eq c78_44 rv40 kc_77).1
            have uq47 : (77 : Int) ≤ v40.toInt ∧ v40.toInt ≤ 77 := q47
            refine lv_aload_n hx hb dX8_came_81 rfl (lv_at hl 2 rfl) ?_
            refine lv_bipush (v := 90) hx hb dX8_came_82 (by decide) ?_
            refine lv_aload_n hx hb dX8_came_84 rfl (lv_at hl 3 rfl) ?_
            refine c_geti x L15 9 q1 1 289 hq1 rfl rfl (wk_in kf_X8_57) dX8_came_85 (fun v48 ev48 wv48 => ?_)
            refine m_top (((mm_fr (mm_fr (mm_fr ev1 hp6.1 rfl) hp13.1 rfl) hp15.1 rfl)).trans ev48.symm) ?_
            refine lv_aload_n hx hb dX8_came_88 rfl (lv_at hl 3 rfl) ?_
            refine c_geti x L15 9 q1 2 290 hq1 rfl rfl (wk_in kf_X8_60) dX8_came_89 (fun v49 ev49 wv49 => ?_)
            refine m_top (((mm_fr (mm_fr (mm_fr ev2 hp6.1 rfl) hp13.1 rfl) hp15.1 rfl)).trans ev49.symm) ?_
            refine lv_if_ne (tgt := 99) hx hb dX8_came_92 (by decide) (fun c92_50 => ?_) (fun c92_50 => ?_)
            · skip
              have ic92_50 : v2.toInt ≠ (0 : Int32).toInt := fun z => c92_50 (Int32.toInt_inj.mp z)
              have y51 : (0 : Int32).toInt = 0 := by decide
              refine lv_iconst (v := 0) hx hb dX8_came_99 (by decide) ?_
              refine lv_bipush (v := 81) hx hb dX8_came_100 (by decide) ?_
              refine c_cvU (n := 4) (owner := "CellSwitch$Side") (x0 := ⟨"CellSwitch$Side", "sayCause", "(IIZI)V"⟩) (As := [.int (90 : Int32), .int v1, .int (0 : Int32), .int (81 : Int32)]) (rest := []) x hml L15 4 i0 hal0 rfl (c_ksayCause_4 l X g15 i0 (90 : Int32) v1 (0 : Int32) (81 : Int32) hX (show i0 < Z.n from (by omega)) (rg_w kc_0 rfl)) (wk_U kd_X8_sayCause kl_X8_70 km_CellSwitchSide_CellSwitchSide_sayCause ks_X4_CellSwitchSide_X8_sayCause ki_X8_sayCause kn_X8) rfl ⟨rfl, rfl⟩ rfl (by decide +kernel) ⟨Nat.le_of_ble_eq_true rfl, Nat.le_of_ble_eq_true rfl⟩ rfl hl.1 rfl (lv_room (Nat.le_of_ble_eq_true rfl)) dX8_came_102 (fun  g52 H52 k52 hp52 L52 => ?_) hcs
              refine lv_goto (tgt := 153) hx hb dX8_came_105 (by decide) ?_
              exact k_vret xa L52 hr hlocks (Int.le_refl _) hzl ⟨(mFr.tr (mFr.tr (mFr.tr (mFr.tr mFr.rf hp6.1 rfl) hp13.1 rfl) hp15.1 rfl) hp52.1 rfl), (cJ_fr (cJ_fr hp13.2.1 hp15.1 rfl) hp52.1 rfl), (fun s => by have hl := congrArg Int32.toInt (congrFun ((show mFr [198, 832, 864] g g52 from (mFr.tr (mFr.tr (mFr.tr (mFr.tr mFr.rf hp6.1 rfl) hp13.1 rfl) hp15.1 rfl) hp52.1 rfl)).at 386 rfl) s); omega), (by omega), trivial⟩ hcs.1 hcs.2 dX8_came_153
            · skip
              have ic92_50 := congrArg Int32.toInt c92_50
              have y53 : (0 : Int32).toInt = 0 := by decide
              exact absurd ((rg_eq c92_50 q5 kc_0).1 : rg (1) (0) v2) (fun q => rg_dead q rfl)
        · skip
          have ic60_41 := congrArg Int32.toInt c60_41
          have y54 : (5 : Int32).toInt = 5 := by decide
          have q55 : rg (5) (5) v40 := (rg_eq c60_41 rv40 kc_5).1
          have uq55 : (5 : Int) ≤ v40.toInt ∧ v40.toInt ≤ 5 := q55
          refine lv_aload_n hx hb dX8_came_63 rfl (lv_at hl 2 rfl) ?_
          refine lv_aload_n hx hb dX8_came_64 rfl (lv_at hl 3 rfl) ?_
          refine lv_iload_n hx hb dX8_came_65 rfl (lv_at hl 4 rfl) ?_
          have e386_56 := ((show mFr [] g g15 from (mFr.tr (mFr.tr (mFr.tr mFr.rf hp6.1 rfl) hp13.1 rfl) hp15.1 rfl)).at 386 rfl)
          have hMz56 := cMz.eq hMz e386_56 (show 1 ≤ 1 by decide)
          refine k_callv xa L15 (k_runU (x := ⟨"CellSwitch$Side", "setupCame", "(LCellSwitch$Signal;I)V"⟩) (As := [.ref (Z.ad 9 q1), .int p2]) (rest := []) ⟨hx, hb, hml, x.2.2.2.2.1, x.2.2.1⟩ (c_ksetupCame_4 l X g15 i0 q1 p2 _ ms hX (cJ_fr hp13.2.1 hp15.1 rfl) hMz56 (by omega) (show i0 < Z.n from (by omega)) hq1) (va_cwA 2 x.2.2.1 (wk_U (owner := "CellSwitch$Side") kd_X4_setupCame kl_X8_66 km_CellSwitchSide_CellSwitchSide_setupCame ks_X4_CellSwitchSide_X4_setupCame ki_X4_setupCame kn_X4) rfl rfl rfl (x.2.2.2.2.2.2.2.2.2.1.2 _ (List.mem_of_getElem? (i := 1) rfl)) (by decide +kernel) ⟨Nat.le_of_ble_eq_true rfl, Nat.le_of_ble_eq_true rfl⟩) ⟨cPreA.blind, c_recv x L15 hal0 rfl, fun U hU hW => k_pre xa L15 U hU hW⟩ rfl rfl hl.1 rfl (lv_room (Nat.le_of_ble_eq_true rfl)) dX8_came_66 ⟨show 0 + 2 ≤ 2 by omega, show 0 + (18 + 1 * ms) ≤ 18 + 1 * ms by omega⟩) (fun  Z g56 H56 k56 kc56 kn56 hk56 hn56 hp56 hz56 xa L56 => ?_)
          have hsg56 := hp56.2.2.1
          have hww56 := hp56.2.2.2.1
          have ea56_0 := hz56.2.2.1 1 v14.toInt.toNat hvv14.2.1 (by omega)
          have ea56_1 := hz56.2.2.1 4 i0 hal0 (by omega)
          have ea56_2 := hz56.2.2.1 9 q1 hq1 (by omega)
          rw [← ea56_0] at hl
          rw [← ea56_1] at hl
          rw [← ea56_2] at hl
          have al56_0 := hz56.2.1 1 v14.toInt.toNat hvv14.2.1
          have al56_1 := hz56.2.1 4 i0 hal0
          have al56_2 := hz56.2.1 9 q1 hq1
          have hZn56 := hz56.1
          have x := xa.1
          have hz := x.2.2.2.2.2.2.2.1
          have hzn := hz.1
          have hMy57 := (cMz.fr (a := 0) (b := 1) (show cMz ms (0 + 1) _ _ from cMz.eq hMz e386_56 (show 0 + 1 ≤ 1 by decide)) hz56.1 (fun s => (hsg56 s).2))
          have hzl := cZl.tr hzl hz56
          have hcs : 0 + kc56 ≤ 2 ∧ 0 + kn56 ≤ 18 + 1 * ms := by omega
          refine lv_goto (tgt := 153) hx hb dX8_came_69 (by decide) ?_
          exact k_vret xa L56 hr hlocks (Int.le_refl _) hzl ⟨(mFr.tr (mFr.tr (mFr.tr (mFr.tr mFr.rf hp6.1 rfl) hp13.1 rfl) hp15.1 rfl) hp56.1 rfl), hp56.2.1, (fun s => by have h0 := congrArg Int32.toInt (congrFun e386_56 s); have w0 := hsg56 s; have hl := congrArg Int32.toInt (congrFun ((show mFr [] g56 g56 from mFr.rf).at 386 rfl) s); omega), (by omega), trivial⟩ hcs.1 hcs.2 dX8_came_153
    · skip
      have ic22_9 := Int32.lt_iff_toInt_lt.mp (rg_nle c22_9)
      have q58 : rg (-1) (-1) v7 := (rg_lt (rg_nle c22_9) rv7 kc_0).1
      have uq58 : (-1 : Int) ≤ v7.toInt ∧ v7.toInt ≤ -1 := q58
      refine lv_null hx hb dX8_came_25 ?_
      refine lv_goto (tgt := 40) hx hb dX8_came_26 (by decide) ?_
      refine lv_astoreN (lv' := [(4, .null), (3, .int v7), (0, .ref (Z.ad 4 i0)), (1, .ref (Z.ad 9 q1)), (2, .int p2)]) hx hb dX8_came_40 hl (by decide) rfl (fun ls hl => ?_)
      refine lv_aloadN hx hb dX8_came_42 (lv_at hl 0 rfl) ?_
      refine lv_ifnullN (tgt := 55) hx hb dX8_came_44 (by decide) ?_
      refine lv_aload_n hx hb dX8_came_55 rfl (lv_at hl 3 rfl) ?_
      refine c_geti x L6 9 q1 0 288 hq1 rfl rfl (wk_in kf_X8_63) dX8_came_56 (fun v59 ev59 wv59 => ?_)
      have rv59 : rg (-2147483648) (2147483647) v59 := rg_any v59
      have uv59 : (-2147483648 : Int) ≤ v59.toInt ∧ v59.toInt ≤ 2147483647 := rv59
      have sv59 : v59.toInt = (g 288 q1).toInt := congrArg Int32.toInt (ev59.trans (congrFun ((show mFr [32, 33, 34, 35, 36, 37, 38, 39, 40, 41, 42, 43, 44, 45, 46, 47, 48, 49, 135, 198, 384, 385, 386, 832, 864, 1536, 1728, 1729] g g6 from (mFr.tr mFr.rf hp6.1 rfl)).at 288 rfl) _))
      refine lv_iconst (v := 5) hx hb dX8_came_59 (by decide) ?_
      refine lv_icmp_ne (tgt := 72) hx hb dX8_came_60 (by decide) (fun c60_60 => ?_) (fun c60_60 => ?_)
      · skip
        have ic60_60 : v59.toInt ≠ (5 : Int32).toInt := fun z => c60_60 (Int32.toInt_inj.mp z)
        have y61 : (5 : Int32).toInt = 5 := by decide
        refine lv_aload_n hx hb dX8_came_72 rfl (lv_at hl 3 rfl) ?_
        refine c_geti x L6 9 q1 0 288 hq1 rfl rfl (wk_in kf_X8_63) dX8_came_73 (fun v62 ev62 wv62 => ?_)
        refine m_top ((ev59).trans ev62.symm) ?_
        refine lv_bipush (v := 77) hx hb dX8_came_76 (by decide) ?_
        refine lv_icmp_ne (tgt := 153) hx hb dX8_came_78 (by decide) (fun c78_63 => ?_) (fun c78_63 => ?_)
        · skip
          have ic78_63 : v59.toInt ≠ (77 : Int32).toInt := fun z => c78_63 (Int32.toInt_inj.mp z)
          have y64 : (77 : Int32).toInt = 77 := by decide
          exact k_vret xa L6 hr hlocks (Int.le_refl _) hzl ⟨(mFr.tr mFr.rf hp6.1 rfl), hp6.2.2.1, (fun s => by have hl := congrArg Int32.toInt (congrFun ((show mFr [] g g6 from (mFr.tr mFr.rf hp6.1 rfl)).at 386 rfl) s); omega), (by omega), trivial⟩ hcs.1 hcs.2 dX8_came_153
        · skip
          have ic78_63 := congrArg Int32.toInt c78_63
          have y65 : (77 : Int32).toInt = 77 := by decide
          have q66 : rg (77) (77) v59 := (rg_eq c78_63 rv59 kc_77).1
          have uq66 : (77 : Int) ≤ v59.toInt ∧ v59.toInt ≤ 77 := q66
          refine lv_aload_n hx hb dX8_came_81 rfl (lv_at hl 2 rfl) ?_
          refine lv_bipush (v := 90) hx hb dX8_came_82 (by decide) ?_
          refine lv_aload_n hx hb dX8_came_84 rfl (lv_at hl 3 rfl) ?_
          refine c_geti x L6 9 q1 1 289 hq1 rfl rfl (wk_in kf_X8_57) dX8_came_85 (fun v67 ev67 wv67 => ?_)
          refine m_top (((mm_fr ev1 hp6.1 rfl)).trans ev67.symm) ?_
          refine lv_aload_n hx hb dX8_came_88 rfl (lv_at hl 3 rfl) ?_
          refine c_geti x L6 9 q1 2 290 hq1 rfl rfl (wk_in kf_X8_60) dX8_came_89 (fun v68 ev68 wv68 => ?_)
          refine m_top (((mm_fr ev2 hp6.1 rfl)).trans ev68.symm) ?_
          refine lv_if_ne (tgt := 99) hx hb dX8_came_92 (by decide) (fun c92_69 => ?_) (fun c92_69 => ?_)
          · skip
            have ic92_69 : v2.toInt ≠ (0 : Int32).toInt := fun z => c92_69 (Int32.toInt_inj.mp z)
            have y70 : (0 : Int32).toInt = 0 := by decide
            refine lv_iconst (v := 0) hx hb dX8_came_99 (by decide) ?_
            refine lv_bipush (v := 81) hx hb dX8_came_100 (by decide) ?_
            refine c_cvU (n := 4) (owner := "CellSwitch$Side") (x0 := ⟨"CellSwitch$Side", "sayCause", "(IIZI)V"⟩) (As := [.int (90 : Int32), .int v1, .int (0 : Int32), .int (81 : Int32)]) (rest := []) x hml L6 4 i0 hal0 rfl (c_ksayCause_4 l X g6 i0 (90 : Int32) v1 (0 : Int32) (81 : Int32) hX (show i0 < Z.n from (by omega)) (rg_w kc_0 rfl)) (wk_U kd_X8_sayCause kl_X8_70 km_CellSwitchSide_CellSwitchSide_sayCause ks_X4_CellSwitchSide_X8_sayCause ki_X8_sayCause kn_X8) rfl ⟨rfl, rfl⟩ rfl (by decide +kernel) ⟨Nat.le_of_ble_eq_true rfl, Nat.le_of_ble_eq_true rfl⟩ rfl hl.1 rfl (lv_room (Nat.le_of_ble_eq_true rfl)) dX8_came_102 (fun  g71 H71 k71 hp71 L71 => ?_) hcs
            refine lv_goto (tgt := 153) hx hb dX8_came_105 (by decide) ?_
            exact k_vret xa L71 hr hlocks (Int.le_refl _) hzl ⟨(mFr.tr (mFr.tr mFr.rf hp6.1 rfl) hp71.1 rfl), (cJ_fr hp6.2.2.1 hp71.1 rfl), (fun s => by have hl := congrArg Int32.toInt (congrFun ((show mFr [198, 832, 864] g g71 from (mFr.tr (mFr.tr mFr.rf hp6.1 rfl) hp71.1 rfl)).at 386 rfl) s); omega), (by omega), trivial⟩ hcs.1 hcs.2 dX8_came_153
          · skip
            have ic92_69 := congrArg Int32.toInt c92_69
            have y72 : (0 : Int32).toInt = 0 := by decide
            exact absurd ((rg_eq c92_69 q5 kc_0).1 : rg (1) (0) v2) (fun q => rg_dead q rfl)
      · skip
        have ic60_60 := congrArg Int32.toInt c60_60
        have y73 : (5 : Int32).toInt = 5 := by decide
        have q74 : rg (5) (5) v59 := (rg_eq c60_60 rv59 kc_5).1
        have uq74 : (5 : Int) ≤ v59.toInt ∧ v59.toInt ≤ 5 := q74
        refine lv_aload_n hx hb dX8_came_63 rfl (lv_at hl 2 rfl) ?_
        refine lv_aload_n hx hb dX8_came_64 rfl (lv_at hl 3 rfl) ?_
        refine lv_iload_n hx hb dX8_came_65 rfl (lv_at hl 4 rfl) ?_
        have e386_75 := ((show mFr [] g g6 from (mFr.tr mFr.rf hp6.1 rfl)).at 386 rfl)
        have hMz75 := cMz.eq hMz e386_75 (show 1 ≤ 1 by decide)
        refine k_callv xa L6 (k_runU (x := ⟨"CellSwitch$Side", "setupCame", "(LCellSwitch$Signal;I)V"⟩) (As := [.ref (Z.ad 9 q1), .int p2]) (rest := []) ⟨hx, hb, hml, x.2.2.2.2.1, x.2.2.1⟩ (c_ksetupCame_4 l X g6 i0 q1 p2 _ ms hX hp6.2.2.1 hMz75 (by omega) (show i0 < Z.n from (by omega)) hq1) (va_cwA 2 x.2.2.1 (wk_U (owner := "CellSwitch$Side") kd_X4_setupCame kl_X8_66 km_CellSwitchSide_CellSwitchSide_setupCame ks_X4_CellSwitchSide_X4_setupCame ki_X4_setupCame kn_X4) rfl rfl rfl (x.2.2.2.2.2.2.2.2.2.1.2 _ (List.mem_of_getElem? (i := 1) rfl)) (by decide +kernel) ⟨Nat.le_of_ble_eq_true rfl, Nat.le_of_ble_eq_true rfl⟩) ⟨cPreA.blind, c_recv x L6 hal0 rfl, fun U hU hW => k_pre xa L6 U hU hW⟩ rfl rfl hl.1 rfl (lv_room (Nat.le_of_ble_eq_true rfl)) dX8_came_66 ⟨show 0 + 2 ≤ 2 by omega, show 0 + (18 + 1 * ms) ≤ 18 + 1 * ms by omega⟩) (fun  Z g75 H75 k75 kc75 kn75 hk75 hn75 hp75 hz75 xa L75 => ?_)
        have hsg75 := hp75.2.2.1
        have hww75 := hp75.2.2.2.1
        have ea75_0 := hz75.2.2.1 4 i0 hal0 (by omega)
        have ea75_1 := hz75.2.2.1 9 q1 hq1 (by omega)
        rw [← ea75_0] at hl
        rw [← ea75_1] at hl
        have al75_0 := hz75.2.1 4 i0 hal0
        have al75_1 := hz75.2.1 9 q1 hq1
        have hZn75 := hz75.1
        have x := xa.1
        have hz := x.2.2.2.2.2.2.2.1
        have hzn := hz.1
        have hMy76 := (cMz.fr (a := 0) (b := 1) (show cMz ms (0 + 1) _ _ from cMz.eq hMz e386_75 (show 0 + 1 ≤ 1 by decide)) hz75.1 (fun s => (hsg75 s).2))
        have hzl := cZl.tr hzl hz75
        have hcs : 0 + kc75 ≤ 2 ∧ 0 + kn75 ≤ 18 + 1 * ms := by omega
        refine lv_goto (tgt := 153) hx hb dX8_came_69 (by decide) ?_
        exact k_vret xa L75 hr hlocks (Int.le_refl _) hzl ⟨(mFr.tr (mFr.tr mFr.rf hp6.1 rfl) hp75.1 rfl), hp75.2.1, (fun s => by have h0 := congrArg Int32.toInt (congrFun e386_75 s); have w0 := hsg75 s; have hl := congrArg Int32.toInt (congrFun ((show mFr [] g75 g75 from mFr.rf).at 386 rfl) s); omega), (by omega), trivial⟩ hcs.1 hcs.2 dX8_came_153
  · skip
    have ic9_3 := congrArg Int32.toInt c9_3
    have y77 : (0 : Int32).toInt = 0 := by decide
    have q78 : rg (0) (0) v2 := (rg_eq c9_3 rv2 kc_0).1
    have uq78 : (0 : Int) ≤ v2.toInt ∧ v2.toInt ≤ 0 := q78
    refine lv_iconst (v := 1) hx hb dX8_came_12 (by decide) ?_
    refine lv_goto (tgt := 17) hx hb dX8_came_13 (by decide) ?_
    refine c_ciU (n := 2) (owner := "CellSwitch$Side") (x0 := ⟨"CellSwitch$Side", "placeOfReference", "(IZ)I"⟩) (As := [.int v1, .int (1 : Int32)]) (rest := []) x hml L 4 i0 hal0 rfl (c_kplaceOfReference_4 l X g i0 v1 (1 : Int32) hX hJ (show i0 < Z.n from (by omega)) (rg_w kc_1 rfl)) (wk_U kd_X8_placeOfReference kl_X8_45 km_CellSwitchSide_CellSwitchSide_placeOfReference ks_X4_CellSwitchSide_X8_placeOfReference ki_X8_placeOfReference kn_X8) rfl ⟨rfl, rfl⟩ rfl (by decide +kernel) ⟨Nat.le_of_ble_eq_true rfl, Nat.le_of_ble_eq_true rfl⟩ rfl hl.1 rfl (lv_room (Nat.le_of_ble_eq_true rfl)) dX8_came_17 (fun v80 g79 H79 k79 hp79 L79 => ?_) hcs
    have rv80 : rg (-1) (2147483646) v80 := hp79.2.1
    have uv80 : (-1 : Int) ≤ v80.toInt ∧ v80.toInt ≤ 2147483646 := rv80
    have hw81 := hp79.2.2.2
    refine lv_istore_n (lv' := [(3, .int v80), (0, .ref (Z.ad 4 i0)), (1, .ref (Z.ad 9 q1)), (2, .int p2)]) hx hb dX8_came_20 rfl hl (by decide) rfl (fun ls hl => ?_)
    refine lv_iload_n hx hb dX8_came_21 rfl (lv_at hl 0 rfl) ?_
    refine lv_if_ge (tgt := 29) hx hb dX8_came_22 (by decide) (fun c22_82 => ?_) (fun c22_82 => ?_)
    · skip
      have ic22_82 := Int32.le_iff_toInt_le.mp c22_82
      have q83 : rg (0) (2147483646) v80 := (rg_le c22_82 kc_0 rv80).2
      have uq83 : (0 : Int) ≤ v80.toInt ∧ v80.toInt ≤ 2147483646 := q83
      refine lv_aload_n hx hb dX8_came_29 rfl (lv_at hl 1 rfl) ?_
      have al84 : Z.al 12 i0 := hz.2 12 i0 (show i0 < 2 * Z.n from (by omega))
      refine c_getr (a := Z.ad 12 i0) x L79 4 i0 2 hal0 rfl rfl (wk_in kf_X8_10) dX8_came_30 ?_
      refine lv_iload_n hx hb dX8_came_33 rfl (lv_at hl 0 rfl) ?_
      have y85 := congrArg Int32.toInt (congrFun ((show mFr [] g g79 from (mFr.tr mFr.rf hp79.1 rfl)).at 386 rfl) (i0))
      refine c_cr (As := [.int v80]) (rest := []) x hml L79 12 i0 al84 rfl (c_klget l X g79 i0 v80 hX hp79.2.2.1 (show i0 < 2 * Z.n from (by omega)) (by omega)) (wk_V kd_Jx4a65c_get_915e3 kl_X8_28 ki_Jx4a65c_get_915e3 ks_Jx4a65c_Jx4a65c_get_915e3 kn_Jx4a65c) rfl ⟨rfl, rfl⟩ hd_klget ⟨Nat.le_of_ble_eq_true rfl, Nat.le_of_ble_eq_true rfl⟩ rfl hl.1 rfl (lv_room (Nat.le_of_ble_eq_true rfl)) dX8_came_34 (fun v87 g86 H86 k86 hp86 L86 => ?_) hcs
      have hvv87 := hp86.2.2
      refine c_top (show Value.ref (Z.ad 1 v87.toInt.toNat) = va_rf (cOpt Z 1 v87) from (by rw [cOpt_some hvv87.1]; rfl)) ?_
      refine c_cast x L86 1 v87.toInt.toNat hvv87.2.1 rfl (wk_in kc_lX8_32) dX8_came_37 ?_
      refine lv_astore (lv' := [(4, .ref (Z.ad 1 v87.toInt.toNat)), (3, .int v80), (0, .ref (Z.ad 4 i0)), (1, .ref (Z.ad 9 q1)), (2, .int p2)]) hx hb dX8_came_40 hl (by decide) rfl (fun ls hl => ?_)
      refine lv_aload hx hb dX8_came_42 (lv_at hl 0 rfl) ?_
      refine lv_ifnull hx hb dX8_came_44 ?_
      refine lv_aload hx hb dX8_came_47 (lv_at hl 0 rfl) ?_
      refine c_ci (As := []) (rest := []) x hml L86 1 v87.toInt.toNat hvv87.2.1 rfl (c_kisOpen l X g86 v87.toInt.toNat hX hvv87.2.1) (wk_V kd_X1_isOpen kl_X8_34 ki_X1_isOpen ks_X1_X1_isOpen kn_X1) rfl ⟨rfl, rfl⟩ hd_kisOpen ⟨Nat.le_of_ble_eq_true rfl, Nat.le_of_ble_eq_true rfl⟩ rfl hl.1 rfl (lv_room (Nat.le_of_ble_eq_true rfl)) dX8_came_49 (fun v89 g88 H88 k88 hp88 L88 => ?_) hcs
      have rv89 : rg (0) (1) v89 := hp88.2.1
      have uv89 : (0 : Int) ≤ v89.toInt ∧ v89.toInt ≤ 1 := rv89
      refine lv_if_ne (tgt := 108) hx hb dX8_came_52 (by decide) (fun c52_90 => ?_) (fun c52_90 => ?_)
      · skip
        have ic52_90 : v89.toInt ≠ (0 : Int32).toInt := fun z => c52_90 (Int32.toInt_inj.mp z)
        have y91 : (0 : Int32).toInt = 0 := by decide
        have q92 : rg (1) (1) v89 := rg_neL c52_90 rv89 kc_0
        have uq92 : (1 : Int) ≤ v89.toInt ∧ v89.toInt ≤ 1 := q92
        refine lv_aload_n hx hb dX8_came_108 rfl (lv_at hl 3 rfl) ?_
        refine c_geti x L88 9 q1 0 288 hq1 rfl rfl (wk_in kf_X8_63) dX8_came_109 (fun v93 ev93 wv93 => ?_)
        have rv93 : rg (-2147483648) (2147483647) v93 := rg_any v93
        have uv93 : (-2147483648 : Int) ≤ v93.toInt ∧ v93.toInt ≤ 2147483647 := rv93
        have sv93 : v93.toInt = (g 288 q1).toInt := congrArg Int32.toInt (ev93.trans (congrFun ((show mFr [32, 33, 34, 35, 36, 37, 38, 39, 40, 41, 42, 43, 44, 45, 46, 47, 48, 49, 135, 198, 384, 385, 386, 832, 864, 1536, 1728, 1729] g g88 from (mFr.tr (mFr.tr (mFr.tr mFr.rf hp79.1 rfl) hp86.1 rfl) hp88.1 rfl)).at 288 rfl) _))
        refine lv_bipush (v := 77) hx hb dX8_came_112 (by decide) ?_
        refine lv_icmp_eq (tgt := 126) hx hb dX8_came_114 (by decide) (fun c114_94 => ?_) (fun c114_94 => ?_)
        · skip
          have ic114_94 := congrArg Int32.toInt c114_94
          have y95 : (77 : Int32).toInt = 77 := by decide
          have q96 : rg (77) (77) v93 := (rg_eq c114_94 rv93 kc_77).1
          have uq96 : (77 : Int) ≤ v93.toInt ∧ v93.toInt ≤ 77 := q96
          refine lv_aload_n hx hb dX8_came_126 rfl (lv_at hl 2 rfl) ?_
          refine lv_aload hx hb dX8_came_127 (lv_at hl 0 rfl) ?_
          refine lv_aload_n hx hb dX8_came_129 rfl (lv_at hl 3 rfl) ?_
          refine lv_iload_n hx hb dX8_came_130 rfl (lv_at hl 4 rfl) ?_
          refine c_cvU (n := 3) (owner := "CellSwitch$Side") (x0 := ⟨"CellSwitch$Side", "cleared", "(LCellSwitch$Call;LCellSwitch$Signal;I)V"⟩) (As := [.ref (Z.ad 1 v87.toInt.toNat), .ref (Z.ad 9 q1), .int p2]) (rest := []) x hml L88 4 i0 hal0 rfl (c_kcleared_4 l X g88 i0 v87.toInt.toNat q1 p2 hX (cJ_fr hp86.2.1 hp88.1 rfl) (show i0 < Z.n from (by omega)) hvv87.2.1 hq1) (wk_U kd_X8_cleared kl_X8_74 km_CellSwitchSide_CellSwitchSide_cleared ks_X4_CellSwitchSide_X8_cleared ki_X8_cleared kn_X8) rfl ⟨rfl, rfl⟩ rfl (by decide +kernel) ⟨Nat.le_of_ble_eq_true rfl, Nat.le_of_ble_eq_true rfl⟩ rfl hl.1 rfl (lv_room (Nat.le_of_ble_eq_true rfl)) dX8_came_131 (fun  g97 H97 k97 hp97 L97 => ?_) hcs
          refine lv_goto (tgt := 153) hx hb dX8_came_134 (by decide) ?_
          exact k_vret xa L97 hr hlocks (Int.le_refl _) hzl ⟨(mFr.tr (mFr.tr (mFr.tr (mFr.tr mFr.rf hp79.1 rfl) hp86.1 rfl) hp88.1 rfl) hp97.1 rfl), hp97.2.1, (fun s => by have hl := congrArg Int32.toInt (congrFun ((show mFr [36, 40, 41, 42, 44, 45, 46, 48, 198, 832, 864] g g97 from (mFr.tr (mFr.tr (mFr.tr (mFr.tr mFr.rf hp79.1 rfl) hp86.1 rfl) hp88.1 rfl) hp97.1 rfl)).at 386 rfl) s); omega), (by omega), trivial⟩ hcs.1 hcs.2 dX8_came_153
        · skip
          have ic114_94 : v93.toInt ≠ (77 : Int32).toInt := fun z => c114_94 (Int32.toInt_inj.mp z)
          have y98 : (77 : Int32).toInt = 77 := by decide
          refine lv_aload_n hx hb dX8_came_117 rfl (lv_at hl 3 rfl) ?_
          refine c_geti x L88 9 q1 0 288 hq1 rfl rfl (wk_in kf_X8_63) dX8_came_118 (fun v99 ev99 wv99 => ?_)
          refine m_top ((ev93).trans ev99.symm) ?_
          refine lv_bipush (v := 90) hx hb dX8_came_121 (by decide) ?_
          refine lv_icmp_ne (tgt := 137) hx hb dX8_came_123 (by decide) (fun c123_100 => ?_) (fun c123_100 => ?_)
          · skip
            have ic123_100 : v93.toInt ≠ (90 : Int32).toInt := fun z => c123_100 (Int32.toInt_inj.mp z)
            have y101 : (90 : Int32).toInt = 90 := by decide
            refine lv_aload_n hx hb dX8_came_137 rfl (lv_at hl 3 rfl) ?_
            refine c_geti x L88 9 q1 0 288 hq1 rfl rfl (wk_in kf_X8_63) dX8_came_138 (fun v102 ev102 wv102 => ?_)
            refine m_top ((ev93).trans ev102.symm) ?_
            refine lv_iconst (v := 5) hx hb dX8_came_141 (by decide) ?_
            refine lv_icmp_eq (tgt := 153) hx hb dX8_came_142 (by decide) (fun c142_103 => ?_) (fun c142_103 => ?_)
            · skip
              have ic142_103 := congrArg Int32.toInt c142_103
              have y104 : (5 : Int32).toInt = 5 := by decide
              have q105 : rg (5) (5) v93 := (rg_eq c142_103 rv93 kc_5).1
              have uq105 : (5 : Int) ≤ v93.toInt ∧ v93.toInt ≤ 5 := q105
              exact k_vret xa L88 hr hlocks (Int.le_refl _) hzl ⟨(mFr.tr (mFr.tr (mFr.tr mFr.rf hp79.1 rfl) hp86.1 rfl) hp88.1 rfl), (cJ_fr hp86.2.1 hp88.1 rfl), (fun s => by have hl := congrArg Int32.toInt (congrFun ((show mFr [] g g88 from (mFr.tr (mFr.tr (mFr.tr mFr.rf hp79.1 rfl) hp86.1 rfl) hp88.1 rfl)).at 386 rfl) s); omega), (by omega), trivial⟩ hcs.1 hcs.2 dX8_came_153
            · skip
              have ic142_103 : v93.toInt ≠ (5 : Int32).toInt := fun z => c142_103 (Int32.toInt_inj.mp z)
              have y106 : (5 : Int32).toInt = 5 := by decide
              refine lv_aload_n hx hb dX8_came_145 rfl (lv_at hl 2 rfl) ?_
              refine lv_aload hx hb dX8_came_146 (lv_at hl 0 rfl) ?_
              refine lv_aload_n hx hb dX8_came_148 rfl (lv_at hl 3 rfl) ?_
              refine lv_iload_n hx hb dX8_came_149 rfl (lv_at hl 4 rfl) ?_
              refine c_cvA (n := 3) (owner := "CellSwitch$Side") (x0 := ⟨"CellSwitch$Side", "progress", "(LCellSwitch$Call;LCellSwitch$Signal;I)V"⟩) (As := [.ref (Z.ad 1 v87.toInt.toNat), .ref (Z.ad 9 q1), .int p2]) (rest := []) x hml L88 4 i0 hal0 rfl (c_kprogress_4 l X g88 i0 v87.toInt.toNat q1 p2 hX (cJ_fr hp86.2.1 hp88.1 rfl) (show i0 < Z.n from (by omega)) hvv87.2.1 hq1) (wk_U kd_X4_progress kl_X8_78 km_CellSwitchSide_CellSwitchSide_progress ks_X4_CellSwitchSide_X4_progress ki_X4_progress kn_X4) rfl ⟨rfl, rfl⟩ (List.mem_of_getElem? (i := 2) rfl) (by decide +kernel) ⟨Nat.le_of_ble_eq_true rfl, Nat.le_of_ble_eq_true rfl⟩ rfl hl.1 rfl (lv_room (Nat.le_of_ble_eq_true rfl)) dX8_came_150 (fun  g107 H107 k107 hp107 L107 => ?_) hcs
              exact k_vret xa L107 hr hlocks (Int.le_refl _) hzl ⟨(mFr.tr (mFr.tr (mFr.tr (mFr.tr mFr.rf hp79.1 rfl) hp86.1 rfl) hp88.1 rfl) hp107.1 rfl), hp107.2.1, (fun s => by have hl := congrArg Int32.toInt (congrFun ((show mFr [36, 37, 40, 41, 42, 44, 45, 46, 48, 198, 832, 864] g g107 from (mFr.tr (mFr.tr (mFr.tr (mFr.tr mFr.rf hp79.1 rfl) hp86.1 rfl) hp88.1 rfl) hp107.1 rfl)).at 386 rfl) s); omega), (by omega), trivial⟩ hcs.1 hcs.2 dX8_came_153
          · skip
            have ic123_100 := congrArg Int32.toInt c123_100
            have y108 : (90 : Int32).toInt = 90 := by decide
            have q109 : rg (90) (90) v93 := (rg_eq c123_100 rv93 kc_90).1
            have uq109 : (90 : Int) ≤ v93.toInt ∧ v93.toInt ≤ 90 := q109
            refine lv_aload_n hx hb dX8_came_126 rfl (lv_at hl 2 rfl) ?_
            refine lv_aload hx hb dX8_came_127 (lv_at hl 0 rfl) ?_
            refine lv_aload_n hx hb dX8_came_129 rfl (lv_at hl 3 rfl) ?_
            refine lv_iload_n hx hb dX8_came_130 rfl (lv_at hl 4 rfl) ?_
            refine c_cvU (n := 3) (owner := "CellSwitch$Side") (x0 := ⟨"CellSwitch$Side", "cleared", "(LCellSwitch$Call;LCellSwitch$Signal;I)V"⟩) (As := [.ref (Z.ad 1 v87.toInt.toNat), .ref (Z.ad 9 q1), .int p2]) (rest := []) x hml L88 4 i0 hal0 rfl (c_kcleared_4 l X g88 i0 v87.toInt.toNat q1 p2 hX (cJ_fr hp86.2.1 hp88.1 rfl) (show i0 < Z.n from (by omega)) hvv87.2.1 hq1) (wk_U kd_X8_cleared kl_X8_74 km_CellSwitchSide_CellSwitchSide_cleared ks_X4_CellSwitchSide_X8_cleared ki_X8_cleared kn_X8) rfl ⟨rfl, rfl⟩ rfl (by decide +kernel) ⟨Nat.le_of_ble_eq_true rfl, Nat.le_of_ble_eq_true rfl⟩ rfl hl.1 rfl (lv_room (Nat.le_of_ble_eq_true rfl)) dX8_came_131 (fun  g110 H110 k110 hp110 L110 => ?_) hcs
            refine lv_goto (tgt := 153) hx hb dX8_came_134 (by decide) ?_
            exact k_vret xa L110 hr hlocks (Int.le_refl _) hzl ⟨(mFr.tr (mFr.tr (mFr.tr (mFr.tr mFr.rf hp79.1 rfl) hp86.1 rfl) hp88.1 rfl) hp110.1 rfl), hp110.2.1, (fun s => by have hl := congrArg Int32.toInt (congrFun ((show mFr [36, 40, 41, 42, 44, 45, 46, 48, 198, 832, 864] g g110 from (mFr.tr (mFr.tr (mFr.tr (mFr.tr mFr.rf hp79.1 rfl) hp86.1 rfl) hp88.1 rfl) hp110.1 rfl)).at 386 rfl) s); omega), (by omega), trivial⟩ hcs.1 hcs.2 dX8_came_153
      · skip
        have ic52_90 := congrArg Int32.toInt c52_90
        have y111 : (0 : Int32).toInt = 0 := by decide
        have q112 : rg (0) (0) v89 := (rg_eq c52_90 rv89 kc_0).1
        have uq112 : (0 : Int) ≤ v89.toInt ∧ v89.toInt ≤ 0 := q112
        refine lv_aload_n hx hb dX8_came_55 rfl (lv_at hl 3 rfl) ?_
        refine c_geti x L88 9 q1 0 288 hq1 rfl rfl (wk_in kf_X8_63) dX8_came_56 (fun v113 ev113 wv113 => ?_)
        have rv113 : rg (-2147483648) (2147483647) v113 := rg_any v113
        have uv113 : (-2147483648 : Int) ≤ v113.toInt ∧ v113.toInt ≤ 2147483647 := rv113
        have sv113 : v113.toInt = (g 288 q1).toInt := congrArg Int32.toInt (ev113.trans (congrFun ((show mFr [32, 33, 34, 35, 36, 37, 38, 39, 40, 41, 42, 43, 44, 45, 46, 47, 48, 49, 135, 198, 384, 385, 386, 832, 864, 1536, 1728, 1729] g g88 from (mFr.tr (mFr.tr (mFr.tr mFr.rf hp79.1 rfl) hp86.1 rfl) hp88.1 rfl)).at 288 rfl) _))
        refine lv_iconst (v := 5) hx hb dX8_came_59 (by decide) ?_
        refine lv_icmp_ne (tgt := 72) hx hb dX8_came_60 (by decide) (fun c60_114 => ?_) (fun c60_114 => ?_)
        · skip
          have ic60_114 : v113.toInt ≠ (5 : Int32).toInt := fun z => c60_114 (Int32.toInt_inj.mp z)
          have y115 : (5 : Int32).toInt = 5 := by decide
          refine lv_aload_n hx hb dX8_came_72 rfl (lv_at hl 3 rfl) ?_
          refine c_geti x L88 9 q1 0 288 hq1 rfl rfl (wk_in kf_X8_63) dX8_came_73 (fun v116 ev116 wv116 => ?_)
          refine m_top ((ev113).trans ev116.symm) ?_
          refine lv_bipush (v := 77) hx hb dX8_came_76 (by decide) ?_
          refine lv_icmp_ne (tgt := 153) hx hb dX8_came_78 (by decide) (fun c78_117 => ?_) (fun c78_117 => ?_)
          · skip
            have ic78_117 : v113.toInt ≠ (77 : Int32).toInt := fun z => c78_117 (Int32.toInt_inj.mp z)
            have y118 : (77 : Int32).toInt = 77 := by decide
            exact k_vret xa L88 hr hlocks (Int.le_refl _) hzl ⟨(mFr.tr (mFr.tr (mFr.tr mFr.rf hp79.1 rfl) hp86.1 rfl) hp88.1 rfl), (cJ_fr hp86.2.1 hp88.1 rfl), (fun s => by have hl := congrArg Int32.toInt (congrFun ((show mFr [] g g88 from (mFr.tr (mFr.tr (mFr.tr mFr.rf hp79.1 rfl) hp86.1 rfl) hp88.1 rfl)).at 386 rfl) s); omega), (by omega), trivial⟩ hcs.1 hcs.2 dX8_came_153
          · skip
            have ic78_117 := congrArg Int32.toInt c78_117
            have y119 : (77 : Int32).toInt = 77 := by decide
            have q120 : rg (77) (77) v113 := (rg_eq c78_117 rv113 kc_77).1
            have uq120 : (77 : Int) ≤ v113.toInt ∧ v113.toInt ≤ 77 := q120
            refine lv_aload_n hx hb dX8_came_81 rfl (lv_at hl 2 rfl) ?_
            refine lv_bipush (v := 90) hx hb dX8_came_82 (by decide) ?_
            refine lv_aload_n hx hb dX8_came_84 rfl (lv_at hl 3 rfl) ?_
            refine c_geti x L88 9 q1 1 289 hq1 rfl rfl (wk_in kf_X8_57) dX8_came_85 (fun v121 ev121 wv121 => ?_)
            refine m_top (((mm_fr (mm_fr (mm_fr ev1 hp79.1 rfl) hp86.1 rfl) hp88.1 rfl)).trans ev121.symm) ?_
            refine lv_aload_n hx hb dX8_came_88 rfl (lv_at hl 3 rfl) ?_
            refine c_geti x L88 9 q1 2 290 hq1 rfl rfl (wk_in kf_X8_60) dX8_came_89 (fun v122 ev122 wv122 => ?_)
            refine m_top (((mm_fr (mm_fr (mm_fr ev2 hp79.1 rfl) hp86.1 rfl) hp88.1 rfl)).trans ev122.symm) ?_
            refine lv_if_ne (tgt := 99) hx hb dX8_came_92 (by decide) (fun c92_123 => ?_) (fun c92_123 => ?_)
            · skip
              have ic92_123 : v2.toInt ≠ (0 : Int32).toInt := fun z => c92_123 (Int32.toInt_inj.mp z)
              have y124 : (0 : Int32).toInt = 0 := by decide
              exact absurd (rg_neH c92_123 q78 kc_0 : rg (0) (-1) v2) (fun q => rg_dead q rfl)
            · skip
              have ic92_123 := congrArg Int32.toInt c92_123
              have y125 : (0 : Int32).toInt = 0 := by decide
              refine lv_iconst (v := 1) hx hb dX8_came_95 (by decide) ?_
              refine lv_goto (tgt := 100) hx hb dX8_came_96 (by decide) ?_
              refine lv_bipush (v := 81) hx hb dX8_came_100 (by decide) ?_
              refine c_cvU (n := 4) (owner := "CellSwitch$Side") (x0 := ⟨"CellSwitch$Side", "sayCause", "(IIZI)V"⟩) (As := [.int (90 : Int32), .int v1, .int (1 : Int32), .int (81 : Int32)]) (rest := []) x hml L88 4 i0 hal0 rfl (c_ksayCause_4 l X g88 i0 (90 : Int32) v1 (1 : Int32) (81 : Int32) hX (show i0 < Z.n from (by omega)) (rg_w kc_1 rfl)) (wk_U kd_X8_sayCause kl_X8_70 km_CellSwitchSide_CellSwitchSide_sayCause ks_X4_CellSwitchSide_X8_sayCause ki_X8_sayCause kn_X8) rfl ⟨rfl, rfl⟩ rfl (by decide +kernel) ⟨Nat.le_of_ble_eq_true rfl, Nat.le_of_ble_eq_true rfl⟩ rfl hl.1 rfl (lv_room (Nat.le_of_ble_eq_true rfl)) dX8_came_102 (fun  g126 H126 k126 hp126 L126 => ?_) hcs
              refine lv_goto (tgt := 153) hx hb dX8_came_105 (by decide) ?_
              exact k_vret xa L126 hr hlocks (Int.le_refl _) hzl ⟨(mFr.tr (mFr.tr (mFr.tr (mFr.tr mFr.rf hp79.1 rfl) hp86.1 rfl) hp88.1 rfl) hp126.1 rfl), (cJ_fr (cJ_fr hp86.2.1 hp88.1 rfl) hp126.1 rfl), (fun s => by have hl := congrArg Int32.toInt (congrFun ((show mFr [198, 832, 864] g g126 from (mFr.tr (mFr.tr (mFr.tr (mFr.tr mFr.rf hp79.1 rfl) hp86.1 rfl) hp88.1 rfl) hp126.1 rfl)).at 386 rfl) s); omega), (by omega), trivial⟩ hcs.1 hcs.2 dX8_came_153
        · skip
          have ic60_114 := congrArg Int32.toInt c60_114
          have y127 : (5 : Int32).toInt = 5 := by decide
          have q128 : rg (5) (5) v113 := (rg_eq c60_114 rv113 kc_5).1
          have uq128 : (5 : Int) ≤ v113.toInt ∧ v113.toInt ≤ 5 := q128
          refine lv_aload_n hx hb dX8_came_63 rfl (lv_at hl 2 rfl) ?_
          refine lv_aload_n hx hb dX8_came_64 rfl (lv_at hl 3 rfl) ?_
          refine lv_iload_n hx hb dX8_came_65 rfl (lv_at hl 4 rfl) ?_
          have e386_129 := ((show mFr [] g g88 from (mFr.tr (mFr.tr (mFr.tr mFr.rf hp79.1 rfl) hp86.1 rfl) hp88.1 rfl)).at 386 rfl)
          have hMz129 := cMz.eq hMz e386_129 (show 1 ≤ 1 by decide)
          refine k_callv xa L88 (k_runU (x := ⟨"CellSwitch$Side", "setupCame", "(LCellSwitch$Signal;I)V"⟩) (As := [.ref (Z.ad 9 q1), .int p2]) (rest := []) ⟨hx, hb, hml, x.2.2.2.2.1, x.2.2.1⟩ (c_ksetupCame_4 l X g88 i0 q1 p2 _ ms hX (cJ_fr hp86.2.1 hp88.1 rfl) hMz129 (by omega) (show i0 < Z.n from (by omega)) hq1) (va_cwA 2 x.2.2.1 (wk_U (owner := "CellSwitch$Side") kd_X4_setupCame kl_X8_66 km_CellSwitchSide_CellSwitchSide_setupCame ks_X4_CellSwitchSide_X4_setupCame ki_X4_setupCame kn_X4) rfl rfl rfl (x.2.2.2.2.2.2.2.2.2.1.2 _ (List.mem_of_getElem? (i := 1) rfl)) (by decide +kernel) ⟨Nat.le_of_ble_eq_true rfl, Nat.le_of_ble_eq_true rfl⟩) ⟨cPreA.blind, c_recv x L88 hal0 rfl, fun U hU hW => k_pre xa L88 U hU hW⟩ rfl rfl hl.1 rfl (lv_room (Nat.le_of_ble_eq_true rfl)) dX8_came_66 ⟨show 0 + 2 ≤ 2 by omega, show 0 + (18 + 1 * ms) ≤ 18 + 1 * ms by omega⟩) (fun  Z g129 H129 k129 kc129 kn129 hk129 hn129 hp129 hz129 xa L129 => ?_)
          have hsg129 := hp129.2.2.1
          have hww129 := hp129.2.2.2.1
          have ea129_0 := hz129.2.2.1 1 v87.toInt.toNat hvv87.2.1 (by omega)
          have ea129_1 := hz129.2.2.1 4 i0 hal0 (by omega)
          have ea129_2 := hz129.2.2.1 9 q1 hq1 (by omega)
          rw [← ea129_0] at hl
          rw [← ea129_1] at hl
          rw [← ea129_2] at hl
          have al129_0 := hz129.2.1 1 v87.toInt.toNat hvv87.2.1
          have al129_1 := hz129.2.1 4 i0 hal0
          have al129_2 := hz129.2.1 9 q1 hq1
          have hZn129 := hz129.1
          have x := xa.1
          have hz := x.2.2.2.2.2.2.2.1
          have hzn := hz.1
          have hMy130 := (cMz.fr (a := 0) (b := 1) (show cMz ms (0 + 1) _ _ from cMz.eq hMz e386_129 (show 0 + 1 ≤ 1 by decide)) hz129.1 (fun s => (hsg129 s).2))
          have hzl := cZl.tr hzl hz129
          have hcs : 0 + kc129 ≤ 2 ∧ 0 + kn129 ≤ 18 + 1 * ms := by omega
          refine lv_goto (tgt := 153) hx hb dX8_came_69 (by decide) ?_
          exact k_vret xa L129 hr hlocks (Int.le_refl _) hzl ⟨(mFr.tr (mFr.tr (mFr.tr (mFr.tr mFr.rf hp79.1 rfl) hp86.1 rfl) hp88.1 rfl) hp129.1 rfl), hp129.2.1, (fun s => by have h0 := congrArg Int32.toInt (congrFun e386_129 s); have w0 := hsg129 s; have hl := congrArg Int32.toInt (congrFun ((show mFr [] g129 g129 from mFr.rf).at 386 rfl) s); omega), (by omega), trivial⟩ hcs.1 hcs.2 dX8_came_153
    · skip
      have ic22_82 := Int32.lt_iff_toInt_lt.mp (rg_nle c22_82)
      have q131 : rg (-1) (-1) v80 := (rg_lt (rg_nle c22_82) rv80 kc_0).1
      have uq131 : (-1 : Int) ≤ v80.toInt ∧ v80.toInt ≤ -1 := q131
      refine lv_null hx hb dX8_came_25 ?_
      refine lv_goto (tgt := 40) hx hb dX8_came_26 (by decide) ?_
      refine lv_astoreN (lv' := [(4, .null), (3, .int v80), (0, .ref (Z.ad 4 i0)), (1, .ref (Z.ad 9 q1)), (2, .int p2)]) hx hb dX8_came_40 hl (by decide) rfl (fun ls hl => ?_)
      refine lv_aloadN hx hb dX8_came_42 (lv_at hl 0 rfl) ?_
      refine lv_ifnullN (tgt := 55) hx hb dX8_came_44 (by decide) ?_
      refine lv_aload_n hx hb dX8_came_55 rfl (lv_at hl 3 rfl) ?_
      refine c_geti x L79 9 q1 0 288 hq1 rfl rfl (wk_in kf_X8_63) dX8_came_56 (fun v132 ev132 wv132 => ?_)
      have rv132 : rg (-2147483648) (2147483647) v132 := rg_any v132
      have uv132 : (-2147483648 : Int) ≤ v132.toInt ∧ v132.toInt ≤ 2147483647 := rv132
      have sv132 : v132.toInt = (g 288 q1).toInt := congrArg Int32.toInt (ev132.trans (congrFun ((show mFr [32, 33, 34, 35, 36, 37, 38, 39, 40, 41, 42, 43, 44, 45, 46, 47, 48, 49, 135, 198, 384, 385, 386, 832, 864, 1536, 1728, 1729] g g79 from (mFr.tr mFr.rf hp79.1 rfl)).at 288 rfl) _))
      refine lv_iconst (v := 5) hx hb dX8_came_59 (by decide) ?_
      refine lv_icmp_ne (tgt := 72) hx hb dX8_came_60 (by decide) (fun c60_133 => ?_) (fun c60_133 => ?_)
      · skip
        have ic60_133 : v132.toInt ≠ (5 : Int32).toInt := fun z => c60_133 (Int32.toInt_inj.mp z)
        have y134 : (5 : Int32).toInt = 5 := by decide
        refine lv_aload_n hx hb dX8_came_72 rfl (lv_at hl 3 rfl) ?_
        refine c_geti x L79 9 q1 0 288 hq1 rfl rfl (wk_in kf_X8_63) dX8_came_73 (fun v135 ev135 wv135 => ?_)
        refine m_top ((ev132).trans ev135.symm) ?_
        refine lv_bipush (v := 77) hx hb dX8_came_76 (by decide) ?_
        refine lv_icmp_ne (tgt := 153) hx hb dX8_came_78 (by decide) (fun c78_136 => ?_) (fun c78_136 => ?_)
        · skip
          have ic78_136 : v132.toInt ≠ (77 : Int32).toInt := fun z => c78_136 (Int32.toInt_inj.mp z)
          have y137 : (77 : Int32).toInt = 77 := by decide
          exact k_vret xa L79 hr hlocks (Int.le_refl _) hzl ⟨(mFr.tr mFr.rf hp79.1 rfl), hp79.2.2.1, (fun s => by have hl := congrArg Int32.toInt (congrFun ((show mFr [] g g79 from (mFr.tr mFr.rf hp79.1 rfl)).at 386 rfl) s); omega), (by omega), trivial⟩ hcs.1 hcs.2 dX8_came_153
        · skip
          have ic78_136 := congrArg Int32.toInt c78_136
          have y138 : (77 : Int32).toInt = 77 := by decide
          have q139 : rg (77) (77) v132 := (rg_eq c78_136 rv132 kc_77).1
          have uq139 : (77 : Int) ≤ v132.toInt ∧ v132.toInt ≤ 77 := q139
          refine lv_aload_n hx hb dX8_came_81 rfl (lv_at hl 2 rfl) ?_
          refine lv_bipush (v := 90) hx hb dX8_came_82 (by decide) ?_
          refine lv_aload_n hx hb dX8_came_84 rfl (lv_at hl 3 rfl) ?_
          refine c_geti x L79 9 q1 1 289 hq1 rfl rfl (wk_in kf_X8_57) dX8_came_85 (fun v140 ev140 wv140 => ?_)
          refine m_top (((mm_fr ev1 hp79.1 rfl)).trans ev140.symm) ?_
          refine lv_aload_n hx hb dX8_came_88 rfl (lv_at hl 3 rfl) ?_
          refine c_geti x L79 9 q1 2 290 hq1 rfl rfl (wk_in kf_X8_60) dX8_came_89 (fun v141 ev141 wv141 => ?_)
          refine m_top (((mm_fr ev2 hp79.1 rfl)).trans ev141.symm) ?_
          refine lv_if_ne (tgt := 99) hx hb dX8_came_92 (by decide) (fun c92_142 => ?_) (fun c92_142 => ?_)
          · skip
            have ic92_142 : v2.toInt ≠ (0 : Int32).toInt := fun z => c92_142 (Int32.toInt_inj.mp z)
            have y143 : (0 : Int32).toInt = 0 := by decide
            exact absurd (rg_neH c92_142 q78 kc_0 : rg (0) (-1) v2) (fun q => rg_dead q rfl)
          · skip
            have ic92_142 := congrArg Int32.toInt c92_142
            have y144 : (0 : Int32).toInt = 0 := by decide
            refine lv_iconst (v := 1) hx hb dX8_came_95 (by decide) ?_
            refine lv_goto (tgt := 100) hx hb dX8_came_96 (by decide) ?_
            refine lv_bipush (v := 81) hx hb dX8_came_100 (by decide) ?_
            refine c_cvU (n := 4) (owner := "CellSwitch$Side") (x0 := ⟨"CellSwitch$Side", "sayCause", "(IIZI)V"⟩) (As := [.int (90 : Int32), .int v1, .int (1 : Int32), .int (81 : Int32)]) (rest := []) x hml L79 4 i0 hal0 rfl (c_ksayCause_4 l X g79 i0 (90 : Int32) v1 (1 : Int32) (81 : Int32) hX (show i0 < Z.n from (by omega)) (rg_w kc_1 rfl)) (wk_U kd_X8_sayCause kl_X8_70 km_CellSwitchSide_CellSwitchSide_sayCause ks_X4_CellSwitchSide_X8_sayCause ki_X8_sayCause kn_X8) rfl ⟨rfl, rfl⟩ rfl (by decide +kernel) ⟨Nat.le_of_ble_eq_true rfl, Nat.le_of_ble_eq_true rfl⟩ rfl hl.1 rfl (lv_room (Nat.le_of_ble_eq_true rfl)) dX8_came_102 (fun  g145 H145 k145 hp145 L145 => ?_) hcs
            refine lv_goto (tgt := 153) hx hb dX8_came_105 (by decide) ?_
            exact k_vret xa L145 hr hlocks (Int.le_refl _) hzl ⟨(mFr.tr (mFr.tr mFr.rf hp79.1 rfl) hp145.1 rfl), (cJ_fr hp79.2.2.1 hp145.1 rfl), (fun s => by have hl := congrArg Int32.toInt (congrFun ((show mFr [198, 832, 864] g g145 from (mFr.tr (mFr.tr mFr.rf hp79.1 rfl) hp145.1 rfl)).at 386 rfl) s); omega), (by omega), trivial⟩ hcs.1 hcs.2 dX8_came_153
      · skip
        have ic60_133 := congrArg Int32.toInt c60_133
        have y146 : (5 : Int32).toInt = 5 := by decide
        have q147 : rg (5) (5) v132 := (rg_eq c60_133 rv132 kc_5).1
        have uq147 : (5 : Int) ≤ v132.toInt ∧ v132.toInt ≤ 5 := q147
        refine lv_aload_n hx hb dX8_came_63 rfl (lv_at hl 2 rfl) ?_
        refine lv_aload_n hx hb dX8_came_64 rfl (lv_at hl 3 rfl) ?_
        refine lv_iload_n hx hb dX8_came_65 rfl (lv_at hl 4 rfl) ?_
        have e386_148 := ((show mFr [] g g79 from (mFr.tr mFr.rf hp79.1 rfl)).at 386 rfl)
        have hMz148 := cMz.eq hMz e386_148 (show 1 ≤ 1 by decide)
        refine k_callv xa L79 (k_runU (x := ⟨"CellSwitch$Side", "setupCame", "(LCellSwitch$Signal;I)V"⟩) (As := [.ref (Z.ad 9 q1), .int p2]) (rest := []) ⟨hx, hb, hml, x.2.2.2.2.1, x.2.2.1⟩ (c_ksetupCame_4 l X g79 i0 q1 p2 _ ms hX hp79.2.2.1 hMz148 (by omega) (show i0 < Z.n from (by omega)) hq1) (va_cwA 2 x.2.2.1 (wk_U (owner := "CellSwitch$Side") kd_X4_setupCame kl_X8_66 km_CellSwitchSide_CellSwitchSide_setupCame ks_X4_CellSwitchSide_X4_setupCame ki_X4_setupCame kn_X4) rfl rfl rfl (x.2.2.2.2.2.2.2.2.2.1.2 _ (List.mem_of_getElem? (i := 1) rfl)) (by decide +kernel) ⟨Nat.le_of_ble_eq_true rfl, Nat.le_of_ble_eq_true rfl⟩) ⟨cPreA.blind, c_recv x L79 hal0 rfl, fun U hU hW => k_pre xa L79 U hU hW⟩ rfl rfl hl.1 rfl (lv_room (Nat.le_of_ble_eq_true rfl)) dX8_came_66 ⟨show 0 + 2 ≤ 2 by omega, show 0 + (18 + 1 * ms) ≤ 18 + 1 * ms by omega⟩) (fun  Z g148 H148 k148 kc148 kn148 hk148 hn148 hp148 hz148 xa L148 => ?_)
        have hsg148 := hp148.2.2.1
        have hww148 := hp148.2.2.2.1
        have ea148_0 := hz148.2.2.1 4 i0 hal0 (by omega)
        have ea148_1 := hz148.2.2.1 9 q1 hq1 (by omega)
        rw [← ea148_0] at hl
        rw [← ea148_1] at hl
        have al148_0 := hz148.2.1 4 i0 hal0
        have al148_1 := hz148.2.1 9 q1 hq1
        have hZn148 := hz148.1
        have x := xa.1
        have hz := x.2.2.2.2.2.2.2.1
        have hzn := hz.1
        have hMy149 := (cMz.fr (a := 0) (b := 1) (show cMz ms (0 + 1) _ _ from cMz.eq hMz e386_148 (show 0 + 1 ≤ 1 by decide)) hz148.1 (fun s => (hsg148 s).2))
        have hzl := cZl.tr hzl hz148
        have hcs : 0 + kc148 ≤ 2 ∧ 0 + kn148 ≤ 18 + 1 * ms := by omega
        refine lv_goto (tgt := 153) hx hb dX8_came_69 (by decide) ?_
        exact k_vret xa L148 hr hlocks (Int.le_refl _) hzl ⟨(mFr.tr (mFr.tr mFr.rf hp79.1 rfl) hp148.1 rfl), hp148.2.1, (fun s => by have h0 := congrArg Int32.toInt (congrFun e386_148 s); have w0 := hsg148 s; have hl := congrArg Int32.toInt (congrFun ((show mFr [] g148 g148 from mFr.rf).at 386 rfl) s); omega), (by omega), trivial⟩ hcs.1 hcs.2 dX8_came_153

def rm_kcame_10 (ms : Nat) : Room := { frames := 9, cells := 4, slots := 36 + 2 * ms, locals := 211 }
theorem hd_kcame_10 : yX8_came.cls ≠ "java/lang/invoke/MethodHandle" ∧ yX8_came.cls ≠ "java/lang/invoke/VarHandle" ∧ (parseMethodDescriptor yX8_came.desc).map (fun d => d.parameters.length) = some 2 := by decide +kernel
set_option maxHeartbeats 4000000 in
set_option maxRecDepth 100000 in
theorem c_kcame_10 (l : Launch) {G : cG} {Z : cZ} (X : Int) (g : mSt) (i0 : Nat) (q1 : Nat) (p2 : Int32) (sz ms : Nat) (hX : 0 ≤ X ∧ X ≤ 2000000000) (hJ : cJ Z g) (hMz : cMz ms 2 Z g) (hw2 : Z.w 2 + 2 ≤ 1000000) (hi0 : i0 < Z.n) (hq1 : Z.al 9 q1) (hsig : (g 288 q1).toInt = 5 → 0 ≤ (g 291 q1).toInt) : Met l yX8_came (wk (Cond.code yX8_came cX8_came 5 none)) (rm_kcame_10 ms) (va_Pc [.ref (Z.ad 10 i0), .ref (Z.ad 9 q1), .int p2] (cPreA G Z X g sz)) (kE 4 (36 + 2 * ms) (cAf Z sz) (cQvA G Z X (fun Z1 g1 => mFr [32, 33, 34, 35, 36, 37, 38, 39, 40, 41, 42, 43, 44, 45, 46, 47, 48, 49, 198, 323, 384, 385, 386, 832, 864, 1728, 1729] g g1 ∧ cJ Z1 g1 ∧ (∀ s, (g 386 s).toInt ≤ (g1 386 s).toInt ∧ (g1 386 s).toInt ≤ (g 386 s).toInt + 2) ∧ Z1.w 2 ≤ Z.w 2 + 2 ∧ True))) 4 (36 + 2 * ms) (cAf Z sz) := by
  refine Met.ofW (cc := cX8_came) (maxL := 5) (ret := none) (by decide) rfl ?_
  intro p e s m args below meth c s₁ B hml hv
  obtain ⟨hav, hv⟩ := hv
  have hsz0 := hv.2.1
  subst hsz0
  have hr := B.returns
  have hlocks := B.notSynchronized
  obtain ⟨xa, L⟩ := k_start B rfl (fun w h => wk_in h) hv
  have hent : entryFrame m args 5 = entryFrame m ([.ref (Z.ad 10 i0), .ref (Z.ad 9 q1), .int p2] : List Value).toArray 5 := by rw [hav]
  rw [hent]
  have hl := lv_entry ([.ref (Z.ad 10 i0), .ref (Z.ad 9 q1), .int p2]) (n := 5) (Nat.le_of_ble_eq_true rfl)
  rw [lg_entry_eq]
  generalize (lg_sl ([.ref (Z.ad 10 i0), .ref (Z.ad 9 q1), .int p2]) ++ List.replicate (5 - (lg_sl ([.ref (Z.ad 10 i0), .ref (Z.ad 9 q1), .int p2])).length) Slot.unset).toArray = ls at hl ⊢
  have hl : lv_has ls 5 [(0, .ref (Z.ad 10 i0)), (1, .ref (Z.ad 9 q1)), (2, .int p2)] := hl
  have x := xa.1
  have hx := x.1
  have hb := x.2.1
  have hz := x.2.2.2.2.2.2.2.1
  have hzn := hz.1
  have hzl : cZl Z Z 0 0 := cZl.rf
  have hcs : 0 ≤ 4 ∧ 0 ≤ 36 + 2 * ms := ⟨Nat.zero_le _, Nat.zero_le _⟩
  have hal0 : Z.al 10 i0 := hz.2 10 i0 (show i0 < Z.n from hi0)
  have up2 : (-2147483648 : Int) ≤ p2.toInt ∧ p2.toInt ≤ 2147483647 := (rg_any p2)
  refine lv_aload_n hx hb dX8_came_0 rfl (lv_at hl 0 rfl) ?_
  refine lv_aload_n hx hb dX8_came_1 rfl (lv_at hl 1 rfl) ?_
  refine c_geti x L 9 q1 1 289 hq1 rfl rfl (wk_in kf_X8_57) dX8_came_2 (fun v1 ev1 wv1 => ?_)
  have rv1 : rg (-2147483648) (2147483647) v1 := rg_any v1
  have uv1 : (-2147483648 : Int) ≤ v1.toInt ∧ v1.toInt ≤ 2147483647 := rv1
  have sv1 : v1.toInt = (g 289 q1).toInt := congrArg Int32.toInt (ev1.trans (congrFun ((show mFr [32, 33, 34, 35, 36, 37, 38, 39, 40, 41, 42, 43, 44, 45, 46, 47, 48, 49, 198, 323, 384, 385, 386, 832, 864, 1728, 1729] g g from mFr.rf).at 289 rfl) _))
  refine lv_aload_n hx hb dX8_came_5 rfl (lv_at hl 1 rfl) ?_
  refine c_geti x L 9 q1 2 290 hq1 rfl rfl (wk_in kf_X8_60) dX8_came_6 (fun v2 ev2 wv2 => ?_)
  have rv2 : rg (0) (1) v2 := clj_290 wv2
  have uv2 : (0 : Int) ≤ v2.toInt ∧ v2.toInt ≤ 1 := rv2
  have sv2 : v2.toInt = (g 290 q1).toInt := congrArg Int32.toInt (ev2.trans (congrFun ((show mFr [32, 33, 34, 35, 36, 37, 38, 39, 40, 41, 42, 43, 44, 45, 46, 47, 48, 49, 198, 323, 384, 385, 386, 832, 864, 1728, 1729] g g from mFr.rf).at 290 rfl) _))
  refine lv_if_ne (tgt := 16) hx hb dX8_came_9 (by decide) (fun c9_3 => ?_) (fun c9_3 => ?_)
  · skip
    have ic9_3 : v2.toInt ≠ (0 : Int32).toInt := fun z => c9_3 (Int32.toInt_inj.mp z)
    have y4 : (0 : Int32).toInt = 0 := by decide
    have q5 : rg (1) (1) v2 := rg_neL c9_3 rv2 kc_0
    have uq5 : (1 : Int) ≤ v2.toInt ∧ v2.toInt ≤ 1 := q5
    refine lv_iconst (v := 0) hx hb dX8_came_16 (by decide) ?_
    refine c_ciU (n := 2) (owner := "CellSwitch$Side") (x0 := ⟨"CellSwitch$Side", "placeOfReference", "(IZ)I"⟩) (As := [.int v1, .int (0 : Int32)]) (rest := []) x hml L 10 i0 hal0 rfl (c_kplaceOfReference_10 l X g i0 v1 (0 : Int32) hX hJ (show i0 < Z.n from (by omega)) (rg_w kc_0 rfl)) (wk_U kd_X8_placeOfReference kl_X8_45 km_CellSwitchSide_CellSwitchSide_placeOfReference ks_X10_CellSwitchSide_X8_placeOfReference ki_X8_placeOfReference kn_X8) rfl ⟨rfl, rfl⟩ rfl (by decide +kernel) ⟨Nat.le_of_ble_eq_true rfl, Nat.le_of_ble_eq_true rfl⟩ rfl hl.1 rfl (lv_room (Nat.le_of_ble_eq_true rfl)) dX8_came_17 (fun v7 g6 H6 k6 hp6 L6 => ?_) hcs
    have rv7 : rg (-1) (2147483646) v7 := hp6.2.1
    have uv7 : (-1 : Int) ≤ v7.toInt ∧ v7.toInt ≤ 2147483646 := rv7
    have hw8 := hp6.2.2.2
    refine lv_istore_n (lv' := [(3, .int v7), (0, .ref (Z.ad 10 i0)), (1, .ref (Z.ad 9 q1)), (2, .int p2)]) hx hb dX8_came_20 rfl hl (by decide) rfl (fun ls hl => ?_)
    refine lv_iload_n hx hb dX8_came_21 rfl (lv_at hl 0 rfl) ?_
    refine lv_if_ge (tgt := 29) hx hb dX8_came_22 (by decide) (fun c22_9 => ?_) (fun c22_9 => ?_)
    · skip
      have ic22_9 := Int32.le_iff_toInt_le.mp c22_9
      have q10 : rg (0) (2147483646) v7 := (rg_le c22_9 kc_0 rv7).2
      have uq10 : (0 : Int) ≤ v7.toInt ∧ v7.toInt ≤ 2147483646 := q10
      refine lv_aload_n hx hb dX8_came_29 rfl (lv_at hl 1 rfl) ?_
      have al11 : Z.al 12 (Z.n + i0) := hz.2 12 (Z.n + i0) (show (Z.n + i0) < 2 * Z.n from (by omega))
      refine c_getr (a := Z.ad 12 (Z.n + i0)) x L6 10 i0 2 hal0 rfl rfl (wk_in kf_X8_10) dX8_came_30 ?_
      refine lv_iload_n hx hb dX8_came_33 rfl (lv_at hl 0 rfl) ?_
      have y12 := congrArg Int32.toInt (congrFun ((show mFr [] g g6 from (mFr.tr mFr.rf hp6.1 rfl)).at 386 rfl) (Z.n + i0))
      refine c_cr (As := [.int v7]) (rest := []) x hml L6 12 (Z.n + i0) al11 rfl (c_klget l X g6 (Z.n + i0) v7 hX hp6.2.2.1 (show (Z.n + i0) < 2 * Z.n from (by omega)) (by omega)) (wk_V kd_Jx4a65c_get_915e3 kl_X8_28 ki_Jx4a65c_get_915e3 ks_Jx4a65c_Jx4a65c_get_915e3 kn_Jx4a65c) rfl ⟨rfl, rfl⟩ hd_klget ⟨Nat.le_of_ble_eq_true rfl, Nat.le_of_ble_eq_true rfl⟩ rfl hl.1 rfl (lv_room (Nat.le_of_ble_eq_true rfl)) dX8_came_34 (fun v14 g13 H13 k13 hp13 L13 => ?_) hcs
      have hvv14 := hp13.2.2
      refine c_top (show Value.ref (Z.ad 1 v14.toInt.toNat) = va_rf (cOpt Z 1 v14) from (by rw [cOpt_some hvv14.1]; rfl)) ?_
      refine c_cast x L13 1 v14.toInt.toNat hvv14.2.1 rfl (wk_in kc_lX8_32) dX8_came_37 ?_
      refine lv_astore (lv' := [(4, .ref (Z.ad 1 v14.toInt.toNat)), (3, .int v7), (0, .ref (Z.ad 10 i0)), (1, .ref (Z.ad 9 q1)), (2, .int p2)]) hx hb dX8_came_40 hl (by decide) rfl (fun ls hl => ?_)
      refine lv_aload hx hb dX8_came_42 (lv_at hl 0 rfl) ?_
      refine lv_ifnull hx hb dX8_came_44 ?_
      refine lv_aload hx hb dX8_came_47 (lv_at hl 0 rfl) ?_
      refine c_ci (As := []) (rest := []) x hml L13 1 v14.toInt.toNat hvv14.2.1 rfl (c_kisOpen l X g13 v14.toInt.toNat hX hvv14.2.1) (wk_V kd_X1_isOpen kl_X8_34 ki_X1_isOpen ks_X1_X1_isOpen kn_X1) rfl ⟨rfl, rfl⟩ hd_kisOpen ⟨Nat.le_of_ble_eq_true rfl, Nat.le_of_ble_eq_true rfl⟩ rfl hl.1 rfl (lv_room (Nat.le_of_ble_eq_true rfl)) dX8_came_49 (fun v16 g15 H15 k15 hp15 L15 => ?_) hcs
      have rv16 : rg (0) (1) v16 := hp15.2.1
      have uv16 : (0 : Int) ≤ v16.toInt ∧ v16.toInt ≤ 1 := rv16
      refine lv_if_ne (tgt := 108) hx hb dX8_came_52 (by decide) (fun c52_17 => ?_) (fun c52_17 => ?_)
      · skip
        have ic52_17 : v16.toInt ≠ (0 : Int32).toInt := fun z => c52_17 (Int32.toInt_inj.mp z)
        have y18 : (0 : Int32).toInt = 0 := by decide
        have q19 : rg (1) (1) v16 := rg_neL c52_17 rv16 kc_0
        have uq19 : (1 : Int) ≤ v16.toInt ∧ v16.toInt ≤ 1 := q19
        refine lv_aload_n hx hb dX8_came_108 rfl (lv_at hl 3 rfl) ?_
        refine c_geti x L15 9 q1 0 288 hq1 rfl rfl (wk_in kf_X8_63) dX8_came_109 (fun v20 ev20 wv20 => ?_)
        have rv20 : rg (-2147483648) (2147483647) v20 := rg_any v20
        have uv20 : (-2147483648 : Int) ≤ v20.toInt ∧ v20.toInt ≤ 2147483647 := rv20
        have sv20 : v20.toInt = (g 288 q1).toInt := congrArg Int32.toInt (ev20.trans (congrFun ((show mFr [32, 33, 34, 35, 36, 37, 38, 39, 40, 41, 42, 43, 44, 45, 46, 47, 48, 49, 198, 323, 384, 385, 386, 832, 864, 1728, 1729] g g15 from (mFr.tr (mFr.tr (mFr.tr mFr.rf hp6.1 rfl) hp13.1 rfl) hp15.1 rfl)).at 288 rfl) _))
        refine lv_bipush (v := 77) hx hb dX8_came_112 (by decide) ?_
        refine lv_icmp_eq (tgt := 126) hx hb dX8_came_114 (by decide) (fun c114_21 => ?_) (fun c114_21 => ?_)
        · skip
          have ic114_21 := congrArg Int32.toInt c114_21
          have y22 : (77 : Int32).toInt = 77 := by decide
          have q23 : rg (77) (77) v20 := (rg_eq c114_21 rv20 kc_77).1
          have uq23 : (77 : Int) ≤ v20.toInt ∧ v20.toInt ≤ 77 := q23
          refine lv_aload_n hx hb dX8_came_126 rfl (lv_at hl 2 rfl) ?_
          refine lv_aload hx hb dX8_came_127 (lv_at hl 0 rfl) ?_
          refine lv_aload_n hx hb dX8_came_129 rfl (lv_at hl 3 rfl) ?_
          refine lv_iload_n hx hb dX8_came_130 rfl (lv_at hl 4 rfl) ?_
          refine c_cvU (n := 3) (owner := "CellSwitch$Side") (x0 := ⟨"CellSwitch$Side", "cleared", "(LCellSwitch$Call;LCellSwitch$Signal;I)V"⟩) (As := [.ref (Z.ad 1 v14.toInt.toNat), .ref (Z.ad 9 q1), .int p2]) (rest := []) x hml L15 10 i0 hal0 rfl (c_kcleared_10 l X g15 i0 v14.toInt.toNat q1 p2 hX (cJ_fr hp13.2.1 hp15.1 rfl) (show i0 < Z.n from (by omega)) hvv14.2.1 hq1) (wk_U kd_X8_cleared kl_X8_74 km_CellSwitchSide_CellSwitchSide_cleared ks_X10_CellSwitchSide_X8_cleared ki_X8_cleared kn_X8) rfl ⟨rfl, rfl⟩ rfl (by decide +kernel) ⟨Nat.le_of_ble_eq_true rfl, Nat.le_of_ble_eq_true rfl⟩ rfl hl.1 rfl (lv_room (Nat.le_of_ble_eq_true rfl)) dX8_came_131 (fun  g24 H24 k24 hp24 L24 => ?_) hcs
          refine lv_goto (tgt := 153) hx hb dX8_came_134 (by decide) ?_
          exact k_vret xa L24 hr hlocks (Int.le_refl _) hzl ⟨(mFr.tr (mFr.tr (mFr.tr (mFr.tr mFr.rf hp6.1 rfl) hp13.1 rfl) hp15.1 rfl) hp24.1 rfl), hp24.2.1, (fun s => by have hl := congrArg Int32.toInt (congrFun ((show mFr [36, 40, 41, 42, 44, 45, 46, 48, 198, 832, 864] g g24 from (mFr.tr (mFr.tr (mFr.tr (mFr.tr mFr.rf hp6.1 rfl) hp13.1 rfl) hp15.1 rfl) hp24.1 rfl)).at 386 rfl) s); omega), (by omega), trivial⟩ hcs.1 hcs.2 dX8_came_153
        · skip
          have ic114_21 : v20.toInt ≠ (77 : Int32).toInt := fun z => c114_21 (Int32.toInt_inj.mp z)
          have y25 : (77 : Int32).toInt = 77 := by decide
          refine lv_aload_n hx hb dX8_came_117 rfl (lv_at hl 3 rfl) ?_
          refine c_geti x L15 9 q1 0 288 hq1 rfl rfl (wk_in kf_X8_63) dX8_came_118 (fun v26 ev26 wv26 => ?_)
          refine m_top ((ev20).trans ev26.symm) ?_
          refine lv_bipush (v := 90) hx hb dX8_came_121 (by decide) ?_
          refine lv_icmp_ne (tgt := 137) hx hb dX8_came_123 (by decide) (fun c123_27 => ?_) (fun c123_27 => ?_)
          · skip
            have ic123_27 : v20.toInt ≠ (90 : Int32).toInt := fun z => c123_27 (Int32.toInt_inj.mp z)
            have y28 : (90 : Int32).toInt = 90 := by decide
            refine lv_aload_n hx hb dX8_came_137 rfl (lv_at hl 3 rfl) ?_
            refine c_geti x L15 9 q1 0 288 hq1 rfl rfl (wk_in kf_X8_63) dX8_came_138 (fun v29 ev29 wv29 => ?_)
            refine m_top ((ev20).trans ev29.symm) ?_
            refine lv_iconst (v := 5) hx hb dX8_came_141 (by decide) ?_
            refine lv_icmp_eq (tgt := 153) hx hb dX8_came_142 (by decide) (fun c142_30 => ?_) (fun c142_30 => ?_)
            · skip
              have ic142_30 := congrArg Int32.toInt c142_30
              have y31 : (5 : Int32).toInt = 5 := by decide
              have q32 : rg (5) (5) v20 := (rg_eq c142_30 rv20 kc_5).1
              have uq32 : (5 : Int) ≤ v20.toInt ∧ v20.toInt ≤ 5 := q32
              exact k_vret xa L15 hr hlocks (Int.le_refl _) hzl ⟨(mFr.tr (mFr.tr (mFr.tr mFr.rf hp6.1 rfl) hp13.1 rfl) hp15.1 rfl), (cJ_fr hp13.2.1 hp15.1 rfl), (fun s => by have hl := congrArg Int32.toInt (congrFun ((show mFr [] g g15 from (mFr.tr (mFr.tr (mFr.tr mFr.rf hp6.1 rfl) hp13.1 rfl) hp15.1 rfl)).at 386 rfl) s); omega), (by omega), trivial⟩ hcs.1 hcs.2 dX8_came_153
            · skip
              have ic142_30 : v20.toInt ≠ (5 : Int32).toInt := fun z => c142_30 (Int32.toInt_inj.mp z)
              have y33 : (5 : Int32).toInt = 5 := by decide
              refine lv_aload_n hx hb dX8_came_145 rfl (lv_at hl 2 rfl) ?_
              refine lv_aload hx hb dX8_came_146 (lv_at hl 0 rfl) ?_
              refine lv_aload_n hx hb dX8_came_148 rfl (lv_at hl 3 rfl) ?_
              refine lv_iload_n hx hb dX8_came_149 rfl (lv_at hl 4 rfl) ?_
              refine c_cvA (n := 3) (owner := "CellSwitch$Side") (x0 := ⟨"CellSwitch$Side", "progress", "(LCellSwitch$Call;LCellSwitch$Signal;I)V"⟩) (As := [.ref (Z.ad 1 v14.toInt.toNat), .ref (Z.ad 9 q1), .int p2]) (rest := []) x hml L15 10 i0 hal0 rfl (c_kprogress_10 l X g15 i0 v14.toInt.toNat q1 p2 hX (cJ_fr hp13.2.1 hp15.1 rfl) (show i0 < Z.n from (by omega)) hvv14.2.1 hq1) (wk_U kd_X10_progress kl_X8_78 km_CellSwitchSide_CellSwitchSide_progress ks_X10_CellSwitchSide_X10_progress ki_X10_progress kn_X10) rfl ⟨rfl, rfl⟩ (List.mem_of_getElem? (i := 2) rfl) (by decide +kernel) ⟨Nat.le_of_ble_eq_true rfl, Nat.le_of_ble_eq_true rfl⟩ rfl hl.1 rfl (lv_room (Nat.le_of_ble_eq_true rfl)) dX8_came_150 (fun  g34 H34 k34 hp34 L34 => ?_) hcs
              exact k_vret xa L34 hr hlocks (Int.le_refl _) hzl ⟨(mFr.tr (mFr.tr (mFr.tr (mFr.tr mFr.rf hp6.1 rfl) hp13.1 rfl) hp15.1 rfl) hp34.1 rfl), hp34.2.1, (fun s => by have hl := congrArg Int32.toInt (congrFun ((show mFr [36, 41, 42, 44, 45, 46, 48, 198, 832, 864] g g34 from (mFr.tr (mFr.tr (mFr.tr (mFr.tr mFr.rf hp6.1 rfl) hp13.1 rfl) hp15.1 rfl) hp34.1 rfl)).at 386 rfl) s); omega), (by omega), trivial⟩ hcs.1 hcs.2 dX8_came_153
          · skip
            have ic123_27 := congrArg Int32.toInt c123_27
            have y35 : (90 : Int32).toInt = 90 := by decide
            have q36 : rg (90) (90) v20 := (rg_eq c123_27 rv20 kc_90).1
            have uq36 : (90 : Int) ≤ v20.toInt ∧ v20.toInt ≤ 90 := q36
            refine lv_aload_n hx hb dX8_came_126 rfl (lv_at hl 2 rfl) ?_
            refine lv_aload hx hb dX8_came_127 (lv_at hl 0 rfl) ?_
            refine lv_aload_n hx hb dX8_came_129 rfl (lv_at hl 3 rfl) ?_
            refine lv_iload_n hx hb dX8_came_130 rfl (lv_at hl 4 rfl) ?_
            refine c_cvU (n := 3) (owner := "CellSwitch$Side") (x0 := ⟨"CellSwitch$Side", "cleared", "(LCellSwitch$Call;LCellSwitch$Signal;I)V"⟩) (As := [.ref (Z.ad 1 v14.toInt.toNat), .ref (Z.ad 9 q1), .int p2]) (rest := []) x hml L15 10 i0 hal0 rfl (c_kcleared_10 l X g15 i0 v14.toInt.toNat q1 p2 hX (cJ_fr hp13.2.1 hp15.1 rfl) (show i0 < Z.n from (by omega)) hvv14.2.1 hq1) (wk_U kd_X8_cleared kl_X8_74 km_CellSwitchSide_CellSwitchSide_cleared ks_X10_CellSwitchSide_X8_cleared ki_X8_cleared kn_X8) rfl ⟨rfl, rfl⟩ rfl (by decide +kernel) ⟨Nat.le_of_ble_eq_true rfl, Nat.le_of_ble_eq_true rfl⟩ rfl hl.1 rfl (lv_room (Nat.le_of_ble_eq_true rfl)) dX8_came_131 (fun  g37 H37 k37 hp37 L37 => ?_) hcs
            refine lv_goto (tgt := 153) hx hb dX8_came_134 (by decide) ?_
            exact k_vret xa L37 hr hlocks (Int.le_refl _) hzl ⟨(mFr.tr (mFr.tr (mFr.tr (mFr.tr mFr.rf hp6.1 rfl) hp13.1 rfl) hp15.1 rfl) hp37.1 rfl), hp37.2.1, (fun s => by have hl := congrArg Int32.toInt (congrFun ((show mFr [36, 40, 41, 42, 44, 45, 46, 48, 198, 832, 864] g g37 from (mFr.tr (mFr.tr (mFr.tr (mFr.tr mFr.rf hp6.1 rfl) hp13.1 rfl) hp15.1 rfl) hp37.1 rfl)).at 386 rfl) s); omega), (by omega), trivial⟩ hcs.1 hcs.2 dX8_came_153
      · skip
        have ic52_17 := congrArg Int32.toInt c52_17
        have y38 : (0 : Int32).toInt = 0 := by decide
        have q39 : rg (0) (0) v16 := (rg_eq c52_17 rv16 kc_0).1
        have uq39 : (0 : Int) ≤ v16.toInt ∧ v16.toInt ≤ 0 := q39
        refine lv_aload_n hx hb dX8_came_55 rfl (lv_at hl 3 rfl) ?_
        refine c_geti x L15 9 q1 0 288 hq1 rfl rfl (wk_in kf_X8_63) dX8_came_56 (fun v40 ev40 wv40 => ?_)
        have rv40 : rg (-2147483648) (2147483647) v40 := rg_any v40
        have uv40 : (-2147483648 : Int) ≤ v40.toInt ∧ v40.toInt ≤ 2147483647 := rv40
        have sv40 : v40.toInt = (g 288 q1).toInt := congrArg Int32.toInt (ev40.trans (congrFun ((show mFr [32, 33, 34, 35, 36, 37, 38, 39, 40, 41, 42, 43, 44, 45, 46, 47, 48, 49, 198, 323, 384, 385, 386, 832, 864, 1728, 1729] g g15 from (mFr.tr (mFr.tr (mFr.tr mFr.rf hp6.1 rfl) hp13.1 rfl) hp15.1 rfl)).at 288 rfl) _))
        refine lv_iconst (v := 5) hx hb dX8_came_59 (by decide) ?_
        refine lv_icmp_ne (tgt := 72) hx hb dX8_came_60 (by decide) (fun c60_41 => ?_) (fun c60_41 => ?_)
        · skip
          have ic60_41 : v40.toInt ≠ (5 : Int32).toInt := fun z => c60_41 (Int32.toInt_inj.mp z)
          have y42 : (5 : Int32).toInt = 5 := by decide
          refine lv_aload_n hx hb dX8_came_72 rfl (lv_at hl 3 rfl) ?_
          refine c_geti x L15 9 q1 0 288 hq1 rfl rfl (wk_in kf_X8_63) dX8_came_73 (fun v43 ev43 wv43 => ?_)
          refine m_top ((ev40).trans ev43.symm) ?_
          refine lv_bipush (v := 77) hx hb dX8_came_76 (by decide) ?_
          refine lv_icmp_ne (tgt := 153) hx hb dX8_came_78 (by decide) (fun c78_44 => ?_) (fun c78_44 => ?_)
          · skip
            have ic78_44 : v40.toInt ≠ (77 : Int32).toInt := fun z => c78_44 (Int32.toInt_inj.mp z)
            have y45 : (77 : Int32).toInt = 77 := by decide
            exact k_vret xa L15 hr hlocks (Int.le_refl _) hzl ⟨(mFr.tr (mFr.tr (mFr.tr mFr.rf hp6.1 rfl) hp13.1 rfl) hp15.1 rfl), (cJ_fr hp13.2.1 hp15.1 rfl), (fun s => by have hl := congrArg Int32.toInt (congrFun ((show mFr [] g g15 from (mFr.tr (mFr.tr (mFr.tr mFr.rf hp6.1 rfl) hp13.1 rfl) hp15.1 rfl)).at 386 rfl) s); omega), (by omega), trivial⟩ hcs.1 hcs.2 dX8_came_153
          · skip
            have ic78_44 := congrArg Int32.toInt c78_44
            have y46 : (77 : Int32).toInt = 77 := by decide
            have q47 : rg (77) (77) v40 := (rg_eq c78_44 rv40 kc_77).1
            have uq47 : (77 : Int) ≤ v40.toInt ∧ v40.toInt ≤ 77 := q47
            refine lv_aload_n hx hb dX8_came_81 rfl (lv_at hl 2 rfl) ?_
            refine lv_bipush (v := 90) hx hb dX8_came_82 (by decide) ?_
            refine lv_aload_n hx hb dX8_came_84 rfl (lv_at hl 3 rfl) ?_
            refine c_geti x L15 9 q1 1 289 hq1 rfl rfl (wk_in kf_X8_57) dX8_came_85 (fun v48 ev48 wv48 => ?_)
            refine m_top (((mm_fr (mm_fr (mm_fr ev1 hp6.1 rfl) hp13.1 rfl) hp15.1 rfl)).trans ev48.symm) ?_
            refine lv_aload_n hx hb dX8_came_88 rfl (lv_at hl 3 rfl) ?_
            refine c_geti x L15 9 q1 2 290 hq1 rfl rfl (wk_in kf_X8_60) dX8_came_89 (fun v49 ev49 wv49 => ?_)
            refine m_top (((mm_fr (mm_fr (mm_fr ev2 hp6.1 rfl) hp13.1 rfl) hp15.1 rfl)).trans ev49.symm) ?_
            refine lv_if_ne (tgt := 99) hx hb dX8_came_92 (by decide) (fun c92_50 => ?_) (fun c92_50 => ?_)
            · skip
              have ic92_50 : v2.toInt ≠ (0 : Int32).toInt := fun z => c92_50 (Int32.toInt_inj.mp z)
              have y51 : (0 : Int32).toInt = 0 := by decide
              refine lv_iconst (v := 0) hx hb dX8_came_99 (by decide) ?_
              refine lv_bipush (v := 81) hx hb dX8_came_100 (by decide) ?_
              refine c_cvU (n := 4) (owner := "CellSwitch$Side") (x0 := ⟨"CellSwitch$Side", "sayCause", "(IIZI)V"⟩) (As := [.int (90 : Int32), .int v1, .int (0 : Int32), .int (81 : Int32)]) (rest := []) x hml L15 10 i0 hal0 rfl (c_ksayCause_10 l X g15 i0 (90 : Int32) v1 (0 : Int32) (81 : Int32) hX (show i0 < Z.n from (by omega)) (rg_w kc_0 rfl)) (wk_U kd_X8_sayCause kl_X8_70 km_CellSwitchSide_CellSwitchSide_sayCause ks_X10_CellSwitchSide_X8_sayCause ki_X8_sayCause kn_X8) rfl ⟨rfl, rfl⟩ rfl (by decide +kernel) ⟨Nat.le_of_ble_eq_true rfl, Nat.le_of_ble_eq_true rfl⟩ rfl hl.1 rfl (lv_room (Nat.le_of_ble_eq_true rfl)) dX8_came_102 (fun  g52 H52 k52 hp52 L52 => ?_) hcs
              refine lv_goto (tgt := 153) hx hb dX8_came_105 (by decide) ?_
              exact k_vret xa L52 hr hlocks (Int.le_refl _) hzl ⟨(mFr.tr (mFr.tr (mFr.tr (mFr.tr mFr.rf hp6.1 rfl) hp13.1 rfl) hp15.1 rfl) hp52.1 rfl), (cJ_fr (cJ_fr hp13.2.1 hp15.1 rfl) hp52.1 rfl), (fun s => by have hl := congrArg Int32.toInt (congrFun ((show mFr [198, 832, 864] g g52 from (mFr.tr (mFr.tr (mFr.tr (mFr.tr mFr.rf hp6.1 rfl) hp13.1 rfl) hp15.1 rfl) hp52.1 rfl)).at 386 rfl) s); omega), (by omega), trivial⟩ hcs.1 hcs.2 dX8_came_153
            · skip
              have ic92_50 := congrArg Int32.toInt c92_50
              have y53 : (0 : Int32).toInt = 0 := by decide
              exact absurd ((rg_eq c92_50 q5 kc_0).1 : rg (1) (0) v2) (fun q => rg_dead q rfl)
        · skip
          have ic60_41 := congrArg Int32.toInt c60_41
          have y54 : (5 : Int32).toInt = 5 := by decide
          have q55 : rg (5) (5) v40 := (rg_eq c60_41 rv40 kc_5).1
          have uq55 : (5 : Int) ≤ v40.toInt ∧ v40.toInt ≤ 5 := q55
          refine lv_aload_n hx hb dX8_came_63 rfl (lv_at hl 2 rfl) ?_
          refine lv_aload_n hx hb dX8_came_64 rfl (lv_at hl 3 rfl) ?_
          refine lv_iload_n hx hb dX8_came_65 rfl (lv_at hl 4 rfl) ?_
          have y56 := congrArg Int32.toInt (congrFun ((show mFr [] g g15 from (mFr.tr (mFr.tr (mFr.tr mFr.rf hp6.1 rfl) hp13.1 rfl) hp15.1 rfl)).at 291 rfl) (q1))
          have e386_57 := ((show mFr [] g g15 from (mFr.tr (mFr.tr (mFr.tr mFr.rf hp6.1 rfl) hp13.1 rfl) hp15.1 rfl)).at 386 rfl)
          have hMz57 := cMz.eq hMz e386_57 (show 2 ≤ 2 by decide)
          refine k_callv xa L15 (k_runU (x := ⟨"CellSwitch$Side", "setupCame", "(LCellSwitch$Signal;I)V"⟩) (As := [.ref (Z.ad 9 q1), .int p2]) (rest := []) ⟨hx, hb, hml, x.2.2.2.2.1, x.2.2.1⟩ (c_ksetupCame_10 l X g15 i0 q1 p2 _ ms hX (cJ_fr hp13.2.1 hp15.1 rfl) hMz57 (by omega) (show i0 < Z.n from (by omega)) hq1 (by omega)) (va_cwA 2 x.2.2.1 (wk_U (owner := "CellSwitch$Side") kd_X10_setupCame kl_X8_66 km_CellSwitchSide_CellSwitchSide_setupCame ks_X10_CellSwitchSide_X10_setupCame ki_X10_setupCame kn_X10) rfl rfl rfl (x.2.2.2.2.2.2.2.2.2.1.2 _ (List.mem_of_getElem? (i := 1) rfl)) (by decide +kernel) ⟨Nat.le_of_ble_eq_true rfl, Nat.le_of_ble_eq_true rfl⟩) ⟨cPreA.blind, c_recv x L15 hal0 rfl, fun U hU hW => k_pre xa L15 U hU hW⟩ rfl rfl hl.1 rfl (lv_room (Nat.le_of_ble_eq_true rfl)) dX8_came_66 ⟨show 0 + 4 ≤ 4 by omega, show 0 + (36 + 2 * ms) ≤ 36 + 2 * ms by omega⟩) (fun  Z g57 H57 k57 kc57 kn57 hk57 hn57 hp57 hz57 xa L57 => ?_)
          have hsg57 := hp57.2.2.1
          have hww57 := hp57.2.2.2.1
          have ea57_0 := hz57.2.2.1 1 v14.toInt.toNat hvv14.2.1 (by omega)
          have ea57_1 := hz57.2.2.1 10 i0 hal0 (by omega)
          have ea57_2 := hz57.2.2.1 9 q1 hq1 (by omega)
          rw [← ea57_0] at hl
          rw [← ea57_1] at hl
          rw [← ea57_2] at hl
          have al57_0 := hz57.2.1 1 v14.toInt.toNat hvv14.2.1
          have al57_1 := hz57.2.1 10 i0 hal0
          have al57_2 := hz57.2.1 9 q1 hq1
          have hZn57 := hz57.1
          have x := xa.1
          have hz := x.2.2.2.2.2.2.2.1
          have hzn := hz.1
          have hMy58 := (cMz.fr (a := 0) (b := 2) (show cMz ms (0 + 2) _ _ from cMz.eq hMz e386_57 (show 0 + 2 ≤ 2 by decide)) hz57.1 (fun s => (hsg57 s).2))
          have hzl := cZl.tr hzl hz57
          have hcs : 0 + kc57 ≤ 4 ∧ 0 + kn57 ≤ 36 + 2 * ms := by omega
          refine lv_goto (tgt := 153) hx hb dX8_came_69 (by decide) ?_
          exact k_vret xa L57 hr hlocks (Int.le_refl _) hzl ⟨(mFr.tr (mFr.tr (mFr.tr (mFr.tr mFr.rf hp6.1 rfl) hp13.1 rfl) hp15.1 rfl) hp57.1 rfl), hp57.2.1, (fun s => by have h0 := congrArg Int32.toInt (congrFun e386_57 s); have w0 := hsg57 s; have hl := congrArg Int32.toInt (congrFun ((show mFr [] g57 g57 from mFr.rf).at 386 rfl) s); omega), (by omega), trivial⟩ hcs.1 hcs.2 dX8_came_153
    · skip
      have ic22_9 := Int32.lt_iff_toInt_lt.mp (rg_nle c22_9)
      have q59 : rg (-1) (-1) v7 := (rg_lt (rg_nle c22_9) rv7 kc_0).1
      have uq59 : (-1 : Int) ≤ v7.toInt ∧ v7.toInt ≤ -1 := q59
      refine lv_null hx hb dX8_came_25 ?_
      refine lv_goto (tgt := 40) hx hb dX8_came_26 (by decide) ?_
      refine lv_astoreN (lv' := [(4, .null), (3, .int v7), (0, .ref (Z.ad 10 i0)), (1, .ref (Z.ad 9 q1)), (2, .int p2)]) hx hb dX8_came_40 hl (by decide) rfl (fun ls hl => ?_)
      refine lv_aloadN hx hb dX8_came_42 (lv_at hl 0 rfl) ?_
      refine lv_ifnullN (tgt := 55) hx hb dX8_came_44 (by decide) ?_
      refine lv_aload_n hx hb dX8_came_55 rfl (lv_at hl 3 rfl) ?_
      refine c_geti x L6 9 q1 0 288 hq1 rfl rfl (wk_in kf_X8_63) dX8_came_56 (fun v60 ev60 wv60 => ?_)
      have rv60 : rg (-2147483648) (2147483647) v60 := rg_any v60
      have uv60 : (-2147483648 : Int) ≤ v60.toInt ∧ v60.toInt ≤ 2147483647 := rv60
      have sv60 : v60.toInt = (g 288 q1).toInt := congrArg Int32.toInt (ev60.trans (congrFun ((show mFr [32, 33, 34, 35, 36, 37, 38, 39, 40, 41, 42, 43, 44, 45, 46, 47, 48, 49, 198, 323, 384, 385, 386, 832, 864, 1728, 1729] g g6 from (mFr.tr mFr.rf hp6.1 rfl)).at 288 rfl) _))
      refine lv_iconst (v := 5) hx hb dX8_came_59 (by decide) ?_
      refine lv_icmp_ne (tgt := 72) hx hb dX8_came_60 (by decide) (fun c60_61 => ?_) (fun c60_61 => ?_)
      · skip
        have ic60_61 : v60.toInt ≠ (5 : Int32).toInt := fun z => c60_61 (Int32.toInt_inj.mp z)
        have y62 : (5 : Int32).toInt = 5 := by decide
        refine lv_aload_n hx hb dX8_came_72 rfl (lv_at hl 3 rfl) ?_
        refine c_geti x L6 9 q1 0 288 hq1 rfl rfl (wk_in kf_X8_63) dX8_came_73 (fun v63 ev63 wv63 => ?_)
        refine m_top ((ev60).trans ev63.symm) ?_
        refine lv_bipush (v := 77) hx hb dX8_came_76 (by decide) ?_
        refine lv_icmp_ne (tgt := 153) hx hb dX8_came_78 (by decide) (fun c78_64 => ?_) (fun c78_64 => ?_)
        · skip
          have ic78_64 : v60.toInt ≠ (77 : Int32).toInt := fun z => c78_64 (Int32.toInt_inj.mp z)
          have y65 : (77 : Int32).toInt = 77 := by decide
          exact k_vret xa L6 hr hlocks (Int.le_refl _) hzl ⟨(mFr.tr mFr.rf hp6.1 rfl), hp6.2.2.1, (fun s => by have hl := congrArg Int32.toInt (congrFun ((show mFr [] g g6 from (mFr.tr mFr.rf hp6.1 rfl)).at 386 rfl) s); omega), (by omega), trivial⟩ hcs.1 hcs.2 dX8_came_153
        · skip
          have ic78_64 := congrArg Int32.toInt c78_64
          have y66 : (77 : Int32).toInt = 77 := by decide
          have q67 : rg (77) (77) v60 := (rg_eq c78_64 rv60 kc_77).1
          have uq67 : (77 : Int) ≤ v60.toInt ∧ v60.toInt ≤ 77 := q67
          refine lv_aload_n hx hb dX8_came_81 rfl (lv_at hl 2 rfl) ?_
          refine lv_bipush (v := 90) hx hb dX8_came_82 (by decide) ?_
          refine lv_aload_n hx hb dX8_came_84 rfl (lv_at hl 3 rfl) ?_
          refine c_geti x L6 9 q1 1 289 hq1 rfl rfl (wk_in kf_X8_57) dX8_came_85 (fun v68 ev68 wv68 => ?_)
          refine m_top (((mm_fr ev1 hp6.1 rfl)).trans ev68.symm) ?_
          refine lv_aload_n hx hb dX8_came_88 rfl (lv_at hl 3 rfl) ?_
          refine c_geti x L6 9 q1 2 290 hq1 rfl rfl (wk_in kf_X8_60) dX8_came_89 (fun v69 ev69 wv69 => ?_)
          refine m_top (((mm_fr ev2 hp6.1 rfl)).trans ev69.symm) ?_
          refine lv_if_ne (tgt := 99) hx hb dX8_came_92 (by decide) (fun c92_70 => ?_) (fun c92_70 => ?_)
          · skip
            have ic92_70 : v2.toInt ≠ (0 : Int32).toInt := fun z => c92_70 (Int32.toInt_inj.mp z)
            have y71 : (0 : Int32).toInt = 0 := by decide
            refine lv_iconst (v := 0) hx hb dX8_came_99 (by decide) ?_
            refine lv_bipush (v := 81) hx hb dX8_came_100 (by decide) ?_
            refine c_cvU (n := 4) (owner := "CellSwitch$Side") (x0 := ⟨"CellSwitch$Side", "sayCause", "(IIZI)V"⟩) (As := [.int (90 : Int32), .int v1, .int (0 : Int32), .int (81 : Int32)]) (rest := []) x hml L6 10 i0 hal0 rfl (c_ksayCause_10 l X g6 i0 (90 : Int32) v1 (0 : Int32) (81 : Int32) hX (show i0 < Z.n from (by omega)) (rg_w kc_0 rfl)) (wk_U kd_X8_sayCause kl_X8_70 km_CellSwitchSide_CellSwitchSide_sayCause ks_X10_CellSwitchSide_X8_sayCause ki_X8_sayCause kn_X8) rfl ⟨rfl, rfl⟩ rfl (by decide +kernel) ⟨Nat.le_of_ble_eq_true rfl, Nat.le_of_ble_eq_true rfl⟩ rfl hl.1 rfl (lv_room (Nat.le_of_ble_eq_true rfl)) dX8_came_102 (fun  g72 H72 k72 hp72 L72 => ?_) hcs
            refine lv_goto (tgt := 153) hx hb dX8_came_105 (by decide) ?_
            exact k_vret xa L72 hr hlocks (Int.le_refl _) hzl ⟨(mFr.tr (mFr.tr mFr.rf hp6.1 rfl) hp72.1 rfl), (cJ_fr hp6.2.2.1 hp72.1 rfl), (fun s => by have hl := congrArg Int32.toInt (congrFun ((show mFr [198, 832, 864] g g72 from (mFr.tr (mFr.tr mFr.rf hp6.1 rfl) hp72.1 rfl)).at 386 rfl) s); omega), (by omega), trivial⟩ hcs.1 hcs.2 dX8_came_153
          · skip
            have ic92_70 := congrArg Int32.toInt c92_70
            have y73 : (0 : Int32).toInt = 0 := by decide
            exact absurd ((rg_eq c92_70 q5 kc_0).1 : rg (1) (0) v2) (fun q => rg_dead q rfl)
      · skip
        have ic60_61 := congrArg Int32.toInt c60_61
        have y74 : (5 : Int32).toInt = 5 := by decide
        have q75 : rg (5) (5) v60 := (rg_eq c60_61 rv60 kc_5).1
        have uq75 : (5 : Int) ≤ v60.toInt ∧ v60.toInt ≤ 5 := q75
        refine lv_aload_n hx hb dX8_came_63 rfl (lv_at hl 2 rfl) ?_
        refine lv_aload_n hx hb dX8_came_64 rfl (lv_at hl 3 rfl) ?_
        refine lv_iload_n hx hb dX8_came_65 rfl (lv_at hl 4 rfl) ?_
        have y76 := congrArg Int32.toInt (congrFun ((show mFr [] g g6 from (mFr.tr mFr.rf hp6.1 rfl)).at 291 rfl) (q1))
        have e386_77 := ((show mFr [] g g6 from (mFr.tr mFr.rf hp6.1 rfl)).at 386 rfl)
        have hMz77 := cMz.eq hMz e386_77 (show 2 ≤ 2 by decide)
        refine k_callv xa L6 (k_runU (x := ⟨"CellSwitch$Side", "setupCame", "(LCellSwitch$Signal;I)V"⟩) (As := [.ref (Z.ad 9 q1), .int p2]) (rest := []) ⟨hx, hb, hml, x.2.2.2.2.1, x.2.2.1⟩ (c_ksetupCame_10 l X g6 i0 q1 p2 _ ms hX hp6.2.2.1 hMz77 (by omega) (show i0 < Z.n from (by omega)) hq1 (by omega)) (va_cwA 2 x.2.2.1 (wk_U (owner := "CellSwitch$Side") kd_X10_setupCame kl_X8_66 km_CellSwitchSide_CellSwitchSide_setupCame ks_X10_CellSwitchSide_X10_setupCame ki_X10_setupCame kn_X10) rfl rfl rfl (x.2.2.2.2.2.2.2.2.2.1.2 _ (List.mem_of_getElem? (i := 1) rfl)) (by decide +kernel) ⟨Nat.le_of_ble_eq_true rfl, Nat.le_of_ble_eq_true rfl⟩) ⟨cPreA.blind, c_recv x L6 hal0 rfl, fun U hU hW => k_pre xa L6 U hU hW⟩ rfl rfl hl.1 rfl (lv_room (Nat.le_of_ble_eq_true rfl)) dX8_came_66 ⟨show 0 + 4 ≤ 4 by omega, show 0 + (36 + 2 * ms) ≤ 36 + 2 * ms by omega⟩) (fun  Z g77 H77 k77 kc77 kn77 hk77 hn77 hp77 hz77 xa L77 => ?_)
        have hsg77 := hp77.2.2.1
        have hww77 := hp77.2.2.2.1
        have ea77_0 := hz77.2.2.1 10 i0 hal0 (by omega)
        have ea77_1 := hz77.2.2.1 9 q1 hq1 (by omega)
        rw [← ea77_0] at hl
        rw [← ea77_1] at hl
        have al77_0 := hz77.2.1 10 i0 hal0
        have al77_1 := hz77.2.1 9 q1 hq1
        have hZn77 := hz77.1
        have x := xa.1
        have hz := x.2.2.2.2.2.2.2.1
        have hzn := hz.1
        have hMy78 := (cMz.fr (a := 0) (b := 2) (show cMz ms (0 + 2) _ _ from cMz.eq hMz e386_77 (show 0 + 2 ≤ 2 by decide)) hz77.1 (fun s => (hsg77 s).2))
        have hzl := cZl.tr hzl hz77
        have hcs : 0 + kc77 ≤ 4 ∧ 0 + kn77 ≤ 36 + 2 * ms := by omega
        refine lv_goto (tgt := 153) hx hb dX8_came_69 (by decide) ?_
        exact k_vret xa L77 hr hlocks (Int.le_refl _) hzl ⟨(mFr.tr (mFr.tr mFr.rf hp6.1 rfl) hp77.1 rfl), hp77.2.1, (fun s => by have h0 := congrArg Int32.toInt (congrFun e386_77 s); have w0 := hsg77 s; have hl := congrArg Int32.toInt (congrFun ((show mFr [] g77 g77 from mFr.rf).at 386 rfl) s); omega), (by omega), trivial⟩ hcs.1 hcs.2 dX8_came_153
  · skip
    have ic9_3 := congrArg Int32.toInt c9_3
    have y79 : (0 : Int32).toInt = 0 := by decide
    have q80 : rg (0) (0) v2 := (rg_eq c9_3 rv2 kc_0).1
    have uq80 : (0 : Int) ≤ v2.toInt ∧ v2.toInt ≤ 0 := q80
    refine lv_iconst (v := 1) hx hb dX8_came_12 (by decide) ?_
    refine lv_goto (tgt := 17) hx hb dX8_came_13 (by decide) ?_
    refine c_ciU (n := 2) (owner := "CellSwitch$Side") (x0 := ⟨"CellSwitch$Side", "placeOfReference", "(IZ)I"⟩) (As := [.int v1, .int (1 : Int32)]) (rest := []) x hml L 10 i0 hal0 rfl (c_kplaceOfReference_10 l X g i0 v1 (1 : Int32) hX hJ (show i0 < Z.n from (by omega)) (rg_w kc_1 rfl)) (wk_U kd_X8_placeOfReference kl_X8_45 km_CellSwitchSide_CellSwitchSide_placeOfReference ks_X10_CellSwitchSide_X8_placeOfReference ki_X8_placeOfReference kn_X8) rfl ⟨rfl, rfl⟩ rfl (by decide +kernel) ⟨Nat.le_of_ble_eq_true rfl, Nat.le_of_ble_eq_true rfl⟩ rfl hl.1 rfl (lv_room (Nat.le_of_ble_eq_true rfl)) dX8_came_17 (fun v82 g81 H81 k81 hp81 L81 => ?_) hcs
    have rv82 : rg (-1) (2147483646) v82 := hp81.2.1
    have uv82 : (-1 : Int) ≤ v82.toInt ∧ v82.toInt ≤ 2147483646 := rv82
    have hw83 := hp81.2.2.2
    refine lv_istore_n (lv' := [(3, .int v82), (0, .ref (Z.ad 10 i0)), (1, .ref (Z.ad 9 q1)), (2, .int p2)]) hx hb dX8_came_20 rfl hl (by decide) rfl (fun ls hl => ?_)
    refine lv_iload_n hx hb dX8_came_21 rfl (lv_at hl 0 rfl) ?_
    refine lv_if_ge (tgt := 29) hx hb dX8_came_22 (by decide) (fun c22_84 => ?_) (fun c22_84 => ?_)
    · skip
      have ic22_84 := Int32.le_iff_toInt_le.mp c22_84
      have q85 : rg (0) (2147483646) v82 := (rg_le c22_84 kc_0 rv82).2
      have uq85 : (0 : Int) ≤ v82.toInt ∧ v82.toInt ≤ 2147483646 := q85
      refine lv_aload_n hx hb dX8_came_29 rfl (lv_at hl 1 rfl) ?_
      have al86 : Z.al 12 (Z.n + i0) := hz.2 12 (Z.n + i0) (show (Z.n + i0) < 2 * Z.n from (by omega))
      refine c_getr (a := Z.ad 12 (Z.n + i0)) x L81 10 i0 2 hal0 rfl rfl (wk_in kf_X8_10) dX8_came_30 ?_
      refine lv_iload_n hx hb dX8_came_33 rfl (lv_at hl 0 rfl) ?_
      have y87 := congrArg Int32.toInt (congrFun ((show mFr [] g g81 from (mFr.tr mFr.rf hp81.1 rfl)).at 386 rfl) (Z.n + i0))
      refine c_cr (As := [.int v82]) (rest := []) x hml L81 12 (Z.n + i0) al86 rfl (c_klget l X g81 (Z.n + i0) v82 hX hp81.2.2.1 (show (Z.n + i0) < 2 * Z.n from (by omega)) (by omega)) (wk_V kd_Jx4a65c_get_915e3 kl_X8_28 ki_Jx4a65c_get_915e3 ks_Jx4a65c_Jx4a65c_get_915e3 kn_Jx4a65c) rfl ⟨rfl, rfl⟩ hd_klget ⟨Nat.le_of_ble_eq_true rfl, Nat.le_of_ble_eq_true rfl⟩ rfl hl.1 rfl (lv_room (Nat.le_of_ble_eq_true rfl)) dX8_came_34 (fun v89 g88 H88 k88 hp88 L88 => ?_) hcs
      have hvv89 := hp88.2.2
      refine c_top (show Value.ref (Z.ad 1 v89.toInt.toNat) = va_rf (cOpt Z 1 v89) from (by rw [cOpt_some hvv89.1]; rfl)) ?_
      refine c_cast x L88 1 v89.toInt.toNat hvv89.2.1 rfl (wk_in kc_lX8_32) dX8_came_37 ?_
      refine lv_astore (lv' := [(4, .ref (Z.ad 1 v89.toInt.toNat)), (3, .int v82), (0, .ref (Z.ad 10 i0)), (1, .ref (Z.ad 9 q1)), (2, .int p2)]) hx hb dX8_came_40 hl (by decide) rfl (fun ls hl => ?_)
      refine lv_aload hx hb dX8_came_42 (lv_at hl 0 rfl) ?_
      refine lv_ifnull hx hb dX8_came_44 ?_
      refine lv_aload hx hb dX8_came_47 (lv_at hl 0 rfl) ?_
      refine c_ci (As := []) (rest := []) x hml L88 1 v89.toInt.toNat hvv89.2.1 rfl (c_kisOpen l X g88 v89.toInt.toNat hX hvv89.2.1) (wk_V kd_X1_isOpen kl_X8_34 ki_X1_isOpen ks_X1_X1_isOpen kn_X1) rfl ⟨rfl, rfl⟩ hd_kisOpen ⟨Nat.le_of_ble_eq_true rfl, Nat.le_of_ble_eq_true rfl⟩ rfl hl.1 rfl (lv_room (Nat.le_of_ble_eq_true rfl)) dX8_came_49 (fun v91 g90 H90 k90 hp90 L90 => ?_) hcs
      have rv91 : rg (0) (1) v91 := hp90.2.1
      have uv91 : (0 : Int) ≤ v91.toInt ∧ v91.toInt ≤ 1 := rv91
      refine lv_if_ne (tgt := 108) hx hb dX8_came_52 (by decide) (fun c52_92 => ?_) (fun c52_92 => ?_)
      · skip
        have ic52_92 : v91.toInt ≠ (0 : Int32).toInt := fun z => c52_92 (Int32.toInt_inj.mp z)
        have y93 : (0 : Int32).toInt = 0 := by decide
        have q94 : rg (1) (1) v91 := rg_neL c52_92 rv91 kc_0
        have uq94 : (1 : Int) ≤ v91.toInt ∧ v91.toInt ≤ 1 := q94
        refine lv_aload_n hx hb dX8_came_108 rfl (lv_at hl 3 rfl) ?_
        refine c_geti x L90 9 q1 0 288 hq1 rfl rfl (wk_in kf_X8_63) dX8_came_109 (fun v95 ev95 wv95 => ?_)
        have rv95 : rg (-2147483648) (2147483647) v95 := rg_any v95
        have uv95 : (-2147483648 : Int) ≤ v95.toInt ∧ v95.toInt ≤ 2147483647 := rv95
        have sv95 : v95.toInt = (g 288 q1).toInt := congrArg Int32.toInt (ev95.trans (congrFun ((show mFr [32, 33, 34, 35, 36, 37, 38, 39, 40, 41, 42, 43, 44, 45, 46, 47, 48, 49, 198, 323, 384, 385, 386, 832, 864, 1728, 1729] g g90 from (mFr.tr (mFr.tr (mFr.tr mFr.rf hp81.1 rfl) hp88.1 rfl) hp90.1 rfl)).at 288 rfl) _))
        refine lv_bipush (v := 77) hx hb dX8_came_112 (by decide) ?_
        refine lv_icmp_eq (tgt := 126) hx hb dX8_came_114 (by decide) (fun c114_96 => ?_) (fun c114_96 => ?_)
        · skip
          have ic114_96 := congrArg Int32.toInt c114_96
          have y97 : (77 : Int32).toInt = 77 := by decide
          have q98 : rg (77) (77) v95 := (rg_eq c114_96 rv95 kc_77).1
          have uq98 : (77 : Int) ≤ v95.toInt ∧ v95.toInt ≤ 77 := q98
          refine lv_aload_n hx hb dX8_came_126 rfl (lv_at hl 2 rfl) ?_
          refine lv_aload hx hb dX8_came_127 (lv_at hl 0 rfl) ?_
          refine lv_aload_n hx hb dX8_came_129 rfl (lv_at hl 3 rfl) ?_
          refine lv_iload_n hx hb dX8_came_130 rfl (lv_at hl 4 rfl) ?_
          refine c_cvU (n := 3) (owner := "CellSwitch$Side") (x0 := ⟨"CellSwitch$Side", "cleared", "(LCellSwitch$Call;LCellSwitch$Signal;I)V"⟩) (As := [.ref (Z.ad 1 v89.toInt.toNat), .ref (Z.ad 9 q1), .int p2]) (rest := []) x hml L90 10 i0 hal0 rfl (c_kcleared_10 l X g90 i0 v89.toInt.toNat q1 p2 hX (cJ_fr hp88.2.1 hp90.1 rfl) (show i0 < Z.n from (by omega)) hvv89.2.1 hq1) (wk_U kd_X8_cleared kl_X8_74 km_CellSwitchSide_CellSwitchSide_cleared ks_X10_CellSwitchSide_X8_cleared ki_X8_cleared kn_X8) rfl ⟨rfl, rfl⟩ rfl (by decide +kernel) ⟨Nat.le_of_ble_eq_true rfl, Nat.le_of_ble_eq_true rfl⟩ rfl hl.1 rfl (lv_room (Nat.le_of_ble_eq_true rfl)) dX8_came_131 (fun  g99 H99 k99 hp99 L99 => ?_) hcs
          refine lv_goto (tgt := 153) hx hb dX8_came_134 (by decide) ?_
          exact k_vret xa L99 hr hlocks (Int.le_refl _) hzl ⟨(mFr.tr (mFr.tr (mFr.tr (mFr.tr mFr.rf hp81.1 rfl) hp88.1 rfl) hp90.1 rfl) hp99.1 rfl), hp99.2.1, (fun s => by have hl := congrArg Int32.toInt (congrFun ((show mFr [36, 40, 41, 42, 44, 45, 46, 48, 198, 832, 864] g g99 from (mFr.tr (mFr.tr (mFr.tr (mFr.tr mFr.rf hp81.1 rfl) hp88.1 rfl) hp90.1 rfl) hp99.1 rfl)).at 386 rfl) s); omega), (by omega), trivial⟩ hcs.1 hcs.2 dX8_came_153
        · skip
          have ic114_96 : v95.toInt ≠ (77 : Int32).toInt := fun z => c114_96 (Int32.toInt_inj.mp z)
          have y100 : (77 : Int32).toInt = 77 := by decide
          refine lv_aload_n hx hb dX8_came_117 rfl (lv_at hl 3 rfl) ?_
          refine c_geti x L90 9 q1 0 288 hq1 rfl rfl (wk_in kf_X8_63) dX8_came_118 (fun v101 ev101 wv101 => ?_)
          refine m_top ((ev95).trans ev101.symm) ?_
          refine lv_bipush (v := 90) hx hb dX8_came_121 (by decide) ?_
          refine lv_icmp_ne (tgt := 137) hx hb dX8_came_123 (by decide) (fun c123_102 => ?_) (fun c123_102 => ?_)
          · skip
            have ic123_102 : v95.toInt ≠ (90 : Int32).toInt := fun z => c123_102 (Int32.toInt_inj.mp z)
            have y103 : (90 : Int32).toInt = 90 := by decide
            refine lv_aload_n hx hb dX8_came_137 rfl (lv_at hl 3 rfl) ?_
            refine c_geti x L90 9 q1 0 288 hq1 rfl rfl (wk_in kf_X8_63) dX8_came_138 (fun v104 ev104 wv104 => ?_)
            refine m_top ((ev95).trans ev104.symm) ?_
            refine lv_iconst (v := 5) hx hb dX8_came_141 (by decide) ?_
            refine lv_icmp_eq (tgt := 153) hx hb dX8_came_142 (by decide) (fun c142_105 => ?_) (fun c142_105 => ?_)
            · skip
              have ic142_105 := congrArg Int32.toInt c142_105
              have y106 : (5 : Int32).toInt = 5 := by decide
              have q107 : rg (5) (5) v95 := (rg_eq c142_105 rv95 kc_5).1
              have uq107 : (5 : Int) ≤ v95.toInt ∧ v95.toInt ≤ 5 := q107
              exact k_vret xa L90 hr hlocks (Int.le_refl _) hzl ⟨(mFr.tr (mFr.tr (mFr.tr mFr.rf hp81.1 rfl) hp88.1 rfl) hp90.1 rfl), (cJ_fr hp88.2.1 hp90.1 rfl), (fun s => by have hl := congrArg Int32.toInt (congrFun ((show mFr [] g g90 from (mFr.tr (mFr.tr (mFr.tr mFr.rf hp81.1 rfl) hp88.1 rfl) hp90.1 rfl)).at 386 rfl) s); omega), (by omega), trivial⟩ hcs.1 hcs.2 dX8_came_153
            · skip
              have ic142_105 : v95.toInt ≠ (5 : Int32).toInt := fun z => c142_105 (Int32.toInt_inj.mp z)
              have y108 : (5 : Int32).toInt = 5 := by decide
              refine lv_aload_n hx hb dX8_came_145 rfl (lv_at hl 2 rfl) ?_
              refine lv_aload hx hb dX8_came_146 (lv_at hl 0 rfl) ?_
              refine lv_aload_n hx hb dX8_came_148 rfl (lv_at hl 3 rfl) ?_
              refine lv_iload_n hx hb dX8_came_149 rfl (lv_at hl 4 rfl) ?_
              refine c_cvA (n := 3) (owner := "CellSwitch$Side") (x0 := ⟨"CellSwitch$Side", "progress", "(LCellSwitch$Call;LCellSwitch$Signal;I)V"⟩) (As := [.ref (Z.ad 1 v89.toInt.toNat), .ref (Z.ad 9 q1), .int p2]) (rest := []) x hml L90 10 i0 hal0 rfl (c_kprogress_10 l X g90 i0 v89.toInt.toNat q1 p2 hX (cJ_fr hp88.2.1 hp90.1 rfl) (show i0 < Z.n from (by omega)) hvv89.2.1 hq1) (wk_U kd_X10_progress kl_X8_78 km_CellSwitchSide_CellSwitchSide_progress ks_X10_CellSwitchSide_X10_progress ki_X10_progress kn_X10) rfl ⟨rfl, rfl⟩ (List.mem_of_getElem? (i := 2) rfl) (by decide +kernel) ⟨Nat.le_of_ble_eq_true rfl, Nat.le_of_ble_eq_true rfl⟩ rfl hl.1 rfl (lv_room (Nat.le_of_ble_eq_true rfl)) dX8_came_150 (fun  g109 H109 k109 hp109 L109 => ?_) hcs
              exact k_vret xa L109 hr hlocks (Int.le_refl _) hzl ⟨(mFr.tr (mFr.tr (mFr.tr (mFr.tr mFr.rf hp81.1 rfl) hp88.1 rfl) hp90.1 rfl) hp109.1 rfl), hp109.2.1, (fun s => by have hl := congrArg Int32.toInt (congrFun ((show mFr [36, 41, 42, 44, 45, 46, 48, 198, 832, 864] g g109 from (mFr.tr (mFr.tr (mFr.tr (mFr.tr mFr.rf hp81.1 rfl) hp88.1 rfl) hp90.1 rfl) hp109.1 rfl)).at 386 rfl) s); omega), (by omega), trivial⟩ hcs.1 hcs.2 dX8_came_153
          · skip
            have ic123_102 := congrArg Int32.toInt c123_102
            have y110 : (90 : Int32).toInt = 90 := by decide
            have q111 : rg (90) (90) v95 := (rg_eq c123_102 rv95 kc_90).1
            have uq111 : (90 : Int) ≤ v95.toInt ∧ v95.toInt ≤ 90 := q111
            refine lv_aload_n hx hb dX8_came_126 rfl (lv_at hl 2 rfl) ?_
            refine lv_aload hx hb dX8_came_127 (lv_at hl 0 rfl) ?_
            refine lv_aload_n hx hb dX8_came_129 rfl (lv_at hl 3 rfl) ?_
            refine lv_iload_n hx hb dX8_came_130 rfl (lv_at hl 4 rfl) ?_
            refine c_cvU (n := 3) (owner := "CellSwitch$Side") (x0 := ⟨"CellSwitch$Side", "cleared", "(LCellSwitch$Call;LCellSwitch$Signal;I)V"⟩) (As := [.ref (Z.ad 1 v89.toInt.toNat), .ref (Z.ad 9 q1), .int p2]) (rest := []) x hml L90 10 i0 hal0 rfl (c_kcleared_10 l X g90 i0 v89.toInt.toNat q1 p2 hX (cJ_fr hp88.2.1 hp90.1 rfl) (show i0 < Z.n from (by omega)) hvv89.2.1 hq1) (wk_U kd_X8_cleared kl_X8_74 km_CellSwitchSide_CellSwitchSide_cleared ks_X10_CellSwitchSide_X8_cleared ki_X8_cleared kn_X8) rfl ⟨rfl, rfl⟩ rfl (by decide +kernel) ⟨Nat.le_of_ble_eq_true rfl, Nat.le_of_ble_eq_true rfl⟩ rfl hl.1 rfl (lv_room (Nat.le_of_ble_eq_true rfl)) dX8_came_131 (fun  g112 H112 k112 hp112 L112 => ?_) hcs
            refine lv_goto (tgt := 153) hx hb dX8_came_134 (by decide) ?_
            exact k_vret xa L112 hr hlocks (Int.le_refl _) hzl ⟨(mFr.tr (mFr.tr (mFr.tr (mFr.tr mFr.rf hp81.1 rfl) hp88.1 rfl) hp90.1 rfl) hp112.1 rfl), hp112.2.1, (fun s => by have hl := congrArg Int32.toInt (congrFun ((show mFr [36, 40, 41, 42, 44, 45, 46, 48, 198, 832, 864] g g112 from (mFr.tr (mFr.tr (mFr.tr (mFr.tr mFr.rf hp81.1 rfl) hp88.1 rfl) hp90.1 rfl) hp112.1 rfl)).at 386 rfl) s); omega), (by omega), trivial⟩ hcs.1 hcs.2 dX8_came_153
      · skip
        have ic52_92 := congrArg Int32.toInt c52_92
        have y113 : (0 : Int32).toInt = 0 := by decide
        have q114 : rg (0) (0) v91 := (rg_eq c52_92 rv91 kc_0).1
        have uq114 : (0 : Int) ≤ v91.toInt ∧ v91.toInt ≤ 0 := q114
        refine lv_aload_n hx hb dX8_came_55 rfl (lv_at hl 3 rfl) ?_
        refine c_geti x L90 9 q1 0 288 hq1 rfl rfl (wk_in kf_X8_63) dX8_came_56 (fun v115 ev115 wv115 => ?_)
        have rv115 : rg (-2147483648) (2147483647) v115 := rg_any v115
        have uv115 : (-2147483648 : Int) ≤ v115.toInt ∧ v115.toInt ≤ 2147483647 := rv115
        have sv115 : v115.toInt = (g 288 q1).toInt := congrArg Int32.toInt (ev115.trans (congrFun ((show mFr [32, 33, 34, 35, 36, 37, 38, 39, 40, 41, 42, 43, 44, 45, 46, 47, 48, 49, 198, 323, 384, 385, 386, 832, 864, 1728, 1729] g g90 from (mFr.tr (mFr.tr (mFr.tr mFr.rf hp81.1 rfl) hp88.1 rfl) hp90.1 rfl)).at 288 rfl) _))
        refine lv_iconst (v := 5) hx hb dX8_came_59 (by decide) ?_
        refine lv_icmp_ne (tgt := 72) hx hb dX8_came_60 (by decide) (fun c60_116 => ?_) (fun c60_116 => ?_)
        · skip
          have ic60_116 : v115.toInt ≠ (5 : Int32).toInt := fun z => c60_116 (Int32.toInt_inj.mp z)
          have y117 : (5 : Int32).toInt = 5 := by decide
          refine lv_aload_n hx hb dX8_came_72 rfl (lv_at hl 3 rfl) ?_
          refine c_geti x L90 9 q1 0 288 hq1 rfl rfl (wk_in kf_X8_63) dX8_came_73 (fun v118 ev118 wv118 => ?_)
          refine m_top ((ev115).trans ev118.symm) ?_
          refine lv_bipush (v := 77) hx hb dX8_came_76 (by decide) ?_
          refine lv_icmp_ne (tgt := 153) hx hb dX8_came_78 (by decide) (fun c78_119 => ?_) (fun c78_119 => ?_)
          · skip
            have ic78_119 : v115.toInt ≠ (77 : Int32).toInt := fun z => c78_119 (Int32.toInt_inj.mp z)
            have y120 : (77 : Int32).toInt = 77 := by decide
            exact k_vret xa L90 hr hlocks (Int.le_refl _) hzl ⟨(mFr.tr (mFr.tr (mFr.tr mFr.rf hp81.1 rfl) hp88.1 rfl) hp90.1 rfl), (cJ_fr hp88.2.1 hp90.1 rfl), (fun s => by have hl := congrArg Int32.toInt (congrFun ((show mFr [] g g90 from (mFr.tr (mFr.tr (mFr.tr mFr.rf hp81.1 rfl) hp88.1 rfl) hp90.1 rfl)).at 386 rfl) s); omega), (by omega), trivial⟩ hcs.1 hcs.2 dX8_came_153
          · skip
            have ic78_119 := congrArg Int32.toInt c78_119
            have y121 : (77 : Int32).toInt = 77 := by decide
            have q122 : rg (77) (77) v115 := (rg_eq c78_119 rv115 kc_77).1
            have uq122 : (77 : Int) ≤ v115.toInt ∧ v115.toInt ≤ 77 := q122
            refine lv_aload_n hx hb dX8_came_81 rfl (lv_at hl 2 rfl) ?_
            refine lv_bipush (v := 90) hx hb dX8_came_82 (by decide) ?_
            refine lv_aload_n hx hb dX8_came_84 rfl (lv_at hl 3 rfl) ?_
            refine c_geti x L90 9 q1 1 289 hq1 rfl rfl (wk_in kf_X8_57) dX8_came_85 (fun v123 ev123 wv123 => ?_)
            refine m_top (((mm_fr (mm_fr (mm_fr ev1 hp81.1 rfl) hp88.1 rfl) hp90.1 rfl)).trans ev123.symm) ?_
            refine lv_aload_n hx hb dX8_came_88 rfl (lv_at hl 3 rfl) ?_
            refine c_geti x L90 9 q1 2 290 hq1 rfl rfl (wk_in kf_X8_60) dX8_came_89 (fun v124 ev124 wv124 => ?_)
            refine m_top (((mm_fr (mm_fr (mm_fr ev2 hp81.1 rfl) hp88.1 rfl) hp90.1 rfl)).trans ev124.symm) ?_
            refine lv_if_ne (tgt := 99) hx hb dX8_came_92 (by decide) (fun c92_125 => ?_) (fun c92_125 => ?_)
            · skip
              have ic92_125 : v2.toInt ≠ (0 : Int32).toInt := fun z => c92_125 (Int32.toInt_inj.mp z)
              have y126 : (0 : Int32).toInt = 0 := by decide
              exact absurd (rg_neH c92_125 q80 kc_0 : rg (0) (-1) v2) (fun q => rg_dead q rfl)
            · skip
              have ic92_125 := congrArg Int32.toInt c92_125
              have y127 : (0 : Int32).toInt = 0 := by decide
              refine lv_iconst (v := 1) hx hb dX8_came_95 (by decide) ?_
              refine lv_goto (tgt := 100) hx hb dX8_came_96 (by decide) ?_
              refine lv_bipush (v := 81) hx hb dX8_came_100 (by decide) ?_
              refine c_cvU (n := 4) (owner := "CellSwitch$Side") (x0 := ⟨"CellSwitch$Side", "sayCause", "(IIZI)V"⟩) (As := [.int (90 : Int32), .int v1, .int (1 : Int32), .int (81 : Int32)]) (rest := []) x hml L90 10 i0 hal0 rfl (c_ksayCause_10 l X g90 i0 (90 : Int32) v1 (1 : Int32) (81 : Int32) hX (show i0 < Z.n from (by omega)) (rg_w kc_1 rfl)) (wk_U kd_X8_sayCause kl_X8_70 km_CellSwitchSide_CellSwitchSide_sayCause ks_X10_CellSwitchSide_X8_sayCause ki_X8_sayCause kn_X8) rfl ⟨rfl, rfl⟩ rfl (by decide +kernel) ⟨Nat.le_of_ble_eq_true rfl, Nat.le_of_ble_eq_true rfl⟩ rfl hl.1 rfl (lv_room (Nat.le_of_ble_eq_true rfl)) dX8_came_102 (fun  g128 H128 k128 hp128 L128 => ?_) hcs
              refine lv_goto (tgt := 153) hx hb dX8_came_105 (by decide) ?_
              exact k_vret xa L128 hr hlocks (Int.le_refl _) hzl ⟨(mFr.tr (mFr.tr (mFr.tr (mFr.tr mFr.rf hp81.1 rfl) hp88.1 rfl) hp90.1 rfl) hp128.1 rfl), (cJ_fr (cJ_fr hp88.2.1 hp90.1 rfl) hp128.1 rfl), (fun s => by have hl := congrArg Int32.toInt (congrFun ((show mFr [198, 832, 864] g g128 from (mFr.tr (mFr.tr (mFr.tr (mFr.tr mFr.rf hp81.1 rfl) hp88.1 rfl) hp90.1 rfl) hp128.1 rfl)).at 386 rfl) s); omega), (by omega), trivial⟩ hcs.1 hcs.2 dX8_came_153
        · skip
          have ic60_116 := congrArg Int32.toInt c60_116
          have y129 : (5 : Int32).toInt = 5 := by decide
          have q130 : rg (5) (5) v115 := (rg_eq c60_116 rv115 kc_5).1
          have uq130 : (5 : Int) ≤ v115.toInt ∧ v115.toInt ≤ 5 := q130
          refine lv_aload_n hx hb dX8_came_63 rfl (lv_at hl 2 rfl) ?_
          refine lv_aload_n hx hb dX8_came_64 rfl (lv_at hl 3 rfl) ?_
          refine lv_iload_n hx hb dX8_came_65 rfl (lv_at hl 4 rfl) ?_
          have y131 := congrArg Int32.toInt (congrFun ((show mFr [] g g90 from (mFr.tr (mFr.tr (mFr.tr mFr.rf hp81.1 rfl) hp88.1 rfl) hp90.1 rfl)).at 291 rfl) (q1))
          have e386_132 := ((show mFr [] g g90 from (mFr.tr (mFr.tr (mFr.tr mFr.rf hp81.1 rfl) hp88.1 rfl) hp90.1 rfl)).at 386 rfl)
          have hMz132 := cMz.eq hMz e386_132 (show 2 ≤ 2 by decide)
          refine k_callv xa L90 (k_runU (x := ⟨"CellSwitch$Side", "setupCame", "(LCellSwitch$Signal;I)V"⟩) (As := [.ref (Z.ad 9 q1), .int p2]) (rest := []) ⟨hx, hb, hml, x.2.2.2.2.1, x.2.2.1⟩ (c_ksetupCame_10 l X g90 i0 q1 p2 _ ms hX (cJ_fr hp88.2.1 hp90.1 rfl) hMz132 (by omega) (show i0 < Z.n from (by omega)) hq1 (by omega)) (va_cwA 2 x.2.2.1 (wk_U (owner := "CellSwitch$Side") kd_X10_setupCame kl_X8_66 km_CellSwitchSide_CellSwitchSide_setupCame ks_X10_CellSwitchSide_X10_setupCame ki_X10_setupCame kn_X10) rfl rfl rfl (x.2.2.2.2.2.2.2.2.2.1.2 _ (List.mem_of_getElem? (i := 1) rfl)) (by decide +kernel) ⟨Nat.le_of_ble_eq_true rfl, Nat.le_of_ble_eq_true rfl⟩) ⟨cPreA.blind, c_recv x L90 hal0 rfl, fun U hU hW => k_pre xa L90 U hU hW⟩ rfl rfl hl.1 rfl (lv_room (Nat.le_of_ble_eq_true rfl)) dX8_came_66 ⟨show 0 + 4 ≤ 4 by omega, show 0 + (36 + 2 * ms) ≤ 36 + 2 * ms by omega⟩) (fun  Z g132 H132 k132 kc132 kn132 hk132 hn132 hp132 hz132 xa L132 => ?_)
          have hsg132 := hp132.2.2.1
          have hww132 := hp132.2.2.2.1
          have ea132_0 := hz132.2.2.1 1 v89.toInt.toNat hvv89.2.1 (by omega)
          have ea132_1 := hz132.2.2.1 10 i0 hal0 (by omega)
          have ea132_2 := hz132.2.2.1 9 q1 hq1 (by omega)
          rw [← ea132_0] at hl
          rw [← ea132_1] at hl
          rw [← ea132_2] at hl
          have al132_0 := hz132.2.1 1 v89.toInt.toNat hvv89.2.1
          have al132_1 := hz132.2.1 10 i0 hal0
          have al132_2 := hz132.2.1 9 q1 hq1
          have hZn132 := hz132.1
          have x := xa.1
          have hz := x.2.2.2.2.2.2.2.1
          have hzn := hz.1
          have hMy133 := (cMz.fr (a := 0) (b := 2) (show cMz ms (0 + 2) _ _ from cMz.eq hMz e386_132 (show 0 + 2 ≤ 2 by decide)) hz132.1 (fun s => (hsg132 s).2))
          have hzl := cZl.tr hzl hz132
          have hcs : 0 + kc132 ≤ 4 ∧ 0 + kn132 ≤ 36 + 2 * ms := by omega
          refine lv_goto (tgt := 153) hx hb dX8_came_69 (by decide) ?_
          exact k_vret xa L132 hr hlocks (Int.le_refl _) hzl ⟨(mFr.tr (mFr.tr (mFr.tr (mFr.tr mFr.rf hp81.1 rfl) hp88.1 rfl) hp90.1 rfl) hp132.1 rfl), hp132.2.1, (fun s => by have h0 := congrArg Int32.toInt (congrFun e386_132 s); have w0 := hsg132 s; have hl := congrArg Int32.toInt (congrFun ((show mFr [] g132 g132 from mFr.rf).at 386 rfl) s); omega), (by omega), trivial⟩ hcs.1 hcs.2 dX8_came_153
    · skip
      have ic22_84 := Int32.lt_iff_toInt_lt.mp (rg_nle c22_84)
      have q134 : rg (-1) (-1) v82 := (rg_lt (rg_nle c22_84) rv82 kc_0).1
      have uq134 : (-1 : Int) ≤ v82.toInt ∧ v82.toInt ≤ -1 := q134
      refine lv_null hx hb dX8_came_25 ?_
      refine lv_goto (tgt := 40) hx hb dX8_came_26 (by decide) ?_
      refine lv_astoreN (lv' := [(4, .null), (3, .int v82), (0, .ref (Z.ad 10 i0)), (1, .ref (Z.ad 9 q1)), (2, .int p2)]) hx hb dX8_came_40 hl (by decide) rfl (fun ls hl => ?_)
      refine lv_aloadN hx hb dX8_came_42 (lv_at hl 0 rfl) ?_
      refine lv_ifnullN (tgt := 55) hx hb dX8_came_44 (by decide) ?_
      refine lv_aload_n hx hb dX8_came_55 rfl (lv_at hl 3 rfl) ?_
      refine c_geti x L81 9 q1 0 288 hq1 rfl rfl (wk_in kf_X8_63) dX8_came_56 (fun v135 ev135 wv135 => ?_)
      have rv135 : rg (-2147483648) (2147483647) v135 := rg_any v135
      have uv135 : (-2147483648 : Int) ≤ v135.toInt ∧ v135.toInt ≤ 2147483647 := rv135
      have sv135 : v135.toInt = (g 288 q1).toInt := congrArg Int32.toInt (ev135.trans (congrFun ((show mFr [32, 33, 34, 35, 36, 37, 38, 39, 40, 41, 42, 43, 44, 45, 46, 47, 48, 49, 198, 323, 384, 385, 386, 832, 864, 1728, 1729] g g81 from (mFr.tr mFr.rf hp81.1 rfl)).at 288 rfl) _))
      refine lv_iconst (v := 5) hx hb dX8_came_59 (by decide) ?_
      refine lv_icmp_ne (tgt := 72) hx hb dX8_came_60 (by decide) (fun c60_136 => ?_) (fun c60_136 => ?_)
      · skip
        have ic60_136 : v135.toInt ≠ (5 : Int32).toInt := fun z => c60_136 (Int32.toInt_inj.mp z)
        have y137 : (5 : Int32).toInt = 5 := by decide
        refine lv_aload_n hx hb dX8_came_72 rfl (lv_at hl 3 rfl) ?_
        refine c_geti x L81 9 q1 0 288 hq1 rfl rfl (wk_in kf_X8_63) dX8_came_73 (fun v138 ev138 wv138 => ?_)
        refine m_top ((ev135).trans ev138.symm) ?_
        refine lv_bipush (v := 77) hx hb dX8_came_76 (by decide) ?_
        refine lv_icmp_ne (tgt := 153) hx hb dX8_came_78 (by decide) (fun c78_139 => ?_) (fun c78_139 => ?_)
        · skip
          have ic78_139 : v135.toInt ≠ (77 : Int32).toInt := fun z => c78_139 (Int32.toInt_inj.mp z)
          have y140 : (77 : Int32).toInt = 77 := by decide
          exact k_vret xa L81 hr hlocks (Int.le_refl _) hzl ⟨(mFr.tr mFr.rf hp81.1 rfl), hp81.2.2.1, (fun s => by have hl := congrArg Int32.toInt (congrFun ((show mFr [] g g81 from (mFr.tr mFr.rf hp81.1 rfl)).at 386 rfl) s); omega), (by omega), trivial⟩ hcs.1 hcs.2 dX8_came_153
        · skip
          have ic78_139 := congrArg Int32.toInt c78_139
          have y141 : (77 : Int32).toInt = 77 := by decide
          have q142 : rg (77) (77) v135 := (rg_eq c78_139 rv135 kc_77).1
          have uq142 : (77 : Int) ≤ v135.toInt ∧ v135.toInt ≤ 77 := q142
          refine lv_aload_n hx hb dX8_came_81 rfl (lv_at hl 2 rfl) ?_
          refine lv_bipush (v := 90) hx hb dX8_came_82 (by decide) ?_
          refine lv_aload_n hx hb dX8_came_84 rfl (lv_at hl 3 rfl) ?_
          refine c_geti x L81 9 q1 1 289 hq1 rfl rfl (wk_in kf_X8_57) dX8_came_85 (fun v143 ev143 wv143 => ?_)
          refine m_top (((mm_fr ev1 hp81.1 rfl)).trans ev143.symm) ?_
          refine lv_aload_n hx hb dX8_came_88 rfl (lv_at hl 3 rfl) ?_
          refine c_geti x L81 9 q1 2 290 hq1 rfl rfl (wk_in kf_X8_60) dX8_came_89 (fun v144 ev144 wv144 => ?_)
          refine m_top (((mm_fr ev2 hp81.1 rfl)).trans ev144.symm) ?_
          refine lv_if_ne (tgt := 99) hx hb dX8_came_92 (by decide) (fun c92_145 => ?_) (fun c92_145 => ?_)
          · skip
            have ic92_145 : v2.toInt ≠ (0 : Int32).toInt := fun z => c92_145 (Int32.toInt_inj.mp z)
            have y146 : (0 : Int32).toInt = 0 := by decide
            exact absurd (rg_neH c92_145 q80 kc_0 : rg (0) (-1) v2) (fun q => rg_dead q rfl)
          · skip
            have ic92_145 := congrArg Int32.toInt c92_145
            have y147 : (0 : Int32).toInt = 0 := by decide
            refine lv_iconst (v := 1) hx hb dX8_came_95 (by decide) ?_
            refine lv_goto (tgt := 100) hx hb dX8_came_96 (by decide) ?_
            refine lv_bipush (v := 81) hx hb dX8_came_100 (by decide) ?_
            refine c_cvU (n := 4) (owner := "CellSwitch$Side") (x0 := ⟨"CellSwitch$Side", "sayCause", "(IIZI)V"⟩) (As := [.int (90 : Int32), .int v1, .int (1 : Int32), .int (81 : Int32)]) (rest := []) x hml L81 10 i0 hal0 rfl (c_ksayCause_10 l X g81 i0 (90 : Int32) v1 (1 : Int32) (81 : Int32) hX (show i0 < Z.n from (by omega)) (rg_w kc_1 rfl)) (wk_U kd_X8_sayCause kl_X8_70 km_CellSwitchSide_CellSwitchSide_sayCause ks_X10_CellSwitchSide_X8_sayCause ki_X8_sayCause kn_X8) rfl ⟨rfl, rfl⟩ rfl (by decide +kernel) ⟨Nat.le_of_ble_eq_true rfl, Nat.le_of_ble_eq_true rfl⟩ rfl hl.1 rfl (lv_room (Nat.le_of_ble_eq_true rfl)) dX8_came_102 (fun  g148 H148 k148 hp148 L148 => ?_) hcs
            refine lv_goto (tgt := 153) hx hb dX8_came_105 (by decide) ?_
            exact k_vret xa L148 hr hlocks (Int.le_refl _) hzl ⟨(mFr.tr (mFr.tr mFr.rf hp81.1 rfl) hp148.1 rfl), (cJ_fr hp81.2.2.1 hp148.1 rfl), (fun s => by have hl := congrArg Int32.toInt (congrFun ((show mFr [198, 832, 864] g g148 from (mFr.tr (mFr.tr mFr.rf hp81.1 rfl) hp148.1 rfl)).at 386 rfl) s); omega), (by omega), trivial⟩ hcs.1 hcs.2 dX8_came_153
      · skip
        have ic60_136 := congrArg Int32.toInt c60_136
        have y149 : (5 : Int32).toInt = 5 := by decide
        have q150 : rg (5) (5) v135 := (rg_eq c60_136 rv135 kc_5).1
        have uq150 : (5 : Int) ≤ v135.toInt ∧ v135.toInt ≤ 5 := q150
        refine lv_aload_n hx hb dX8_came_63 rfl (lv_at hl 2 rfl) ?_
        refine lv_aload_n hx hb dX8_came_64 rfl (lv_at hl 3 rfl) ?_
        refine lv_iload_n hx hb dX8_came_65 rfl (lv_at hl 4 rfl) ?_
        have y151 := congrArg Int32.toInt (congrFun ((show mFr [] g g81 from (mFr.tr mFr.rf hp81.1 rfl)).at 291 rfl) (q1))
        have e386_152 := ((show mFr [] g g81 from (mFr.tr mFr.rf hp81.1 rfl)).at 386 rfl)
        have hMz152 := cMz.eq hMz e386_152 (show 2 ≤ 2 by decide)
        refine k_callv xa L81 (k_runU (x := ⟨"CellSwitch$Side", "setupCame", "(LCellSwitch$Signal;I)V"⟩) (As := [.ref (Z.ad 9 q1), .int p2]) (rest := []) ⟨hx, hb, hml, x.2.2.2.2.1, x.2.2.1⟩ (c_ksetupCame_10 l X g81 i0 q1 p2 _ ms hX hp81.2.2.1 hMz152 (by omega) (show i0 < Z.n from (by omega)) hq1 (by omega)) (va_cwA 2 x.2.2.1 (wk_U (owner := "CellSwitch$Side") kd_X10_setupCame kl_X8_66 km_CellSwitchSide_CellSwitchSide_setupCame ks_X10_CellSwitchSide_X10_setupCame ki_X10_setupCame kn_X10) rfl rfl rfl (x.2.2.2.2.2.2.2.2.2.1.2 _ (List.mem_of_getElem? (i := 1) rfl)) (by decide +kernel) ⟨Nat.le_of_ble_eq_true rfl, Nat.le_of_ble_eq_true rfl⟩) ⟨cPreA.blind, c_recv x L81 hal0 rfl, fun U hU hW => k_pre xa L81 U hU hW⟩ rfl rfl hl.1 rfl (lv_room (Nat.le_of_ble_eq_true rfl)) dX8_came_66 ⟨show 0 + 4 ≤ 4 by omega, show 0 + (36 + 2 * ms) ≤ 36 + 2 * ms by omega⟩) (fun  Z g152 H152 k152 kc152 kn152 hk152 hn152 hp152 hz152 xa L152 => ?_)
        have hsg152 := hp152.2.2.1
        have hww152 := hp152.2.2.2.1
        have ea152_0 := hz152.2.2.1 10 i0 hal0 (by omega)
        have ea152_1 := hz152.2.2.1 9 q1 hq1 (by omega)
        rw [← ea152_0] at hl
        rw [← ea152_1] at hl
        have al152_0 := hz152.2.1 10 i0 hal0
        have al152_1 := hz152.2.1 9 q1 hq1
        have hZn152 := hz152.1
        have x := xa.1
        have hz := x.2.2.2.2.2.2.2.1
        have hzn := hz.1
        have hMy153 := (cMz.fr (a := 0) (b := 2) (show cMz ms (0 + 2) _ _ from cMz.eq hMz e386_152 (show 0 + 2 ≤ 2 by decide)) hz152.1 (fun s => (hsg152 s).2))
        have hzl := cZl.tr hzl hz152
        have hcs : 0 + kc152 ≤ 4 ∧ 0 + kn152 ≤ 36 + 2 * ms := by omega
        refine lv_goto (tgt := 153) hx hb dX8_came_69 (by decide) ?_
        exact k_vret xa L152 hr hlocks (Int.le_refl _) hzl ⟨(mFr.tr (mFr.tr mFr.rf hp81.1 rfl) hp152.1 rfl), hp152.2.1, (fun s => by have h0 := congrArg Int32.toInt (congrFun e386_152 s); have w0 := hsg152 s; have hl := congrArg Int32.toInt (congrFun ((show mFr [] g152 g152 from mFr.rf).at 386 rfl) s); omega), (by omega), trivial⟩ hcs.1 hcs.2 dX8_came_153

def rm_kxcall (ms : Nat) : Room := { frames := 10, cells := 2, slots := 18 + 1 * ms, locals := 230 }
theorem hd_kxcall : yX11_call.cls = cRn 11 ∧ yX11_call.cls ≠ "java/lang/invoke/MethodHandle" ∧ yX11_call.cls ≠ "java/lang/invoke/VarHandle" ∧ (parseMethodDescriptor yX11_call.desc).map (fun d => d.parameters.length) = some 3 := by decide +kernel
set_option maxHeartbeats 4000000 in
set_option maxRecDepth 100000 in
theorem c_kxcall (l : Launch) {G : cG} {Z : cZ} (X : Int) (g : mSt) (i0 : Nat) (p1 : Int32) (p2 : Int32) (p3 : Int32) (sz ms : Nat) (hX : 0 ≤ X ∧ X ≤ 2000000000) (hJ : cJ Z g) (hMz : cMz ms 1 Z g) (hw2 : Z.w 2 + 1 ≤ 1000000) (hal0 : Z.al 11 i0) : Met l yX11_call (wk (Cond.code yX11_call cX11_call 4 (some .int))) (rm_kxcall ms) (va_Pc [.ref (Z.ad 11 i0), .int p1, .int p2, .int p3] (cPreA G Z X g sz)) (kE 2 (18 + 1 * ms) (cAf Z sz) (cQiA G Z X (fun r Z1 g1 => mFr [32, 33, 34, 35, 36, 37, 38, 39, 40, 41, 42, 43, 44, 45, 46, 47, 48, 49, 131, 135, 198, 384, 385, 386, 832, 864, 1536, 1728, 1729] g g1 ∧ rg (-2147483648) (2147483647) r ∧ cJ Z1 g1 ∧ (∀ s, (g 386 s).toInt ≤ (g1 386 s).toInt ∧ (g1 386 s).toInt ≤ (g 386 s).toInt + 1) ∧ Z1.w 2 ≤ Z.w 2 + 1 ∧ True))) 2 (18 + 1 * ms) (cAf Z sz) := by
  refine Met.ofW (cc := cX11_call) (maxL := 4) (ret := (some .int)) (by decide) rfl ?_
  intro p e s m args below meth c s₁ B hml hv
  obtain ⟨hav, hv⟩ := hv
  have hsz0 := hv.2.1
  subst hsz0
  have hr := B.returns
  have hlocks := B.notSynchronized
  obtain ⟨xa, L⟩ := k_start B rfl (fun w h => wk_in h) hv
  have hent : entryFrame m args 4 = entryFrame m ([.ref (Z.ad 11 i0), .int p1, .int p2, .int p3] : List Value).toArray 4 := by rw [hav]
  rw [hent]
  have hl := lv_entry ([.ref (Z.ad 11 i0), .int p1, .int p2, .int p3]) (n := 4) (Nat.le_of_ble_eq_true rfl)
  rw [lg_entry_eq]
  generalize (lg_sl ([.ref (Z.ad 11 i0), .int p1, .int p2, .int p3]) ++ List.replicate (4 - (lg_sl ([.ref (Z.ad 11 i0), .int p1, .int p2, .int p3])).length) Slot.unset).toArray = ls at hl ⊢
  have hl : lv_has ls 4 [(0, .ref (Z.ad 11 i0)), (1, .int p1), (2, .int p2), (3, .int p3)] := hl
  have x := xa.1
  have hx := x.1
  have hb := x.2.1
  have hz := x.2.2.2.2.2.2.2.1
  have hzn := hz.1
  have hzl : cZl Z Z 0 0 := cZl.rf
  have hcs : 0 ≤ 2 ∧ 0 ≤ 18 + 1 * ms := ⟨Nat.zero_le _, Nat.zero_le _⟩
  have up1 : (-2147483648 : Int) ≤ p1.toInt ∧ p1.toInt ≤ 2147483647 := (rg_any p1)
  have up2 : (-2147483648 : Int) ≤ p2.toInt ∧ p2.toInt ≤ 2147483647 := (rg_any p2)
  have up3 : (-2147483648 : Int) ≤ p3.toInt ∧ p3.toInt ≤ 2147483647 := (rg_any p3)
  refine lv_aload_n hx hb dX11_call_0 rfl (lv_at hl 0 rfl) ?_
  refine lv_iload_n hx hb dX11_call_1 rfl (lv_at hl 1 rfl) ?_
  refine c_ci (As := [.int p1]) (rest := []) x hml L 11 i0 hal0 rfl (c_kisEnd l X g i0 p1 hX hal0) (wk_V kd_X11_isEnd kl_X11_223 ki_X11_isEnd ks_X11_X11_isEnd kn_X11) rfl ⟨rfl, rfl⟩ hd_kisEnd ⟨Nat.le_of_ble_eq_true rfl, Nat.le_of_ble_eq_true rfl⟩ rfl hl.1 rfl (lv_room (Nat.le_of_ble_eq_true rfl)) dX11_call_2 (fun v2 g1 H1 k1 hp1 L1 => ?_) hcs
  have rv2 : rg (0) (1) v2 := hp1.2.1
  have uv2 : (0 : Int) ≤ v2.toInt ∧ v2.toInt ≤ 1 := rv2
  have hw3 := hp1.2.2
  refine lv_if_eq (tgt := 31) hx hb dX11_call_5 (by decide) (fun c5_4 => ?_) (fun c5_4 => ?_)
  · skip
    have ic5_4 := congrArg Int32.toInt c5_4
    have y5 : (0 : Int32).toInt = 0 := by decide
    have q6 : rg (0) (0) v2 := (rg_eq c5_4 rv2 kc_0).1
    have uq6 : (0 : Int) ≤ v2.toInt ∧ v2.toInt ≤ 0 := q6
    refine lv_iconst (v := (-1)) hx hb dX11_call_31 (by decide) ?_
    exact k_iret (v := (-1 : Int32)) xa L1 hr hlocks (Int.le_refl _) hzl ⟨(mFr.tr mFr.rf hp1.1 rfl), rg_w kc_m1 rfl, (cJ_fr hJ hp1.1 rfl), (fun s => by have hl := congrArg Int32.toInt (congrFun ((show mFr [] g g1 from (mFr.tr mFr.rf hp1.1 rfl)).at 386 rfl) s); omega), (by omega), trivial⟩ hcs.1 hcs.2 dX11_call_32
  · skip
    have ic5_4 : v2.toInt ≠ (0 : Int32).toInt := fun z => c5_4 (Int32.toInt_inj.mp z)
    have y7 : (0 : Int32).toInt = 0 := by decide
    have q8 : rg (1) (1) v2 := rg_neL c5_4 rv2 kc_0
    have uq8 : (1 : Int) ≤ v2.toInt ∧ v2.toInt ≤ 1 := q8
    refine lv_aload_n hx hb dX11_call_8 rfl (lv_at hl 0 rfl) ?_
    refine lv_iload_n hx hb dX11_call_9 rfl (lv_at hl 2 rfl) ?_
    refine c_ci (As := [.int p2]) (rest := []) x hml L1 11 i0 hal0 rfl (c_kisEnd l X g1 i0 p2 hX hal0) (wk_V kd_X11_isEnd kl_X11_223 ki_X11_isEnd ks_X11_X11_isEnd kn_X11) rfl ⟨rfl, rfl⟩ hd_kisEnd ⟨Nat.le_of_ble_eq_true rfl, Nat.le_of_ble_eq_true rfl⟩ rfl hl.1 rfl (lv_room (Nat.le_of_ble_eq_true rfl)) dX11_call_10 (fun v10 g9 H9 k9 hp9 L9 => ?_) hcs
    have rv10 : rg (0) (1) v10 := hp9.2.1
    have uv10 : (0 : Int) ≤ v10.toInt ∧ v10.toInt ≤ 1 := rv10
    have hw11 := hp9.2.2
    refine lv_if_eq (tgt := 31) hx hb dX11_call_13 (by decide) (fun c13_12 => ?_) (fun c13_12 => ?_)
    · skip
      have ic13_12 := congrArg Int32.toInt c13_12
      have y13 : (0 : Int32).toInt = 0 := by decide
      have q14 : rg (0) (0) v10 := (rg_eq c13_12 rv10 kc_0).1
      have uq14 : (0 : Int) ≤ v10.toInt ∧ v10.toInt ≤ 0 := q14
      refine lv_iconst (v := (-1)) hx hb dX11_call_31 (by decide) ?_
      exact k_iret (v := (-1 : Int32)) xa L9 hr hlocks (Int.le_refl _) hzl ⟨(mFr.tr (mFr.tr mFr.rf hp1.1 rfl) hp9.1 rfl), rg_w kc_m1 rfl, (cJ_fr (cJ_fr hJ hp1.1 rfl) hp9.1 rfl), (fun s => by have hl := congrArg Int32.toInt (congrFun ((show mFr [] g g9 from (mFr.tr (mFr.tr mFr.rf hp1.1 rfl) hp9.1 rfl)).at 386 rfl) s); omega), (by omega), trivial⟩ hcs.1 hcs.2 dX11_call_32
    · skip
      have ic13_12 : v10.toInt ≠ (0 : Int32).toInt := fun z => c13_12 (Int32.toInt_inj.mp z)
      have y15 : (0 : Int32).toInt = 0 := by decide
      have q16 : rg (1) (1) v10 := rg_neL c13_12 rv10 kc_0
      have uq16 : (1 : Int) ≤ v10.toInt ∧ v10.toInt ≤ 1 := q16
      refine lv_iload_n hx hb dX11_call_16 rfl (lv_at hl 1 rfl) ?_
      refine lv_iload_n hx hb dX11_call_17 rfl (lv_at hl 2 rfl) ?_
      refine lv_icmp_eq (tgt := 31) hx hb dX11_call_18 (by decide) (fun c18_17 => ?_) (fun c18_17 => ?_)
      · skip
        have ic18_17 := congrArg Int32.toInt c18_17
        refine lv_iconst (v := (-1)) hx hb dX11_call_31 (by decide) ?_
        exact k_iret (v := (-1 : Int32)) xa L9 hr hlocks (Int.le_refl _) hzl ⟨(mFr.tr (mFr.tr mFr.rf hp1.1 rfl) hp9.1 rfl), rg_w kc_m1 rfl, (cJ_fr (cJ_fr hJ hp1.1 rfl) hp9.1 rfl), (fun s => by have hl := congrArg Int32.toInt (congrFun ((show mFr [] g g9 from (mFr.tr (mFr.tr mFr.rf hp1.1 rfl) hp9.1 rfl)).at 386 rfl) s); omega), (by omega), trivial⟩ hcs.1 hcs.2 dX11_call_32
      · skip
        have ic18_17 : p1.toInt ≠ p2.toInt := fun z => c18_17 (Int32.toInt_inj.mp z)
        refine lv_iload_n hx hb dX11_call_21 rfl (lv_at hl 3 rfl) ?_
        refine lv_iconst (v := 1) hx hb dX11_call_22 (by decide) ?_
        refine lv_icmp_lt (tgt := 31) hx hb dX11_call_23 (by decide) (fun c23_18 => ?_) (fun c23_18 => ?_)
        · skip
          have ic23_18 := Int32.lt_iff_toInt_lt.mp c23_18
          have q19 : rg (-2147483648) (0) p3 := (rg_lt c23_18 (rg_any p3) kc_1).1
          have uq19 : (-2147483648 : Int) ≤ p3.toInt ∧ p3.toInt ≤ 0 := q19
          refine lv_iconst (v := (-1)) hx hb dX11_call_31 (by decide) ?_
          exact k_iret (v := (-1 : Int32)) xa L9 hr hlocks (Int.le_refl _) hzl ⟨(mFr.tr (mFr.tr mFr.rf hp1.1 rfl) hp9.1 rfl), rg_w kc_m1 rfl, (cJ_fr (cJ_fr hJ hp1.1 rfl) hp9.1 rfl), (fun s => by have hl := congrArg Int32.toInt (congrFun ((show mFr [] g g9 from (mFr.tr (mFr.tr mFr.rf hp1.1 rfl) hp9.1 rfl)).at 386 rfl) s); omega), (by omega), trivial⟩ hcs.1 hcs.2 dX11_call_32
        · skip
          have ic23_18 := Int32.le_iff_toInt_le.mp (rg_nlt c23_18)
          have q20 : rg (1) (2147483647) p3 := (rg_le (rg_nlt c23_18) kc_1 (rg_any p3)).2
          have uq20 : (1 : Int) ≤ p3.toInt ∧ p3.toInt ≤ 2147483647 := q20
          refine lv_iload_n hx hb dX11_call_26 rfl (lv_at hl 3 rfl) ?_
          refine lv_iconst (v := 5) hx hb dX11_call_27 (by decide) ?_
          refine lv_icmp_le (tgt := 33) hx hb dX11_call_28 (by decide) (fun c28_21 => ?_) (fun c28_21 => ?_)
          · skip
            have ic28_21 := Int32.le_iff_toInt_le.mp c28_21
            have q22 : rg (1) (5) p3 := (rg_le c28_21 q20 kc_5).1
            have uq22 : (1 : Int) ≤ p3.toInt ∧ p3.toInt ≤ 5 := q22
            refine lv_aload_n hx hb dX11_call_33 rfl (lv_at hl 0 rfl) ?_
            have al23 : Z.al 51 0 := hz.2 51 0 (show 0 < 1 from (by omega))
            refine c_getr (a := Z.ad 51 0) x L9 11 i0 2 hal0 rfl rfl (wk_in kf_X11_63) dX11_call_34 ?_
            refine lv_iload_n hx hb dX11_call_37 rfl (lv_at hl 1 rfl) ?_
            refine c_ldr (a := Z.ad 4 p1.toInt.toNat) x L9 51 0 al23 rfl (by omega) (show p1.toInt < ((Z.n : Nat) : Int) from (by omega)) rfl dX11_call_38 ?_
            have al24 : Z.al 4 p1.toInt.toNat := hz.2 4 p1.toInt.toNat (show p1.toInt.toNat < Z.n from (by omega))
            refine lv_iload_n hx hb dX11_call_39 rfl (lv_at hl 2 rfl) ?_
            refine lv_iload_n hx hb dX11_call_40 rfl (lv_at hl 3 rfl) ?_
            refine lv_aload_n hx hb dX11_call_41 rfl (lv_at hl 0 rfl) ?_
            refine c_geti x L9 11 i0 10 362 hal0 rfl rfl (wk_in kf_X11_82) dX11_call_42 (fun v25 ev25 wv25 => ?_)
            have rv25 : rg (-2147483648) (2147483647) v25 := rg_any v25
            have uv25 : (-2147483648 : Int) ≤ v25.toInt ∧ v25.toInt ≤ 2147483647 := rv25
            have sv25 : v25.toInt = (g 362 i0).toInt := congrArg Int32.toInt (ev25.trans (congrFun ((show mFr [32, 33, 34, 35, 36, 37, 38, 39, 40, 41, 42, 43, 44, 45, 46, 47, 48, 49, 131, 135, 198, 384, 385, 386, 832, 864, 1536, 1728, 1729] g g9 from (mFr.tr (mFr.tr mFr.rf hp1.1 rfl) hp9.1 rfl)).at 362 rfl) _))
            have e386_26 := ((show mFr [] g g9 from (mFr.tr (mFr.tr mFr.rf hp1.1 rfl) hp9.1 rfl)).at 386 rfl)
            have hMz26 := cMz.eq hMz e386_26 (show 1 ≤ 1 by decide)
            refine k_calli xa L9 (k_runV (As := [.int p2, .int p3, .int v25]) (rest := []) ⟨hx, hb, hml, x.2.2.2.2.1, x.2.2.1⟩ (c_kaskc l X g9 p1.toInt.toNat p2 p3 v25 _ ms hX (cJ_fr (cJ_fr hJ hp1.1 rfl) hp9.1 rfl) hMz26 (by omega) (show p1.toInt.toNat < Z.n from (by omega))) (cwV 3 x.2.2.1 (wk_V kd_X4_ask kl_X11_226 ki_X4_ask ks_X4_X4_ask kn_X4) rfl rfl rfl hd_kaskc ⟨Nat.le_of_ble_eq_true rfl, Nat.le_of_ble_eq_true rfl⟩) ⟨cPreA.blind, c_recv x L9 al24 rfl, fun U hU hW => k_pre xa L9 U hU hW⟩ rfl rfl hl.1 rfl (lv_room (Nat.le_of_ble_eq_true rfl)) dX11_call_45 ⟨show 0 + 2 ≤ 2 by omega, show 0 + (18 + 1 * ms) ≤ 18 + 1 * ms by omega⟩) (fun v27 Z g26 H26 k26 kc26 kn26 hk26 hn26 hp26 hz26 xa L26 => ?_)
            have rv27 : rg (-2147483648) (2147483647) v27 := hp26.2.1
            have uv27 : (-2147483648 : Int) ≤ v27.toInt ∧ v27.toInt ≤ 2147483647 := rv27
            have hsg26 := hp26.2.2.2.1
            have hww26 := hp26.2.2.2.2.1
            have ea26_0 := hz26.2.2.1 11 i0 hal0 (by omega)
            rw [← ea26_0] at hl
            have al26_0 := hz26.2.1 11 i0 hal0
            have hZn26 := hz26.1
            have x := xa.1
            have hz := x.2.2.2.2.2.2.2.1
            have hzn := hz.1
            have hMy28 := (cMz.fr (a := 0) (b := 1) (show cMz ms (0 + 1) _ _ from cMz.eq hMz e386_26 (show 0 + 1 ≤ 1 by decide)) hz26.1 (fun s => (hsg26 s).2))
            have hzl := cZl.tr hzl hz26
            have hcs : 0 + kc26 ≤ 2 ∧ 0 + kn26 ≤ 18 + 1 * ms := by omega
            exact k_iret (v := v27) xa L26 hr hlocks (Int.le_refl _) hzl ⟨(mFr.tr (mFr.tr (mFr.tr mFr.rf hp1.1 rfl) hp9.1 rfl) hp26.1 rfl), rg_w rv27 rfl, hp26.2.2.1, (fun s => by have h0 := congrArg Int32.toInt (congrFun e386_26 s); have w0 := hsg26 s; have hl := congrArg Int32.toInt (congrFun ((show mFr [] g26 g26 from mFr.rf).at 386 rfl) s); omega), (by omega), trivial⟩ hcs.1 hcs.2 dX11_call_48
          · skip
            have ic28_21 := Int32.lt_iff_toInt_lt.mp (rg_nle c28_21)
            have q29 : rg (6) (2147483647) p3 := (rg_lt (rg_nle c28_21) kc_5 q20).2
            have uq29 : (6 : Int) ≤ p3.toInt ∧ p3.toInt ≤ 2147483647 := q29
            refine lv_iconst (v := (-1)) hx hb dX11_call_31 (by decide) ?_
            exact k_iret (v := (-1 : Int32)) xa L9 hr hlocks (Int.le_refl _) hzl ⟨(mFr.tr (mFr.tr mFr.rf hp1.1 rfl) hp9.1 rfl), rg_w kc_m1 rfl, (cJ_fr (cJ_fr hJ hp1.1 rfl) hp9.1 rfl), (fun s => by have hl := congrArg Int32.toInt (congrFun ((show mFr [] g g9 from (mFr.tr (mFr.tr mFr.rf hp1.1 rfl) hp9.1 rfl)).at 386 rfl) s); omega), (by omega), trivial⟩ hcs.1 hcs.2 dX11_call_32
