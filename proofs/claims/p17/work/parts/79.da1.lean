def rn_klset : Room := { frames := 2, cells := 0, slots := 0, locals := 43 }
def im_klset (i0 : Nat) (p1 : Int32) (p2 : Int32) : List (Nat × Nat × Nat) := [(1728, i0, 16777216)]
def po_klset (Z : cZ) (i0 : Nat) (p1 : Int32) (p2 : Int32) (g : mSt) (r : Int32) (Z1 : cZ) (g1 : mSt) : Prop := mFi (im_klset i0 p1 p2) g g1 ∧ mFr [1728] g g1 ∧ cJ Z1 g1 ∧ Z1.w 2 ≤ Z.w 2 + 0 ∧ True
def wp_klset (Z : cZ) (i0 : Nat) (p1 : Int32) (p2 : Int32) (g : mSt) (Φ : Int32 → cZ → mSt → Prop) : Prop :=
  ∀ (v1 : Int32), v1 = g 386 i0 → rg (-2147483648) (2147483647) v1 → wp_kcheckIndex Z p1 v1 g (fun (v3 : Int32) (g2 : mSt) => po_kcheckIndex Z p1 v1 g v3 g2 → wp_kelementData Z i0 p1 g2 (fun (v7 : Int32) (g6 : mSt) => po_kelementData Z i0 p1 g2 v7 g6 → ∀ (g9 : mSt), g9 = up2 g6 1728 (16777216 * i0 + p1.toNatClampNeg) p2 → Φ 0 Z g9))
set_option maxHeartbeats 4000000 in
set_option maxRecDepth 100000 in
theorem d_klset (l : Launch) {G : cG} {Z : cZ} (X : Int) (g : mSt) (i0 : Nat) (p1 : Int32) (p2 : Int32) (sz : Nat) (hX : 0 ≤ X ∧ X ≤ 2000000000) (hJ : cJ Z g) (hw2 : Z.w 2 + 0 ≤ 1000000) (hi0 : i0 < 2 * Z.n) (hc2 : 0 ≤ p2.toInt) (hq2 : Z.al 1 p2.toInt.toNat) (hlt : 0 ≤ p1.toInt ∧ p1.toInt < (g 386 i0).toInt) (hsd : (g 32 p2.toInt.toNat).toInt = (i0 : Int)) {Φ : Int32 → cZ → mSt → Prop} (hW : wfP (wp_klset Z i0 p1 p2 g Φ)) : Met l yJx4a65c_set_bcc79 (wk (Cond.code yJx4a65c_set_bcc79 cJx4a65c_set_bcc79 4 (some (.object "java/lang/Object")))) (rn_klset) (va_Pc [.ref (Z.ad 12 i0), .int p1, .ref (Z.ad 1 p2.toInt.toNat)] (cPreA G Z X g sz)) (kE 0 (0) (cAf Z sz) (cQrA G Z X (fun r Z1 g1 => wfP (Φ 0 Z1 g1) ∧ mFi (im_klset i0 p1 p2) g g1 ∧ (mFr [1728] g g1 ∧ cJ Z1 g1 ∧ Z1.w 2 ≤ Z.w 2 + 0 ∧ True)))) 0 (0) (cAf Z sz) := by
  refine Met.ofW (cc := cJx4a65c_set_bcc79) (maxL := 4) (ret := (some (.object "java/lang/Object"))) (by decide) rfl ?_
  intro p e s m args below meth c s₁ B hml hv
  obtain ⟨hav, hv⟩ := hv
  have hsz0 := hv.2.1
  subst hsz0
  have hr := B.returns
  have hlocks := B.notSynchronized
  obtain ⟨xa, L⟩ := k_start B rfl (fun w h => wk_in h) hv
  have hent : entryFrame m args 4 = entryFrame m ([.ref (Z.ad 12 i0), .int p1, .ref (Z.ad 1 p2.toInt.toNat)] : List Value).toArray 4 := by rw [hav]
  rw [hent]
  have hl := lv_entry ([.ref (Z.ad 12 i0), .int p1, .ref (Z.ad 1 p2.toInt.toNat)]) (n := 4) (Nat.le_of_ble_eq_true rfl)
  rw [lg_entry_eq]
  generalize (lg_sl ([.ref (Z.ad 12 i0), .int p1, .ref (Z.ad 1 p2.toInt.toNat)]) ++ List.replicate (4 - (lg_sl ([.ref (Z.ad 12 i0), .int p1, .ref (Z.ad 1 p2.toInt.toNat)])).length) Slot.unset).toArray = ls at hl ⊢
  have hl : lv_has ls 4 [(0, .ref (Z.ad 12 i0)), (1, .int p1), (2, .ref (Z.ad 1 p2.toInt.toNat))] := hl
  have x := xa.1
  have hx := x.1
  have hb := x.2.1
  have hz := x.2.2.2.2.2.2.2.1
  have hzn := hz.1
  have hzl : cZl Z Z 0 0 := cZl.rf
  have hcs : 0 ≤ 0 ∧ 0 ≤ 0 := ⟨Nat.zero_le _, Nat.zero_le _⟩
  have hal0 : Z.al 12 i0 := hz.2 12 i0 (show i0 < 2 * Z.n from hi0)
  have up1 : (-2147483648 : Int) ≤ p1.toInt ∧ p1.toInt ≤ 2147483647 := (rg_any p1)
  refine lv_iload_n hx hb dJx4a65c_set_bcc79_0 rfl (lv_at hl 1 rfl) ?_
  refine lv_aload_n hx hb dJx4a65c_set_bcc79_1 rfl (lv_at hl 0 rfl) ?_
  refine c_geti x L 12 i0 2 386 hal0 rfl rfl (wk_in kf_Jx4a65c_48) dJx4a65c_set_bcc79_2 (fun v1 ev1 wv1 => ?_)
  have rv1 : rg (-2147483648) (2147483647) v1 := rg_any v1
  replace hW := (wfP_i (wfP_i (wfP_a hW v1) ev1) rv1)
  have uv1 : (-2147483648 : Int) ≤ v1.toInt ∧ v1.toInt ≤ 2147483647 := rv1
  have sv1 : v1.toInt = (g 386 i0).toInt := congrArg Int32.toInt (ev1.trans (congrFun ((show mFr [1728] g g from mFr.rf).at 386 rfl) _))
  refine c_si (As := [.int p1, .int v1]) (rest := []) x hml L (d_kcheckIndex l X g p1 v1 hX (by omega) hW) (wk_T kt_J15_checkIndex_7cf53 kl_Jx4a65c_118 kn_J15 (wk_all kd_J15_checkIndex_7cf53)) rfl ⟨rfl, rfl⟩ hd_kcheckIndex ⟨Nat.le_of_ble_eq_true rfl, Nat.le_of_ble_eq_true rfl⟩ rfl hl.1 rfl (lv_room (Nat.le_of_ble_eq_true rfl)) dJx4a65c_set_bcc79_5 (fun v3 g2 H2 k2 hp2 L2 => ?_) hcs
  obtain ⟨hW, hi2, hp2⟩ := hp2
  replace hW := wfP_i hW ⟨hi2, hp2⟩
  have rv3 : rg (0) (2147483646) v3 := hp2.2.1
  have uv3 : (0 : Int) ≤ v3.toInt ∧ v3.toInt ≤ 2147483646 := rv3
  refine lv_pop hx hb dJx4a65c_set_bcc79_8 rfl ?_
  refine lv_aload_n hx hb dJx4a65c_set_bcc79_9 rfl (lv_at hl 0 rfl) ?_
  refine lv_iload_n hx hb dJx4a65c_set_bcc79_10 rfl (lv_at hl 1 rfl) ?_
  have y4 := congrArg Int32.toInt (congrFun ((show mFr [] g g2 from (mFr.tr mFr.rf hp2.1 rfl)).at 386 rfl) (i0))
  have y5 := congrArg Int32.toInt (mm_fr ev1 hp2.1 rfl)
  refine c_cr (As := [.int p1]) (rest := []) x hml L2 12 i0 hal0 rfl (d_kelementData l X g2 i0 p1 hX (cJ_fr hJ hp2.1 rfl) (show i0 < 2 * Z.n from (by omega)) (by omega) hW) (wk_V kd_Jx4a65c_elementData_915e3 kl_Jx4a65c_123 ki_Jx4a65c_elementData_915e3 ks_Jx4a65c_Jx4a65c_elementData_915e3 kn_Jx4a65c) rfl ⟨rfl, rfl⟩ hd_kelementData ⟨Nat.le_of_ble_eq_true rfl, Nat.le_of_ble_eq_true rfl⟩ rfl hl.1 rfl (lv_room (Nat.le_of_ble_eq_true rfl)) dJx4a65c_set_bcc79_11 (fun v7 g6 H6 k6 hp6 L6 => ?_) hcs
  obtain ⟨hW, hi6, hp6⟩ := hp6
  replace hW := wfP_i hW ⟨hi6, hp6⟩
  have hvv7 := hp6.2.2
  rw [(show mFr [1728] g g2 from (mFr.tr mFr.rf hp2.1 rfl)).at 32 rfl] at hvv7
  refine c_top (show Value.ref (Z.ad 1 v7.toInt.toNat) = va_rf (cOpt Z 1 v7) from (by rw [cOpt_some hvv7.1]; rfl)) ?_
  refine lv_astore_n (lv' := [(3, .ref (Z.ad 1 v7.toInt.toNat)), (0, .ref (Z.ad 12 i0)), (1, .int p1), (2, .ref (Z.ad 1 p2.toInt.toNat))]) hx hb dJx4a65c_set_bcc79_14 rfl hl (by decide) rfl (fun ls hl => ?_)
  refine lv_aload_n hx hb dJx4a65c_set_bcc79_15 rfl (lv_at hl 1 rfl) ?_
  have ho8 := cJ_own hp6.2.1 (s := i0) (by omega) (by rw [← (mm_fr (mm_fr ev1 hp2.1 rfl) hp6.1 rfl)]; omega)
  refine c_geto (w := .ref (Z.ad 54 i0)) x L6 12 i0 1 385 hal0 rfl rfl (by rw [cTo_own ho8.1]; rfl) (wk_in kf_Jx4a65c_9) dJx4a65c_set_bcc79_16 ?_
  refine lv_iload_n hx hb dJx4a65c_set_bcc79_19 rfl (lv_at hl 2 rfl) ?_
  refine lv_aload_n hx hb dJx4a65c_set_bcc79_20 rfl (lv_at hl 3 rfl) ?_
  refine c_str xa L6 54 i0 1728 ho8.2 (Or.inr rfl) rfl hp6.2.1 (i := p1) (by omega) (show p1.toInt < ((((g6 1729 i0).toInt.toNat : Nat)) : Int) from (by have := (hp6.2.1.2.2.1 i0 (by omega)).2.1; have : p1.toInt < (g6 386 i0).toInt := (by rw [← (mm_fr (mm_fr ev1 hp2.1 rfl) hp6.1 rfl)]; omega); omega)) hc2 hq2 dJx4a65c_set_bcc79_21 (fun g9 H9 k9 eg9 L9 => ?_)
  replace hW := (wfP_i (wfP_a hW g9) eg9)
  have hJ10 := cJ_set hp6.2.1 (by omega) (by show (((p1.toInt.toNat : Nat)) : Int) < _; have : p1.toInt < (g6 386 i0).toInt := (by rw [← (mm_fr (mm_fr ev1 hp2.1 rfl) hp6.1 rfl)]; omega); omega) ⟨hc2, hq2, by rw [(show mFr [1728] g g6 from (mFr.tr (mFr.tr mFr.rf hp2.1 rfl) hp6.1 rfl)).at 32 rfl]; omega⟩ eg9
  refine lv_aload_n hx hb dJx4a65c_set_bcc79_22 rfl (lv_at hl 0 rfl) ?_
  exact k_aret xa L9 hr (Or.inl ⟨_, rfl⟩) hlocks (Int.le_refl _) hzl ⟨hW, (mFi.up (mFi.sub (mFi.sub mFi.rf hi2 mSub_nil) hi6 mSub_nil) eg9 (mIn_at 0 rfl (Or.inr (mIx2 (show 0 ≤ p1.toInt by omega) (show p1.toInt < ((((g6 1729 i0).toInt.toNat : Nat)) : Int) from (by have := (hp6.2.1.2.2.1 i0 (by omega)).2.1; have : p1.toInt < (g6 386 i0).toInt := (by rw [← (mm_fr (mm_fr ev1 hp2.1 rfl) hp6.1 rfl)]; omega); omega)) (by have := (hp6.2.1.2.2.2.2.1.2 i0 (by omega)).1; omega))))), (mFr.upE (mFr.tr (mFr.tr mFr.rf hp2.1 rfl) hp6.1 rfl) eg9 rfl), hJ10, (by omega), trivial⟩ hcs.1 hcs.2 dJx4a65c_set_bcc79_23

def rn_kkeep_4 (n1 : Nat) : Room := { frames := 7, cells := 1, slots := 0 + n1, locals := 163 }
def im_kkeep_4 (i0 : Nat) (p1 : Int32) : List (Nat × Nat × Nat) := [(384, i0, 1), (385, i0, 1), (386, i0, 1), (1728, i0, 16777216), (1729, i0, 1)]
def po_kkeep_4 (Z : cZ) (i0 : Nat) (p1 : Int32) (g : mSt) (r : Int32) (Z1 : cZ) (g1 : mSt) : Prop := mFi (im_kkeep_4 i0 p1) g g1 ∧ mFr [384, 385, 386, 1728, 1729] g g1 ∧ cJ Z1 g1 ∧ Z1.w 2 ≤ Z.w 2 + 0 ∧ True
def wp_kkeep_4 (n1 : Nat) (Z : cZ) (i0 : Nat) (p1 : Int32) (g : mSt) (Φ : Int32 → cZ → mSt → Prop) : Prop :=
  ∀ (v1 : Int32), v1 = g 33 p1.toInt.toNat → rg (-2147483648) (2147483647) v1 → ∀ (v2 : Int32), v2 = g 34 p1.toInt.toNat → rg (0) (1) v2 → wp_kplaceOfReference_4 Z i0 v1 v2 g (fun (v4 : Int32) (g3 : mSt) => po_kplaceOfReference_4 Z i0 v1 v2 g v4 g3 → ((0 ≤ v4.toInt) → wp_klset Z i0 v4 p1 g3 (fun (v12 : Int32) (Z_11 : cZ) (g11 : mSt) => po_klset Z i0 v4 p1 g3 v12 Z_11 g11 → cZg Z Z_11 0 (0) → ∀ Z : cZ, Z = Z_11 → Φ 0 Z g11)) ∧ ((v4.toInt < 0) → wp_kladd n1 Z i0 p1 g3 (fun (v17 : Int32) (Z_16 : cZ) (g16 : mSt) => po_kladd Z i0 p1 g3 v17 Z_16 g16 → cZg Z Z_16 1 (0 + n1) → ∀ Z : cZ, Z = Z_16 → Φ 0 Z g16)))
set_option maxHeartbeats 4000000 in
set_option maxRecDepth 100000 in
theorem d_kkeep_4 (l : Launch) {G : cG} {Z : cZ} (X : Int) (g : mSt) (i0 : Nat) (p1 : Int32) (sz n1 : Nat) (hX : 0 ≤ X ∧ X ≤ 2000000000) (hJ : cJ Z g) (hw2 : Z.w 2 + 0 ≤ 1000000) (hi0 : i0 < Z.n) (hc1 : 0 ≤ p1.toInt) (hq1 : Z.al 1 p1.toInt.toNat) (hsd : (g 32 p1.toInt.toNat).toInt = (i0 : Int)) {Φ : Int32 → cZ → mSt → Prop} (hW : wfP (wp_kkeep_4 n1 Z i0 p1 g Φ)) : Met l yX8_keep (wk (Cond.code yX8_keep cX8_keep 3 none)) (rn_kkeep_4 n1) (va_Pc [.ref (Z.ad 4 i0), .ref (Z.ad 1 p1.toInt.toNat)] (cPreA G Z X g sz)) (kE 1 (0 + n1) (cAf Z sz) (cQvA G Z X (fun Z1 g1 => wfP (Φ 0 Z1 g1) ∧ mFi (im_kkeep_4 i0 p1) g g1 ∧ (mFr [384, 385, 386, 1728, 1729] g g1 ∧ cJ Z1 g1 ∧ Z1.w 2 ≤ Z.w 2 + 0 ∧ True)))) 1 (0 + n1) (cAf Z sz) := by
  refine Met.ofW (cc := cX8_keep) (maxL := 3) (ret := none) (by decide) rfl ?_
  intro p e s m args below meth c s₁ B hml hv
  obtain ⟨hav, hv⟩ := hv
  have hsz0 := hv.2.1
  subst hsz0
  have hr := B.returns
  have hlocks := B.notSynchronized
  obtain ⟨xa, L⟩ := k_start B rfl (fun w h => wk_in h) hv
  have hent : entryFrame m args 3 = entryFrame m ([.ref (Z.ad 4 i0), .ref (Z.ad 1 p1.toInt.toNat)] : List Value).toArray 3 := by rw [hav]
  rw [hent]
  have hl := lv_entry ([.ref (Z.ad 4 i0), .ref (Z.ad 1 p1.toInt.toNat)]) (n := 3) (Nat.le_of_ble_eq_true rfl)
  rw [lg_entry_eq]
  generalize (lg_sl ([.ref (Z.ad 4 i0), .ref (Z.ad 1 p1.toInt.toNat)]) ++ List.replicate (3 - (lg_sl ([.ref (Z.ad 4 i0), .ref (Z.ad 1 p1.toInt.toNat)])).length) Slot.unset).toArray = ls at hl ⊢
  have hl : lv_has ls 3 [(0, .ref (Z.ad 4 i0)), (1, .ref (Z.ad 1 p1.toInt.toNat))] := hl
  have x := xa.1
  have hx := x.1
  have hb := x.2.1
  have hz := x.2.2.2.2.2.2.2.1
  have hzn := hz.1
  have hzl : cZl Z Z 0 0 := cZl.rf
  have hcs : 0 ≤ 1 ∧ 0 ≤ 0 + n1 := ⟨Nat.zero_le _, Nat.zero_le _⟩
  have hal0 : Z.al 4 i0 := hz.2 4 i0 (show i0 < Z.n from hi0)
  refine lv_aload_n hx hb dX8_keep_0 rfl (lv_at hl 0 rfl) ?_
  refine lv_aload_n hx hb dX8_keep_1 rfl (lv_at hl 1 rfl) ?_
  refine c_geti x L 1 p1.toInt.toNat 1 33 hq1 rfl rfl (wk_in kf_X8_38) dX8_keep_2 (fun v1 ev1 wv1 => ?_)
  have rv1 : rg (-2147483648) (2147483647) v1 := rg_any v1
  replace hW := (wfP_i (wfP_i (wfP_a hW v1) ev1) rv1)
  have uv1 : (-2147483648 : Int) ≤ v1.toInt ∧ v1.toInt ≤ 2147483647 := rv1
  have sv1 : v1.toInt = (g 33 p1.toInt.toNat).toInt := congrArg Int32.toInt (ev1.trans (congrFun ((show mFr [384, 385, 386, 1728, 1729] g g from mFr.rf).at 33 rfl) _))
  refine lv_aload_n hx hb dX8_keep_5 rfl (lv_at hl 1 rfl) ?_
  refine c_geti x L 1 p1.toInt.toNat 2 34 hq1 rfl rfl (wk_in kf_X8_41) dX8_keep_6 (fun v2 ev2 wv2 => ?_)
  have rv2 : rg (0) (1) v2 := clj_34 wv2
  replace hW := (wfP_i (wfP_i (wfP_a hW v2) ev2) rv2)
  have uv2 : (0 : Int) ≤ v2.toInt ∧ v2.toInt ≤ 1 := rv2
  have sv2 : v2.toInt = (g 34 p1.toInt.toNat).toInt := congrArg Int32.toInt (ev2.trans (congrFun ((show mFr [384, 385, 386, 1728, 1729] g g from mFr.rf).at 34 rfl) _))
  refine c_ciU (n := 2) (owner := "CellSwitch$Side") (x0 := ⟨"CellSwitch$Side", "placeOfReference", "(IZ)I"⟩) (As := [.int v1, .int v2]) (rest := []) x hml L 4 i0 hal0 rfl (d_kplaceOfReference_4 l X g i0 v1 v2 hX hJ (show i0 < Z.n from (by omega)) (rg_w rv2 rfl) hW) (wk_U kd_X8_placeOfReference kl_X8_45 km_CellSwitchSide_CellSwitchSide_placeOfReference ks_X4_CellSwitchSide_X8_placeOfReference ki_X8_placeOfReference kn_X8) rfl ⟨rfl, rfl⟩ rfl (by decide +kernel) ⟨Nat.le_of_ble_eq_true rfl, Nat.le_of_ble_eq_true rfl⟩ rfl hl.1 rfl (lv_room (Nat.le_of_ble_eq_true rfl)) dX8_keep_9 (fun v4 g3 H3 k3 hp3 L3 => ?_) hcs
  obtain ⟨hW, hi3, hp3⟩ := hp3
  replace hW := wfP_i hW ⟨hi3, hp3⟩
  have rv4 : rg (-1) (2147483646) v4 := hp3.2.1
  have uv4 : (-1 : Int) ≤ v4.toInt ∧ v4.toInt ≤ 2147483646 := rv4
  have hw5 := hp3.2.2.2
  refine lv_istore_n (lv' := [(2, .int v4), (0, .ref (Z.ad 4 i0)), (1, .ref (Z.ad 1 p1.toInt.toNat))]) hx hb dX8_keep_12 rfl hl (by decide) rfl (fun ls hl => ?_)
  refine lv_iload_n hx hb dX8_keep_13 rfl (lv_at hl 0 rfl) ?_
  refine lv_if_ge (tgt := 29) hx hb dX8_keep_14 (by decide) (fun c14_6 => ?_) (fun c14_6 => ?_)
  · skip
    replace hW := wfP_i (wfP_l hW) (i_le c14_6 (rg_i kc_0) rfl)
    have ic14_6 := Int32.le_iff_toInt_le.mp c14_6
    have q7 : rg (0) (2147483646) v4 := (rg_le c14_6 kc_0 rv4).2
    have uq7 : (0 : Int) ≤ v4.toInt ∧ v4.toInt ≤ 2147483646 := q7
    refine lv_aload_n hx hb dX8_keep_29 rfl (lv_at hl 1 rfl) ?_
    have al8 : Z.al 12 i0 := hz.2 12 i0 (show i0 < 2 * Z.n from (by omega))
    refine c_getr (a := Z.ad 12 i0) x L3 4 i0 2 hal0 rfl rfl (wk_in kf_X8_10) dX8_keep_30 ?_
    refine lv_iload_n hx hb dX8_keep_33 rfl (lv_at hl 0 rfl) ?_
    refine lv_aload_n hx hb dX8_keep_34 rfl (lv_at hl 2 rfl) ?_
    have y9 := congrArg Int32.toInt (congrFun ((show mFr [] g g3 from (mFr.tr mFr.rf hp3.1 rfl)).at 386 rfl) (i0))
    have y10 := congrArg Int32.toInt (congrFun ((show mFr [] g g3 from (mFr.tr mFr.rf hp3.1 rfl)).at 32 rfl) (p1.toInt.toNat))
    refine k_callr xa L3 (k_runV (As := [.int v4, .ref (Z.ad 1 p1.toInt.toNat)]) (rest := []) ⟨hx, hb, hml, x.2.2.2.2.1, x.2.2.1⟩ (d_klset l X g3 i0 v4 p1 _ hX hp3.2.2.1 (by omega) (show i0 < 2 * Z.n from (by omega)) hc1 hq1 (by omega) (by omega) hW) (cwV 2 x.2.2.1 (wk_V kd_Jx4a65c_set_bcc79 kl_X8_53 ki_Jx4a65c_set_bcc79 ks_Jx4a65c_Jx4a65c_set_bcc79 kn_Jx4a65c) rfl rfl rfl hd_klset ⟨Nat.le_of_ble_eq_true rfl, Nat.le_of_ble_eq_true rfl⟩) ⟨cPreA.blind, c_recv x L3 al8 rfl, fun U hU hW => k_pre xa L3 U hU hW⟩ rfl rfl hl.1 rfl (lv_room (Nat.le_of_ble_eq_true rfl)) dX8_keep_35 ⟨show 0 + 0 ≤ 1 by omega, show 0 + (0) ≤ 0 + n1 by omega⟩) (fun v12 Z g11 H11 k11 kc11 kn11 hk11 hn11 hp11 hz11 xa L11 => ?_)
    obtain ⟨hW, hi11, hp11⟩ := hp11
    replace hW := wfP_i (wfP_a (wfP_i (wfP_i hW ⟨hi11, hp11⟩) (cZg_of hz11 hk11 hn11)) Z) rfl
    have hww11 := hp11.2.2.1
    have ea11_0 := hz11.2.2.1 4 i0 hal0 (by omega)
    have ea11_1 := hz11.2.2.1 1 p1.toInt.toNat hq1 (by omega)
    rw [← ea11_0] at hl
    rw [← ea11_1] at hl
    have al11_0 := hz11.2.1 4 i0 hal0
    have al11_1 := hz11.2.1 1 p1.toInt.toNat hq1
    have hZn11 := hz11.1
    have x := xa.1
    have hz := x.2.2.2.2.2.2.2.1
    have hzn := hz.1
    have hzl := cZl.tr hzl hz11
    have hcs : 0 + kc11 ≤ 1 ∧ 0 + kn11 ≤ 0 + n1 := by omega
    refine lv_pop hx hb dX8_keep_38 rfl ?_
    exact k_vret xa L11 hr hlocks (Int.le_refl _) hzl ⟨hW, (mFi.sub (mFi.sub mFi.rf hi3 mSub_nil) hi11 (mSub_eq 3 rfl mSub_nil)), (mFr.tr (mFr.tr mFr.rf hp3.1 rfl) hp11.1 rfl), hp11.2.1, (by omega), trivial⟩ hcs.1 hcs.2 dX8_keep_39
  · skip
    replace hW := wfP_i (wfP_r hW) (i_lt (rg_nle c14_6) rfl (rg_i kc_0))
    have ic14_6 := Int32.lt_iff_toInt_lt.mp (rg_nle c14_6)
    have q13 : rg (-1) (-1) v4 := (rg_lt (rg_nle c14_6) rv4 kc_0).1
    have uq13 : (-1 : Int) ≤ v4.toInt ∧ v4.toInt ≤ -1 := q13
    refine lv_aload_n hx hb dX8_keep_17 rfl (lv_at hl 1 rfl) ?_
    have al14 : Z.al 12 i0 := hz.2 12 i0 (show i0 < 2 * Z.n from (by omega))
    refine c_getr (a := Z.ad 12 i0) x L3 4 i0 2 hal0 rfl rfl (wk_in kf_X8_10) dX8_keep_18 ?_
    refine lv_aload_n hx hb dX8_keep_21 rfl (lv_at hl 2 rfl) ?_
    have y15 := congrArg Int32.toInt (congrFun ((show mFr [] g g3 from (mFr.tr mFr.rf hp3.1 rfl)).at 32 rfl) (p1.toInt.toNat))
    refine k_calli xa L3 (k_runV (As := [.ref (Z.ad 1 p1.toInt.toNat)]) (rest := []) ⟨hx, hb, hml, x.2.2.2.2.1, x.2.2.1⟩ (d_kladd l X g3 i0 p1 _ n1 hX hp3.2.2.1 (by omega) (show i0 < 2 * Z.n from (by omega)) hc1 hq1 (by omega) hW) (cwV 1 x.2.2.1 (wk_V kd_Jx4a65c_add_9ea2d kl_X8_49 ki_Jx4a65c_add_9ea2d ks_Jx4a65c_Jx4a65c_add_9ea2d kn_Jx4a65c) rfl rfl rfl hd_kladd ⟨Nat.le_of_ble_eq_true rfl, Nat.le_of_ble_eq_true rfl⟩) ⟨cPreA.blind, c_recv x L3 al14 rfl, fun U hU hW => k_pre xa L3 U hU hW⟩ rfl rfl hl.1 rfl (lv_room (Nat.le_of_ble_eq_true rfl)) dX8_keep_22 ⟨show 0 + 1 ≤ 1 by omega, show 0 + (0 + n1) ≤ 0 + n1 by omega⟩) (fun v17 Z g16 H16 k16 kc16 kn16 hk16 hn16 hp16 hz16 xa L16 => ?_)
    obtain ⟨hW, hi16, hp16⟩ := hp16
    replace hW := wfP_i (wfP_a (wfP_i (wfP_i hW ⟨hi16, hp16⟩) (cZg_of hz16 hk16 hn16)) Z) rfl
    have rv17 : rg (1) (1) v17 := hp16.2.1
    have uv17 : (1 : Int) ≤ v17.toInt ∧ v17.toInt ≤ 1 := rv17
    have hww16 := hp16.2.2.2.1
    have ea16_0 := hz16.2.2.1 4 i0 hal0 (by omega)
    have ea16_1 := hz16.2.2.1 1 p1.toInt.toNat hq1 (by omega)
    rw [← ea16_0] at hl
    rw [← ea16_1] at hl
    have al16_0 := hz16.2.1 4 i0 hal0
    have al16_1 := hz16.2.1 1 p1.toInt.toNat hq1
    have hZn16 := hz16.1
    have x := xa.1
    have hz := x.2.2.2.2.2.2.2.1
    have hzn := hz.1
    have hzl := cZl.tr hzl hz16
    have hcs : 0 + kc16 ≤ 1 ∧ 0 + kn16 ≤ 0 + n1 := by omega
    refine lv_pop hx hb dX8_keep_25 rfl ?_
    refine lv_goto (tgt := 39) hx hb dX8_keep_26 (by decide) ?_
    exact k_vret xa L16 hr hlocks (Int.le_refl _) hzl ⟨hW, (mFi.sub (mFi.sub mFi.rf hi3 mSub_nil) hi16 (mSub_eq 0 rfl (mSub_eq 1 rfl (mSub_eq 2 rfl (mSub_eq 3 rfl (mSub_eq 4 rfl mSub_nil)))))), (mFr.tr (mFr.tr mFr.rf hp3.1 rfl) hp16.1 rfl), hp16.2.2.1, (by omega), trivial⟩ hcs.1 hcs.2 dX8_keep_39

def rn_kkeep_10 (n1 : Nat) : Room := { frames := 7, cells := 1, slots := 0 + n1, locals := 163 }
def im_kkeep_10 (i0 : Nat) (p1 : Int32) : List (Nat × Nat × Nat) := [(384, 0, 0), (385, 0, 0), (386, 0, 0), (1728, 0, 0), (1729, 0, 0)]
def po_kkeep_10 (Z : cZ) (i0 : Nat) (p1 : Int32) (g : mSt) (r : Int32) (Z1 : cZ) (g1 : mSt) : Prop := mFi (im_kkeep_10 i0 p1) g g1 ∧ mFr [384, 385, 386, 1728, 1729] g g1 ∧ cJ Z1 g1 ∧ Z1.w 2 ≤ Z.w 2 + 0 ∧ True
def wp_kkeep_10 (n1 : Nat) (Z : cZ) (i0 : Nat) (p1 : Int32) (g : mSt) (Φ : Int32 → cZ → mSt → Prop) : Prop :=
  ∀ (v1 : Int32), v1 = g 33 p1.toInt.toNat → rg (-2147483648) (2147483647) v1 → ∀ (v2 : Int32), v2 = g 34 p1.toInt.toNat → rg (0) (1) v2 → wp_kplaceOfReference_10 Z i0 v1 v2 g (fun (v4 : Int32) (g3 : mSt) => po_kplaceOfReference_10 Z i0 v1 v2 g v4 g3 → ((0 ≤ v4.toInt) → wp_klset Z (Z.n + i0) v4 p1 g3 (fun (v12 : Int32) (Z_11 : cZ) (g11 : mSt) => po_klset Z (Z.n + i0) v4 p1 g3 v12 Z_11 g11 → cZg Z Z_11 0 (0) → ∀ Z : cZ, Z = Z_11 → Φ 0 Z g11)) ∧ ((v4.toInt < 0) → wp_kladd n1 Z (Z.n + i0) p1 g3 (fun (v17 : Int32) (Z_16 : cZ) (g16 : mSt) => po_kladd Z (Z.n + i0) p1 g3 v17 Z_16 g16 → cZg Z Z_16 1 (0 + n1) → ∀ Z : cZ, Z = Z_16 → Φ 0 Z g16)))
set_option maxHeartbeats 4000000 in
set_option maxRecDepth 100000 in
theorem d_kkeep_10 (l : Launch) {G : cG} {Z : cZ} (X : Int) (g : mSt) (i0 : Nat) (p1 : Int32) (sz n1 : Nat) (hX : 0 ≤ X ∧ X ≤ 2000000000) (hJ : cJ Z g) (hw2 : Z.w 2 + 0 ≤ 1000000) (hi0 : i0 < Z.n) (hc1 : 0 ≤ p1.toInt) (hq1 : Z.al 1 p1.toInt.toNat) (hsd : (g 32 p1.toInt.toNat).toInt = (Z.n : Int) + (i0 : Int)) {Φ : Int32 → cZ → mSt → Prop} (hW : wfP (wp_kkeep_10 n1 Z i0 p1 g Φ)) : Met l yX8_keep (wk (Cond.code yX8_keep cX8_keep 3 none)) (rn_kkeep_10 n1) (va_Pc [.ref (Z.ad 10 i0), .ref (Z.ad 1 p1.toInt.toNat)] (cPreA G Z X g sz)) (kE 1 (0 + n1) (cAf Z sz) (cQvA G Z X (fun Z1 g1 => wfP (Φ 0 Z1 g1) ∧ mFi (im_kkeep_10 i0 p1) g g1 ∧ (mFr [384, 385, 386, 1728, 1729] g g1 ∧ cJ Z1 g1 ∧ Z1.w 2 ≤ Z.w 2 + 0 ∧ True)))) 1 (0 + n1) (cAf Z sz) := by
  refine Met.ofW (cc := cX8_keep) (maxL := 3) (ret := none) (by decide) rfl ?_
  intro p e s m args below meth c s₁ B hml hv
  obtain ⟨hav, hv⟩ := hv
  have hsz0 := hv.2.1
  subst hsz0
  have hr := B.returns
  have hlocks := B.notSynchronized
  obtain ⟨xa, L⟩ := k_start B rfl (fun w h => wk_in h) hv
  have hent : entryFrame m args 3 = entryFrame m ([.ref (Z.ad 10 i0), .ref (Z.ad 1 p1.toInt.toNat)] : List Value).toArray 3 := by rw [hav]
  rw [hent]
  have hl := lv_entry ([.ref (Z.ad 10 i0), .ref (Z.ad 1 p1.toInt.toNat)]) (n := 3) (Nat.le_of_ble_eq_true rfl)
  rw [lg_entry_eq]
  generalize (lg_sl ([.ref (Z.ad 10 i0), .ref (Z.ad 1 p1.toInt.toNat)]) ++ List.replicate (3 - (lg_sl ([.ref (Z.ad 10 i0), .ref (Z.ad 1 p1.toInt.toNat)])).length) Slot.unset).toArray = ls at hl ⊢
  have hl : lv_has ls 3 [(0, .ref (Z.ad 10 i0)), (1, .ref (Z.ad 1 p1.toInt.toNat))] := hl
  have x := xa.1
  have hx := x.1
  have hb := x.2.1
  have hz := x.2.2.2.2.2.2.2.1
  have hzn := hz.1
  have hzl : cZl Z Z 0 0 := cZl.rf
  have hcs : 0 ≤ 1 ∧ 0 ≤ 0 + n1 := ⟨Nat.zero_le _, Nat.zero_le _⟩
  have hal0 : Z.al 10 i0 := hz.2 10 i0 (show i0 < Z.n from hi0)
  refine lv_aload_n hx hb dX8_keep_0 rfl (lv_at hl 0 rfl) ?_
  refine lv_aload_n hx hb dX8_keep_1 rfl (lv_at hl 1 rfl) ?_
  refine c_geti x L 1 p1.toInt.toNat 1 33 hq1 rfl rfl (wk_in kf_X8_38) dX8_keep_2 (fun v1 ev1 wv1 => ?_)
  have rv1 : rg (-2147483648) (2147483647) v1 := rg_any v1
  replace hW := (wfP_i (wfP_i (wfP_a hW v1) ev1) rv1)
  have uv1 : (-2147483648 : Int) ≤ v1.toInt ∧ v1.toInt ≤ 2147483647 := rv1
  have sv1 : v1.toInt = (g 33 p1.toInt.toNat).toInt := congrArg Int32.toInt (ev1.trans (congrFun ((show mFr [384, 385, 386, 1728, 1729] g g from mFr.rf).at 33 rfl) _))
  refine lv_aload_n hx hb dX8_keep_5 rfl (lv_at hl 1 rfl) ?_
  refine c_geti x L 1 p1.toInt.toNat 2 34 hq1 rfl rfl (wk_in kf_X8_41) dX8_keep_6 (fun v2 ev2 wv2 => ?_)
  have rv2 : rg (0) (1) v2 := clj_34 wv2
  replace hW := (wfP_i (wfP_i (wfP_a hW v2) ev2) rv2)
  have uv2 : (0 : Int) ≤ v2.toInt ∧ v2.toInt ≤ 1 := rv2
  have sv2 : v2.toInt = (g 34 p1.toInt.toNat).toInt := congrArg Int32.toInt (ev2.trans (congrFun ((show mFr [384, 385, 386, 1728, 1729] g g from mFr.rf).at 34 rfl) _))
  refine c_ciU (n := 2) (owner := "CellSwitch$Side") (x0 := ⟨"CellSwitch$Side", "placeOfReference", "(IZ)I"⟩) (As := [.int v1, .int v2]) (rest := []) x hml L 10 i0 hal0 rfl (d_kplaceOfReference_10 l X g i0 v1 v2 hX hJ (show i0 < Z.n from (by omega)) (rg_w rv2 rfl) hW) (wk_U kd_X8_placeOfReference kl_X8_45 km_CellSwitchSide_CellSwitchSide_placeOfReference ks_X10_CellSwitchSide_X8_placeOfReference ki_X8_placeOfReference kn_X8) rfl ⟨rfl, rfl⟩ rfl (by decide +kernel) ⟨Nat.le_of_ble_eq_true rfl, Nat.le_of_ble_eq_true rfl⟩ rfl hl.1 rfl (lv_room (Nat.le_of_ble_eq_true rfl)) dX8_keep_9 (fun v4 g3 H3 k3 hp3 L3 => ?_) hcs
  obtain ⟨hW, hi3, hp3⟩ := hp3
  replace hW := wfP_i hW ⟨hi3, hp3⟩
  have rv4 : rg (-1) (2147483646) v4 := hp3.2.1
  have uv4 : (-1 : Int) ≤ v4.toInt ∧ v4.toInt ≤ 2147483646 := rv4
  have hw5 := hp3.2.2.2
  refine lv_istore_n (lv' := [(2, .int v4), (0, .ref (Z.ad 10 i0)), (1, .ref (Z.ad 1 p1.toInt.toNat))]) hx hb dX8_keep_12 rfl hl (by decide) rfl (fun ls hl => ?_)
  refine lv_iload_n hx hb dX8_keep_13 rfl (lv_at hl 0 rfl) ?_
  refine lv_if_ge (tgt := 29) hx hb dX8_keep_14 (by decide) (fun c14_6 => ?_) (fun c14_6 => ?_)
  · skip
    replace hW := wfP_i (wfP_l hW) (i_le c14_6 (rg_i kc_0) rfl)
    have ic14_6 := Int32.le_iff_toInt_le.mp c14_6
    have q7 : rg (0) (2147483646) v4 := (rg_le c14_6 kc_0 rv4).2
    have uq7 : (0 : Int) ≤ v4.toInt ∧ v4.toInt ≤ 2147483646 := q7
    refine lv_aload_n hx hb dX8_keep_29 rfl (lv_at hl 1 rfl) ?_
    have al8 : Z.al 12 (Z.n + i0) := hz.2 12 (Z.n + i0) (show (Z.n + i0) < 2 * Z.n from (by omega))
    refine c_getr (a := Z.ad 12 (Z.n + i0)) x L3 10 i0 2 hal0 rfl rfl (wk_in kf_X8_10) dX8_keep_30 ?_
    refine lv_iload_n hx hb dX8_keep_33 rfl (lv_at hl 0 rfl) ?_
    refine lv_aload_n hx hb dX8_keep_34 rfl (lv_at hl 2 rfl) ?_
    have y9 := congrArg Int32.toInt (congrFun ((show mFr [] g g3 from (mFr.tr mFr.rf hp3.1 rfl)).at 386 rfl) ((Z.n + i0)))
    have y10 := congrArg Int32.toInt (congrFun ((show mFr [] g g3 from (mFr.tr mFr.rf hp3.1 rfl)).at 32 rfl) (p1.toInt.toNat))
    refine k_callr xa L3 (k_runV (As := [.int v4, .ref (Z.ad 1 p1.toInt.toNat)]) (rest := []) ⟨hx, hb, hml, x.2.2.2.2.1, x.2.2.1⟩ (d_klset l X g3 (Z.n + i0) v4 p1 _ hX hp3.2.2.1 (by omega) (show (Z.n + i0) < 2 * Z.n from (by omega)) hc1 hq1 (by omega) (by omega) hW) (cwV 2 x.2.2.1 (wk_V kd_Jx4a65c_set_bcc79 kl_X8_53 ki_Jx4a65c_set_bcc79 ks_Jx4a65c_Jx4a65c_set_bcc79 kn_Jx4a65c) rfl rfl rfl hd_klset ⟨Nat.le_of_ble_eq_true rfl, Nat.le_of_ble_eq_true rfl⟩) ⟨cPreA.blind, c_recv x L3 al8 rfl, fun U hU hW => k_pre xa L3 U hU hW⟩ rfl rfl hl.1 rfl (lv_room (Nat.le_of_ble_eq_true rfl)) dX8_keep_35 ⟨show 0 + 0 ≤ 1 by omega, show 0 + (0) ≤ 0 + n1 by omega⟩) (fun v12 Z g11 H11 k11 kc11 kn11 hk11 hn11 hp11 hz11 xa L11 => ?_)
    obtain ⟨hW, hi11, hp11⟩ := hp11
    replace hW := wfP_i (wfP_a (wfP_i (wfP_i hW ⟨hi11, hp11⟩) (cZg_of hz11 hk11 hn11)) Z) rfl
    have hww11 := hp11.2.2.1
    have ea11_0 := hz11.2.2.1 10 i0 hal0 (by omega)
    have ea11_1 := hz11.2.2.1 1 p1.toInt.toNat hq1 (by omega)
    rw [← ea11_0] at hl
    rw [← ea11_1] at hl
    have al11_0 := hz11.2.1 10 i0 hal0
    have al11_1 := hz11.2.1 1 p1.toInt.toNat hq1
    have hZn11 := hz11.1
    have x := xa.1
    have hz := x.2.2.2.2.2.2.2.1
    have hzn := hz.1
    have hzl := cZl.tr hzl hz11
    have hcs : 0 + kc11 ≤ 1 ∧ 0 + kn11 ≤ 0 + n1 := by omega
    refine lv_pop hx hb dX8_keep_38 rfl ?_
    exact k_vret xa L11 hr hlocks (Int.le_refl _) hzl ⟨hW, (mFi.sub (mFi.sub mFi.rf hi3 mSub_nil) hi11 (mSub_any 3 rfl mSub_nil)), (mFr.tr (mFr.tr mFr.rf hp3.1 rfl) hp11.1 rfl), hp11.2.1, (by omega), trivial⟩ hcs.1 hcs.2 dX8_keep_39
  · skip
    replace hW := wfP_i (wfP_r hW) (i_lt (rg_nle c14_6) rfl (rg_i kc_0))
    have ic14_6 := Int32.lt_iff_toInt_lt.mp (rg_nle c14_6)
    have q13 : rg (-1) (-1) v4 := (rg_lt (rg_nle c14_6) rv4 kc_0).1
    have uq13 : (-1 : Int) ≤ v4.toInt ∧ v4.toInt ≤ -1 := q13
    refine lv_aload_n hx hb dX8_keep_17 rfl (lv_at hl 1 rfl) ?_
    have al14 : Z.al 12 (Z.n + i0) := hz.2 12 (Z.n + i0) (show (Z.n + i0) < 2 * Z.n from (by omega))
    refine c_getr (a := Z.ad 12 (Z.n + i0)) x L3 10 i0 2 hal0 rfl rfl (wk_in kf_X8_10) dX8_keep_18 ?_
    refine lv_aload_n hx hb dX8_keep_21 rfl (lv_at hl 2 rfl) ?_
    have y15 := congrArg Int32.toInt (congrFun ((show mFr [] g g3 from (mFr.tr mFr.rf hp3.1 rfl)).at 32 rfl) (p1.toInt.toNat))
    refine k_calli xa L3 (k_runV (As := [.ref (Z.ad 1 p1.toInt.toNat)]) (rest := []) ⟨hx, hb, hml, x.2.2.2.2.1, x.2.2.1⟩ (d_kladd l X g3 (Z.n + i0) p1 _ n1 hX hp3.2.2.1 (by omega) (show (Z.n + i0) < 2 * Z.n from (by omega)) hc1 hq1 (by omega) hW) (cwV 1 x.2.2.1 (wk_V kd_Jx4a65c_add_9ea2d kl_X8_49 ki_Jx4a65c_add_9ea2d ks_Jx4a65c_Jx4a65c_add_9ea2d kn_Jx4a65c) rfl rfl rfl hd_kladd ⟨Nat.le_of_ble_eq_true rfl, Nat.le_of_ble_eq_true rfl⟩) ⟨cPreA.blind, c_recv x L3 al14 rfl, fun U hU hW => k_pre xa L3 U hU hW⟩ rfl rfl hl.1 rfl (lv_room (Nat.le_of_ble_eq_true rfl)) dX8_keep_22 ⟨show 0 + 1 ≤ 1 by omega, show 0 + (0 + n1) ≤ 0 + n1 by omega⟩) (fun v17 Z g16 H16 k16 kc16 kn16 hk16 hn16 hp16 hz16 xa L16 => ?_)
    obtain ⟨hW, hi16, hp16⟩ := hp16
    replace hW := wfP_i (wfP_a (wfP_i (wfP_i hW ⟨hi16, hp16⟩) (cZg_of hz16 hk16 hn16)) Z) rfl
    have rv17 : rg (1) (1) v17 := hp16.2.1
    have uv17 : (1 : Int) ≤ v17.toInt ∧ v17.toInt ≤ 1 := rv17
    have hww16 := hp16.2.2.2.1
    have ea16_0 := hz16.2.2.1 10 i0 hal0 (by omega)
    have ea16_1 := hz16.2.2.1 1 p1.toInt.toNat hq1 (by omega)
    rw [← ea16_0] at hl
    rw [← ea16_1] at hl
    have al16_0 := hz16.2.1 10 i0 hal0
    have al16_1 := hz16.2.1 1 p1.toInt.toNat hq1
    have hZn16 := hz16.1
    have x := xa.1
    have hz := x.2.2.2.2.2.2.2.1
    have hzn := hz.1
    have hzl := cZl.tr hzl hz16
    have hcs : 0 + kc16 ≤ 1 ∧ 0 + kn16 ≤ 0 + n1 := by omega
    refine lv_pop hx hb dX8_keep_25 rfl ?_
    refine lv_goto (tgt := 39) hx hb dX8_keep_26 (by decide) ?_
    exact k_vret xa L16 hr hlocks (Int.le_refl _) hzl ⟨hW, (mFi.sub (mFi.sub mFi.rf hi3 mSub_nil) hi16 (mSub_any 0 rfl (mSub_any 1 rfl (mSub_any 2 rfl (mSub_any 3 rfl (mSub_any 4 rfl mSub_nil)))))), (mFr.tr (mFr.tr mFr.rf hp3.1 rfl) hp16.1 rfl), hp16.2.2.1, (by omega), trivial⟩ hcs.1 hcs.2 dX8_keep_39

def rn_keadd (n1 : Nat) : Room := { frames := 8, cells := 1, slots := 0 + n1, locals := 185 }
def im_keadd (i0 : Nat) (p1 : Int32) : List (Nat × Nat × Nat) := [(35, p1.toInt.toNat, 1), (135, i0, 1), (384, i0, 1), (385, i0, 1), (386, i0, 1), (1536, i0, 16777216), (1728, i0, 16777216), (1729, i0, 1)]
def po_keadd (Z : cZ) (i0 : Nat) (p1 : Int32) (g : mSt) (r : Int32) (Z1 : cZ) (g1 : mSt) : Prop := mFi (im_keadd i0 p1) g g1 ∧ mFr [35, 135, 384, 385, 386, 1536, 1728, 1729] g g1 ∧ cJ Z1 g1 ∧ Z1.w 2 ≤ Z.w 2 + 0 ∧ True
def wp_keadd (n1 : Nat) (Z : cZ) (i0 : Nat) (p1 : Int32) (g : mSt) (Φ : Int32 → cZ → mSt → Prop) : Prop :=
  ∀ (v1 : Int32), v1 = g 135 i0 → rg (0) (40) v1 → ((40 ≤ v1.toInt) → Φ 0 Z g) ∧ ((v1.toInt < 40) → ∀ (g6 : mSt), g6 = up2 g 35 p1.toInt.toNat v1 → ∀ (g9 : mSt), g9 = up2 g6 1536 (16777216 * i0 + v1.toNatClampNeg) p1 → ∀ (v11 : Int32), v11 = v1 + (1 : Int32) → rg (1) (40) v11 → v11.toInt = v1.toInt + 1 → ∀ (g13 : mSt), g13 = up2 g9 135 i0 v11 → wp_kkeep_4 n1 Z i0 p1 g13 (fun (_ : Int32) (Z_16 : cZ) (g16 : mSt) => po_kkeep_4 Z i0 p1 g13 0 Z_16 g16 → cZg Z Z_16 1 (0 + n1) → ∀ Z : cZ, Z = Z_16 → Φ 0 Z g16))
set_option maxHeartbeats 4000000 in
set_option maxRecDepth 100000 in
theorem d_keadd (l : Launch) {G : cG} {Z : cZ} (X : Int) (g : mSt) (i0 : Nat) (p1 : Int32) (sz n1 : Nat) (hX : 0 ≤ X ∧ X ≤ 2000000000) (hJ : cJ Z g) (hw2 : Z.w 2 + 0 ≤ 1000000) (hi0 : i0 < Z.n) (hc1 : 0 ≤ p1.toInt) (hq1 : Z.al 1 p1.toInt.toNat) (hsd : (g 32 p1.toInt.toNat).toInt = (i0 : Int)) {Φ : Int32 → cZ → mSt → Prop} (hW : wfP (wp_keadd n1 Z i0 p1 g Φ)) : Met l yX4_add (wk (Cond.code yX4_add cX4_add 2 none)) (rn_keadd n1) (va_Pc [.ref (Z.ad 4 i0), .ref (Z.ad 1 p1.toInt.toNat)] (cPreA G Z X g sz)) (kE 1 (0 + n1) (cAf Z sz) (cQvA G Z X (fun Z1 g1 => wfP (Φ 0 Z1 g1) ∧ mFi (im_keadd i0 p1) g g1 ∧ (mFr [35, 135, 384, 385, 386, 1536, 1728, 1729] g g1 ∧ cJ Z1 g1 ∧ Z1.w 2 ≤ Z.w 2 + 0 ∧ True)))) 1 (0 + n1) (cAf Z sz) := by
  refine Met.ofW (cc := cX4_add) (maxL := 2) (ret := none) (by decide) rfl ?_
  intro p e s m args below meth c s₁ B hml hv
  obtain ⟨hav, hv⟩ := hv
  have hsz0 := hv.2.1
  subst hsz0
  have hr := B.returns
  have hlocks := B.notSynchronized
  obtain ⟨xa, L⟩ := k_start B rfl (fun w h => wk_in h) hv
  have hent : entryFrame m args 2 = entryFrame m ([.ref (Z.ad 4 i0), .ref (Z.ad 1 p1.toInt.toNat)] : List Value).toArray 2 := by rw [hav]
  rw [hent]
  have hl := lv_entry ([.ref (Z.ad 4 i0), .ref (Z.ad 1 p1.toInt.toNat)]) (n := 2) (Nat.le_of_ble_eq_true rfl)
  rw [lg_entry_eq]
  generalize (lg_sl ([.ref (Z.ad 4 i0), .ref (Z.ad 1 p1.toInt.toNat)]) ++ List.replicate (2 - (lg_sl ([.ref (Z.ad 4 i0), .ref (Z.ad 1 p1.toInt.toNat)])).length) Slot.unset).toArray = ls at hl ⊢
  have hl : lv_has ls 2 [(0, .ref (Z.ad 4 i0)), (1, .ref (Z.ad 1 p1.toInt.toNat))] := hl
  have x := xa.1
  have hx := x.1
  have hb := x.2.1
  have hz := x.2.2.2.2.2.2.2.1
  have hzn := hz.1
  have hzl : cZl Z Z 0 0 := cZl.rf
  have hcs : 0 ≤ 1 ∧ 0 ≤ 0 + n1 := ⟨Nat.zero_le _, Nat.zero_le _⟩
  have hal0 : Z.al 4 i0 := hz.2 4 i0 (show i0 < Z.n from hi0)
  refine lv_aload_n hx hb dX4_add_0 rfl (lv_at hl 0 rfl) ?_
  refine c_geti x L 4 i0 7 135 hal0 rfl rfl (wk_in kf_X4_37) dX4_add_1 (fun v1 ev1 wv1 => ?_)
  have rv1 : rg (0) (40) v1 := clj_135 wv1
  replace hW := (wfP_i (wfP_i (wfP_a hW v1) ev1) rv1)
  have uv1 : (0 : Int) ≤ v1.toInt ∧ v1.toInt ≤ 40 := rv1
  have sv1 := congrArg Int32.toInt ev1
  refine lv_bipush (v := 40) hx hb dX4_add_4 (by decide) ?_
  refine lv_icmp_ge (tgt := 42) hx hb dX4_add_6 (by decide) (fun c6_2 => ?_) (fun c6_2 => ?_)
  · skip
    replace hW := wfP_i (wfP_l hW) (i_le c6_2 (rg_i kc_40) rfl)
    have ic6_2 := Int32.le_iff_toInt_le.mp c6_2
    have q3 : rg (40) (40) v1 := (rg_le c6_2 kc_40 rv1).2
    have uq3 : (40 : Int) ≤ v1.toInt ∧ v1.toInt ≤ 40 := q3
    exact k_vret xa L hr hlocks (Int.le_refl _) hzl ⟨hW, mFi.rf, mFr.rf, hJ, (by omega), trivial⟩ hcs.1 hcs.2 dX4_add_42
  · skip
    replace hW := wfP_i (wfP_r hW) (i_lt (rg_nle c6_2) rfl (rg_i kc_40))
    have ic6_2 := Int32.lt_iff_toInt_lt.mp (rg_nle c6_2)
    have q4 : rg (0) (39) v1 := (rg_lt (rg_nle c6_2) rv1 kc_40).1
    have uq4 : (0 : Int) ≤ v1.toInt ∧ v1.toInt ≤ 39 := q4
    refine lv_aload_n hx hb dX4_add_9 rfl (lv_at hl 1 rfl) ?_
    refine lv_aload_n hx hb dX4_add_10 rfl (lv_at hl 0 rfl) ?_
    refine c_geti x L 4 i0 7 135 hal0 rfl rfl (wk_in kf_X4_37) dX4_add_11 (fun v5 ev5 wv5 => ?_)
    refine m_top ((ev1).trans ev5.symm) ?_
    refine c_puti x L 1 p1.toInt.toNat 3 35 hq1 rfl rfl ⟨rfl, by decide +kernel⟩ (wk_in kf_X4_44) dX4_add_14 (rg_any v1) (fun g6 H6 k6 eg6 L6 => ?_)
    replace hW := (wfP_i (wfP_a hW g6) eg6)
    refine lv_aload_n hx hb dX4_add_17 rfl (lv_at hl 0 rfl) ?_
    have al7 : Z.al 48 i0 := hz.2 48 i0 (show i0 < Z.n from (by omega))
    refine c_getr (a := Z.ad 48 i0) x L6 4 i0 6 hal0 rfl rfl (wk_in kf_X4_20) dX4_add_18 ?_
    refine lv_aload_n hx hb dX4_add_21 rfl (lv_at hl 0 rfl) ?_
    refine c_geti x L6 4 i0 7 135 hal0 rfl rfl (wk_in kf_X4_37) dX4_add_22 (fun v8 ev8 wv8 => ?_)
    refine m_top (((mm_up ev1 eg6 rfl)).trans ev8.symm) ?_
    refine lv_aload_n hx hb dX4_add_25 rfl (lv_at hl 1 rfl) ?_
    refine c_str xa L6 48 i0 1536 al7 (Or.inl rfl) rfl (cJ_up hJ eg6 rfl) (i := v1) (by omega) (show v1.toInt < ((40 : Nat) : Int) by omega) hc1 hq1 dX4_add_26 (fun g9 H9 k9 eg9 L9 => ?_)
    replace hW := (wfP_i (wfP_a hW g9) eg9)
    refine lv_aload_n hx hb dX4_add_27 rfl (lv_at hl 0 rfl) ?_
    refine lv_dup hx hb dX4_add_28 rfl ?_
    refine c_geti x L9 4 i0 7 135 hal0 rfl rfl (wk_in kf_X4_37) dX4_add_29 (fun v10 ev10 wv10 => ?_)
    refine m_top (((mm_up (mm_up ev1 eg6 rfl) eg9 rfl)).trans ev10.symm) ?_
    refine lv_iconst (v := 1) hx hb dX4_add_32 (by decide) ?_
    refine lv_iadd hx hb dX4_add_33 ?_
    refine lv_topi (fun v11 ev11 => ?_)
    have rv11 : rg (1) (40) v11 := (rg_add ev11 q4 kc_1 rfl).1
    replace hW := (wfP_i (wfP_i (wfP_i (wfP_a hW v11) ev11) rv11) (w_iadd ((rg_add ev11 q4 kc_1 rfl).2) rfl (rg_i kc_1)))
    have tv11 := (rg_add ev11 q4 kc_1 rfl).2
    have y12 : (1 : Int32).toInt = 1 := by decide
    have uv11 : (1 : Int) ≤ v11.toInt ∧ v11.toInt ≤ 40 := rv11
    refine c_puti x L9 4 i0 7 135 hal0 rfl rfl ⟨rfl, by decide +kernel⟩ (wk_in kf_X4_37) dX4_add_34 (crj_135 (rg_w rv11 rfl)) (fun g13 H13 k13 eg13 L13 => ?_)
    replace hW := (wfP_i (wfP_a hW g13) eg13)
    have hJ14 := cJ_num (cJ_up hJ eg6 rfl) (k := v1.toNatClampNeg) (by have := congrArg Int32.toInt (mm_up ev1 eg6 rfl); show (((v1.toInt.toNat : Nat)) : Int) = _; omega) (fun s => (clj_135 (L6.2.2 135 s)).2) ⟨hc1, hq1, by rw [(show mFr [35, 135, 384, 385, 386, 1536, 1728, 1729] g g6 from (mFr.upE mFr.rf eg6 rfl)).at 32 rfl]; omega⟩ eg9 eg13 (by have := congrArg Int32.toInt (mm_up ev1 eg6 rfl); omega)
    refine lv_aload_n hx hb dX4_add_37 rfl (lv_at hl 0 rfl) ?_
    refine lv_aload_n hx hb dX4_add_38 rfl (lv_at hl 1 rfl) ?_
    have y15 := congrArg Int32.toInt (congrFun ((show mFr [35, 135, 1536] g g13 from (mFr.upE (mFr.upE (mFr.upE mFr.rf eg6 rfl) eg9 rfl) eg13 rfl)).at 32 rfl) (p1.toInt.toNat))
    refine k_callv xa L13 (k_runU (x := ⟨"CellSwitch$EndSide", "keep", "(LCellSwitch$Call;)V"⟩) (As := [.ref (Z.ad 1 p1.toInt.toNat)]) (rest := []) ⟨hx, hb, hml, x.2.2.2.2.1, x.2.2.1⟩ (d_kkeep_4 l X g13 i0 p1 _ n1 hX hJ14 (by omega) (show i0 < Z.n from (by omega)) hc1 hq1 (by omega) hW) (va_cwU 1 x.2.2.1 (wk_U (owner := "CellSwitch$Side") kd_X8_keep kl_X4_47 km_CellSwitchEndSide_CellSwitchSide_keep ks_X4_CellSwitchEndSide_X8_keep ki_X8_keep kn_X8) rfl rfl rfl rfl (by decide +kernel) ⟨Nat.le_of_ble_eq_true rfl, Nat.le_of_ble_eq_true rfl⟩) ⟨cPreA.blind, c_recv x L13 hal0 rfl, fun U hU hW => k_pre xa L13 U hU hW⟩ rfl rfl hl.1 rfl (lv_room (Nat.le_of_ble_eq_true rfl)) dX4_add_39 ⟨show 0 + 1 ≤ 1 by omega, show 0 + (0 + n1) ≤ 0 + n1 by omega⟩) (fun  Z g16 H16 k16 kc16 kn16 hk16 hn16 hp16 hz16 xa L16 => ?_)
    obtain ⟨hW, hi16, hp16⟩ := hp16
    replace hW := wfP_i (wfP_a (wfP_i (wfP_i hW ⟨hi16, hp16⟩) (cZg_of hz16 hk16 hn16)) Z) rfl
    have hww16 := hp16.2.2.1
    have ea16_0 := hz16.2.2.1 4 i0 hal0 (by omega)
    have ea16_1 := hz16.2.2.1 1 p1.toInt.toNat hq1 (by omega)
    rw [← ea16_0] at hl
    rw [← ea16_1] at hl
    have al16_0 := hz16.2.1 4 i0 hal0
    have al16_1 := hz16.2.1 1 p1.toInt.toNat hq1
    have hZn16 := hz16.1
    have x := xa.1
    have hz := x.2.2.2.2.2.2.2.1
    have hzn := hz.1
    have hzl := cZl.tr hzl hz16
    have hcs : 0 + kc16 ≤ 1 ∧ 0 + kn16 ≤ 0 + n1 := by omega
    exact k_vret xa L16 hr hlocks (Int.le_refl _) hzl ⟨hW, (mFi.sub (mFi.up (mFi.up (mFi.up mFi.rf eg6 (mIn_at 0 rfl (Or.inr (Nat.div_one _)))) eg9 (mIn_at 5 rfl (Or.inr (mIx2 (show 0 ≤ v1.toInt by omega) (show v1.toInt < ((40 : Nat) : Int) by omega) (by omega))))) eg13 (mIn_at 1 rfl (Or.inr (Nat.div_one _)))) hi16 (mSub_eq 2 rfl (mSub_eq 3 rfl (mSub_eq 4 rfl (mSub_eq 6 rfl (mSub_eq 7 rfl mSub_nil)))))), (mFr.tr (mFr.upE (mFr.upE (mFr.upE mFr.rf eg6 rfl) eg9 rfl) eg13 rfl) hp16.1 rfl), hp16.2.1, (by omega), trivial⟩ hcs.1 hcs.2 dX4_add_42

def rn_kaskc (n1 : Nat) : Room := { frames := 9, cells := 2, slots := 18 + n1, locals := 206 }
def im_kaskc (i0 : Nat) (p1 : Int32) (p2 : Int32) (p3 : Int32) : List (Nat × Nat × Nat) := [(32, 0, 0), (33, 0, 0), (34, 0, 0), (35, 0, 0), (36, 0, 0), (37, 0, 0), (38, 0, 0), (39, 0, 0), (40, 0, 0), (41, 0, 0), (42, 0, 0), (43, 0, 0), (44, 0, 0), (45, 0, 0), (46, 0, 0), (47, 0, 0), (48, 0, 0), (49, 0, 0), (131, i0, 1), (135, i0, 1), (198, i0, 1), (384, i0, 1), (385, i0, 1), (386, i0, 1), (832, i0, 8192), (864, i0, 8192), (1536, i0, 16777216), (1728, i0, 16777216), (1729, i0, 1)]
def po_kaskc (Z : cZ) (i0 : Nat) (p1 : Int32) (p2 : Int32) (p3 : Int32) (g : mSt) (r : Int32) (Z1 : cZ) (g1 : mSt) : Prop := mFi (im_kaskc i0 p1 p2 p3) g g1 ∧ mFr [32, 33, 34, 35, 36, 37, 38, 39, 40, 41, 42, 43, 44, 45, 46, 47, 48, 49, 131, 135, 198, 384, 385, 386, 832, 864, 1536, 1728, 1729] g g1 ∧ rg (-2147483648) (2147483647) r ∧ cJ Z1 g1 ∧ Z1.w 2 ≤ Z.w 2 + 1 ∧ True
def wp_kaskc (n1 : Nat) (Z : cZ) (i0 : Nat) (p1 : Int32) (p2 : Int32) (p3 : Int32) (g : mSt) (Φ : Int32 → cZ → mSt → Prop) : Prop :=
  wp_khasRoom Z i0 g (fun (v2 : Int32) (g1 : mSt) => po_khasRoom Z i0 g v2 g1 → ((v2.toInt = 0) → Φ (-3 : Int32) Z g1) ∧ ((v2.toInt ≠ 0) → ∀ (v10 : Int32), v10 = g1 198 i0 → rg (0) (10) v10 → ((v10.toInt < 10) → ∀ (v14 : Int32), v14 = g1 131 i0 → rg (-2147483648) (2147483647) v14 → ∀ (v15 : Int32), v15 = v14 + (1 : Int32) → rg (-2147483648) (2147483647) v15 → ∀ (g16 : mSt), g16 = up2 g1 131 i0 v15 → ∀ (sd20 : Int32), sd20.toInt = (((i0 : Nat)) : Int) → ∀ (Z_19 : cZ), Z_19 = Z → ∀ (Z : cZ) (v19 : Int32) (g19 : mSt), v19.toInt = (Z_19.w 2 : Int) → cZl Z_19 Z 1 18 → Z.w 2 = Z_19.w 2 + 1 → Z.w 3 = Z_19.w 3 → cJ Z g19 → Z.al 1 v19.toInt.toNat → g19 = gNew g16 v19.toInt.toNat sd20 v15 (1 : Int32) → ∀ (g21 : mSt), g21 = up2 g19 39 v19.toInt.toNat p1 → ∀ (g22 : mSt), g22 = up2 g21 38 v19.toInt.toNat p2 → ∀ (v23 : Int32), v23 = p3 + (8 : Int32) → rg (-2147483648) (2147483647) v23 → wp_kenter Z v19.toInt.toNat (1 : Int32) v23 g22 (fun (_ : Int32) (g24 : mSt) => po_kenter Z v19.toInt.toNat (1 : Int32) v23 g22 0 g24 → wp_keadd n1 Z i0 v19 g24 (fun (_ : Int32) (Z_26 : cZ) (g26 : mSt) => po_keadd Z i0 v19 g24 0 Z_26 g26 → cZg Z Z_26 1 (0 + n1) → ∀ Z : cZ, Z = Z_26 → wp_ksaySetup_4 Z i0 v19.toInt.toNat g26 (fun (_ : Int32) (g27 : mSt) => po_ksaySetup_4 Z i0 v19.toInt.toNat g26 0 g27 → ∀ (v28 : Int32), v28 = g27 35 v19.toInt.toNat → rg (-2147483648) (2147483647) v28 → Φ v28 Z g27)))) ∧ ((10 ≤ v10.toInt) → Φ (-3 : Int32) Z g1)))
set_option maxHeartbeats 4000000 in
set_option maxRecDepth 100000 in
theorem d_kaskc (l : Launch) {G : cG} {Z : cZ} (X : Int) (g : mSt) (i0 : Nat) (p1 : Int32) (p2 : Int32) (p3 : Int32) (sz n1 : Nat) (hX : 0 ≤ X ∧ X ≤ 2000000000) (hJ : cJ Z g) (hw2 : Z.w 2 + 1 ≤ 1000000) (hi0 : i0 < Z.n) {Φ : Int32 → cZ → mSt → Prop} (hW : wfP (wp_kaskc n1 Z i0 p1 p2 p3 g Φ)) : Met l yX4_ask (wk (Cond.code yX4_ask cX4_ask 5 (some .int))) (rn_kaskc n1) (va_Pc [.ref (Z.ad 4 i0), .int p1, .int p2, .int p3] (cPreA G Z X g sz)) (kE 2 (18 + n1) (cAf Z sz) (cQiA G Z X (fun r Z1 g1 => wfP (Φ r Z1 g1) ∧ mFi (im_kaskc i0 p1 p2 p3) g g1 ∧ (mFr [32, 33, 34, 35, 36, 37, 38, 39, 40, 41, 42, 43, 44, 45, 46, 47, 48, 49, 131, 135, 198, 384, 385, 386, 832, 864, 1536, 1728, 1729] g g1 ∧ rg (-2147483648) (2147483647) r ∧ cJ Z1 g1 ∧ Z1.w 2 ≤ Z.w 2 + 1 ∧ True)))) 2 (18 + n1) (cAf Z sz) := by
  refine Met.ofW (cc := cX4_ask) (maxL := 5) (ret := (some .int)) (by decide) rfl ?_
  intro p e s m args below meth c s₁ B hml hv
  obtain ⟨hav, hv⟩ := hv
  have hsz0 := hv.2.1
  subst hsz0
  have hr := B.returns
  have hlocks := B.notSynchronized
  obtain ⟨xa, L⟩ := k_start B rfl (fun w h => wk_in h) hv
  have hent : entryFrame m args 5 = entryFrame m ([.ref (Z.ad 4 i0), .int p1, .int p2, .int p3] : List Value).toArray 5 := by rw [hav]
  rw [hent]
  have hl := lv_entry ([.ref (Z.ad 4 i0), .int p1, .int p2, .int p3]) (n := 5) (Nat.le_of_ble_eq_true rfl)
  rw [lg_entry_eq]
  generalize (lg_sl ([.ref (Z.ad 4 i0), .int p1, .int p2, .int p3]) ++ List.replicate (5 - (lg_sl ([.ref (Z.ad 4 i0), .int p1, .int p2, .int p3])).length) Slot.unset).toArray = ls at hl ⊢
  have hl : lv_has ls 5 [(0, .ref (Z.ad 4 i0)), (1, .int p1), (2, .int p2), (3, .int p3)] := hl
  have x := xa.1
  have hx := x.1
  have hb := x.2.1
  have hz := x.2.2.2.2.2.2.2.1
  have hzn := hz.1
  have hzl : cZl Z Z 0 0 := cZl.rf
  have hcs : 0 ≤ 2 ∧ 0 ≤ 18 + n1 := ⟨Nat.zero_le _, Nat.zero_le _⟩
  have hal0 : Z.al 4 i0 := hz.2 4 i0 (show i0 < Z.n from hi0)
  have up1 : (-2147483648 : Int) ≤ p1.toInt ∧ p1.toInt ≤ 2147483647 := (rg_any p1)
  have up2 : (-2147483648 : Int) ≤ p2.toInt ∧ p2.toInt ≤ 2147483647 := (rg_any p2)
  have up3 : (-2147483648 : Int) ≤ p3.toInt ∧ p3.toInt ≤ 2147483647 := (rg_any p3)
  refine lv_aload_n hx hb dX4_ask_0 rfl (lv_at hl 0 rfl) ?_
  refine c_ci (As := []) (rest := []) x hml L 4 i0 hal0 rfl (d_khasRoom l X g i0 hX hJ (show i0 < Z.n from (by omega)) hW) (wk_V kd_X4_hasRoom kl_X4_51 ki_X4_hasRoom ks_X4_X4_hasRoom kn_X4) rfl ⟨rfl, rfl⟩ hd_khasRoom ⟨Nat.le_of_ble_eq_true rfl, Nat.le_of_ble_eq_true rfl⟩ rfl hl.1 rfl (lv_room (Nat.le_of_ble_eq_true rfl)) dX4_ask_1 (fun v2 g1 H1 k1 hp1 L1 => ?_) hcs
  obtain ⟨hW, hi1, hp1⟩ := hp1
  replace hW := wfP_i hW ⟨hi1, hp1⟩
  have rv2 : rg (0) (1) v2 := hp1.2.1
  have uv2 : (0 : Int) ≤ v2.toInt ∧ v2.toInt ≤ 1 := rv2
  refine lv_if_eq (tgt := 30) hx hb dX4_ask_4 (by decide) (fun c4_3 => ?_) (fun c4_3 => ?_)
  · skip
    replace hW := wfP_i (wfP_l hW) (i_eq c4_3 rfl (rg_i kc_0))
    have ic4_3 := congrArg Int32.toInt c4_3
    have y4 : (0 : Int32).toInt = 0 := by decide
    have q5 : rg (0) (0) v2 := (rg_eq c4_3 rv2 kc_0).1
    have uq5 : (0 : Int) ≤ v2.toInt ∧ v2.toInt ≤ 0 := q5
    refine lv_bipush (v := (-3)) hx hb dX4_ask_30 (by decide) ?_
    exact k_iret (v := (-3 : Int32)) xa L1 hr hlocks (Int.le_refl _) hzl ⟨hW, (mFi.sub mFi.rf hi1 mSub_nil), (mFr.tr mFr.rf hp1.1 rfl), rg_w kc_m3 rfl, hp1.2.2.1, (by omega), trivial⟩ hcs.1 hcs.2 dX4_ask_32
  · skip
    replace hW := wfP_i (wfP_r hW) (i_ne c4_3 rfl (rg_i kc_0))
    have ic4_3 : v2.toInt ≠ (0 : Int32).toInt := fun z => c4_3 (Int32.toInt_inj.mp z)
    have y6 : (0 : Int32).toInt = 0 := by decide
    have q7 : rg (1) (1) v2 := rg_neL c4_3 rv2 kc_0
    have uq7 : (1 : Int) ≤ v2.toInt ∧ v2.toInt ≤ 1 := q7
    refine lv_aload_n hx hb dX4_ask_7 rfl (lv_at hl 0 rfl) ?_
    have al8 : Z.al 5 i0 := hz.2 5 i0 (show i0 < 2 * Z.n from (by omega))
    refine c_getrS (a := Z.ad 5 i0) x L1 4 i0 1 hal0 rfl rfl (wk_in kf_X4_55) (fun y h => u_same (x.2.2.1 _ (wk_in ke_CellSwitchEndSide_CellSwitchSide_line)) y h) dX4_ask_8 ?_
    have al9 : Z.al 6 i0 := hz.2 6 i0 (show i0 < 2 * Z.n from (by omega))
    refine c_getr (a := Z.ad 6 i0) x L1 5 i0 1 al8 rfl rfl (wk_in kf_X4_59) dX4_ask_11 ?_
    refine c_geti x L1 6 i0 6 198 al9 rfl rfl (wk_in kf_X4_65) dX4_ask_14 (fun v10 ev10 wv10 => ?_)
    have rv10 : rg (0) (10) v10 := clj_198 wv10
    replace hW := (wfP_i (wfP_i (wfP_a hW v10) ev10) rv10)
    have uv10 : (0 : Int) ≤ v10.toInt ∧ v10.toInt ≤ 10 := rv10
    refine lv_aload_n hx hb dX4_ask_17 rfl (lv_at hl 0 rfl) ?_
    refine c_getrS (a := Z.ad 5 i0) x L1 4 i0 1 hal0 rfl rfl (wk_in kf_X4_55) (fun y h => u_same (x.2.2.1 _ (wk_in ke_CellSwitchEndSide_CellSwitchSide_line)) y h) dX4_ask_18 ?_
    refine c_getr (a := Z.ad 6 i0) x L1 5 i0 1 al8 rfl rfl (wk_in kf_X4_59) dX4_ask_21 ?_
    refine c_geti x L1 6 i0 0 192 al9 rfl rfl (wk_in kf_X4_70) dX4_ask_24 (fun v11 ev11 wv11 => ?_)
    have rv11 : rg (10) (10) v11 := clj_192 wv11
    refine m_top (rg_lit rv11 (show (10 : Int32).toInt = 10 from (by decide))) ?_
    refine lv_icmp_lt (tgt := 33) hx hb dX4_ask_27 (by decide) (fun c27_12 => ?_) (fun c27_12 => ?_)
    · skip
      replace hW := wfP_i (wfP_l hW) (i_lt c27_12 rfl (rg_i kc_10))
      have ic27_12 := Int32.lt_iff_toInt_lt.mp c27_12
      have q13 : rg (0) (9) v10 := (rg_lt c27_12 rv10 kc_10).1
      have uq13 : (0 : Int) ≤ v10.toInt ∧ v10.toInt ≤ 9 := q13
      refine lv_aload_n hx hb dX4_ask_33 rfl (lv_at hl 0 rfl) ?_
      refine lv_dup hx hb dX4_ask_34 rfl ?_
      refine c_getiS x L1 4 i0 3 131 hal0 rfl rfl (wk_in kf_X4_73) (fun y h => u_same (x.2.2.1 _ (wk_in ke_CellSwitchEndSide_CellSwitchSide_lastReference)) y h) dX4_ask_35 (fun v14 ev14 wv14 => ?_)
      have rv14 : rg (-2147483648) (2147483647) v14 := rg_any v14
      replace hW := (wfP_i (wfP_i (wfP_a hW v14) ev14) rv14)
      have uv14 : (-2147483648 : Int) ≤ v14.toInt ∧ v14.toInt ≤ 2147483647 := rv14
      refine lv_iconst (v := 1) hx hb dX4_ask_38 (by decide) ?_
      refine lv_iadd hx hb dX4_ask_39 ?_
      refine lv_topi (fun v15 ev15 => ?_)
      have rv15 : rg (-2147483648) (2147483647) v15 := rg_any v15
      replace hW := (wfP_i (wfP_i (wfP_a hW v15) ev15) rv15)
      have uv15 : (-2147483648 : Int) ≤ v15.toInt ∧ v15.toInt ≤ 2147483647 := rv15
      refine c_putiS x L1 4 i0 3 131 hal0 rfl rfl ⟨rfl, by decide +kernel⟩ (wk_in kf_X4_73) (fun y h => u_same (x.2.2.1 _ (wk_in ke_CellSwitchEndSide_CellSwitchSide_lastReference)) y h) dX4_ask_40 (rg_any v15) (fun g16 H16 k16 eg16 L16 => ?_)
      replace hW := (wfP_i (wfP_a hW g16) eg16)
      refine k_newCall xa L16 (wk_in kc_lX4_18) (wk_in kx_X1) (wk_in kn_X1) (show 0 + 1 ≤ 2 by omega) (show 0 + 18 ≤ 18 + n1 by omega) dX4_ask_43 (fun a17 H17 O17 hfr17 hAa17 L17 => ?_)
      have hcs : 0 + 1 ≤ 2 ∧ 0 + 18 ≤ 18 + n1 := by omega
      refine lv_dup hx hb dX4_ask_46 rfl ?_
      refine lv_aload_n hx hb dX4_ask_47 rfl (lv_at hl 0 rfl) ?_
      refine lv_aload_n hx hb dX4_ask_48 rfl (lv_at hl 0 rfl) ?_
      refine c_getiS x L17 4 i0 3 131 hal0 rfl rfl (wk_in kf_X4_73) (fun y h => u_same (x.2.2.1 _ (wk_in ke_CellSwitchEndSide_CellSwitchSide_lastReference)) y h) dX4_ask_49 (fun v18 ev18 wv18 => ?_)
      refine m_top (((mm_st eg16)).trans ev18.symm) ?_
      refine lv_iconst (v := 1) hx hb dX4_ask_52 (by decide) ?_
      obtain ⟨sd20, hsd20⟩ := k_sd i0 (by omega)
      replace hW := (wfP_i (wfP_a hW sd20) hsd20)
      replace hW := wfP_i (wfP_a hW Z) rfl
      refine d_initCall (rest := [.ref a17]) xa (hml.trans hl.1.symm) L17 O17 hfr17 hAa17 (cJ_up hp1.2.2.1 eg16 rfl) (by omega) sd20 v15 (1 : Int32) (cSd_4 hsd20 (by omega)) ⟨by omega, by omega⟩ (rg_w kc_1 rfl) (wk_good kd_X1_init) (wk_in kl_X4_76) (wk_in ki_X1_init) (wk_in kn_X1) ⟨Nat.le_of_ble_eq_true rfl, Nat.le_of_ble_eq_true rfl⟩ (Nat.le_of_ble_eq_true rfl) hcs dX4_ask_53 (fun v19 Z g19 H19 k19 hv19 hz19 hww19 hw319 xa L19 hJ19 al19 ad19 eg19 hne19 => ?_)
      have hc19 : 0 ≤ v19.toInt := by omega
      replace hW := (wfP_i (wfP_i (wfP_i (wfP_i (wfP_i (wfP_i (wfP_i (wfP_a (wfP_a (wfP_a hW Z) v19) g19) hv19) hz19) hww19) hw319) hJ19) al19) eg19)
      have fr19 : mFr [32, 33, 34, 35, 36, 37, 38, 39, 40, 41, 42, 43, 44, 45, 46, 47, 48, 49] g16 g19 := by rw [eg19]; exact gNew_fr
      subst ad19
      have ea19_0 := hz19.2.2.1 4 i0 hal0 (by omega)
      rw [← ea19_0] at hl
      have al19_0 := hz19.2.1 4 i0 hal0
      have hZn19 := hz19.1
      have x := xa.1
      have hz := x.2.2.2.2.2.2.2.1
      have hzn := hz.1
      have e32_19 : sd20 = g19 32 v19.toInt.toNat := by rw [eg19]; exact (if_pos ⟨rfl, by decide, by decide⟩ : gNew g16 v19.toInt.toNat sd20 v15 (1 : Int32) 32 v19.toInt.toNat = _).symm
      have hzl := cZl.tr hzl hz19
      refine lv_astore (lv' := [(4, .ref (Z.ad 1 v19.toInt.toNat)), (0, .ref (Z.ad 4 i0)), (1, .int p1), (2, .int p2), (3, .int p3)]) hx hb dX4_ask_56 hl (by decide) rfl (fun ls hl => ?_)
      refine lv_aload hx hb dX4_ask_58 (lv_at hl 0 rfl) ?_
      refine lv_iload_n hx hb dX4_ask_60 rfl (lv_at hl 2 rfl) ?_
      refine c_puti x L19 1 v19.toInt.toNat 7 39 al19 rfl rfl ⟨rfl, by decide +kernel⟩ (wk_in kf_X4_79) dX4_ask_61 (rg_any p1) (fun g21 H21 k21 eg21 L21 => ?_)
      replace hW := (wfP_i (wfP_a hW g21) eg21)
      refine lv_aload hx hb dX4_ask_64 (lv_at hl 0 rfl) ?_
      refine lv_iload_n hx hb dX4_ask_66 rfl (lv_at hl 3 rfl) ?_
      refine c_puti x L21 1 v19.toInt.toNat 6 38 al19 rfl rfl ⟨rfl, by decide +kernel⟩ (wk_in kf_X4_82) dX4_ask_67 (rg_any p2) (fun g22 H22 k22 eg22 L22 => ?_)
      replace hW := (wfP_i (wfP_a hW g22) eg22)
      refine lv_aload hx hb dX4_ask_70 (lv_at hl 0 rfl) ?_
      refine lv_iconst (v := 1) hx hb dX4_ask_72 (by decide) ?_
      refine lv_iload_n hx hb dX4_ask_73 rfl (lv_at hl 4 rfl) ?_
      refine lv_bipush (v := 8) hx hb dX4_ask_74 (by decide) ?_
      refine lv_iadd hx hb dX4_ask_76 ?_
      refine lv_topi (fun v23 ev23 => ?_)
      have rv23 : rg (-2147483648) (2147483647) v23 := rg_any v23
      replace hW := (wfP_i (wfP_i (wfP_a hW v23) ev23) rv23)
      have uv23 : (-2147483648 : Int) ≤ v23.toInt ∧ v23.toInt ≤ 2147483647 := rv23
      refine c_cv (As := [.int (1 : Int32), .int v23]) (rest := []) x hml L22 1 v19.toInt.toNat al19 rfl (d_kenter l X g22 v19.toInt.toNat (1 : Int32) v23 hX (cJ_up (cJ_up hJ19 eg21 rfl) eg22 rfl) al19 hW) (wk_V kd_X1_enter kl_X4_85 ki_X1_enter ks_X1_X1_enter kn_X1) rfl ⟨rfl, rfl⟩ hd_kenter ⟨Nat.le_of_ble_eq_true rfl, Nat.le_of_ble_eq_true rfl⟩ rfl hl.1 rfl (lv_room (Nat.le_of_ble_eq_true rfl)) dX4_ask_77 (fun  g24 H24 k24 hp24 L24 => ?_) hcs
      obtain ⟨hW, hi24, hp24⟩ := hp24
      replace hW := wfP_i hW ⟨hi24, hp24⟩
      refine lv_aload_n hx hb dX4_ask_80 rfl (lv_at hl 1 rfl) ?_
      refine lv_aload hx hb dX4_ask_81 (lv_at hl 0 rfl) ?_
      have y25 := congrArg Int32.toInt (mm_fr (mm_up (mm_up e32_19 eg21 rfl) eg22 rfl) hp24.1 rfl)
      refine k_callv xa L24 (k_runV (As := [.ref (Z.ad 1 v19.toInt.toNat)]) (rest := []) ⟨hx, hb, hml, x.2.2.2.2.1, x.2.2.1⟩ (d_keadd l X g24 i0 v19 _ n1 hX hp24.2.1 (by omega) (show i0 < Z.n from (by omega)) hc19 al19 (by omega) hW) (cwV 1 x.2.2.1 (wk_V kd_X4_add kl_X4_89 ki_X4_add ks_X4_X4_add kn_X4) rfl rfl rfl hd_keadd ⟨Nat.le_of_ble_eq_true rfl, Nat.le_of_ble_eq_true rfl⟩) ⟨cPreA.blind, c_recv x L24 al19_0 rfl, fun U hU hW => k_pre xa L24 U hU hW⟩ rfl rfl hl.1 rfl (lv_room (Nat.le_of_ble_eq_true rfl)) dX4_ask_83 ⟨show 0 + 1 + 1 ≤ 2 by omega, show 0 + 18 + (0 + n1) ≤ 18 + n1 by omega⟩) (fun  Z g26 H26 k26 kc26 kn26 hk26 hn26 hp26 hz26 xa L26 => ?_)
      obtain ⟨hW, hi26, hp26⟩ := hp26
      replace hW := wfP_i (wfP_a (wfP_i (wfP_i hW ⟨hi26, hp26⟩) (cZg_of hz26 hk26 hn26)) Z) rfl
      have hww26 := hp26.2.2.1
      have ea26_0 := hz26.2.2.1 1 v19.toInt.toNat al19 (by omega)
      have ea26_1 := hz26.2.2.1 4 i0 al19_0 (by omega)
      rw [← ea26_0] at hl
      rw [← ea26_1] at hl
      have al26_0 := hz26.2.1 1 v19.toInt.toNat al19
      have al26_1 := hz26.2.1 4 i0 al19_0
      have hZn26 := hz26.1
      have x := xa.1
      have hz := x.2.2.2.2.2.2.2.1
      have hzn := hz.1
      have hzl := cZl.tr hzl hz26
      have hcs : 0 + 1 + kc26 ≤ 2 ∧ 0 + 18 + kn26 ≤ 18 + n1 := by omega
      refine lv_aload_n hx hb dX4_ask_86 rfl (lv_at hl 1 rfl) ?_
      refine lv_aload hx hb dX4_ask_87 (lv_at hl 0 rfl) ?_
      refine c_cv (As := [.ref (Z.ad 1 v19.toInt.toNat)]) (rest := []) x hml L26 4 i0 al26_1 rfl (d_ksaySetup_4 l X g26 i0 v19.toInt.toNat hX (show i0 < Z.n from (by omega)) al26_0 hW) (wk_V kd_X4_saySetup kl_X4_92 ki_X4_saySetup ks_X4_X4_saySetup kn_X4) rfl ⟨rfl, rfl⟩ hd_ksaySetup_4 ⟨Nat.le_of_ble_eq_true rfl, Nat.le_of_ble_eq_true rfl⟩ rfl hl.1 rfl (lv_room (Nat.le_of_ble_eq_true rfl)) dX4_ask_89 (fun  g27 H27 k27 hp27 L27 => ?_) hcs
      obtain ⟨hW, hi27, hp27⟩ := hp27
      replace hW := wfP_i hW ⟨hi27, hp27⟩
      refine lv_aload hx hb dX4_ask_92 (lv_at hl 0 rfl) ?_
      refine c_geti x L27 1 v19.toInt.toNat 3 35 al26_0 rfl rfl (wk_in kf_X4_44) dX4_ask_94 (fun v28 ev28 wv28 => ?_)
      have rv28 : rg (-2147483648) (2147483647) v28 := rg_any v28
      replace hW := (wfP_i (wfP_i (wfP_a hW v28) ev28) rv28)
      have uv28 : (-2147483648 : Int) ≤ v28.toInt ∧ v28.toInt ≤ 2147483647 := rv28
      exact k_iret (v := v28) xa L27 hr hlocks (Int.le_refl _) hzl ⟨hW, (mFi.sub (mFi.sub (mFi.sub (mFi.up (mFi.up (mFi.rows (mFi.up (mFi.sub mFi.rf hi1 mSub_nil) eg16 (mIn_at 18 rfl (Or.inr (Nat.div_one _)))) fr19 (mAny_cons 0 rfl (mAny_cons 1 rfl (mAny_cons 2 rfl (mAny_cons 3 rfl (mAny_cons 4 rfl (mAny_cons 5 rfl (mAny_cons 6 rfl (mAny_cons 7 rfl (mAny_cons 8 rfl (mAny_cons 9 rfl (mAny_cons 10 rfl (mAny_cons 11 rfl (mAny_cons 12 rfl (mAny_cons 13 rfl (mAny_cons 14 rfl (mAny_cons 15 rfl (mAny_cons 16 rfl (mAny_cons 17 rfl mAny_nil))))))))))))))))))) eg21 (mIn_at 7 rfl (Or.inl rfl))) eg22 (mIn_at 6 rfl (Or.inl rfl))) hi24 (mSub_any 4 rfl (mSub_any 9 rfl (mSub_any 10 rfl (mSub_any 12 rfl (mSub_any 13 rfl (mSub_any 14 rfl (mSub_any 16 rfl mSub_nil)))))))) hi26 (mSub_any 3 rfl (mSub_eq 19 rfl (mSub_eq 21 rfl (mSub_eq 22 rfl (mSub_eq 23 rfl (mSub_eq 26 rfl (mSub_eq 27 rfl (mSub_eq 28 rfl mSub_nil))))))))) hi27 (mSub_eq 20 rfl (mSub_eq 24 rfl (mSub_eq 25 rfl mSub_nil)))), (mFr.tr (mFr.tr (mFr.tr (mFr.upE (mFr.upE (mFr.tr (mFr.upE (mFr.tr mFr.rf hp1.1 rfl) eg16 rfl) fr19 rfl) eg21 rfl) eg22 rfl) hp24.1 rfl) hp26.1 rfl) hp27.1 rfl), rg_w rv28 rfl, (cJ_fr hp26.2.1 hp27.1 rfl), (by omega), trivial⟩ hcs.1 hcs.2 dX4_ask_97
    · skip
      replace hW := wfP_i (wfP_r hW) (i_le (rg_nlt c27_12) (rg_i kc_10) rfl)
      have ic27_12 := Int32.le_iff_toInt_le.mp (rg_nlt c27_12)
      have q29 : rg (10) (10) v10 := (rg_le (rg_nlt c27_12) kc_10 rv10).2
      have uq29 : (10 : Int) ≤ v10.toInt ∧ v10.toInt ≤ 10 := q29
      refine lv_bipush (v := (-3)) hx hb dX4_ask_30 (by decide) ?_
      exact k_iret (v := (-3 : Int32)) xa L1 hr hlocks (Int.le_refl _) hzl ⟨hW, (mFi.sub mFi.rf hi1 mSub_nil), (mFr.tr mFr.rf hp1.1 rfl), rg_w kc_m3 rfl, hp1.2.2.1, (by omega), trivial⟩ hcs.1 hcs.2 dX4_ask_32

def rn_ksetupCame_4 (n1 : Nat) : Room := { frames := 9, cells := 2, slots := 18 + n1, locals := 206 }
def im_ksetupCame_4 (i0 : Nat) (q1 : Nat) (p2 : Int32) : List (Nat × Nat × Nat) := [(32, 0, 0), (33, 0, 0), (34, 0, 0), (35, 0, 0), (36, 0, 0), (37, 0, 0), (38, 0, 0), (39, 0, 0), (40, 0, 0), (41, 0, 0), (42, 0, 0), (43, 0, 0), (44, 0, 0), (45, 0, 0), (46, 0, 0), (47, 0, 0), (48, 0, 0), (49, 0, 0), (135, i0, 1), (198, i0, 1), (384, i0, 1), (385, i0, 1), (386, i0, 1), (832, i0, 8192), (864, i0, 8192), (1536, i0, 16777216), (1728, i0, 16777216), (1729, i0, 1)]
def po_ksetupCame_4 (Z : cZ) (i0 : Nat) (q1 : Nat) (p2 : Int32) (g : mSt) (r : Int32) (Z1 : cZ) (g1 : mSt) : Prop := mFi (im_ksetupCame_4 i0 q1 p2) g g1 ∧ mFr [32, 33, 34, 35, 36, 37, 38, 39, 40, 41, 42, 43, 44, 45, 46, 47, 48, 49, 135, 198, 384, 385, 386, 832, 864, 1536, 1728, 1729] g g1 ∧ cJ Z1 g1 ∧ Z1.w 2 ≤ Z.w 2 + 1 ∧ True
def wp_ksetupCame_4 (n1 : Nat) (Z : cZ) (i0 : Nat) (q1 : Nat) (p2 : Int32) (g : mSt) (Φ : Int32 → cZ → mSt → Prop) : Prop :=
  wp_khasRoom Z i0 g (fun (v2 : Int32) (g1 : mSt) => po_khasRoom Z i0 g v2 g1 → ((v2.toInt ≠ 0) → ∀ (v7 : Int32), v7 = g1 289 q1 → rg (-2147483648) (2147483647) v7 → ∀ (sd9 : Int32), sd9.toInt = (((i0 : Nat)) : Int) → ∀ (Z_8 : cZ), Z_8 = Z → ∀ (Z : cZ) (v8 : Int32) (g8 : mSt), v8.toInt = (Z_8.w 2 : Int) → cZl Z_8 Z 1 18 → Z.w 2 = Z_8.w 2 + 1 → Z.w 3 = Z_8.w 3 → cJ Z g8 → Z.al 1 v8.toInt.toNat → g8 = gNew g1 v8.toInt.toNat sd9 v7 (0 : Int32) → ∀ (v10 : Int32), v10 = g8 292 q1 → rg (-2147483648) (2147483647) v10 → ∀ (g11 : mSt), g11 = up2 g8 39 v8.toInt.toNat v10 → ∀ (v12 : Int32), v12 = g11 293 q1 → rg (-2147483648) (2147483647) v12 → ∀ (g13 : mSt), g13 = up2 g11 38 v8.toInt.toNat v12 → ∀ (v14 : Int32), v14 = g13 294 q1 → rg (-2147483648) (2147483647) v14 → ∀ (g15 : mSt), g15 = up2 g13 37 v8.toInt.toNat v14 → wp_keadd n1 Z i0 v8 g15 (fun (_ : Int32) (Z_17 : cZ) (g17 : mSt) => po_keadd Z i0 v8 g15 0 Z_17 g17 → cZg Z Z_17 1 (0 + n1) → ∀ Z : cZ, Z = Z_17 → ∀ (v18 : Int32), v18 = g17 132 i0 → rg (-2147483648) (2147483647) v18 → ((v18.toInt ≠ 2) → ((v18.toInt ≠ 1) → wp_kanswer Z i0 v8.toInt.toNat p2 g17 (fun (_ : Int32) (g24 : mSt) => po_kanswer Z i0 v8.toInt.toNat p2 g17 0 g24 → Φ 0 Z g24)) ∧ ((v18.toInt = 1) → ∀ (v27 : Int32), v27 = g17 133 i0 → rg (-2147483648) (2147483647) v27 → ∀ (v28 : Int32), v28 = p2 + v27 → rg (-2147483648) (2147483647) v28 → wp_kenter Z v8.toInt.toNat (6 : Int32) v28 g17 (fun (_ : Int32) (g29 : mSt) => po_kenter Z v8.toInt.toNat (6 : Int32) v28 g17 0 g29 → wp_ksayPlain_4 Z i0 (2 : Int32) v8.toInt.toNat g29 (fun (_ : Int32) (g30 : mSt) => po_ksayPlain_4 Z i0 (2 : Int32) v8.toInt.toNat g29 0 g30 → Φ 0 Z g30)))) ∧ ((v18.toInt = 2) → wp_kfinish Z v8.toInt.toNat (17 : Int32) g17 (fun (_ : Int32) (g33 : mSt) => po_kfinish Z v8.toInt.toNat (17 : Int32) g17 0 g33 → ∀ (v34 : Int32), v34 = g33 33 v8.toInt.toNat → rg (-2147483648) (2147483647) v34 → wp_ksayCause_4 Z i0 (90 : Int32) v34 (0 : Int32) (17 : Int32) g33 (fun (_ : Int32) (g35 : mSt) => po_ksayCause_4 Z i0 (90 : Int32) v34 (0 : Int32) (17 : Int32) g33 0 g35 → Φ 0 Z g35))))) ∧ ((v2.toInt = 0) → ∀ (v38 : Int32), v38 = g1 289 q1 → rg (-2147483648) (2147483647) v38 → wp_ksayCause_4 Z i0 (90 : Int32) v38 (0 : Int32) (47 : Int32) g1 (fun (_ : Int32) (g39 : mSt) => po_ksayCause_4 Z i0 (90 : Int32) v38 (0 : Int32) (47 : Int32) g1 0 g39 → Φ 0 Z g39)))
set_option maxHeartbeats 4000000 in
set_option maxRecDepth 100000 in
theorem d_ksetupCame_4 (l : Launch) {G : cG} {Z : cZ} (X : Int) (g : mSt) (i0 : Nat) (q1 : Nat) (p2 : Int32) (sz n1 : Nat) (hX : 0 ≤ X ∧ X ≤ 2000000000) (hJ : cJ Z g) (hw2 : Z.w 2 + 1 ≤ 1000000) (hi0 : i0 < Z.n) (hq1 : Z.al 9 q1) {Φ : Int32 → cZ → mSt → Prop} (hW : wfP (wp_ksetupCame_4 n1 Z i0 q1 p2 g Φ)) : Met l yX4_setupCame (wk (Cond.code yX4_setupCame cX4_setupCame 4 none)) (rn_ksetupCame_4 n1) (va_Pc [.ref (Z.ad 4 i0), .ref (Z.ad 9 q1), .int p2] (cPreA G Z X g sz)) (kE 2 (18 + n1) (cAf Z sz) (cQvA G Z X (fun Z1 g1 => wfP (Φ 0 Z1 g1) ∧ mFi (im_ksetupCame_4 i0 q1 p2) g g1 ∧ (mFr [32, 33, 34, 35, 36, 37, 38, 39, 40, 41, 42, 43, 44, 45, 46, 47, 48, 49, 135, 198, 384, 385, 386, 832, 864, 1536, 1728, 1729] g g1 ∧ cJ Z1 g1 ∧ Z1.w 2 ≤ Z.w 2 + 1 ∧ True)))) 2 (18 + n1) (cAf Z sz) := by
  refine Met.ofW (cc := cX4_setupCame) (maxL := 4) (ret := none) (by decide) rfl ?_
  intro p e s m args below meth c s₁ B hml hv
  obtain ⟨hav, hv⟩ := hv
  have hsz0 := hv.2.1
  subst hsz0
  have hr := B.returns
  have hlocks := B.notSynchronized
  obtain ⟨xa, L⟩ := k_start B rfl (fun w h => wk_in h) hv
  have hent : entryFrame m args 4 = entryFrame m ([.ref (Z.ad 4 i0), .ref (Z.ad 9 q1), .int p2] : List Value).toArray 4 := by rw [hav]
  rw [hent]
  have hl := lv_entry ([.ref (Z.ad 4 i0), .ref (Z.ad 9 q1), .int p2]) (n := 4) (Nat.le_of_ble_eq_true rfl)
  rw [lg_entry_eq]
  generalize (lg_sl ([.ref (Z.ad 4 i0), .ref (Z.ad 9 q1), .int p2]) ++ List.replicate (4 - (lg_sl ([.ref (Z.ad 4 i0), .ref (Z.ad 9 q1), .int p2])).length) Slot.unset).toArray = ls at hl ⊢
  have hl : lv_has ls 4 [(0, .ref (Z.ad 4 i0)), (1, .ref (Z.ad 9 q1)), (2, .int p2)] := hl
  have x := xa.1
  have hx := x.1
  have hb := x.2.1
  have hz := x.2.2.2.2.2.2.2.1
  have hzn := hz.1
  have hzl : cZl Z Z 0 0 := cZl.rf
  have hcs : 0 ≤ 2 ∧ 0 ≤ 18 + n1 := ⟨Nat.zero_le _, Nat.zero_le _⟩
  have hal0 : Z.al 4 i0 := hz.2 4 i0 (show i0 < Z.n from hi0)
  have up2 : (-2147483648 : Int) ≤ p2.toInt ∧ p2.toInt ≤ 2147483647 := (rg_any p2)
  refine lv_aload_n hx hb dX4_setupCame_0 rfl (lv_at hl 0 rfl) ?_
  refine c_ci (As := []) (rest := []) x hml L 4 i0 hal0 rfl (d_khasRoom l X g i0 hX hJ (show i0 < Z.n from (by omega)) hW) (wk_V kd_X4_hasRoom kl_X4_51 ki_X4_hasRoom ks_X4_X4_hasRoom kn_X4) rfl ⟨rfl, rfl⟩ hd_khasRoom ⟨Nat.le_of_ble_eq_true rfl, Nat.le_of_ble_eq_true rfl⟩ rfl hl.1 rfl (lv_room (Nat.le_of_ble_eq_true rfl)) dX4_setupCame_1 (fun v2 g1 H1 k1 hp1 L1 => ?_) hcs
  obtain ⟨hW, hi1, hp1⟩ := hp1
  replace hW := wfP_i hW ⟨hi1, hp1⟩
  have rv2 : rg (0) (1) v2 := hp1.2.1
  have uv2 : (0 : Int) ≤ v2.toInt ∧ v2.toInt ≤ 1 := rv2
  refine lv_if_ne (tgt := 21) hx hb dX4_setupCame_4 (by decide) (fun c4_3 => ?_) (fun c4_3 => ?_)
  · skip
    replace hW := wfP_i (wfP_l hW) (i_ne c4_3 rfl (rg_i kc_0))
    have ic4_3 : v2.toInt ≠ (0 : Int32).toInt := fun z => c4_3 (Int32.toInt_inj.mp z)
    have y4 : (0 : Int32).toInt = 0 := by decide
    have q5 : rg (1) (1) v2 := rg_neL c4_3 rv2 kc_0
    have uq5 : (1 : Int) ≤ v2.toInt ∧ v2.toInt ≤ 1 := q5
    refine k_newCall xa L1 (wk_in kc_lX4_18) (wk_in kx_X1) (wk_in kn_X1) (show 0 + 1 ≤ 2 by omega) (show 0 + 18 ≤ 18 + n1 by omega) dX4_setupCame_21 (fun a6 H6 O6 hfr6 hAa6 L6 => ?_)
    have hcs : 0 + 1 ≤ 2 ∧ 0 + 18 ≤ 18 + n1 := by omega
    refine lv_dup hx hb dX4_setupCame_24 rfl ?_
    refine lv_aload_n hx hb dX4_setupCame_25 rfl (lv_at hl 0 rfl) ?_
    refine lv_aload_n hx hb dX4_setupCame_26 rfl (lv_at hl 1 rfl) ?_
    refine c_geti x L6 9 q1 1 289 hq1 rfl rfl (wk_in kf_X4_112) dX4_setupCame_27 (fun v7 ev7 wv7 => ?_)
    have rv7 : rg (-2147483648) (2147483647) v7 := rg_any v7
    replace hW := (wfP_i (wfP_i (wfP_a hW v7) ev7) rv7)
    have uv7 : (-2147483648 : Int) ≤ v7.toInt ∧ v7.toInt ≤ 2147483647 := rv7
    have sv7 : v7.toInt = (g 289 q1).toInt := congrArg Int32.toInt (ev7.trans (congrFun ((show mFr [32, 33, 34, 35, 36, 37, 38, 39, 40, 41, 42, 43, 44, 45, 46, 47, 48, 49, 135, 198, 384, 385, 386, 832, 864, 1536, 1728, 1729] g g1 from (mFr.tr mFr.rf hp1.1 rfl)).at 289 rfl) _))
    refine lv_iconst (v := 0) hx hb dX4_setupCame_30 (by decide) ?_
    obtain ⟨sd9, hsd9⟩ := k_sd i0 (by omega)
    replace hW := (wfP_i (wfP_a hW sd9) hsd9)
    replace hW := wfP_i (wfP_a hW Z) rfl
    refine d_initCall (rest := [.ref a6]) xa (hml.trans hl.1.symm) L6 O6 hfr6 hAa6 hp1.2.2.1 (by omega) sd9 v7 (0 : Int32) (cSd_4 hsd9 (by omega)) ⟨by omega, by omega⟩ (rg_w kc_0 rfl) (wk_good kd_X1_init) (wk_in kl_X4_76) (wk_in ki_X1_init) (wk_in kn_X1) ⟨Nat.le_of_ble_eq_true rfl, Nat.le_of_ble_eq_true rfl⟩ (Nat.le_of_ble_eq_true rfl) hcs dX4_setupCame_31 (fun v8 Z g8 H8 k8 hv8 hz8 hww8 hw38 xa L8 hJ8 al8 ad8 eg8 hne8 => ?_)
    have hc8 : 0 ≤ v8.toInt := by omega
    replace hW := (wfP_i (wfP_i (wfP_i (wfP_i (wfP_i (wfP_i (wfP_i (wfP_a (wfP_a (wfP_a hW Z) v8) g8) hv8) hz8) hww8) hw38) hJ8) al8) eg8)
    have fr8 : mFr [32, 33, 34, 35, 36, 37, 38, 39, 40, 41, 42, 43, 44, 45, 46, 47, 48, 49] g1 g8 := by rw [eg8]; exact gNew_fr
    subst ad8
    have ea8_0 := hz8.2.2.1 4 i0 hal0 (by omega)
    have ea8_1 := hz8.2.2.1 9 q1 hq1 (by omega)
    rw [← ea8_0] at hl
    rw [← ea8_1] at hl
    have al8_0 := hz8.2.1 4 i0 hal0
    have al8_1 := hz8.2.1 9 q1 hq1
    have hZn8 := hz8.1
    have x := xa.1
    have hz := x.2.2.2.2.2.2.2.1
    have hzn := hz.1
    have e32_8 : sd9 = g8 32 v8.toInt.toNat := by rw [eg8]; exact (if_pos ⟨rfl, by decide, by decide⟩ : gNew g1 v8.toInt.toNat sd9 v7 (0 : Int32) 32 v8.toInt.toNat = _).symm
    have hzl := cZl.tr hzl hz8
    refine lv_astore_n (lv' := [(3, .ref (Z.ad 1 v8.toInt.toNat)), (0, .ref (Z.ad 4 i0)), (1, .ref (Z.ad 9 q1)), (2, .int p2)]) hx hb dX4_setupCame_34 rfl hl (by decide) rfl (fun ls hl => ?_)
    refine lv_aload_n hx hb dX4_setupCame_35 rfl (lv_at hl 0 rfl) ?_
    refine lv_aload_n hx hb dX4_setupCame_36 rfl (lv_at hl 2 rfl) ?_
    refine c_geti x L8 9 q1 4 292 al8_1 rfl rfl (wk_in kf_X4_117) dX4_setupCame_37 (fun v10 ev10 wv10 => ?_)
    have rv10 : rg (-2147483648) (2147483647) v10 := rg_any v10
    replace hW := (wfP_i (wfP_i (wfP_a hW v10) ev10) rv10)
    have uv10 : (-2147483648 : Int) ≤ v10.toInt ∧ v10.toInt ≤ 2147483647 := rv10
    have sv10 : v10.toInt = (g 292 q1).toInt := congrArg Int32.toInt (ev10.trans (congrFun ((show mFr [32, 33, 34, 35, 36, 37, 38, 39, 40, 41, 42, 43, 44, 45, 46, 47, 48, 49, 135, 198, 384, 385, 386, 832, 864, 1536, 1728, 1729] g g8 from (mFr.tr (mFr.tr mFr.rf hp1.1 rfl) fr8 rfl)).at 292 rfl) _))
    refine c_puti x L8 1 v8.toInt.toNat 7 39 al8 rfl rfl ⟨rfl, by decide +kernel⟩ (wk_in kf_X4_79) dX4_setupCame_40 (rg_any v10) (fun g11 H11 k11 eg11 L11 => ?_)
    replace hW := (wfP_i (wfP_a hW g11) eg11)
    refine lv_aload_n hx hb dX4_setupCame_43 rfl (lv_at hl 0 rfl) ?_
    refine lv_aload_n hx hb dX4_setupCame_44 rfl (lv_at hl 2 rfl) ?_
    refine c_geti x L11 9 q1 5 293 al8_1 rfl rfl (wk_in kf_X4_120) dX4_setupCame_45 (fun v12 ev12 wv12 => ?_)
    have rv12 : rg (-2147483648) (2147483647) v12 := rg_any v12
    replace hW := (wfP_i (wfP_i (wfP_a hW v12) ev12) rv12)
    have uv12 : (-2147483648 : Int) ≤ v12.toInt ∧ v12.toInt ≤ 2147483647 := rv12
    have sv12 : v12.toInt = (g 293 q1).toInt := congrArg Int32.toInt (ev12.trans (congrFun ((show mFr [32, 33, 34, 35, 36, 37, 38, 39, 40, 41, 42, 43, 44, 45, 46, 47, 48, 49, 135, 198, 384, 385, 386, 832, 864, 1536, 1728, 1729] g g11 from (mFr.upE (mFr.tr (mFr.tr mFr.rf hp1.1 rfl) fr8 rfl) eg11 rfl)).at 293 rfl) _))
    refine c_puti x L11 1 v8.toInt.toNat 6 38 al8 rfl rfl ⟨rfl, by decide +kernel⟩ (wk_in kf_X4_82) dX4_setupCame_48 (rg_any v12) (fun g13 H13 k13 eg13 L13 => ?_)
    replace hW := (wfP_i (wfP_a hW g13) eg13)
    refine lv_aload_n hx hb dX4_setupCame_51 rfl (lv_at hl 0 rfl) ?_
    refine lv_aload_n hx hb dX4_setupCame_52 rfl (lv_at hl 2 rfl) ?_
    refine c_geti x L13 9 q1 6 294 al8_1 rfl rfl (wk_in kf_X4_121) dX4_setupCame_53 (fun v14 ev14 wv14 => ?_)
    have rv14 : rg (-2147483648) (2147483647) v14 := rg_any v14
    replace hW := (wfP_i (wfP_i (wfP_a hW v14) ev14) rv14)
    have uv14 : (-2147483648 : Int) ≤ v14.toInt ∧ v14.toInt ≤ 2147483647 := rv14
    have sv14 : v14.toInt = (g 294 q1).toInt := congrArg Int32.toInt (ev14.trans (congrFun ((show mFr [32, 33, 34, 35, 36, 37, 38, 39, 40, 41, 42, 43, 44, 45, 46, 47, 48, 49, 135, 198, 384, 385, 386, 832, 864, 1536, 1728, 1729] g g13 from (mFr.upE (mFr.upE (mFr.tr (mFr.tr mFr.rf hp1.1 rfl) fr8 rfl) eg11 rfl) eg13 rfl)).at 294 rfl) _))
    refine c_puti x L13 1 v8.toInt.toNat 5 37 al8 rfl rfl ⟨rfl, by decide +kernel⟩ (wk_in kf_X4_124) dX4_setupCame_56 (rg_any v14) (fun g15 H15 k15 eg15 L15 => ?_)
    replace hW := (wfP_i (wfP_a hW g15) eg15)
    refine lv_aload_n hx hb dX4_setupCame_59 rfl (lv_at hl 1 rfl) ?_
    refine lv_aload_n hx hb dX4_setupCame_60 rfl (lv_at hl 0 rfl) ?_
    have y16 := congrArg Int32.toInt (mm_up (mm_up (mm_up e32_8 eg11 rfl) eg13 rfl) eg15 rfl)
    refine k_callv xa L15 (k_runV (As := [.ref (Z.ad 1 v8.toInt.toNat)]) (rest := []) ⟨hx, hb, hml, x.2.2.2.2.1, x.2.2.1⟩ (d_keadd l X g15 i0 v8 _ n1 hX (cJ_up (cJ_up (cJ_up hJ8 eg11 rfl) eg13 rfl) eg15 rfl) (by omega) (show i0 < Z.n from (by omega)) hc8 al8 (by omega) hW) (cwV 1 x.2.2.1 (wk_V kd_X4_add kl_X4_89 ki_X4_add ks_X4_X4_add kn_X4) rfl rfl rfl hd_keadd ⟨Nat.le_of_ble_eq_true rfl, Nat.le_of_ble_eq_true rfl⟩) ⟨cPreA.blind, c_recv x L15 al8_0 rfl, fun U hU hW => k_pre xa L15 U hU hW⟩ rfl rfl hl.1 rfl (lv_room (Nat.le_of_ble_eq_true rfl)) dX4_setupCame_61 ⟨show 0 + 1 + 1 ≤ 2 by omega, show 0 + 18 + (0 + n1) ≤ 18 + n1 by omega⟩) (fun  Z g17 H17 k17 kc17 kn17 hk17 hn17 hp17 hz17 xa L17 => ?_)
    obtain ⟨hW, hi17, hp17⟩ := hp17
    replace hW := wfP_i (wfP_a (wfP_i (wfP_i hW ⟨hi17, hp17⟩) (cZg_of hz17 hk17 hn17)) Z) rfl
    have hww17 := hp17.2.2.1
    have ea17_0 := hz17.2.2.1 1 v8.toInt.toNat al8 (by omega)
    have ea17_1 := hz17.2.2.1 4 i0 al8_0 (by omega)
    have ea17_2 := hz17.2.2.1 9 q1 al8_1 (by omega)
    rw [← ea17_0] at hl
    rw [← ea17_1] at hl
    rw [← ea17_2] at hl
    have al17_0 := hz17.2.1 1 v8.toInt.toNat al8
    have al17_1 := hz17.2.1 4 i0 al8_0
    have al17_2 := hz17.2.1 9 q1 al8_1
    have hZn17 := hz17.1
    have x := xa.1
    have hz := x.2.2.2.2.2.2.2.1
    have hzn := hz.1
    have hzl := cZl.tr hzl hz17
    have hcs : 0 + 1 + kc17 ≤ 2 ∧ 0 + 18 + kn17 ≤ 18 + n1 := by omega
    refine lv_aload_n hx hb dX4_setupCame_64 rfl (lv_at hl 1 rfl) ?_
    refine c_geti x L17 4 i0 4 132 al17_1 rfl rfl (wk_in kf_X4_11) dX4_setupCame_65 (fun v18 ev18 wv18 => ?_)
    have rv18 : rg (-2147483648) (2147483647) v18 := rg_any v18
    replace hW := (wfP_i (wfP_i (wfP_a hW v18) ev18) rv18)
    have uv18 : (-2147483648 : Int) ≤ v18.toInt ∧ v18.toInt ≤ 2147483647 := rv18
    have sv18 : v18.toInt = (g 132 i0).toInt := congrArg Int32.toInt (ev18.trans (congrFun ((show mFr [32, 33, 34, 35, 36, 37, 38, 39, 40, 41, 42, 43, 44, 45, 46, 47, 48, 49, 135, 198, 384, 385, 386, 832, 864, 1536, 1728, 1729] g g17 from (mFr.tr (mFr.upE (mFr.upE (mFr.upE (mFr.tr (mFr.tr mFr.rf hp1.1 rfl) fr8 rfl) eg11 rfl) eg13 rfl) eg15 rfl) hp17.1 rfl)).at 132 rfl) _))
    refine lv_iconst (v := 2) hx hb dX4_setupCame_68 (by decide) ?_
    refine lv_icmp_ne (tgt := 94) hx hb dX4_setupCame_69 (by decide) (fun c69_19 => ?_) (fun c69_19 => ?_)
    · skip
      replace hW := wfP_i (wfP_l hW) (i_ne c69_19 rfl (rg_i kc_2))
      have ic69_19 : v18.toInt ≠ (2 : Int32).toInt := fun z => c69_19 (Int32.toInt_inj.mp z)
      have y20 : (2 : Int32).toInt = 2 := by decide
      refine lv_aload_n hx hb dX4_setupCame_94 rfl (lv_at hl 1 rfl) ?_
      refine c_geti x L17 4 i0 4 132 al17_1 rfl rfl (wk_in kf_X4_11) dX4_setupCame_95 (fun v21 ev21 wv21 => ?_)
      refine m_top ((ev18).trans ev21.symm) ?_
      refine lv_iconst (v := 1) hx hb dX4_setupCame_98 (by decide) ?_
      refine lv_icmp_ne (tgt := 123) hx hb dX4_setupCame_99 (by decide) (fun c99_22 => ?_) (fun c99_22 => ?_)
      · skip
        replace hW := wfP_i (wfP_l hW) (i_ne c99_22 rfl (rg_i kc_1))
        have ic99_22 : v18.toInt ≠ (1 : Int32).toInt := fun z => c99_22 (Int32.toInt_inj.mp z)
        have y23 : (1 : Int32).toInt = 1 := by decide
        refine lv_aload_n hx hb dX4_setupCame_123 rfl (lv_at hl 1 rfl) ?_
        refine lv_aload_n hx hb dX4_setupCame_124 rfl (lv_at hl 0 rfl) ?_
        refine lv_iload_n hx hb dX4_setupCame_125 rfl (lv_at hl 3 rfl) ?_
        refine c_cv (As := [.ref (Z.ad 1 v8.toInt.toNat), .int p2]) (rest := []) x hml L17 4 i0 al17_1 rfl (d_kanswer l X g17 i0 v8.toInt.toNat p2 hX hp17.2.1 (show i0 < Z.n from (by omega)) al17_0 hW) (wk_V kd_X4_answer kl_X4_133 ki_X4_answer ks_X4_X4_answer kn_X4) rfl ⟨rfl, rfl⟩ hd_kanswer ⟨Nat.le_of_ble_eq_true rfl, Nat.le_of_ble_eq_true rfl⟩ rfl hl.1 rfl (lv_room (Nat.le_of_ble_eq_true rfl)) dX4_setupCame_126 (fun  g24 H24 k24 hp24 L24 => ?_) hcs
        obtain ⟨hW, hi24, hp24⟩ := hp24
        replace hW := wfP_i hW ⟨hi24, hp24⟩
        exact k_vret xa L24 hr hlocks (Int.le_refl _) hzl ⟨hW, (mFi.sub (mFi.sub (mFi.up (mFi.up (mFi.up (mFi.rows (mFi.sub mFi.rf hi1 mSub_nil) fr8 (mAny_cons 0 rfl (mAny_cons 1 rfl (mAny_cons 2 rfl (mAny_cons 3 rfl (mAny_cons 4 rfl (mAny_cons 5 rfl (mAny_cons 6 rfl (mAny_cons 7 rfl (mAny_cons 8 rfl (mAny_cons 9 rfl (mAny_cons 10 rfl (mAny_cons 11 rfl (mAny_cons 12 rfl (mAny_cons 13 rfl (mAny_cons 14 rfl (mAny_cons 15 rfl (mAny_cons 16 rfl (mAny_cons 17 rfl mAny_nil))))))))))))))))))) eg11 (mIn_at 7 rfl (Or.inl rfl))) eg13 (mIn_at 6 rfl (Or.inl rfl))) eg15 (mIn_at 5 rfl (Or.inl rfl))) hi17 (mSub_any 3 rfl (mSub_eq 18 rfl (mSub_eq 20 rfl (mSub_eq 21 rfl (mSub_eq 22 rfl (mSub_eq 25 rfl (mSub_eq 26 rfl (mSub_eq 27 rfl mSub_nil))))))))) hi24 (mSub_any 4 rfl (mSub_any 9 rfl (mSub_any 10 rfl (mSub_any 12 rfl (mSub_any 13 rfl (mSub_any 14 rfl (mSub_any 16 rfl (mSub_eq 19 rfl (mSub_eq 23 rfl (mSub_eq 24 rfl mSub_nil))))))))))), (mFr.tr (mFr.tr (mFr.upE (mFr.upE (mFr.upE (mFr.tr (mFr.tr mFr.rf hp1.1 rfl) fr8 rfl) eg11 rfl) eg13 rfl) eg15 rfl) hp17.1 rfl) hp24.1 rfl), hp24.2.1, (by omega), trivial⟩ hcs.1 hcs.2 dX4_setupCame_129
      · skip
        replace hW := wfP_i (wfP_r hW) (i_eq c99_22 rfl (rg_i kc_1))
        have ic99_22 := congrArg Int32.toInt c99_22
        have y25 : (1 : Int32).toInt = 1 := by decide
        have q26 : rg (1) (1) v18 := (rg_eq c99_22 rv18 kc_1).1
        have uq26 : (1 : Int) ≤ v18.toInt ∧ v18.toInt ≤ 1 := q26
        refine lv_aload_n hx hb dX4_setupCame_102 rfl (lv_at hl 0 rfl) ?_
        refine lv_bipush (v := 6) hx hb dX4_setupCame_103 (by decide) ?_
        refine lv_iload_n hx hb dX4_setupCame_105 rfl (lv_at hl 3 rfl) ?_
        refine lv_aload_n hx hb dX4_setupCame_106 rfl (lv_at hl 1 rfl) ?_
        refine c_geti x L17 4 i0 5 133 al17_1 rfl rfl (wk_in kf_X4_15) dX4_setupCame_107 (fun v27 ev27 wv27 => ?_)
        have rv27 : rg (-2147483648) (2147483647) v27 := rg_any v27
        replace hW := (wfP_i (wfP_i (wfP_a hW v27) ev27) rv27)
        have uv27 : (-2147483648 : Int) ≤ v27.toInt ∧ v27.toInt ≤ 2147483647 := rv27
        have sv27 : v27.toInt = (g 133 i0).toInt := congrArg Int32.toInt (ev27.trans (congrFun ((show mFr [32, 33, 34, 35, 36, 37, 38, 39, 40, 41, 42, 43, 44, 45, 46, 47, 48, 49, 135, 198, 384, 385, 386, 832, 864, 1536, 1728, 1729] g g17 from (mFr.tr (mFr.upE (mFr.upE (mFr.upE (mFr.tr (mFr.tr mFr.rf hp1.1 rfl) fr8 rfl) eg11 rfl) eg13 rfl) eg15 rfl) hp17.1 rfl)).at 133 rfl) _))
        refine lv_iadd hx hb dX4_setupCame_110 ?_
        refine lv_topi (fun v28 ev28 => ?_)
        have rv28 : rg (-2147483648) (2147483647) v28 := rg_any v28
        replace hW := (wfP_i (wfP_i (wfP_a hW v28) ev28) rv28)
        have uv28 : (-2147483648 : Int) ≤ v28.toInt ∧ v28.toInt ≤ 2147483647 := rv28
        refine c_cv (As := [.int (6 : Int32), .int v28]) (rest := []) x hml L17 1 v8.toInt.toNat al17_0 rfl (d_kenter l X g17 v8.toInt.toNat (6 : Int32) v28 hX hp17.2.1 al17_0 hW) (wk_V kd_X1_enter kl_X4_85 ki_X1_enter ks_X1_X1_enter kn_X1) rfl ⟨rfl, rfl⟩ hd_kenter ⟨Nat.le_of_ble_eq_true rfl, Nat.le_of_ble_eq_true rfl⟩ rfl hl.1 rfl (lv_room (Nat.le_of_ble_eq_true rfl)) dX4_setupCame_111 (fun  g29 H29 k29 hp29 L29 => ?_) hcs
        obtain ⟨hW, hi29, hp29⟩ := hp29
        replace hW := wfP_i hW ⟨hi29, hp29⟩
        refine lv_aload_n hx hb dX4_setupCame_114 rfl (lv_at hl 1 rfl) ?_
        refine lv_iconst (v := 2) hx hb dX4_setupCame_115 (by decide) ?_
        refine lv_aload_n hx hb dX4_setupCame_116 rfl (lv_at hl 0 rfl) ?_
        refine c_cvU (n := 2) (owner := "CellSwitch$Side") (x0 := ⟨"CellSwitch$EndSide", "sayPlain", "(ILCellSwitch$Call;)V"⟩) (As := [.int (2 : Int32), .ref (Z.ad 1 v8.toInt.toNat)]) (rest := []) x hml L29 4 i0 al17_1 rfl (d_ksayPlain_4 l X g29 i0 (2 : Int32) v8.toInt.toNat hX (show i0 < Z.n from (by omega)) al17_0 hW) (wk_U kd_X8_sayPlain kl_X4_129 km_CellSwitchEndSide_CellSwitchSide_sayPlain ks_X4_CellSwitchEndSide_X8_sayPlain ki_X8_sayPlain kn_X8) rfl ⟨rfl, rfl⟩ rfl (by decide +kernel) ⟨Nat.le_of_ble_eq_true rfl, Nat.le_of_ble_eq_true rfl⟩ rfl hl.1 rfl (lv_room (Nat.le_of_ble_eq_true rfl)) dX4_setupCame_117 (fun  g30 H30 k30 hp30 L30 => ?_) hcs
        obtain ⟨hW, hi30, hp30⟩ := hp30
        replace hW := wfP_i hW ⟨hi30, hp30⟩
        refine lv_goto (tgt := 129) hx hb dX4_setupCame_120 (by decide) ?_
        exact k_vret xa L30 hr hlocks (Int.le_refl _) hzl ⟨hW, (mFi.sub (mFi.sub (mFi.sub (mFi.up (mFi.up (mFi.up (mFi.rows (mFi.sub mFi.rf hi1 mSub_nil) fr8 (mAny_cons 0 rfl (mAny_cons 1 rfl (mAny_cons 2 rfl (mAny_cons 3 rfl (mAny_cons 4 rfl (mAny_cons 5 rfl (mAny_cons 6 rfl (mAny_cons 7 rfl (mAny_cons 8 rfl (mAny_cons 9 rfl (mAny_cons 10 rfl (mAny_cons 11 rfl (mAny_cons 12 rfl (mAny_cons 13 rfl (mAny_cons 14 rfl (mAny_cons 15 rfl (mAny_cons 16 rfl (mAny_cons 17 rfl mAny_nil))))))))))))))))))) eg11 (mIn_at 7 rfl (Or.inl rfl))) eg13 (mIn_at 6 rfl (Or.inl rfl))) eg15 (mIn_at 5 rfl (Or.inl rfl))) hi17 (mSub_any 3 rfl (mSub_eq 18 rfl (mSub_eq 20 rfl (mSub_eq 21 rfl (mSub_eq 22 rfl (mSub_eq 25 rfl (mSub_eq 26 rfl (mSub_eq 27 rfl mSub_nil))))))))) hi29 (mSub_any 4 rfl (mSub_any 9 rfl (mSub_any 10 rfl (mSub_any 12 rfl (mSub_any 13 rfl (mSub_any 14 rfl (mSub_any 16 rfl mSub_nil)))))))) hi30 (mSub_eq 19 rfl (mSub_eq 23 rfl (mSub_eq 24 rfl mSub_nil)))), (mFr.tr (mFr.tr (mFr.tr (mFr.upE (mFr.upE (mFr.upE (mFr.tr (mFr.tr mFr.rf hp1.1 rfl) fr8 rfl) eg11 rfl) eg13 rfl) eg15 rfl) hp17.1 rfl) hp29.1 rfl) hp30.1 rfl), (cJ_fr hp29.2.1 hp30.1 rfl), (by omega), trivial⟩ hcs.1 hcs.2 dX4_setupCame_129
    · skip
      replace hW := wfP_i (wfP_r hW) (i_eq c69_19 rfl (rg_i kc_2))
      have ic69_19 := congrArg Int32.toInt c69_19
      have y31 : (2 : Int32).toInt = 2 := by decide
      have q32 : rg (2) (2) v18 := (rg_eq c69_19 rv18 kc_2).1
      have uq32 : (2 : Int) ≤ v18.toInt ∧ v18.toInt ≤ 2 := q32
      refine lv_aload_n hx hb dX4_setupCame_72 rfl (lv_at hl 0 rfl) ?_
      refine lv_bipush (v := 17) hx hb dX4_setupCame_73 (by decide) ?_
      refine c_cv (As := [.int (17 : Int32)]) (rest := []) x hml L17 1 v8.toInt.toNat al17_0 rfl (d_kfinish l X g17 v8.toInt.toNat (17 : Int32) hX hp17.2.1 al17_0 hW) (wk_V kd_X1_finish kl_X4_125 ki_X1_finish ks_X1_X1_finish kn_X1) rfl ⟨rfl, rfl⟩ hd_kfinish ⟨Nat.le_of_ble_eq_true rfl, Nat.le_of_ble_eq_true rfl⟩ rfl hl.1 rfl (lv_room (Nat.le_of_ble_eq_true rfl)) dX4_setupCame_75 (fun  g33 H33 k33 hp33 L33 => ?_) hcs
      obtain ⟨hW, hi33, hp33⟩ := hp33
      replace hW := wfP_i hW ⟨hi33, hp33⟩
      refine lv_aload_n hx hb dX4_setupCame_78 rfl (lv_at hl 1 rfl) ?_
      refine lv_bipush (v := 90) hx hb dX4_setupCame_79 (by decide) ?_
      refine lv_aload_n hx hb dX4_setupCame_81 rfl (lv_at hl 0 rfl) ?_
      refine c_geti x L33 1 v8.toInt.toNat 1 33 al17_0 rfl rfl (wk_in kf_X4_97) dX4_setupCame_82 (fun v34 ev34 wv34 => ?_)
      have rv34 : rg (-2147483648) (2147483647) v34 := rg_any v34
      replace hW := (wfP_i (wfP_i (wfP_a hW v34) ev34) rv34)
      have uv34 : (-2147483648 : Int) ≤ v34.toInt ∧ v34.toInt ≤ 2147483647 := rv34
      refine lv_iconst (v := 0) hx hb dX4_setupCame_85 (by decide) ?_
      refine lv_bipush (v := 17) hx hb dX4_setupCame_86 (by decide) ?_
      refine c_cvU (n := 4) (owner := "CellSwitch$Side") (x0 := ⟨"CellSwitch$EndSide", "sayCause", "(IIZI)V"⟩) (As := [.int (90 : Int32), .int v34, .int (0 : Int32), .int (17 : Int32)]) (rest := []) x hml L33 4 i0 al17_1 rfl (d_ksayCause_4 l X g33 i0 (90 : Int32) v34 (0 : Int32) (17 : Int32) hX (show i0 < Z.n from (by omega)) (rg_w kc_0 rfl) hW) (wk_U kd_X8_sayCause kl_X4_113 km_CellSwitchEndSide_CellSwitchSide_sayCause ks_X4_CellSwitchEndSide_X8_sayCause ki_X8_sayCause kn_X8) rfl ⟨rfl, rfl⟩ rfl (by decide +kernel) ⟨Nat.le_of_ble_eq_true rfl, Nat.le_of_ble_eq_true rfl⟩ rfl hl.1 rfl (lv_room (Nat.le_of_ble_eq_true rfl)) dX4_setupCame_88 (fun  g35 H35 k35 hp35 L35 => ?_) hcs
      obtain ⟨hW, hi35, hp35⟩ := hp35
      replace hW := wfP_i hW ⟨hi35, hp35⟩
      refine lv_goto (tgt := 129) hx hb dX4_setupCame_91 (by decide) ?_
      exact k_vret xa L35 hr hlocks (Int.le_refl _) hzl ⟨hW, (mFi.sub (mFi.sub (mFi.sub (mFi.up (mFi.up (mFi.up (mFi.rows (mFi.sub mFi.rf hi1 mSub_nil) fr8 (mAny_cons 0 rfl (mAny_cons 1 rfl (mAny_cons 2 rfl (mAny_cons 3 rfl (mAny_cons 4 rfl (mAny_cons 5 rfl (mAny_cons 6 rfl (mAny_cons 7 rfl (mAny_cons 8 rfl (mAny_cons 9 rfl (mAny_cons 10 rfl (mAny_cons 11 rfl (mAny_cons 12 rfl (mAny_cons 13 rfl (mAny_cons 14 rfl (mAny_cons 15 rfl (mAny_cons 16 rfl (mAny_cons 17 rfl mAny_nil))))))))))))))))))) eg11 (mIn_at 7 rfl (Or.inl rfl))) eg13 (mIn_at 6 rfl (Or.inl rfl))) eg15 (mIn_at 5 rfl (Or.inl rfl))) hi17 (mSub_any 3 rfl (mSub_eq 18 rfl (mSub_eq 20 rfl (mSub_eq 21 rfl (mSub_eq 22 rfl (mSub_eq 25 rfl (mSub_eq 26 rfl (mSub_eq 27 rfl mSub_nil))))))))) hi33 (mSub_any 4 rfl (mSub_any 8 rfl (mSub_any 9 rfl (mSub_any 10 rfl (mSub_any 12 rfl (mSub_any 13 rfl (mSub_any 14 rfl (mSub_any 16 rfl mSub_nil))))))))) hi35 (mSub_eq 19 rfl (mSub_eq 23 rfl (mSub_eq 24 rfl mSub_nil)))), (mFr.tr (mFr.tr (mFr.tr (mFr.upE (mFr.upE (mFr.upE (mFr.tr (mFr.tr mFr.rf hp1.1 rfl) fr8 rfl) eg11 rfl) eg13 rfl) eg15 rfl) hp17.1 rfl) hp33.1 rfl) hp35.1 rfl), (cJ_fr hp33.2.1 hp35.1 rfl), (by omega), trivial⟩ hcs.1 hcs.2 dX4_setupCame_129
  · skip
    replace hW := wfP_i (wfP_r hW) (i_eq c4_3 rfl (rg_i kc_0))
    have ic4_3 := congrArg Int32.toInt c4_3
    have y36 : (0 : Int32).toInt = 0 := by decide
    have q37 : rg (0) (0) v2 := (rg_eq c4_3 rv2 kc_0).1
    have uq37 : (0 : Int) ≤ v2.toInt ∧ v2.toInt ≤ 0 := q37
    refine lv_aload_n hx hb dX4_setupCame_7 rfl (lv_at hl 0 rfl) ?_
    refine lv_bipush (v := 90) hx hb dX4_setupCame_8 (by decide) ?_
    refine lv_aload_n hx hb dX4_setupCame_10 rfl (lv_at hl 1 rfl) ?_
    refine c_geti x L1 9 q1 1 289 hq1 rfl rfl (wk_in kf_X4_112) dX4_setupCame_11 (fun v38 ev38 wv38 => ?_)
    have rv38 : rg (-2147483648) (2147483647) v38 := rg_any v38
    replace hW := (wfP_i (wfP_i (wfP_a hW v38) ev38) rv38)
    have uv38 : (-2147483648 : Int) ≤ v38.toInt ∧ v38.toInt ≤ 2147483647 := rv38
    have sv38 : v38.toInt = (g 289 q1).toInt := congrArg Int32.toInt (ev38.trans (congrFun ((show mFr [32, 33, 34, 35, 36, 37, 38, 39, 40, 41, 42, 43, 44, 45, 46, 47, 48, 49, 135, 198, 384, 385, 386, 832, 864, 1536, 1728, 1729] g g1 from (mFr.tr mFr.rf hp1.1 rfl)).at 289 rfl) _))
    refine lv_iconst (v := 0) hx hb dX4_setupCame_14 (by decide) ?_
    refine lv_bipush (v := 47) hx hb dX4_setupCame_15 (by decide) ?_
    refine c_cvU (n := 4) (owner := "CellSwitch$Side") (x0 := ⟨"CellSwitch$EndSide", "sayCause", "(IIZI)V"⟩) (As := [.int (90 : Int32), .int v38, .int (0 : Int32), .int (47 : Int32)]) (rest := []) x hml L1 4 i0 hal0 rfl (d_ksayCause_4 l X g1 i0 (90 : Int32) v38 (0 : Int32) (47 : Int32) hX (show i0 < Z.n from (by omega)) (rg_w kc_0 rfl) hW) (wk_U kd_X8_sayCause kl_X4_113 km_CellSwitchEndSide_CellSwitchSide_sayCause ks_X4_CellSwitchEndSide_X8_sayCause ki_X8_sayCause kn_X8) rfl ⟨rfl, rfl⟩ rfl (by decide +kernel) ⟨Nat.le_of_ble_eq_true rfl, Nat.le_of_ble_eq_true rfl⟩ rfl hl.1 rfl (lv_room (Nat.le_of_ble_eq_true rfl)) dX4_setupCame_17 (fun  g39 H39 k39 hp39 L39 => ?_) hcs
    obtain ⟨hW, hi39, hp39⟩ := hp39
    replace hW := wfP_i hW ⟨hi39, hp39⟩
    exact k_vret xa L39 hr hlocks (Int.le_refl _) hzl ⟨hW, (mFi.sub (mFi.sub mFi.rf hi1 mSub_nil) hi39 (mSub_eq 19 rfl (mSub_eq 23 rfl (mSub_eq 24 rfl mSub_nil)))), (mFr.tr (mFr.tr mFr.rf hp1.1 rfl) hp39.1 rfl), (cJ_fr hp1.2.2.1 hp39.1 rfl), (by omega), trivial⟩ hcs.1 hcs.2 dX4_setupCame_20

def rn_ksetupCame_10 (n1 : Nat) (n2 : Nat) : Room := { frames := 8, cells := 4, slots := 36 + n1 + n2, locals := 185 }
def im_ksetupCame_10 (i0 : Nat) (q1 : Nat) (p2 : Int32) : List (Nat × Nat × Nat) := [(32, 0, 0), (33, 0, 0), (34, 0, 0), (35, 0, 0), (36, 0, 0), (37, 0, 0), (38, 0, 0), (39, 0, 0), (40, 0, 0), (41, 0, 0), (42, 0, 0), (43, 0, 0), (44, 0, 0), (45, 0, 0), (46, 0, 0), (47, 0, 0), (48, 0, 0), (49, 0, 0), (198, 0, 0), (323, 0, 0), (384, 0, 0), (385, 0, 0), (386, 0, 0), (832, 0, 0), (864, 0, 0), (1728, 0, 0), (1729, 0, 0)]
def po_ksetupCame_10 (Z : cZ) (i0 : Nat) (q1 : Nat) (p2 : Int32) (g : mSt) (r : Int32) (Z1 : cZ) (g1 : mSt) : Prop := mFi (im_ksetupCame_10 i0 q1 p2) g g1 ∧ mFr [32, 33, 34, 35, 36, 37, 38, 39, 40, 41, 42, 43, 44, 45, 46, 47, 48, 49, 198, 323, 384, 385, 386, 832, 864, 1728, 1729] g g1 ∧ cJ Z1 g1 ∧ Z1.w 2 ≤ Z.w 2 + 2 ∧ True
def wp_ksetupCame_10 (n1 : Nat) (n2 : Nat) (Z : cZ) (i0 : Nat) (q1 : Nat) (p2 : Int32) (g : mSt) (Φ : Int32 → cZ → mSt → Prop) : Prop :=
  wp_krefusal Z i0 q1 g (fun (v2 : Int32) (g1 : mSt) => po_krefusal Z i0 q1 g v2 g1 → ((v2.toInt = 0) → ∀ (v8 : Int32), v8 = g1 291 q1 → rg (-2147483648) (2147483647) v8 → ∀ (v10 : Int32), v10 = g1 323 v8.toInt.toNat → rg (-2147483648) (2147483647) v10 → ∀ (v11 : Int32), v11 = v10 + (1 : Int32) → rg (-2147483648) (2147483647) v11 → ∀ (g12 : mSt), g12 = up2 g1 323 v8.toInt.toNat v11 → ∀ (v14 : Int32), v14 = g12 289 q1 → rg (-2147483648) (2147483647) v14 → ∀ (sd16 : Int32), sd16.toInt = (((Z.n + i0 : Nat)) : Int) → ∀ (Z_15 : cZ), Z_15 = Z → ∀ (Z : cZ) (v15 : Int32) (g15 : mSt), v15.toInt = (Z_15.w 2 : Int) → cZl Z_15 Z 1 18 → Z.w 2 = Z_15.w 2 + 1 → Z.w 3 = Z_15.w 3 → cJ Z g15 → Z.al 1 v15.toInt.toNat → g15 = gNew g12 v15.toInt.toNat sd16 v14 (0 : Int32) → ∀ (sd20 : Int32), sd20.toInt = (((Z.n + v8.toInt.toNat : Nat)) : Int) → ∀ (Z_19 : cZ), Z_19 = Z → ∀ (Z : cZ) (v19 : Int32) (g19 : mSt), v19.toInt = (Z_19.w 2 : Int) → cZl Z_19 Z 1 18 → Z.w 2 = Z_19.w 2 + 1 → Z.w 3 = Z_19.w 3 → cJ Z g19 → Z.al 1 v19.toInt.toNat → g19 = gNew g15 v19.toInt.toNat sd20 v11 (1 : Int32) → ∀ (g21 : mSt), g21 = up2 g19 43 v15.toInt.toNat v19 → ∀ (g23 : mSt), g23 = up2 g21 43 v19.toInt.toNat v15 → ∀ (v25 : Int32), v25.toInt = ((i0 : Nat) : Int) → rg (0) (3) v25 → ∀ (g26 : mSt), g26 = up2 g23 39 v19.toInt.toNat v25 → ∀ (v27 : Int32), v27 = g26 293 q1 → rg (-2147483648) (2147483647) v27 → ∀ (g28 : mSt), g28 = up2 g26 38 v15.toInt.toNat v27 → ∀ (g30 : mSt), g30 = up2 g28 38 v19.toInt.toNat v27 → wp_kleastChannel Z i0 g30 (fun (v32 : Int32) (g31 : mSt) => po_kleastChannel Z i0 g30 v32 g31 → ∀ (g33 : mSt), g33 = up2 g31 37 v15.toInt.toNat v32 → wp_kleastChannel Z v8.toInt.toNat g33 (fun (v35 : Int32) (g34 : mSt) => po_kleastChannel Z v8.toInt.toNat g33 v35 g34 → ∀ (g36 : mSt), g36 = up2 g34 37 v19.toInt.toNat v35 → wp_kenter Z v15.toInt.toNat (3 : Int32) (0 : Int32) g36 (fun (_ : Int32) (g37 : mSt) => po_kenter Z v15.toInt.toNat (3 : Int32) (0 : Int32) g36 0 g37 → ∀ (v38 : Int32), v38 = p2 + (8 : Int32) → rg (-2147483648) (2147483647) v38 → wp_kenter Z v19.toInt.toNat (6 : Int32) v38 g37 (fun (_ : Int32) (g39 : mSt) => po_kenter Z v19.toInt.toNat (6 : Int32) v38 g37 0 g39 → wp_kkeep_10 n1 Z i0 v15 g39 (fun (_ : Int32) (Z_41 : cZ) (g41 : mSt) => po_kkeep_10 Z i0 v15 g39 0 Z_41 g41 → cZg Z Z_41 1 (0 + n1) → ∀ Z : cZ, Z = Z_41 → wp_kkeep_10 n2 Z v8.toInt.toNat v19 g41 (fun (_ : Int32) (Z_43 : cZ) (g43 : mSt) => po_kkeep_10 Z v8.toInt.toNat v19 g41 0 Z_43 g43 → cZg Z Z_43 1 (0 + n2) → ∀ Z : cZ, Z = Z_43 → wp_ksayProceeding Z i0 v15.toInt.toNat g43 (fun (_ : Int32) (g44 : mSt) => po_ksayProceeding Z i0 v15.toInt.toNat g43 0 g44 → wp_ksaySetup_10 Z v8.toInt.toNat v19.toInt.toNat g44 (fun (_ : Int32) (g45 : mSt) => po_ksaySetup_10 Z v8.toInt.toNat v19.toInt.toNat g44 0 g45 → Φ 0 Z g45))))))))) ∧ ((v2.toInt ≠ 0) → ∀ (v48 : Int32), v48 = g1 289 q1 → rg (-2147483648) (2147483647) v48 → wp_ksayCause_10 Z i0 (90 : Int32) v48 (0 : Int32) v2 g1 (fun (_ : Int32) (g49 : mSt) => po_ksayCause_10 Z i0 (90 : Int32) v48 (0 : Int32) v2 g1 0 g49 → Φ 0 Z g49)))
set_option maxHeartbeats 4000000 in
set_option maxRecDepth 100000 in
theorem d_ksetupCame_10 (l : Launch) {G : cG} {Z : cZ} (X : Int) (g : mSt) (i0 : Nat) (q1 : Nat) (p2 : Int32) (sz n1 n2 : Nat) (hX : 0 ≤ X ∧ X ≤ 2000000000) (hJ : cJ Z g) (hw2 : Z.w 2 + 2 ≤ 1000000) (hi0 : i0 < Z.n) (hq1 : Z.al 9 q1) (hcl : 0 ≤ (g 291 q1).toInt) {Φ : Int32 → cZ → mSt → Prop} (hW : wfP (wp_ksetupCame_10 n1 n2 Z i0 q1 p2 g Φ)) : Met l yX10_setupCame (wk (Cond.code yX10_setupCame cX10_setupCame 7 none)) (rn_ksetupCame_10 n1 n2) (va_Pc [.ref (Z.ad 10 i0), .ref (Z.ad 9 q1), .int p2] (cPreA G Z X g sz)) (kE 4 (36 + n1 + n2) (cAf Z sz) (cQvA G Z X (fun Z1 g1 => wfP (Φ 0 Z1 g1) ∧ mFi (im_ksetupCame_10 i0 q1 p2) g g1 ∧ (mFr [32, 33, 34, 35, 36, 37, 38, 39, 40, 41, 42, 43, 44, 45, 46, 47, 48, 49, 198, 323, 384, 385, 386, 832, 864, 1728, 1729] g g1 ∧ cJ Z1 g1 ∧ Z1.w 2 ≤ Z.w 2 + 2 ∧ True)))) 4 (36 + n1 + n2) (cAf Z sz) := by
  refine Met.ofW (cc := cX10_setupCame) (maxL := 7) (ret := none) (by decide) rfl ?_
  intro p e s m args below meth c s₁ B hml hv
  obtain ⟨hav, hv⟩ := hv
  have hsz0 := hv.2.1
  subst hsz0
  have hr := B.returns
  have hlocks := B.notSynchronized
  obtain ⟨xa, L⟩ := k_start B rfl (fun w h => wk_in h) hv
  have hent : entryFrame m args 7 = entryFrame m ([.ref (Z.ad 10 i0), .ref (Z.ad 9 q1), .int p2] : List Value).toArray 7 := by rw [hav]
  rw [hent]
  have hl := lv_entry ([.ref (Z.ad 10 i0), .ref (Z.ad 9 q1), .int p2]) (n := 7) (Nat.le_of_ble_eq_true rfl)
  rw [lg_entry_eq]
  generalize (lg_sl ([.ref (Z.ad 10 i0), .ref (Z.ad 9 q1), .int p2]) ++ List.replicate (7 - (lg_sl ([.ref (Z.ad 10 i0), .ref (Z.ad 9 q1), .int p2])).length) Slot.unset).toArray = ls at hl ⊢
  have hl : lv_has ls 7 [(0, .ref (Z.ad 10 i0)), (1, .ref (Z.ad 9 q1)), (2, .int p2)] := hl
  have x := xa.1
  have hx := x.1
  have hb := x.2.1
  have hz := x.2.2.2.2.2.2.2.1
  have hzn := hz.1
  have hzl : cZl Z Z 0 0 := cZl.rf
  have hcs : 0 ≤ 4 ∧ 0 ≤ 36 + n1 + n2 := ⟨Nat.zero_le _, Nat.zero_le _⟩
  have hal0 : Z.al 10 i0 := hz.2 10 i0 (show i0 < Z.n from hi0)
  have up2 : (-2147483648 : Int) ≤ p2.toInt ∧ p2.toInt ≤ 2147483647 := (rg_any p2)
  refine lv_aload_n hx hb dX10_setupCame_0 rfl (lv_at hl 0 rfl) ?_
  refine lv_aload_n hx hb dX10_setupCame_1 rfl (lv_at hl 1 rfl) ?_
  refine c_ci (As := [.ref (Z.ad 9 q1)]) (rest := []) x hml L 10 i0 hal0 rfl (d_krefusal l X g i0 q1 hX hJ (show i0 < Z.n from (by omega)) hq1 (by omega) hW) (wk_V kd_X10_refusal kl_X10_81 ki_X10_refusal ks_X10_X10_refusal kn_X10) rfl ⟨rfl, rfl⟩ hd_krefusal ⟨Nat.le_of_ble_eq_true rfl, Nat.le_of_ble_eq_true rfl⟩ rfl hl.1 rfl (lv_room (Nat.le_of_ble_eq_true rfl)) dX10_setupCame_2 (fun v2 g1 H1 k1 hp1 L1 => ?_) hcs
  obtain ⟨hW, hi1, hp1⟩ := hp1
  replace hW := wfP_i hW ⟨hi1, hp1⟩
  have rv2 : rg (0) (96) v2 := hp1.2.1
  have uv2 : (0 : Int) ≤ v2.toInt ∧ v2.toInt ≤ 96 := rv2
  have hw3 := hp1.2.2.2
  refine lv_istore_n (lv' := [(3, .int v2), (0, .ref (Z.ad 10 i0)), (1, .ref (Z.ad 9 q1)), (2, .int p2)]) hx hb dX10_setupCame_5 rfl hl (by decide) rfl (fun ls hl => ?_)
  refine lv_iload_n hx hb dX10_setupCame_6 rfl (lv_at hl 0 rfl) ?_
  refine lv_if_eq (tgt := 23) hx hb dX10_setupCame_7 (by decide) (fun c7_4 => ?_) (fun c7_4 => ?_)
  · skip
    replace hW := wfP_i (wfP_l hW) (i_eq c7_4 rfl (rg_i kc_0))
    have ic7_4 := congrArg Int32.toInt c7_4
    have y5 : (0 : Int32).toInt = 0 := by decide
    have q6 : rg (0) (0) v2 := (rg_eq c7_4 rv2 kc_0).1
    have uq6 : (0 : Int) ≤ v2.toInt ∧ v2.toInt ≤ 0 := q6
    refine lv_aload_n hx hb dX10_setupCame_23 rfl (lv_at hl 1 rfl) ?_
    have al7 : Z.al 49 0 := hz.2 49 0 (show 0 < 1 from (by omega))
    refine c_getr (a := Z.ad 49 0) x L1 10 i0 4 hal0 rfl rfl (wk_in kf_X10_9) dX10_setupCame_24 ?_
    refine lv_aload_n hx hb dX10_setupCame_27 rfl (lv_at hl 2 rfl) ?_
    refine c_geti x L1 9 q1 3 291 hq1 rfl rfl (wk_in kf_X10_68) dX10_setupCame_28 (fun v8 ev8 wv8 => ?_)
    have rv8 : rg (-2147483648) (2147483647) v8 := rg_any v8
    replace hW := (wfP_i (wfP_i (wfP_a hW v8) ev8) rv8)
    have uv8 : (-2147483648 : Int) ≤ v8.toInt ∧ v8.toInt ≤ 2147483647 := rv8
    have sv8 : v8.toInt = (g 291 q1).toInt := congrArg Int32.toInt (ev8.trans (congrFun ((show mFr [32, 33, 34, 35, 36, 37, 38, 39, 40, 41, 42, 43, 44, 45, 46, 47, 48, 49, 198, 323, 384, 385, 386, 832, 864, 1728, 1729] g g1 from (mFr.tr mFr.rf hp1.1 rfl)).at 291 rfl) _))
    refine c_ldr (a := Z.ad 10 v8.toInt.toNat) x L1 49 0 al7 rfl (by omega) (show v8.toInt < ((Z.n : Nat) : Int) from (by omega)) rfl dX10_setupCame_31 ?_
    have al9 : Z.al 10 v8.toInt.toNat := hz.2 10 v8.toInt.toNat (show v8.toInt.toNat < Z.n from (by omega))
    refine lv_astore (lv' := [(4, .ref (Z.ad 10 v8.toInt.toNat)), (3, .int v2), (0, .ref (Z.ad 10 i0)), (1, .ref (Z.ad 9 q1)), (2, .int p2)]) hx hb dX10_setupCame_32 hl (by decide) rfl (fun ls hl => ?_)
    refine lv_aload hx hb dX10_setupCame_34 (lv_at hl 0 rfl) ?_
    refine lv_dup hx hb dX10_setupCame_36 rfl ?_
    refine c_getiS x L1 10 v8.toInt.toNat 3 323 al9 rfl rfl (wk_in kf_X10_92) (fun y h => u_same (x.2.2.1 _ (wk_in ke_CellSwitchSwitchSide_CellSwitchSide_lastReference)) y h) dX10_setupCame_37 (fun v10 ev10 wv10 => ?_)
    have rv10 : rg (-2147483648) (2147483647) v10 := rg_any v10
    replace hW := (wfP_i (wfP_i (wfP_a hW v10) ev10) rv10)
    have uv10 : (-2147483648 : Int) ≤ v10.toInt ∧ v10.toInt ≤ 2147483647 := rv10
    refine lv_iconst (v := 1) hx hb dX10_setupCame_40 (by decide) ?_
    refine lv_iadd hx hb dX10_setupCame_41 ?_
    refine lv_topi (fun v11 ev11 => ?_)
    have rv11 : rg (-2147483648) (2147483647) v11 := rg_any v11
    replace hW := (wfP_i (wfP_i (wfP_a hW v11) ev11) rv11)
    have uv11 : (-2147483648 : Int) ≤ v11.toInt ∧ v11.toInt ≤ 2147483647 := rv11
    refine c_putiS x L1 10 v8.toInt.toNat 3 323 al9 rfl rfl ⟨rfl, by decide +kernel⟩ (wk_in kf_X10_92) (fun y h => u_same (x.2.2.1 _ (wk_in ke_CellSwitchSwitchSide_CellSwitchSide_lastReference)) y h) dX10_setupCame_42 (rg_any v11) (fun g12 H12 k12 eg12 L12 => ?_)
    replace hW := (wfP_i (wfP_a hW g12) eg12)
    refine k_newCall xa L12 (wk_in kc_lX10_29_b) (wk_in kx_X1) (wk_in kn_X1) (show 0 + 1 ≤ 4 by omega) (show 0 + 18 ≤ 36 + n1 + n2 by omega) dX10_setupCame_45 (fun a13 H13 O13 hfr13 hAa13 L13 => ?_)
    have hcs : 0 + 1 ≤ 4 ∧ 0 + 18 ≤ 36 + n1 + n2 := by omega
    refine lv_dup hx hb dX10_setupCame_48 rfl ?_
    refine lv_aload_n hx hb dX10_setupCame_49 rfl (lv_at hl 2 rfl) ?_
    refine lv_aload_n hx hb dX10_setupCame_50 rfl (lv_at hl 3 rfl) ?_
    refine c_geti x L13 9 q1 1 289 hq1 rfl rfl (wk_in kf_X10_85) dX10_setupCame_51 (fun v14 ev14 wv14 => ?_)
    have rv14 : rg (-2147483648) (2147483647) v14 := rg_any v14
    replace hW := (wfP_i (wfP_i (wfP_a hW v14) ev14) rv14)
    have uv14 : (-2147483648 : Int) ≤ v14.toInt ∧ v14.toInt ≤ 2147483647 := rv14
    have sv14 : v14.toInt = (g 289 q1).toInt := congrArg Int32.toInt (ev14.trans (congrFun ((show mFr [32, 33, 34, 35, 36, 37, 38, 39, 40, 41, 42, 43, 44, 45, 46, 47, 48, 49, 198, 323, 384, 385, 386, 832, 864, 1728, 1729] g g12 from (mFr.upE (mFr.tr mFr.rf hp1.1 rfl) eg12 rfl)).at 289 rfl) _))
    refine lv_iconst (v := 0) hx hb dX10_setupCame_54 (by decide) ?_
    obtain ⟨sd16, hsd16⟩ := k_sd (Z.n + i0) (by omega)
    replace hW := (wfP_i (wfP_a hW sd16) hsd16)
    replace hW := wfP_i (wfP_a hW Z) rfl
    refine d_initCall (rest := [.ref a13]) xa (hml.trans hl.1.symm) L13 O13 hfr13 hAa13 (cJ_up hp1.2.2.1 eg12 rfl) (by omega) sd16 v14 (0 : Int32) (cSd_10 hsd16) ⟨by omega, by omega⟩ (rg_w kc_0 rfl) (wk_good kd_X1_init) (wk_in kl_X10_95) (wk_in ki_X1_init) (wk_in kn_X1) ⟨Nat.le_of_ble_eq_true rfl, Nat.le_of_ble_eq_true rfl⟩ (Nat.le_of_ble_eq_true rfl) hcs dX10_setupCame_55 (fun v15 Z g15 H15 k15 hv15 hz15 hww15 hw315 xa L15 hJ15 al15 ad15 eg15 hne15 => ?_)
    have hc15 : 0 ≤ v15.toInt := by omega
    replace hW := (wfP_i (wfP_i (wfP_i (wfP_i (wfP_i (wfP_i (wfP_i (wfP_a (wfP_a (wfP_a hW Z) v15) g15) hv15) hz15) hww15) hw315) hJ15) al15) eg15)
    have fr15 : mFr [32, 33, 34, 35, 36, 37, 38, 39, 40, 41, 42, 43, 44, 45, 46, 47, 48, 49] g12 g15 := by rw [eg15]; exact gNew_fr
    subst ad15
    have ea15_0 := hz15.2.2.1 10 v8.toInt.toNat al9 (by omega)
    have ea15_1 := hz15.2.2.1 10 i0 hal0 (by omega)
    have ea15_2 := hz15.2.2.1 9 q1 hq1 (by omega)
    rw [← ea15_0] at hl
    rw [← ea15_1] at hl
    rw [← ea15_2] at hl
    have al15_0 := hz15.2.1 10 v8.toInt.toNat al9
    have al15_1 := hz15.2.1 10 i0 hal0
    have al15_2 := hz15.2.1 9 q1 hq1
    have hZn15 := hz15.1
    have x := xa.1
    have hz := x.2.2.2.2.2.2.2.1
    have hzn := hz.1
    have e32_15 : sd16 = g15 32 v15.toInt.toNat := by rw [eg15]; exact (if_pos ⟨rfl, by decide, by decide⟩ : gNew g12 v15.toInt.toNat sd16 v14 (0 : Int32) 32 v15.toInt.toNat = _).symm
    have hzl := cZl.tr hzl hz15
    refine lv_astore (lv' := [(5, .ref (Z.ad 1 v15.toInt.toNat)), (4, .ref (Z.ad 10 v8.toInt.toNat)), (3, .int v2), (0, .ref (Z.ad 10 i0)), (1, .ref (Z.ad 9 q1)), (2, .int p2)]) hx hb dX10_setupCame_58 hl (by decide) rfl (fun ls hl => ?_)
    refine k_newCall xa L15 (wk_in kc_lX10_29_b) (wk_in kx_X1) (wk_in kn_X1) (show 0 + 1 + 1 ≤ 4 by omega) (show 0 + 18 + 18 ≤ 36 + n1 + n2 by omega) dX10_setupCame_60 (fun a17 H17 O17 hfr17 hAa17 L17 => ?_)
    have hcs : 0 + 1 + 1 ≤ 4 ∧ 0 + 18 + 18 ≤ 36 + n1 + n2 := by omega
    refine lv_dup hx hb dX10_setupCame_63 rfl ?_
    refine lv_aload hx hb dX10_setupCame_64 (lv_at hl 1 rfl) ?_
    refine lv_aload hx hb dX10_setupCame_66 (lv_at hl 1 rfl) ?_
    refine c_getiS x L17 10 v8.toInt.toNat 3 323 al15_0 rfl rfl (wk_in kf_X10_92) (fun y h => u_same (x.2.2.1 _ (wk_in ke_CellSwitchSwitchSide_CellSwitchSide_lastReference)) y h) dX10_setupCame_68 (fun v18 ev18 wv18 => ?_)
    refine m_top (((mm_fr (mm_st eg12) fr15 rfl)).trans ev18.symm) ?_
    refine lv_iconst (v := 1) hx hb dX10_setupCame_71 (by decide) ?_
    obtain ⟨sd20, hsd20⟩ := k_sd (Z.n + v8.toInt.toNat) (by omega)
    replace hW := (wfP_i (wfP_a hW sd20) hsd20)
    replace hW := wfP_i (wfP_a hW Z) rfl
    refine d_initCall (rest := [.ref a17]) xa (hml.trans hl.1.symm) L17 O17 hfr17 hAa17 hJ15 (by omega) sd20 v11 (1 : Int32) (cSd_10 hsd20) ⟨by omega, by omega⟩ (rg_w kc_1 rfl) (wk_good kd_X1_init) (wk_in kl_X10_95) (wk_in ki_X1_init) (wk_in kn_X1) ⟨Nat.le_of_ble_eq_true rfl, Nat.le_of_ble_eq_true rfl⟩ (Nat.le_of_ble_eq_true rfl) hcs dX10_setupCame_72 (fun v19 Z g19 H19 k19 hv19 hz19 hww19 hw319 xa L19 hJ19 al19 ad19 eg19 hne19 => ?_)
    have hc19 : 0 ≤ v19.toInt := by omega
    replace hW := (wfP_i (wfP_i (wfP_i (wfP_i (wfP_i (wfP_i (wfP_i (wfP_a (wfP_a (wfP_a hW Z) v19) g19) hv19) hz19) hww19) hw319) hJ19) al19) eg19)
    have fr19 : mFr [32, 33, 34, 35, 36, 37, 38, 39, 40, 41, 42, 43, 44, 45, 46, 47, 48, 49] g15 g19 := by rw [eg19]; exact gNew_fr
    subst ad19
    have ea19_0 := hz19.2.2.1 1 v15.toInt.toNat al15 (by omega)
    have ea19_1 := hz19.2.2.1 10 v8.toInt.toNat al15_0 (by omega)
    have ea19_2 := hz19.2.2.1 10 i0 al15_1 (by omega)
    have ea19_3 := hz19.2.2.1 9 q1 al15_2 (by omega)
    rw [← ea19_0] at hl
    rw [← ea19_1] at hl
    rw [← ea19_2] at hl
    rw [← ea19_3] at hl
    have al19_0 := hz19.2.1 1 v15.toInt.toNat al15
    have al19_1 := hz19.2.1 10 v8.toInt.toNat al15_0
    have al19_2 := hz19.2.1 10 i0 al15_1
    have al19_3 := hz19.2.1 9 q1 al15_2
    have hZn19 := hz19.1
    have x := xa.1
    have hz := x.2.2.2.2.2.2.2.1
    have hzn := hz.1
    have e32_19 : sd20 = g19 32 v19.toInt.toNat := by rw [eg19]; exact (if_pos ⟨rfl, by decide, by decide⟩ : gNew g15 v19.toInt.toNat sd20 v11 (1 : Int32) 32 v19.toInt.toNat = _).symm
    have hzl := cZl.tr hzl hz19
    have e32b19_0 : sd16 = g19 32 v15.toInt.toNat := (e32_15).trans (by rw [eg19]; exact (gNew_o (fun z => hne19 _ al15 z.1)).symm)
    refine lv_astore (lv' := [(6, .ref (Z.ad 1 v19.toInt.toNat)), (5, .ref (Z.ad 1 v15.toInt.toNat)), (4, .ref (Z.ad 10 v8.toInt.toNat)), (3, .int v2), (0, .ref (Z.ad 10 i0)), (1, .ref (Z.ad 9 q1)), (2, .int p2)]) hx hb dX10_setupCame_75 hl (by decide) rfl (fun ls hl => ?_)
    refine lv_aload hx hb dX10_setupCame_77 (lv_at hl 1 rfl) ?_
    refine lv_aload hx hb dX10_setupCame_79 (lv_at hl 0 rfl) ?_
    refine c_putr (ty := tyX1 11) (v := v19) (w := .ref (Z.ad 1 v19.toInt.toNat)) x L19 1 v15.toInt.toNat 11 43 al19_0 rfl rfl rfl (tyX1_ok 11 (by decide)) (by rw [show cTo Z v19 1 v15.toInt.toNat 11 = some (Z.ad 1 v19.toInt.toNat) from cOpt_some hc19]; rfl) rfl rfl (wk_in kf_X10_42) dX10_setupCame_81 (rg_any _) (fun g21 H21 k21 eg21 L21 => ?_)
    replace hW := (wfP_i (wfP_a hW g21) eg21)
    have hJ22 := cJ_p43 hJ19 eg21 al19
    refine lv_aload hx hb dX10_setupCame_84 (lv_at hl 0 rfl) ?_
    refine lv_aload hx hb dX10_setupCame_86 (lv_at hl 1 rfl) ?_
    refine c_putr (ty := tyX1 11) (v := v15) (w := .ref (Z.ad 1 v15.toInt.toNat)) x L21 1 v19.toInt.toNat 11 43 al19 rfl rfl rfl (tyX1_ok 11 (by decide)) (by rw [show cTo Z v15 1 v19.toInt.toNat 11 = some (Z.ad 1 v15.toInt.toNat) from cOpt_some hc15]; rfl) rfl rfl (wk_in kf_X10_42) dX10_setupCame_88 (rg_any _) (fun g23 H23 k23 eg23 L23 => ?_)
    replace hW := (wfP_i (wfP_a hW g23) eg23)
    have hJ24 := cJ_p43 hJ22 eg23 al19_0
    refine lv_aload hx hb dX10_setupCame_91 (lv_at hl 0 rfl) ?_
    refine lv_aload_n hx hb dX10_setupCame_93 rfl (lv_at hl 4 rfl) ?_
    refine c_getcS x L23 10 i0 0 al19_2 rfl (wk_in kf_X10_73) (fun y h => u_same (x.2.2.1 _ (wk_in ke_CellSwitchSwitchSide_CellSwitchSide_link)) y h) dX10_setupCame_94 (fun v25 ev25 => ?_)
    have tv25 : v25.toInt = ((i0 : Nat) : Int) := cCv_s ev25 rfl (by omega)
    have rv25 : rg (0) (3) v25 := ⟨by omega, by omega⟩
    replace hW := (wfP_i (wfP_i (wfP_a hW v25) tv25) rv25)
    refine c_puti x L23 1 v19.toInt.toNat 7 39 al19 rfl rfl ⟨rfl, by decide +kernel⟩ (wk_in kf_X10_98) dX10_setupCame_97 (rg_any v25) (fun g26 H26 k26 eg26 L26 => ?_)
    replace hW := (wfP_i (wfP_a hW g26) eg26)
    refine lv_aload hx hb dX10_setupCame_100 (lv_at hl 1 rfl) ?_
    refine lv_aload_n hx hb dX10_setupCame_102 rfl (lv_at hl 5 rfl) ?_
    refine c_geti x L26 9 q1 5 293 al19_3 rfl rfl (wk_in kf_X10_74) dX10_setupCame_103 (fun v27 ev27 wv27 => ?_)
    have rv27 : rg (-2147483648) (2147483647) v27 := rg_any v27
    replace hW := (wfP_i (wfP_i (wfP_a hW v27) ev27) rv27)
    have uv27 : (-2147483648 : Int) ≤ v27.toInt ∧ v27.toInt ≤ 2147483647 := rv27
    have sv27 : v27.toInt = (g 293 q1).toInt := congrArg Int32.toInt (ev27.trans (congrFun ((show mFr [32, 33, 34, 35, 36, 37, 38, 39, 40, 41, 42, 43, 44, 45, 46, 47, 48, 49, 198, 323, 384, 385, 386, 832, 864, 1728, 1729] g g26 from (mFr.upE (mFr.upE (mFr.upE (mFr.tr (mFr.tr (mFr.upE (mFr.tr mFr.rf hp1.1 rfl) eg12 rfl) fr15 rfl) fr19 rfl) eg21 rfl) eg23 rfl) eg26 rfl)).at 293 rfl) _))
    refine c_puti x L26 1 v15.toInt.toNat 6 38 al19_0 rfl rfl ⟨rfl, by decide +kernel⟩ (wk_in kf_X10_35) dX10_setupCame_106 (rg_any v27) (fun g28 H28 k28 eg28 L28 => ?_)
    replace hW := (wfP_i (wfP_a hW g28) eg28)
    refine lv_aload hx hb dX10_setupCame_109 (lv_at hl 0 rfl) ?_
    refine lv_aload_n hx hb dX10_setupCame_111 rfl (lv_at hl 5 rfl) ?_
    refine c_geti x L28 9 q1 5 293 al19_3 rfl rfl (wk_in kf_X10_74) dX10_setupCame_112 (fun v29 ev29 wv29 => ?_)
    refine m_top (((mm_up ev27 eg28 rfl)).trans ev29.symm) ?_
    refine c_puti x L28 1 v19.toInt.toNat 6 38 al19 rfl rfl ⟨rfl, by decide +kernel⟩ (wk_in kf_X10_35) dX10_setupCame_115 (rg_any v27) (fun g30 H30 k30 eg30 L30 => ?_)
    replace hW := (wfP_i (wfP_a hW g30) eg30)
    refine lv_aload hx hb dX10_setupCame_118 (lv_at hl 1 rfl) ?_
    refine lv_aload_n hx hb dX10_setupCame_120 rfl (lv_at hl 4 rfl) ?_
    refine c_ci (As := []) (rest := [.ref (Z.ad 1 v15.toInt.toNat)]) x hml L30 10 i0 al19_2 rfl (d_kleastChannel l X g30 i0 hX (cJ_up (cJ_up (cJ_up hJ24 eg26 rfl) eg28 rfl) eg30 rfl) (show i0 < Z.n from (by omega)) hW) (wk_V kd_X10_leastChannel kl_X10_101 ki_X10_leastChannel ks_X10_X10_leastChannel kn_X10) rfl ⟨rfl, rfl⟩ hd_kleastChannel ⟨Nat.le_of_ble_eq_true rfl, Nat.le_of_ble_eq_true rfl⟩ rfl hl.1 rfl (lv_room (Nat.le_of_ble_eq_true rfl)) dX10_setupCame_121 (fun v32 g31 H31 k31 hp31 L31 => ?_) hcs
    obtain ⟨hW, hi31, hp31⟩ := hp31
    replace hW := wfP_i hW ⟨hi31, hp31⟩
    have rv32 : rg (-2147483648) (2147483647) v32 := hp31.2.1
    have uv32 : (-2147483648 : Int) ≤ v32.toInt ∧ v32.toInt ≤ 2147483647 := rv32
    refine c_puti x L31 1 v15.toInt.toNat 5 37 al19_0 rfl rfl ⟨rfl, by decide +kernel⟩ (wk_in kf_X10_50) dX10_setupCame_124 (rg_any v32) (fun g33 H33 k33 eg33 L33 => ?_)
    replace hW := (wfP_i (wfP_a hW g33) eg33)
    refine lv_aload hx hb dX10_setupCame_127 (lv_at hl 0 rfl) ?_
    refine lv_aload hx hb dX10_setupCame_129 (lv_at hl 2 rfl) ?_
    refine c_ci (As := []) (rest := [.ref (Z.ad 1 v19.toInt.toNat)]) x hml L33 10 v8.toInt.toNat al19_1 rfl (d_kleastChannel l X g33 v8.toInt.toNat hX (cJ_up hp31.2.2.1 eg33 rfl) (show v8.toInt.toNat < Z.n from (by omega)) hW) (wk_V kd_X10_leastChannel kl_X10_101 ki_X10_leastChannel ks_X10_X10_leastChannel kn_X10) rfl ⟨rfl, rfl⟩ hd_kleastChannel ⟨Nat.le_of_ble_eq_true rfl, Nat.le_of_ble_eq_true rfl⟩ rfl hl.1 rfl (lv_room (Nat.le_of_ble_eq_true rfl)) dX10_setupCame_131 (fun v35 g34 H34 k34 hp34 L34 => ?_) hcs
    obtain ⟨hW, hi34, hp34⟩ := hp34
    replace hW := wfP_i hW ⟨hi34, hp34⟩
    have rv35 : rg (-2147483648) (2147483647) v35 := hp34.2.1
    have uv35 : (-2147483648 : Int) ≤ v35.toInt ∧ v35.toInt ≤ 2147483647 := rv35
    refine c_puti x L34 1 v19.toInt.toNat 5 37 al19 rfl rfl ⟨rfl, by decide +kernel⟩ (wk_in kf_X10_50) dX10_setupCame_134 (rg_any v35) (fun g36 H36 k36 eg36 L36 => ?_)
    replace hW := (wfP_i (wfP_a hW g36) eg36)
    refine lv_aload hx hb dX10_setupCame_137 (lv_at hl 1 rfl) ?_
    refine lv_iconst (v := 3) hx hb dX10_setupCame_139 (by decide) ?_
    refine lv_iconst (v := 0) hx hb dX10_setupCame_140 (by decide) ?_
    refine c_cv (As := [.int (3 : Int32), .int (0 : Int32)]) (rest := []) x hml L36 1 v15.toInt.toNat al19_0 rfl (d_kenter l X g36 v15.toInt.toNat (3 : Int32) (0 : Int32) hX (cJ_up hp34.2.2.1 eg36 rfl) al19_0 hW) (wk_V kd_X1_enter kl_X10_104 ki_X1_enter ks_X1_X1_enter kn_X1) rfl ⟨rfl, rfl⟩ hd_kenter ⟨Nat.le_of_ble_eq_true rfl, Nat.le_of_ble_eq_true rfl⟩ rfl hl.1 rfl (lv_room (Nat.le_of_ble_eq_true rfl)) dX10_setupCame_141 (fun  g37 H37 k37 hp37 L37 => ?_) hcs
    obtain ⟨hW, hi37, hp37⟩ := hp37
    replace hW := wfP_i hW ⟨hi37, hp37⟩
    refine lv_aload hx hb dX10_setupCame_144 (lv_at hl 0 rfl) ?_
    refine lv_bipush (v := 6) hx hb dX10_setupCame_146 (by decide) ?_
    refine lv_iload_n hx hb dX10_setupCame_148 rfl (lv_at hl 6 rfl) ?_
    refine lv_bipush (v := 8) hx hb dX10_setupCame_149 (by decide) ?_
    refine lv_iadd hx hb dX10_setupCame_151 ?_
    refine lv_topi (fun v38 ev38 => ?_)
    have rv38 : rg (-2147483648) (2147483647) v38 := rg_any v38
    replace hW := (wfP_i (wfP_i (wfP_a hW v38) ev38) rv38)
    have uv38 : (-2147483648 : Int) ≤ v38.toInt ∧ v38.toInt ≤ 2147483647 := rv38
    refine c_cv (As := [.int (6 : Int32), .int v38]) (rest := []) x hml L37 1 v19.toInt.toNat al19 rfl (d_kenter l X g37 v19.toInt.toNat (6 : Int32) v38 hX hp37.2.1 al19 hW) (wk_V kd_X1_enter kl_X10_104 ki_X1_enter ks_X1_X1_enter kn_X1) rfl ⟨rfl, rfl⟩ hd_kenter ⟨Nat.le_of_ble_eq_true rfl, Nat.le_of_ble_eq_true rfl⟩ rfl hl.1 rfl (lv_room (Nat.le_of_ble_eq_true rfl)) dX10_setupCame_152 (fun  g39 H39 k39 hp39 L39 => ?_) hcs
    obtain ⟨hW, hi39, hp39⟩ := hp39
    replace hW := wfP_i hW ⟨hi39, hp39⟩
    refine lv_aload_n hx hb dX10_setupCame_155 rfl (lv_at hl 4 rfl) ?_
    refine lv_aload hx hb dX10_setupCame_156 (lv_at hl 1 rfl) ?_
    have y40 := congrArg Int32.toInt (mm_fr (mm_fr (mm_up (mm_fr (mm_up (mm_fr (mm_up (mm_up (mm_up (mm_up (mm_up e32b19_0 eg21 rfl) eg23 rfl) eg26 rfl) eg28 rfl) eg30 rfl) hp31.1 rfl) eg33 rfl) hp34.1 rfl) eg36 rfl) hp37.1 rfl) hp39.1 rfl)
    refine k_callv xa L39 (k_runU (x := ⟨"CellSwitch$SwitchSide", "keep", "(LCellSwitch$Call;)V"⟩) (As := [.ref (Z.ad 1 v15.toInt.toNat)]) (rest := []) ⟨hx, hb, hml, x.2.2.2.2.1, x.2.2.1⟩ (d_kkeep_10 l X g39 i0 v15 _ n1 hX hp39.2.1 (by omega) (show i0 < Z.n from (by omega)) hc15 al19_0 (by omega) hW) (va_cwU 1 x.2.2.1 (wk_U (owner := "CellSwitch$Side") kd_X8_keep kl_X10_108 km_CellSwitchSwitchSide_CellSwitchSide_keep ks_X10_CellSwitchSwitchSide_X8_keep ki_X8_keep kn_X8) rfl rfl rfl rfl (by decide +kernel) ⟨Nat.le_of_ble_eq_true rfl, Nat.le_of_ble_eq_true rfl⟩) ⟨cPreA.blind, c_recv x L39 al19_2 rfl, fun U hU hW => k_pre xa L39 U hU hW⟩ rfl rfl hl.1 rfl (lv_room (Nat.le_of_ble_eq_true rfl)) dX10_setupCame_158 ⟨show 0 + 1 + 1 + 1 ≤ 4 by omega, show 0 + 18 + 18 + (0 + n1) ≤ 36 + n1 + n2 by omega⟩) (fun  Z g41 H41 k41 kc41 kn41 hk41 hn41 hp41 hz41 xa L41 => ?_)
    obtain ⟨hW, hi41, hp41⟩ := hp41
    replace hW := wfP_i (wfP_a (wfP_i (wfP_i hW ⟨hi41, hp41⟩) (cZg_of hz41 hk41 hn41)) Z) rfl
    have hww41 := hp41.2.2.1
    have ea41_0 := hz41.2.2.1 1 v19.toInt.toNat al19 (by omega)
    have ea41_1 := hz41.2.2.1 1 v15.toInt.toNat al19_0 (by omega)
    have ea41_2 := hz41.2.2.1 10 v8.toInt.toNat al19_1 (by omega)
    have ea41_3 := hz41.2.2.1 10 i0 al19_2 (by omega)
    have ea41_4 := hz41.2.2.1 9 q1 al19_3 (by omega)
    rw [← ea41_0] at hl
    rw [← ea41_1] at hl
    rw [← ea41_2] at hl
    rw [← ea41_3] at hl
    rw [← ea41_4] at hl
    have al41_0 := hz41.2.1 1 v19.toInt.toNat al19
    have al41_1 := hz41.2.1 1 v15.toInt.toNat al19_0
    have al41_2 := hz41.2.1 10 v8.toInt.toNat al19_1
    have al41_3 := hz41.2.1 10 i0 al19_2
    have al41_4 := hz41.2.1 9 q1 al19_3
    have hZn41 := hz41.1
    have x := xa.1
    have hz := x.2.2.2.2.2.2.2.1
    have hzn := hz.1
    have hzl := cZl.tr hzl hz41
    have hcs : 0 + 1 + 1 + kc41 ≤ 4 ∧ 0 + 18 + 18 + kn41 ≤ 36 + n1 + n2 := by omega
    refine lv_aload hx hb dX10_setupCame_161 (lv_at hl 2 rfl) ?_
    refine lv_aload hx hb dX10_setupCame_163 (lv_at hl 0 rfl) ?_
    have y42 := congrArg Int32.toInt (mm_fr (mm_fr (mm_fr (mm_up (mm_fr (mm_up (mm_fr (mm_up (mm_up (mm_up (mm_up (mm_up e32_19 eg21 rfl) eg23 rfl) eg26 rfl) eg28 rfl) eg30 rfl) hp31.1 rfl) eg33 rfl) hp34.1 rfl) eg36 rfl) hp37.1 rfl) hp39.1 rfl) hp41.1 rfl)
    refine k_callv xa L41 (k_runU (x := ⟨"CellSwitch$SwitchSide", "keep", "(LCellSwitch$Call;)V"⟩) (As := [.ref (Z.ad 1 v19.toInt.toNat)]) (rest := []) ⟨hx, hb, hml, x.2.2.2.2.1, x.2.2.1⟩ (d_kkeep_10 l X g41 v8.toInt.toNat v19 _ n2 hX hp41.2.1 (by omega) (show v8.toInt.toNat < Z.n from (by omega)) hc19 al41_0 (by omega) hW) (va_cwU 1 x.2.2.1 (wk_U (owner := "CellSwitch$Side") kd_X8_keep kl_X10_108 km_CellSwitchSwitchSide_CellSwitchSide_keep ks_X10_CellSwitchSwitchSide_X8_keep ki_X8_keep kn_X8) rfl rfl rfl rfl (by decide +kernel) ⟨Nat.le_of_ble_eq_true rfl, Nat.le_of_ble_eq_true rfl⟩) ⟨cPreA.blind, c_recv x L41 al41_2 rfl, fun U hU hW => k_pre xa L41 U hU hW⟩ rfl rfl hl.1 rfl (lv_room (Nat.le_of_ble_eq_true rfl)) dX10_setupCame_165 ⟨show 0 + 1 + 1 + kc41 + 1 ≤ 4 by omega, show 0 + 18 + 18 + kn41 + (0 + n2) ≤ 36 + n1 + n2 by omega⟩) (fun  Z g43 H43 k43 kc43 kn43 hk43 hn43 hp43 hz43 xa L43 => ?_)
    obtain ⟨hW, hi43, hp43⟩ := hp43
    replace hW := wfP_i (wfP_a (wfP_i (wfP_i hW ⟨hi43, hp43⟩) (cZg_of hz43 hk43 hn43)) Z) rfl
    have hww43 := hp43.2.2.1
    have ea43_0 := hz43.2.2.1 1 v19.toInt.toNat al41_0 (by omega)
    have ea43_1 := hz43.2.2.1 1 v15.toInt.toNat al41_1 (by omega)
    have ea43_2 := hz43.2.2.1 10 v8.toInt.toNat al41_2 (by omega)
    have ea43_3 := hz43.2.2.1 10 i0 al41_3 (by omega)
    have ea43_4 := hz43.2.2.1 9 q1 al41_4 (by omega)
    rw [← ea43_0] at hl
    rw [← ea43_1] at hl
    rw [← ea43_2] at hl
    rw [← ea43_3] at hl
    rw [← ea43_4] at hl
    have al43_0 := hz43.2.1 1 v19.toInt.toNat al41_0
    have al43_1 := hz43.2.1 1 v15.toInt.toNat al41_1
    have al43_2 := hz43.2.1 10 v8.toInt.toNat al41_2
    have al43_3 := hz43.2.1 10 i0 al41_3
    have al43_4 := hz43.2.1 9 q1 al41_4
    have hZn43 := hz43.1
    have x := xa.1
    have hz := x.2.2.2.2.2.2.2.1
    have hzn := hz.1
    have hzl := cZl.tr hzl hz43
    have hcs : 0 + 1 + 1 + kc41 + kc43 ≤ 4 ∧ 0 + 18 + 18 + kn41 + kn43 ≤ 36 + n1 + n2 := by omega
    refine lv_aload_n hx hb dX10_setupCame_168 rfl (lv_at hl 4 rfl) ?_
    refine lv_aload hx hb dX10_setupCame_169 (lv_at hl 1 rfl) ?_
    refine c_cv (As := [.ref (Z.ad 1 v15.toInt.toNat)]) (rest := []) x hml L43 10 i0 al43_3 rfl (d_ksayProceeding l X g43 i0 v15.toInt.toNat hX (show i0 < Z.n from (by omega)) al43_1 hW) (wk_V kd_X10_sayProceeding kl_X10_112 ki_X10_sayProceeding ks_X10_X10_sayProceeding kn_X10) rfl ⟨rfl, rfl⟩ hd_ksayProceeding ⟨Nat.le_of_ble_eq_true rfl, Nat.le_of_ble_eq_true rfl⟩ rfl hl.1 rfl (lv_room (Nat.le_of_ble_eq_true rfl)) dX10_setupCame_171 (fun  g44 H44 k44 hp44 L44 => ?_) hcs
    obtain ⟨hW, hi44, hp44⟩ := hp44
    replace hW := wfP_i hW ⟨hi44, hp44⟩
    refine lv_aload hx hb dX10_setupCame_174 (lv_at hl 2 rfl) ?_
    refine lv_aload hx hb dX10_setupCame_176 (lv_at hl 0 rfl) ?_
    refine c_cv (As := [.ref (Z.ad 1 v19.toInt.toNat)]) (rest := []) x hml L44 10 v8.toInt.toNat al43_2 rfl (d_ksaySetup_10 l X g44 v8.toInt.toNat v19.toInt.toNat hX (show v8.toInt.toNat < Z.n from (by omega)) al43_0 hW) (wk_V kd_X10_saySetup kl_X10_115 ki_X10_saySetup ks_X10_X10_saySetup kn_X10) rfl ⟨rfl, rfl⟩ hd_ksaySetup_10 ⟨Nat.le_of_ble_eq_true rfl, Nat.le_of_ble_eq_true rfl⟩ rfl hl.1 rfl (lv_room (Nat.le_of_ble_eq_true rfl)) dX10_setupCame_178 (fun  g45 H45 k45 hp45 L45 => ?_) hcs
    obtain ⟨hW, hi45, hp45⟩ := hp45
    replace hW := wfP_i hW ⟨hi45, hp45⟩
    exact k_vret xa L45 hr hlocks (Int.le_refl _) hzl ⟨hW, (mFi.sub (mFi.sub (mFi.sub (mFi.sub (mFi.sub (mFi.sub (mFi.up (mFi.sub (mFi.up (mFi.sub (mFi.up (mFi.up (mFi.up (mFi.up (mFi.up (mFi.rows (mFi.rows (mFi.up (mFi.sub mFi.rf hi1 mSub_nil) eg12 (mIn_at 19 rfl (Or.inl rfl))) fr15 (mAny_cons 0 rfl (mAny_cons 1 rfl (mAny_cons 2 rfl (mAny_cons 3 rfl (mAny_cons 4 rfl (mAny_cons 5 rfl (mAny_cons 6 rfl (mAny_cons 7 rfl (mAny_cons 8 rfl (mAny_cons 9 rfl (mAny_cons 10 rfl (mAny_cons 11 rfl (mAny_cons 12 rfl (mAny_cons 13 rfl (mAny_cons 14 rfl (mAny_cons 15 rfl (mAny_cons 16 rfl (mAny_cons 17 rfl mAny_nil))))))))))))))))))) fr19 (mAny_cons 0 rfl (mAny_cons 1 rfl (mAny_cons 2 rfl (mAny_cons 3 rfl (mAny_cons 4 rfl (mAny_cons 5 rfl (mAny_cons 6 rfl (mAny_cons 7 rfl (mAny_cons 8 rfl (mAny_cons 9 rfl (mAny_cons 10 rfl (mAny_cons 11 rfl (mAny_cons 12 rfl (mAny_cons 13 rfl (mAny_cons 14 rfl (mAny_cons 15 rfl (mAny_cons 16 rfl (mAny_cons 17 rfl mAny_nil))))))))))))))))))) eg21 (mIn_at 11 rfl (Or.inl rfl))) eg23 (mIn_at 11 rfl (Or.inl rfl))) eg26 (mIn_at 7 rfl (Or.inl rfl))) eg28 (mIn_at 6 rfl (Or.inl rfl))) eg30 (mIn_at 6 rfl (Or.inl rfl))) hi31 mSub_nil) eg33 (mIn_at 5 rfl (Or.inl rfl))) hi34 mSub_nil) eg36 (mIn_at 5 rfl (Or.inl rfl))) hi37 (mSub_any 4 rfl (mSub_any 9 rfl (mSub_any 10 rfl (mSub_any 12 rfl (mSub_any 13 rfl (mSub_any 14 rfl (mSub_any 16 rfl mSub_nil)))))))) hi39 (mSub_any 4 rfl (mSub_any 9 rfl (mSub_any 10 rfl (mSub_any 12 rfl (mSub_any 13 rfl (mSub_any 14 rfl (mSub_any 16 rfl mSub_nil)))))))) hi41 (mSub_any 20 rfl (mSub_any 21 rfl (mSub_any 22 rfl (mSub_any 25 rfl (mSub_any 26 rfl mSub_nil)))))) hi43 (mSub_any 20 rfl (mSub_any 21 rfl (mSub_any 22 rfl (mSub_any 25 rfl (mSub_any 26 rfl mSub_nil)))))) hi44 (mSub_any 18 rfl (mSub_any 23 rfl (mSub_any 24 rfl mSub_nil)))) hi45 (mSub_any 18 rfl (mSub_any 23 rfl (mSub_any 24 rfl mSub_nil)))), (mFr.tr (mFr.tr (mFr.tr (mFr.tr (mFr.tr (mFr.tr (mFr.upE (mFr.tr (mFr.upE (mFr.tr (mFr.upE (mFr.upE (mFr.upE (mFr.upE (mFr.upE (mFr.tr (mFr.tr (mFr.upE (mFr.tr mFr.rf hp1.1 rfl) eg12 rfl) fr15 rfl) fr19 rfl) eg21 rfl) eg23 rfl) eg26 rfl) eg28 rfl) eg30 rfl) hp31.1 rfl) eg33 rfl) hp34.1 rfl) eg36 rfl) hp37.1 rfl) hp39.1 rfl) hp41.1 rfl) hp43.1 rfl) hp44.1 rfl) hp45.1 rfl), (cJ_fr (cJ_fr hp43.2.1 hp44.1 rfl) hp45.1 rfl), (by omega), trivial⟩ hcs.1 hcs.2 dX10_setupCame_181
  · skip
    replace hW := wfP_i (wfP_r hW) (i_ne c7_4 rfl (rg_i kc_0))
    have ic7_4 : v2.toInt ≠ (0 : Int32).toInt := fun z => c7_4 (Int32.toInt_inj.mp z)
    have y46 : (0 : Int32).toInt = 0 := by decide
    have q47 : rg (1) (96) v2 := rg_neL c7_4 rv2 kc_0
    have uq47 : (1 : Int) ≤ v2.toInt ∧ v2.toInt ≤ 96 := q47
    refine lv_aload_n hx hb dX10_setupCame_10 rfl (lv_at hl 1 rfl) ?_
    refine lv_bipush (v := 90) hx hb dX10_setupCame_11 (by decide) ?_
    refine lv_aload_n hx hb dX10_setupCame_13 rfl (lv_at hl 2 rfl) ?_
    refine c_geti x L1 9 q1 1 289 hq1 rfl rfl (wk_in kf_X10_85) dX10_setupCame_14 (fun v48 ev48 wv48 => ?_)
    have rv48 : rg (-2147483648) (2147483647) v48 := rg_any v48
    replace hW := (wfP_i (wfP_i (wfP_a hW v48) ev48) rv48)
    have uv48 : (-2147483648 : Int) ≤ v48.toInt ∧ v48.toInt ≤ 2147483647 := rv48
    have sv48 : v48.toInt = (g 289 q1).toInt := congrArg Int32.toInt (ev48.trans (congrFun ((show mFr [32, 33, 34, 35, 36, 37, 38, 39, 40, 41, 42, 43, 44, 45, 46, 47, 48, 49, 198, 323, 384, 385, 386, 832, 864, 1728, 1729] g g1 from (mFr.tr mFr.rf hp1.1 rfl)).at 289 rfl) _))
    refine lv_iconst (v := 0) hx hb dX10_setupCame_17 (by decide) ?_
    refine lv_iload_n hx hb dX10_setupCame_18 rfl (lv_at hl 0 rfl) ?_
    refine c_cvU (n := 4) (owner := "CellSwitch$Side") (x0 := ⟨"CellSwitch$SwitchSide", "sayCause", "(IIZI)V"⟩) (As := [.int (90 : Int32), .int v48, .int (0 : Int32), .int v2]) (rest := []) x hml L1 10 i0 hal0 rfl (d_ksayCause_10 l X g1 i0 (90 : Int32) v48 (0 : Int32) v2 hX (show i0 < Z.n from (by omega)) (rg_w kc_0 rfl) hW) (wk_U kd_X8_sayCause kl_X10_88 km_CellSwitchSwitchSide_CellSwitchSide_sayCause ks_X10_CellSwitchSwitchSide_X8_sayCause ki_X8_sayCause kn_X8) rfl ⟨rfl, rfl⟩ rfl (by decide +kernel) ⟨Nat.le_of_ble_eq_true rfl, Nat.le_of_ble_eq_true rfl⟩ rfl hl.1 rfl (lv_room (Nat.le_of_ble_eq_true rfl)) dX10_setupCame_19 (fun  g49 H49 k49 hp49 L49 => ?_) hcs
    obtain ⟨hW, hi49, hp49⟩ := hp49
    replace hW := wfP_i hW ⟨hi49, hp49⟩
    exact k_vret xa L49 hr hlocks (Int.le_refl _) hzl ⟨hW, (mFi.sub (mFi.sub mFi.rf hi1 mSub_nil) hi49 (mSub_any 18 rfl (mSub_any 23 rfl (mSub_any 24 rfl mSub_nil)))), (mFr.tr (mFr.tr mFr.rf hp1.1 rfl) hp49.1 rfl), (cJ_fr hp1.2.2.1 hp49.1 rfl), (by omega), trivial⟩ hcs.1 hcs.2 dX10_setupCame_22

def rn_kcame_4 (n1 : Nat) : Room := { frames := 10, cells := 2, slots := 18 + n1, locals := 229 }
def im_kcame_4 (i0 : Nat) (q1 : Nat) (p2 : Int32) : List (Nat × Nat × Nat) := [(32, 0, 0), (33, 0, 0), (34, 0, 0), (35, 0, 0), (36, 0, 0), (37, 0, 0), (38, 0, 0), (39, 0, 0), (40, 0, 0), (41, 0, 0), (42, 0, 0), (43, 0, 0), (44, 0, 0), (45, 0, 0), (46, 0, 0), (47, 0, 0), (48, 0, 0), (49, 0, 0), (135, i0, 1), (198, 0, 0), (384, i0, 1), (385, i0, 1), (386, i0, 1), (832, 0, 0), (864, 0, 0), (1536, i0, 16777216), (1728, i0, 16777216), (1729, i0, 1)]
def po_kcame_4 (Z : cZ) (i0 : Nat) (q1 : Nat) (p2 : Int32) (g : mSt) (r : Int32) (Z1 : cZ) (g1 : mSt) : Prop := mFi (im_kcame_4 i0 q1 p2) g g1 ∧ mFr [32, 33, 34, 35, 36, 37, 38, 39, 40, 41, 42, 43, 44, 45, 46, 47, 48, 49, 135, 198, 384, 385, 386, 832, 864, 1536, 1728, 1729] g g1 ∧ cJ Z1 g1 ∧ Z1.w 2 ≤ Z.w 2 + 1 ∧ True
def wp_kcame_4 (n1 : Nat) (Z : cZ) (i0 : Nat) (q1 : Nat) (p2 : Int32) (g : mSt) (Φ : Int32 → cZ → mSt → Prop) : Prop :=
  ∀ (v1 : Int32), v1 = g 289 q1 → rg (-2147483648) (2147483647) v1 → ∀ (v2 : Int32), v2 = g 290 q1 → rg (0) (1) v2 → ((v2.toInt ≠ 0) → wp_kplaceOfReference_4 Z i0 v1 (0 : Int32) g (fun (v7 : Int32) (g6 : mSt) => po_kplaceOfReference_4 Z i0 v1 (0 : Int32) g v7 g6 → ((0 ≤ v7.toInt) → wp_klget Z i0 v7 g6 (fun (v14 : Int32) (g13 : mSt) => po_klget Z i0 v7 g6 v14 g13 → wp_kisOpen Z v14.toInt.toNat g13 (fun (v16 : Int32) (g15 : mSt) => po_kisOpen Z v14.toInt.toNat g13 v16 g15 → ((v16.toInt ≠ 0) → ∀ (v20 : Int32), v20 = g15 288 q1 → rg (-2147483648) (2147483647) v20 → ((v20.toInt = 77) → wp_kcleared_4 Z i0 v14.toInt.toNat q1 p2 g15 (fun (_ : Int32) (g24 : mSt) => po_kcleared_4 Z i0 v14.toInt.toNat q1 p2 g15 0 g24 → Φ 0 Z g24)) ∧ ((v20.toInt ≠ 77) → ((v20.toInt ≠ 90) → ((v20.toInt = 5) → Φ 0 Z g15) ∧ ((v20.toInt ≠ 5) → wp_kprogress_4 Z i0 v14.toInt.toNat q1 p2 g15 (fun (_ : Int32) (g34 : mSt) => po_kprogress_4 Z i0 v14.toInt.toNat q1 p2 g15 0 g34 → Φ 0 Z g34))) ∧ ((v20.toInt = 90) → wp_kcleared_4 Z i0 v14.toInt.toNat q1 p2 g15 (fun (_ : Int32) (g37 : mSt) => po_kcleared_4 Z i0 v14.toInt.toNat q1 p2 g15 0 g37 → Φ 0 Z g37)))) ∧ ((v16.toInt = 0) → ∀ (v40 : Int32), v40 = g15 288 q1 → rg (-2147483648) (2147483647) v40 → ((v40.toInt ≠ 5) → ((v40.toInt ≠ 77) → Φ 0 Z g15) ∧ ((v40.toInt = 77) → ((v2.toInt ≠ 0) → wp_ksayCause_4 Z i0 (90 : Int32) v1 (0 : Int32) (81 : Int32) g15 (fun (_ : Int32) (g52 : mSt) => po_ksayCause_4 Z i0 (90 : Int32) v1 (0 : Int32) (81 : Int32) g15 0 g52 → Φ 0 Z g52)) ∧ ((v2.toInt = 0) → True))) ∧ ((v40.toInt = 5) → wp_ksetupCame_4 n1 Z i0 q1 p2 g15 (fun (_ : Int32) (Z_56 : cZ) (g56 : mSt) => po_ksetupCame_4 Z i0 q1 p2 g15 0 Z_56 g56 → cZg Z Z_56 2 (18 + n1) → ∀ Z : cZ, Z = Z_56 → Φ 0 Z g56)))))) ∧ ((v7.toInt < 0) → ∀ (v58 : Int32), v58 = g6 288 q1 → rg (-2147483648) (2147483647) v58 → ((v58.toInt ≠ 5) → ((v58.toInt ≠ 77) → Φ 0 Z g6) ∧ ((v58.toInt = 77) → ((v2.toInt ≠ 0) → wp_ksayCause_4 Z i0 (90 : Int32) v1 (0 : Int32) (81 : Int32) g6 (fun (_ : Int32) (g70 : mSt) => po_ksayCause_4 Z i0 (90 : Int32) v1 (0 : Int32) (81 : Int32) g6 0 g70 → Φ 0 Z g70)) ∧ ((v2.toInt = 0) → True))) ∧ ((v58.toInt = 5) → wp_ksetupCame_4 n1 Z i0 q1 p2 g6 (fun (_ : Int32) (Z_74 : cZ) (g74 : mSt) => po_ksetupCame_4 Z i0 q1 p2 g6 0 Z_74 g74 → cZg Z Z_74 2 (18 + n1) → ∀ Z : cZ, Z = Z_74 → Φ 0 Z g74))))) ∧ ((v2.toInt = 0) → wp_kplaceOfReference_4 Z i0 v1 (1 : Int32) g (fun (v78 : Int32) (g77 : mSt) => po_kplaceOfReference_4 Z i0 v1 (1 : Int32) g v78 g77 → ((0 ≤ v78.toInt) → wp_klget Z i0 v78 g77 (fun (v85 : Int32) (g84 : mSt) => po_klget Z i0 v78 g77 v85 g84 → wp_kisOpen Z v85.toInt.toNat g84 (fun (v87 : Int32) (g86 : mSt) => po_kisOpen Z v85.toInt.toNat g84 v87 g86 → ((v87.toInt ≠ 0) → ∀ (v91 : Int32), v91 = g86 288 q1 → rg (-2147483648) (2147483647) v91 → ((v91.toInt = 77) → wp_kcleared_4 Z i0 v85.toInt.toNat q1 p2 g86 (fun (_ : Int32) (g95 : mSt) => po_kcleared_4 Z i0 v85.toInt.toNat q1 p2 g86 0 g95 → Φ 0 Z g95)) ∧ ((v91.toInt ≠ 77) → ((v91.toInt ≠ 90) → ((v91.toInt = 5) → Φ 0 Z g86) ∧ ((v91.toInt ≠ 5) → wp_kprogress_4 Z i0 v85.toInt.toNat q1 p2 g86 (fun (_ : Int32) (g105 : mSt) => po_kprogress_4 Z i0 v85.toInt.toNat q1 p2 g86 0 g105 → Φ 0 Z g105))) ∧ ((v91.toInt = 90) → wp_kcleared_4 Z i0 v85.toInt.toNat q1 p2 g86 (fun (_ : Int32) (g108 : mSt) => po_kcleared_4 Z i0 v85.toInt.toNat q1 p2 g86 0 g108 → Φ 0 Z g108)))) ∧ ((v87.toInt = 0) → ∀ (v111 : Int32), v111 = g86 288 q1 → rg (-2147483648) (2147483647) v111 → ((v111.toInt ≠ 5) → ((v111.toInt ≠ 77) → Φ 0 Z g86) ∧ ((v111.toInt = 77) → ((v2.toInt ≠ 0) → True) ∧ ((v2.toInt = 0) → wp_ksayCause_4 Z i0 (90 : Int32) v1 (1 : Int32) (81 : Int32) g86 (fun (_ : Int32) (g124 : mSt) => po_ksayCause_4 Z i0 (90 : Int32) v1 (1 : Int32) (81 : Int32) g86 0 g124 → Φ 0 Z g124)))) ∧ ((v111.toInt = 5) → wp_ksetupCame_4 n1 Z i0 q1 p2 g86 (fun (_ : Int32) (Z_127 : cZ) (g127 : mSt) => po_ksetupCame_4 Z i0 q1 p2 g86 0 Z_127 g127 → cZg Z Z_127 2 (18 + n1) → ∀ Z : cZ, Z = Z_127 → Φ 0 Z g127)))))) ∧ ((v78.toInt < 0) → ∀ (v129 : Int32), v129 = g77 288 q1 → rg (-2147483648) (2147483647) v129 → ((v129.toInt ≠ 5) → ((v129.toInt ≠ 77) → Φ 0 Z g77) ∧ ((v129.toInt = 77) → ((v2.toInt ≠ 0) → True) ∧ ((v2.toInt = 0) → wp_ksayCause_4 Z i0 (90 : Int32) v1 (1 : Int32) (81 : Int32) g77 (fun (_ : Int32) (g142 : mSt) => po_ksayCause_4 Z i0 (90 : Int32) v1 (1 : Int32) (81 : Int32) g77 0 g142 → Φ 0 Z g142)))) ∧ ((v129.toInt = 5) → wp_ksetupCame_4 n1 Z i0 q1 p2 g77 (fun (_ : Int32) (Z_145 : cZ) (g145 : mSt) => po_ksetupCame_4 Z i0 q1 p2 g77 0 Z_145 g145 → cZg Z Z_145 2 (18 + n1) → ∀ Z : cZ, Z = Z_145 → Φ 0 Z g145)))))
set_option maxHeartbeats 4000000 in
set_option maxRecDepth 100000 in
theorem d_kcame_4 (l : Launch) {G : cG} {Z : cZ} (X : Int) (g : mSt) (i0 : Nat) (q1 : Nat) (p2 : Int32) (sz n1 : Nat) (hX : 0 ≤ X ∧ X ≤ 2000000000) (hJ : cJ Z g) (hw2 : Z.w 2 + 1 ≤ 1000000) (hi0 : i0 < Z.n) (hq1 : Z.al 9 q1) (hsig : (g 288 q1).toInt = 5 → 0 ≤ (g 291 q1).toInt) {Φ : Int32 → cZ → mSt → Prop} (hW : wfP (wp_kcame_4 n1 Z i0 q1 p2 g Φ)) : Met l yX8_came (wk (Cond.code yX8_came cX8_came 5 none)) (rn_kcame_4 n1) (va_Pc [.ref (Z.ad 4 i0), .ref (Z.ad 9 q1), .int p2] (cPreA G Z X g sz)) (kE 2 (18 + n1) (cAf Z sz) (cQvA G Z X (fun Z1 g1 => wfP (Φ 0 Z1 g1) ∧ mFi (im_kcame_4 i0 q1 p2) g g1 ∧ (mFr [32, 33, 34, 35, 36, 37, 38, 39, 40, 41, 42, 43, 44, 45, 46, 47, 48, 49, 135, 198, 384, 385, 386, 832, 864, 1536, 1728, 1729] g g1 ∧ cJ Z1 g1 ∧ Z1.w 2 ≤ Z.w 2 + 1 ∧ True)))) 2 (18 + n1) (cAf Z sz) := by
  refine Met.ofW (cc := cX8_came) (maxL := 5) (ret := none) (by decide) rfl ?_
  intro p e s m args below meth c s₁ B hml hv
  obtain ⟨hav, hv⟩ := hv
  have hsz0 := hv.2.1
  subst hsz0
  have hr := B.returns
  have hlocks := B.notSynchronized
  obtain ⟨xa, L⟩ := k_start B rfl (fun w h => wk_in h) hv
  have hent : entryFrame m args 5 = entryFrame m ([.ref (Z.ad 4 i0), .ref (Z.ad 9 q1), .int p2] : List Value).toArray 5 := by rw [hav]
  rw [hent]
  have hl := lv_entry ([.ref (Z.ad 4 i0), .ref (Z.ad 9 q1), .int p2]) (n := 5) (Nat.le_of_ble_eq_true rfl)
  rw [lg_entry_eq]
  generalize (lg_sl ([.ref (Z.ad 4 i0), .ref (Z.ad 9 q1), .int p2]) ++ List.replicate (5 - (lg_sl ([.ref (Z.ad 4 i0), .ref (Z.ad 9 q1), .int p2])).length) Slot.unset).toArray = ls at hl ⊢
  have hl : lv_has ls 5 [(0, .ref (Z.ad 4 i0)), (1, .ref (Z.ad 9 q1)), (2, .int p2)] := hl
  have x := xa.1
  have hx := x.1
  have hb := x.2.1
  have hz := x.2.2.2.2.2.2.2.1
  have hzn := hz.1
  have hzl : cZl Z Z 0 0 := cZl.rf
  have hcs : 0 ≤ 2 ∧ 0 ≤ 18 + n1 := ⟨Nat.zero_le _, Nat.zero_le _⟩
  have hal0 : Z.al 4 i0 := hz.2 4 i0 (show i0 < Z.n from hi0)
  have up2 : (-2147483648 : Int) ≤ p2.toInt ∧ p2.toInt ≤ 2147483647 := (rg_any p2)
  refine lv_aload_n hx hb dX8_came_0 rfl (lv_at hl 0 rfl) ?_
  refine lv_aload_n hx hb dX8_came_1 rfl (lv_at hl 1 rfl) ?_
  refine c_geti x L 9 q1 1 289 hq1 rfl rfl (wk_in kf_X8_57) dX8_came_2 (fun v1 ev1 wv1 => ?_)
  have rv1 : rg (-2147483648) (2147483647) v1 := rg_any v1
  replace hW := (wfP_i (wfP_i (wfP_a hW v1) ev1) rv1)
  have uv1 : (-2147483648 : Int) ≤ v1.toInt ∧ v1.toInt ≤ 2147483647 := rv1
  have sv1 : v1.toInt = (g 289 q1).toInt := congrArg Int32.toInt (ev1.trans (congrFun ((show mFr [32, 33, 34, 35, 36, 37, 38, 39, 40, 41, 42, 43, 44, 45, 46, 47, 48, 49, 135, 198, 384, 385, 386, 832, 864, 1536, 1728, 1729] g g from mFr.rf).at 289 rfl) _))
  refine lv_aload_n hx hb dX8_came_5 rfl (lv_at hl 1 rfl) ?_
  refine c_geti x L 9 q1 2 290 hq1 rfl rfl (wk_in kf_X8_60) dX8_came_6 (fun v2 ev2 wv2 => ?_)
  have rv2 : rg (0) (1) v2 := clj_290 wv2
  replace hW := (wfP_i (wfP_i (wfP_a hW v2) ev2) rv2)
  have uv2 : (0 : Int) ≤ v2.toInt ∧ v2.toInt ≤ 1 := rv2
  have sv2 : v2.toInt = (g 290 q1).toInt := congrArg Int32.toInt (ev2.trans (congrFun ((show mFr [32, 33, 34, 35, 36, 37, 38, 39, 40, 41, 42, 43, 44, 45, 46, 47, 48, 49, 135, 198, 384, 385, 386, 832, 864, 1536, 1728, 1729] g g from mFr.rf).at 290 rfl) _))
  refine lv_if_ne (tgt := 16) hx hb dX8_came_9 (by decide) (fun c9_3 => ?_) (fun c9_3 => ?_)
  · skip
    replace hW := wfP_i (wfP_l hW) (i_ne c9_3 rfl (rg_i kc_0))
    have ic9_3 : v2.toInt ≠ (0 : Int32).toInt := fun z => c9_3 (Int32.toInt_inj.mp z)
    have y4 : (0 : Int32).toInt = 0 := by decide
    have q5 : rg (1) (1) v2 := rg_neL c9_3 rv2 kc_0
    have uq5 : (1 : Int) ≤ v2.toInt ∧ v2.toInt ≤ 1 := q5
    refine lv_iconst (v := 0) hx hb dX8_came_16 (by decide) ?_
    refine c_ciU (n := 2) (owner := "CellSwitch$Side") (x0 := ⟨"CellSwitch$Side", "placeOfReference", "(IZ)I"⟩) (As := [.int v1, .int (0 : Int32)]) (rest := []) x hml L 4 i0 hal0 rfl (d_kplaceOfReference_4 l X g i0 v1 (0 : Int32) hX hJ (show i0 < Z.n from (by omega)) (rg_w kc_0 rfl) hW) (wk_U kd_X8_placeOfReference kl_X8_45 km_CellSwitchSide_CellSwitchSide_placeOfReference ks_X4_CellSwitchSide_X8_placeOfReference ki_X8_placeOfReference kn_X8) rfl ⟨rfl, rfl⟩ rfl (by decide +kernel) ⟨Nat.le_of_ble_eq_true rfl, Nat.le_of_ble_eq_true rfl⟩ rfl hl.1 rfl (lv_room (Nat.le_of_ble_eq_true rfl)) dX8_came_17 (fun v7 g6 H6 k6 hp6 L6 => ?_) hcs
    obtain ⟨hW, hi6, hp6⟩ := hp6
    replace hW := wfP_i hW ⟨hi6, hp6⟩
    have rv7 : rg (-1) (2147483646) v7 := hp6.2.1
    have uv7 : (-1 : Int) ≤ v7.toInt ∧ v7.toInt ≤ 2147483646 := rv7
    have hw8 := hp6.2.2.2
    refine lv_istore_n (lv' := [(3, .int v7), (0, .ref (Z.ad 4 i0)), (1, .ref (Z.ad 9 q1)), (2, .int p2)]) hx hb dX8_came_20 rfl hl (by decide) rfl (fun ls hl => ?_)
    refine lv_iload_n hx hb dX8_came_21 rfl (lv_at hl 0 rfl) ?_
    refine lv_if_ge (tgt := 29) hx hb dX8_came_22 (by decide) (fun c22_9 => ?_) (fun c22_9 => ?_)
    · skip
      replace hW := wfP_i (wfP_l hW) (i_le c22_9 (rg_i kc_0) rfl)
      have ic22_9 := Int32.le_iff_toInt_le.mp c22_9
      have q10 : rg (0) (2147483646) v7 := (rg_le c22_9 kc_0 rv7).2
      have uq10 : (0 : Int) ≤ v7.toInt ∧ v7.toInt ≤ 2147483646 := q10
      refine lv_aload_n hx hb dX8_came_29 rfl (lv_at hl 1 rfl) ?_
      have al11 : Z.al 12 i0 := hz.2 12 i0 (show i0 < 2 * Z.n from (by omega))
      refine c_getr (a := Z.ad 12 i0) x L6 4 i0 2 hal0 rfl rfl (wk_in kf_X8_10) dX8_came_30 ?_
      refine lv_iload_n hx hb dX8_came_33 rfl (lv_at hl 0 rfl) ?_
      have y12 := congrArg Int32.toInt (congrFun ((show mFr [] g g6 from (mFr.tr mFr.rf hp6.1 rfl)).at 386 rfl) (i0))
      refine c_cr (As := [.int v7]) (rest := []) x hml L6 12 i0 al11 rfl (d_klget l X g6 i0 v7 hX hp6.2.2.1 (show i0 < 2 * Z.n from (by omega)) (by omega) hW) (wk_V kd_Jx4a65c_get_915e3 kl_X8_28 ki_Jx4a65c_get_915e3 ks_Jx4a65c_Jx4a65c_get_915e3 kn_Jx4a65c) rfl ⟨rfl, rfl⟩ hd_klget ⟨Nat.le_of_ble_eq_true rfl, Nat.le_of_ble_eq_true rfl⟩ rfl hl.1 rfl (lv_room (Nat.le_of_ble_eq_true rfl)) dX8_came_34 (fun v14 g13 H13 k13 hp13 L13 => ?_) hcs
      obtain ⟨hW, hi13, hp13⟩ := hp13
      replace hW := wfP_i hW ⟨hi13, hp13⟩
      have hvv14 := hp13.2.2
      refine c_top (show Value.ref (Z.ad 1 v14.toInt.toNat) = va_rf (cOpt Z 1 v14) from (by rw [cOpt_some hvv14.1]; rfl)) ?_
      refine c_cast x L13 1 v14.toInt.toNat hvv14.2.1 rfl (wk_in kc_lX8_32) dX8_came_37 ?_
      refine lv_astore (lv' := [(4, .ref (Z.ad 1 v14.toInt.toNat)), (3, .int v7), (0, .ref (Z.ad 4 i0)), (1, .ref (Z.ad 9 q1)), (2, .int p2)]) hx hb dX8_came_40 hl (by decide) rfl (fun ls hl => ?_)
      refine lv_aload hx hb dX8_came_42 (lv_at hl 0 rfl) ?_
      refine lv_ifnull hx hb dX8_came_44 ?_
      refine lv_aload hx hb dX8_came_47 (lv_at hl 0 rfl) ?_
      refine c_ci (As := []) (rest := []) x hml L13 1 v14.toInt.toNat hvv14.2.1 rfl (d_kisOpen l X g13 v14.toInt.toNat hX hvv14.2.1 hW) (wk_V kd_X1_isOpen kl_X8_34 ki_X1_isOpen ks_X1_X1_isOpen kn_X1) rfl ⟨rfl, rfl⟩ hd_kisOpen ⟨Nat.le_of_ble_eq_true rfl, Nat.le_of_ble_eq_true rfl⟩ rfl hl.1 rfl (lv_room (Nat.le_of_ble_eq_true rfl)) dX8_came_49 (fun v16 g15 H15 k15 hp15 L15 => ?_) hcs
      obtain ⟨hW, hi15, hp15⟩ := hp15
      replace hW := wfP_i hW ⟨hi15, hp15⟩
      have rv16 : rg (0) (1) v16 := hp15.2.1
      have uv16 : (0 : Int) ≤ v16.toInt ∧ v16.toInt ≤ 1 := rv16
      refine lv_if_ne (tgt := 108) hx hb dX8_came_52 (by decide) (fun c52_17 => ?_) (fun c52_17 => ?_)
      · skip
        replace hW := wfP_i (wfP_l hW) (i_ne c52_17 rfl (rg_i kc_0))
        have ic52_17 : v16.toInt ≠ (0 : Int32).toInt := fun z => c52_17 (Int32.toInt_inj.mp z)
        have y18 : (0 : Int32).toInt = 0 := by decide
        have q19 : rg (1) (1) v16 := rg_neL c52_17 rv16 kc_0
        have uq19 : (1 : Int) ≤ v16.toInt ∧ v16.toInt ≤ 1 := q19
        refine lv_aload_n hx hb dX8_came_108 rfl (lv_at hl 3 rfl) ?_
        refine c_geti x L15 9 q1 0 288 hq1 rfl rfl (wk_in kf_X8_63) dX8_came_109 (fun v20 ev20 wv20 => ?_)
        have rv20 : rg (-2147483648) (2147483647) v20 := rg_any v20
        replace hW := (wfP_i (wfP_i (wfP_a hW v20) ev20) rv20)
        have uv20 : (-2147483648 : Int) ≤ v20.toInt ∧ v20.toInt ≤ 2147483647 := rv20
        have sv20 : v20.toInt = (g 288 q1).toInt := congrArg Int32.toInt (ev20.trans (congrFun ((show mFr [32, 33, 34, 35, 36, 37, 38, 39, 40, 41, 42, 43, 44, 45, 46, 47, 48, 49, 135, 198, 384, 385, 386, 832, 864, 1536, 1728, 1729] g g15 from (mFr.tr (mFr.tr (mFr.tr mFr.rf hp6.1 rfl) hp13.1 rfl) hp15.1 rfl)).at 288 rfl) _))
        refine lv_bipush (v := 77) hx hb dX8_came_112 (by decide) ?_
        refine lv_icmp_eq (tgt := 126) hx hb dX8_came_114 (by decide) (fun c114_21 => ?_) (fun c114_21 => ?_)
        · skip
          replace hW := wfP_i (wfP_l hW) (i_eq c114_21 rfl (rg_i kc_77))
          have ic114_21 := congrArg Int32.toInt c114_21
          have y22 : (77 : Int32).toInt = 77 := by decide
          have q23 : rg (77) (77) v20 := (rg_eq c114_21 rv20 kc_77).1
          have uq23 : (77 : Int) ≤ v20.toInt ∧ v20.toInt ≤ 77 := q23
          refine lv_aload_n hx hb dX8_came_126 rfl (lv_at hl 2 rfl) ?_
          refine lv_aload hx hb dX8_came_127 (lv_at hl 0 rfl) ?_
          refine lv_aload_n hx hb dX8_came_129 rfl (lv_at hl 3 rfl) ?_
          refine lv_iload_n hx hb dX8_came_130 rfl (lv_at hl 4 rfl) ?_
          refine c_cvU (n := 3) (owner := "CellSwitch$Side") (x0 := ⟨"CellSwitch$Side", "cleared", "(LCellSwitch$Call;LCellSwitch$Signal;I)V"⟩) (As := [.ref (Z.ad 1 v14.toInt.toNat), .ref (Z.ad 9 q1), .int p2]) (rest := []) x hml L15 4 i0 hal0 rfl (d_kcleared_4 l X g15 i0 v14.toInt.toNat q1 p2 hX (cJ_fr hp13.2.1 hp15.1 rfl) (show i0 < Z.n from (by omega)) hvv14.2.1 hq1 hW) (wk_U kd_X8_cleared kl_X8_74 km_CellSwitchSide_CellSwitchSide_cleared ks_X4_CellSwitchSide_X8_cleared ki_X8_cleared kn_X8) rfl ⟨rfl, rfl⟩ rfl (by decide +kernel) ⟨Nat.le_of_ble_eq_true rfl, Nat.le_of_ble_eq_true rfl⟩ rfl hl.1 rfl (lv_room (Nat.le_of_ble_eq_true rfl)) dX8_came_131 (fun  g24 H24 k24 hp24 L24 => ?_) hcs
          obtain ⟨hW, hi24, hp24⟩ := hp24
          replace hW := wfP_i hW ⟨hi24, hp24⟩
          refine lv_goto (tgt := 153) hx hb dX8_came_134 (by decide) ?_
          exact k_vret xa L24 hr hlocks (Int.le_refl _) hzl ⟨hW, (mFi.sub (mFi.sub (mFi.sub (mFi.sub mFi.rf hi6 mSub_nil) hi13 mSub_nil) hi15 mSub_nil) hi24 (mSub_any 4 rfl (mSub_any 8 rfl (mSub_any 9 rfl (mSub_any 10 rfl (mSub_any 12 rfl (mSub_any 13 rfl (mSub_any 14 rfl (mSub_any 16 rfl (mSub_any 19 rfl (mSub_any 23 rfl (mSub_any 24 rfl mSub_nil)))))))))))), (mFr.tr (mFr.tr (mFr.tr (mFr.tr mFr.rf hp6.1 rfl) hp13.1 rfl) hp15.1 rfl) hp24.1 rfl), hp24.2.1, (by omega), trivial⟩ hcs.1 hcs.2 dX8_came_153
        · skip
          replace hW := wfP_i (wfP_r hW) (i_ne c114_21 rfl (rg_i kc_77))
          have ic114_21 : v20.toInt ≠ (77 : Int32).toInt := fun z => c114_21 (Int32.toInt_inj.mp z)
          have y25 : (77 : Int32).toInt = 77 := by decide
          refine lv_aload_n hx hb dX8_came_117 rfl (lv_at hl 3 rfl) ?_
          refine c_geti x L15 9 q1 0 288 hq1 rfl rfl (wk_in kf_X8_63) dX8_came_118 (fun v26 ev26 wv26 => ?_)
          refine m_top ((ev20).trans ev26.symm) ?_
          refine lv_bipush (v := 90) hx hb dX8_came_121 (by decide) ?_
          refine lv_icmp_ne (tgt := 137) hx hb dX8_came_123 (by decide) (fun c123_27 => ?_) (fun c123_27 => ?_)
          · skip
            replace hW := wfP_i (wfP_l hW) (i_ne c123_27 rfl (rg_i kc_90))
            have ic123_27 : v20.toInt ≠ (90 : Int32).toInt := fun z => c123_27 (Int32.toInt_inj.mp z)
            have y28 : (90 : Int32).toInt = 90 := by decide
            refine lv_aload_n hx hb dX8_came_137 rfl (lv_at hl 3 rfl) ?_
            refine c_geti x L15 9 q1 0 288 hq1 rfl rfl (wk_in kf_X8_63) dX8_came_138 (fun v29 ev29 wv29 => ?_)
            refine m_top ((ev20).trans ev29.symm) ?_
            refine lv_iconst (v := 5) hx hb dX8_came_141 (by decide) ?_
            refine lv_icmp_eq (tgt := 153) hx hb dX8_came_142 (by decide) (fun c142_30 => ?_) (fun c142_30 => ?_)
            · skip
              replace hW := wfP_i (wfP_l hW) (i_eq c142_30 rfl (rg_i kc_5))
              have ic142_30 := congrArg Int32.toInt c142_30
              have y31 : (5 : Int32).toInt = 5 := by decide
              have q32 : rg (5) (5) v20 := (rg_eq c142_30 rv20 kc_5).1
              have uq32 : (5 : Int) ≤ v20.toInt ∧ v20.toInt ≤ 5 := q32
              exact k_vret xa L15 hr hlocks (Int.le_refl _) hzl ⟨hW, (mFi.sub (mFi.sub (mFi.sub mFi.rf hi6 mSub_nil) hi13 mSub_nil) hi15 mSub_nil), (mFr.tr (mFr.tr (mFr.tr mFr.rf hp6.1 rfl) hp13.1 rfl) hp15.1 rfl), (cJ_fr hp13.2.1 hp15.1 rfl), (by omega), trivial⟩ hcs.1 hcs.2 dX8_came_153
            · skip
              replace hW := wfP_i (wfP_r hW) (i_ne c142_30 rfl (rg_i kc_5))
              have ic142_30 : v20.toInt ≠ (5 : Int32).toInt := fun z => c142_30 (Int32.toInt_inj.mp z)
              have y33 : (5 : Int32).toInt = 5 := by decide
              refine lv_aload_n hx hb dX8_came_145 rfl (lv_at hl 2 rfl) ?_
              refine lv_aload hx hb dX8_came_146 (lv_at hl 0 rfl) ?_
              refine lv_aload_n hx hb dX8_came_148 rfl (lv_at hl 3 rfl) ?_
              refine lv_iload_n hx hb dX8_came_149 rfl (lv_at hl 4 rfl) ?_
              refine c_cvA (n := 3) (owner := "CellSwitch$Side") (x0 := ⟨"CellSwitch$Side", "progress", "(LCellSwitch$Call;LCellSwitch$Signal;I)V"⟩) (As := [.ref (Z.ad 1 v14.toInt.toNat), .ref (Z.ad 9 q1), .int p2]) (rest := []) x hml L15 4 i0 hal0 rfl (d_kprogress_4 l X g15 i0 v14.toInt.toNat q1 p2 hX (cJ_fr hp13.2.1 hp15.1 rfl) (show i0 < Z.n from (by omega)) hvv14.2.1 hq1 hW) (wk_U kd_X4_progress kl_X8_78 km_CellSwitchSide_CellSwitchSide_progress ks_X4_CellSwitchSide_X4_progress ki_X4_progress kn_X4) rfl ⟨rfl, rfl⟩ (List.mem_of_getElem? (i := 2) rfl) (by decide +kernel) ⟨Nat.le_of_ble_eq_true rfl, Nat.le_of_ble_eq_true rfl⟩ rfl hl.1 rfl (lv_room (Nat.le_of_ble_eq_true rfl)) dX8_came_150 (fun  g34 H34 k34 hp34 L34 => ?_) hcs
              obtain ⟨hW, hi34, hp34⟩ := hp34
              replace hW := wfP_i hW ⟨hi34, hp34⟩
              exact k_vret xa L34 hr hlocks (Int.le_refl _) hzl ⟨hW, (mFi.sub (mFi.sub (mFi.sub (mFi.sub mFi.rf hi6 mSub_nil) hi13 mSub_nil) hi15 mSub_nil) hi34 (mSub_any 4 rfl (mSub_any 5 rfl (mSub_any 8 rfl (mSub_any 9 rfl (mSub_any 10 rfl (mSub_any 12 rfl (mSub_any 13 rfl (mSub_any 14 rfl (mSub_any 16 rfl (mSub_any 19 rfl (mSub_any 23 rfl (mSub_any 24 rfl mSub_nil))))))))))))), (mFr.tr (mFr.tr (mFr.tr (mFr.tr mFr.rf hp6.1 rfl) hp13.1 rfl) hp15.1 rfl) hp34.1 rfl), hp34.2.1, (by omega), trivial⟩ hcs.1 hcs.2 dX8_came_153
          · skip
            replace hW := wfP_i (wfP_r hW) (i_eq c123_27 rfl (rg_i kc_90))
            have ic123_27 := congrArg Int32.toInt c123_27
            have y35 : (90 : Int32).toInt = 90 := by decide
            have q36 : rg (90) (90) v20 := (rg_eq c123_27 rv20 kc_90).1
            have uq36 : (90 : Int) ≤ v20.toInt ∧ v20.toInt ≤ 90 := q36
            refine lv_aload_n hx hb dX8_came_126 rfl (lv_at hl 2 rfl) ?_
            refine lv_aload hx hb dX8_came_127 (lv_at hl 0 rfl) ?_
            refine lv_aload_n hx hb dX8_came_129 rfl (lv_at hl 3 rfl) ?_
            refine lv_iload_n hx hb dX8_came_130 rfl (lv_at hl 4 rfl) ?_
            refine c_cvU (n := 3) (owner := "CellSwitch$Side") (x0 := ⟨"CellSwitch$Side", "cleared", "(LCellSwitch$Call;LCellSwitch$Signal;I)V"⟩) (As := [.ref (Z.ad 1 v14.toInt.toNat), .ref (Z.ad 9 q1), .int p2]) (rest := []) x hml L15 4 i0 hal0 rfl (d_kcleared_4 l X g15 i0 v14.toInt.toNat q1 p2 hX (cJ_fr hp13.2.1 hp15.1 rfl) (show i0 < Z.n from (by omega)) hvv14.2.1 hq1 hW) (wk_U kd_X8_cleared kl_X8_74 km_CellSwitchSide_CellSwitchSide_cleared ks_X4_CellSwitchSide_X8_cleared ki_X8_cleared kn_X8) rfl ⟨rfl, rfl⟩ rfl (by decide +kernel) ⟨Nat.le_of_ble_eq_true rfl, Nat.le_of_ble_eq_true rfl⟩ rfl hl.1 rfl (lv_room (Nat.le_of_ble_eq_true rfl)) dX8_came_131 (fun  g37 H37 k37 hp37 L37 => ?_) hcs
            obtain ⟨hW, hi37, hp37⟩ := hp37
            replace hW := wfP_i hW ⟨hi37, hp37⟩
            refine lv_goto (tgt := 153) hx hb dX8_came_134 (by decide) ?_
            exact k_vret xa L37 hr hlocks (Int.le_refl _) hzl ⟨hW, (mFi.sub (mFi.sub (mFi.sub (mFi.sub mFi.rf hi6 mSub_nil) hi13 mSub_nil) hi15 mSub_nil) hi37 (mSub_any 4 rfl (mSub_any 8 rfl (mSub_any 9 rfl (mSub_any 10 rfl (mSub_any 12 rfl (mSub_any 13 rfl (mSub_any 14 rfl (mSub_any 16 rfl (mSub_any 19 rfl (mSub_any 23 rfl (mSub_any 24 rfl mSub_nil)))))))))))), (mFr.tr (mFr.tr (mFr.tr (mFr.tr mFr.rf hp6.1 rfl) hp13.1 rfl) hp15.1 rfl) hp37.1 rfl), hp37.2.1, (by omega), trivial⟩ hcs.1 hcs.2 dX8_came_153
      · skip
        replace hW := wfP_i (wfP_r hW) (i_eq c52_17 rfl (rg_i kc_0))
        have ic52_17 := congrArg Int32.toInt c52_17
        have y38 : (0 : Int32).toInt = 0 := by decide
        have q39 : rg (0) (0) v16 := (rg_eq c52_17 rv16 kc_0).1
        have uq39 : (0 : Int) ≤ v16.toInt ∧ v16.toInt ≤ 0 := q39
        refine lv_aload_n hx hb dX8_came_55 rfl (lv_at hl 3 rfl) ?_
        refine c_geti x L15 9 q1 0 288 hq1 rfl rfl (wk_in kf_X8_63) dX8_came_56 (fun v40 ev40 wv40 => ?_)
        have rv40 : rg (-2147483648) (2147483647) v40 := rg_any v40
        replace hW := (wfP_i (wfP_i (wfP_a hW v40) ev40) rv40)
        have uv40 : (-2147483648 : Int) ≤ v40.toInt ∧ v40.toInt ≤ 2147483647 := rv40
        have sv40 : v40.toInt = (g 288 q1).toInt := congrArg Int32.toInt (ev40.trans (congrFun ((show mFr [32, 33, 34, 35, 36, 37, 38, 39, 40, 41, 42, 43, 44, 45, 46, 47, 48, 49, 135, 198, 384, 385, 386, 832, 864, 1536, 1728, 1729] g g15 from (mFr.tr (mFr.tr (mFr.tr mFr.rf hp6.1 rfl) hp13.1 rfl) hp15.1 rfl)).at 288 rfl) _))
        refine lv_iconst (v := 5) hx hb dX8_came_59 (by decide) ?_
        refine lv_icmp_ne (tgt := 72) hx hb dX8_came_60 (by decide) (fun c60_41 => ?_) (fun c60_41 => ?_)
        · skip
          replace hW := wfP_i (wfP_l hW) (i_ne c60_41 rfl (rg_i kc_5))
          have ic60_41 : v40.toInt ≠ (5 : Int32).toInt := fun z => c60_41 (Int32.toInt_inj.mp z)
          have y42 : (5 : Int32).toInt = 5 := by decide
          refine lv_aload_n hx hb dX8_came_72 rfl (lv_at hl 3 rfl) ?_
          refine c_geti x L15 9 q1 0 288 hq1 rfl rfl (wk_in kf_X8_63) dX8_came_73 (fun v43 ev43 wv43 => ?_)
          refine m_top ((ev40).trans ev43.symm) ?_
          refine lv_bipush (v := 77) hx hb dX8_came_76 (by decide) ?_
          refine lv_icmp_ne (tgt := 153) hx hb dX8_came_78 (by decide) (fun c78_44 => ?_) (fun c78_44 => ?_)
          · skip
            replace hW := wfP_i (wfP_l hW) (i_ne c78_44 rfl (rg_i kc_77))
            have ic78_44 : v40.toInt ≠ (77 : Int32).toInt := fun z => c78_44 (Int32.toInt_inj.mp z)
            have y45 : (77 : Int32).toInt = 77 := by decide
            exact k_vret xa L15 hr hlocks (Int.le_refl _) hzl ⟨hW, (mFi.sub (mFi.sub (mFi.sub mFi.rf hi6 mSub_nil) hi13 mSub_nil) hi15 mSub_nil), (mFr.tr (mFr.tr (mFr.tr mFr.rf hp6.1 rfl) hp13.1 rfl) hp15.1 rfl), (cJ_fr hp13.2.1 hp15.1 rfl), (by omega), trivial⟩ hcs.1 hcs.2 dX8_came_153
          · skip
            replace hW := wfP_i (wfP_r hW) (i_eq c78_44 rfl (rg_i kc_77))
            have ic78_44 := congrArg Int32.toInt c78_44
            have y46 : (77 : Int32).toInt = 77 := by decide
            have q47 : rg (77) (77) v40 := (rg_eq c78_44 rv40 kc_77).1
            have uq47 : (77 : Int) ≤ v40.toInt ∧ v40.toInt ≤ 77 := q47
            refine lv_aload_n hx hb dX8_came_81 rfl (lv_at hl 2 rfl) ?_
            refine lv_bipush (v := 90) hx hb dX8_came_82 (by decide) ?_
            refine lv_aload_n hx hb dX8_came_84 rfl (lv_at hl 3 rfl) ?_
            refine c_geti x L15 9 q1 1 289 hq1 rfl rfl (wk_in kf_X8_57) dX8_came_85 (fun v48 ev48 wv48 => ?_)
            refine m_top (((mm_fr (mm_fr (mm_fr ev1 hp6.1 rfl) hp13.1 rfl) hp15.1 rfl)).trans ev48.symm) ?_
            refine lv_aload_n hx hb dX8_came_88 rfl (lv_at hl 3 rfl) ?_
            refine c_geti x L15 9 q1 2 290 hq1 rfl rfl (wk_in kf_X8_60) dX8_came_89 (fun v49 ev49 wv49 => ?_)
            refine m_top (((mm_fr (mm_fr (mm_fr ev2 hp6.1 rfl) hp13.1 rfl) hp15.1 rfl)).trans ev49.symm) ?_
            refine lv_if_ne (tgt := 99) hx hb dX8_came_92 (by decide) (fun c92_50 => ?_) (fun c92_50 => ?_)
            · skip
              replace hW := wfP_i (wfP_l hW) (i_ne c92_50 rfl (rg_i kc_0))
              have ic92_50 : v2.toInt ≠ (0 : Int32).toInt := fun z => c92_50 (Int32.toInt_inj.mp z)
              have y51 : (0 : Int32).toInt = 0 := by decide
              refine lv_iconst (v := 0) hx hb dX8_came_99 (by decide) ?_
              refine lv_bipush (v := 81) hx hb dX8_came_100 (by decide) ?_
              refine c_cvU (n := 4) (owner := "CellSwitch$Side") (x0 := ⟨"CellSwitch$Side", "sayCause", "(IIZI)V"⟩) (As := [.int (90 : Int32), .int v1, .int (0 : Int32), .int (81 : Int32)]) (rest := []) x hml L15 4 i0 hal0 rfl (d_ksayCause_4 l X g15 i0 (90 : Int32) v1 (0 : Int32) (81 : Int32) hX (show i0 < Z.n from (by omega)) (rg_w kc_0 rfl) hW) (wk_U kd_X8_sayCause kl_X8_70 km_CellSwitchSide_CellSwitchSide_sayCause ks_X4_CellSwitchSide_X8_sayCause ki_X8_sayCause kn_X8) rfl ⟨rfl, rfl⟩ rfl (by decide +kernel) ⟨Nat.le_of_ble_eq_true rfl, Nat.le_of_ble_eq_true rfl⟩ rfl hl.1 rfl (lv_room (Nat.le_of_ble_eq_true rfl)) dX8_came_102 (fun  g52 H52 k52 hp52 L52 => ?_) hcs
              obtain ⟨hW, hi52, hp52⟩ := hp52
              replace hW := wfP_i hW ⟨hi52, hp52⟩
              refine lv_goto (tgt := 153) hx hb dX8_came_105 (by decide) ?_
              exact k_vret xa L52 hr hlocks (Int.le_refl _) hzl ⟨hW, (mFi.sub (mFi.sub (mFi.sub (mFi.sub mFi.rf hi6 mSub_nil) hi13 mSub_nil) hi15 mSub_nil) hi52 (mSub_any 19 rfl (mSub_any 23 rfl (mSub_any 24 rfl mSub_nil)))), (mFr.tr (mFr.tr (mFr.tr (mFr.tr mFr.rf hp6.1 rfl) hp13.1 rfl) hp15.1 rfl) hp52.1 rfl), (cJ_fr (cJ_fr hp13.2.1 hp15.1 rfl) hp52.1 rfl), (by omega), trivial⟩ hcs.1 hcs.2 dX8_came_153
            · skip
              replace hW := wfP_i (wfP_r hW) (i_eq c92_50 rfl (rg_i kc_0))
              have ic92_50 := congrArg Int32.toInt c92_50
              have y53 : (0 : Int32).toInt = 0 := by decide
              exact absurd ((rg_eq c92_50 q5 kc_0).1 : rg (1) (0) v2) (fun q => rg_dead q rfl)
        · skip
          replace hW := wfP_i (wfP_r hW) (i_eq c60_41 rfl (rg_i kc_5))
          have ic60_41 := congrArg Int32.toInt c60_41
          have y54 : (5 : Int32).toInt = 5 := by decide
          have q55 : rg (5) (5) v40 := (rg_eq c60_41 rv40 kc_5).1
          have uq55 : (5 : Int) ≤ v40.toInt ∧ v40.toInt ≤ 5 := q55
          refine lv_aload_n hx hb dX8_came_63 rfl (lv_at hl 2 rfl) ?_
          refine lv_aload_n hx hb dX8_came_64 rfl (lv_at hl 3 rfl) ?_
          refine lv_iload_n hx hb dX8_came_65 rfl (lv_at hl 4 rfl) ?_
          refine k_callv xa L15 (k_runU (x := ⟨"CellSwitch$Side", "setupCame", "(LCellSwitch$Signal;I)V"⟩) (As := [.ref (Z.ad 9 q1), .int p2]) (rest := []) ⟨hx, hb, hml, x.2.2.2.2.1, x.2.2.1⟩ (d_ksetupCame_4 l X g15 i0 q1 p2 _ n1 hX (cJ_fr hp13.2.1 hp15.1 rfl) (by omega) (show i0 < Z.n from (by omega)) hq1 hW) (va_cwA 2 x.2.2.1 (wk_U (owner := "CellSwitch$Side") kd_X4_setupCame kl_X8_66 km_CellSwitchSide_CellSwitchSide_setupCame ks_X4_CellSwitchSide_X4_setupCame ki_X4_setupCame kn_X4) rfl rfl rfl (x.2.2.2.2.2.2.2.2.2.1.2 _ (List.mem_of_getElem? (i := 1) rfl)) (by decide +kernel) ⟨Nat.le_of_ble_eq_true rfl, Nat.le_of_ble_eq_true rfl⟩) ⟨cPreA.blind, c_recv x L15 hal0 rfl, fun U hU hW => k_pre xa L15 U hU hW⟩ rfl rfl hl.1 rfl (lv_room (Nat.le_of_ble_eq_true rfl)) dX8_came_66 ⟨show 0 + 2 ≤ 2 by omega, show 0 + (18 + n1) ≤ 18 + n1 by omega⟩) (fun  Z g56 H56 k56 kc56 kn56 hk56 hn56 hp56 hz56 xa L56 => ?_)
          obtain ⟨hW, hi56, hp56⟩ := hp56
          replace hW := wfP_i (wfP_a (wfP_i (wfP_i hW ⟨hi56, hp56⟩) (cZg_of hz56 hk56 hn56)) Z) rfl
          have hww56 := hp56.2.2.1
          have ea56_0 := hz56.2.2.1 1 v14.toInt.toNat hvv14.2.1 (by omega)
          have ea56_1 := hz56.2.2.1 4 i0 hal0 (by omega)
          have ea56_2 := hz56.2.2.1 9 q1 hq1 (by omega)
          rw [← ea56_0] at hl
          rw [← ea56_1] at hl
          rw [← ea56_2] at hl
          have al56_0 := hz56.2.1 1 v14.toInt.toNat hvv14.2.1
          have al56_1 := hz56.2.1 4 i0 hal0
          have al56_2 := hz56.2.1 9 q1 hq1
          have hZn56 := hz56.1
          have x := xa.1
          have hz := x.2.2.2.2.2.2.2.1
          have hzn := hz.1
          have hzl := cZl.tr hzl hz56
          have hcs : 0 + kc56 ≤ 2 ∧ 0 + kn56 ≤ 18 + n1 := by omega
          refine lv_goto (tgt := 153) hx hb dX8_came_69 (by decide) ?_
          exact k_vret xa L56 hr hlocks (Int.le_refl _) hzl ⟨hW, (mFi.sub (mFi.sub (mFi.sub (mFi.sub mFi.rf hi6 mSub_nil) hi13 mSub_nil) hi15 mSub_nil) hi56 (mSub_any 0 rfl (mSub_any 1 rfl (mSub_any 2 rfl (mSub_any 3 rfl (mSub_any 4 rfl (mSub_any 5 rfl (mSub_any 6 rfl (mSub_any 7 rfl (mSub_any 8 rfl (mSub_any 9 rfl (mSub_any 10 rfl (mSub_any 11 rfl (mSub_any 12 rfl (mSub_any 13 rfl (mSub_any 14 rfl (mSub_any 15 rfl (mSub_any 16 rfl (mSub_any 17 rfl (mSub_eq 18 rfl (mSub_any 19 rfl (mSub_eq 20 rfl (mSub_eq 21 rfl (mSub_eq 22 rfl (mSub_any 23 rfl (mSub_any 24 rfl (mSub_eq 25 rfl (mSub_eq 26 rfl (mSub_eq 27 rfl mSub_nil))))))))))))))))))))))))))))), (mFr.tr (mFr.tr (mFr.tr (mFr.tr mFr.rf hp6.1 rfl) hp13.1 rfl) hp15.1 rfl) hp56.1 rfl), hp56.2.1, (by omega), trivial⟩ hcs.1 hcs.2 dX8_came_153
    · skip
      replace hW := wfP_i (wfP_r hW) (i_lt (rg_nle c22_9) rfl (rg_i kc_0))
      have ic22_9 := Int32.lt_iff_toInt_lt.mp (rg_nle c22_9)
      have q57 : rg (-1) (-1) v7 := (rg_lt (rg_nle c22_9) rv7 kc_0).1
      have uq57 : (-1 : Int) ≤ v7.toInt ∧ v7.toInt ≤ -1 := q57
      refine lv_null hx hb dX8_came_25 ?_
      refine lv_goto (tgt := 40) hx hb dX8_came_26 (by decide) ?_
      refine lv_astoreN (lv' := [(4, .null), (3, .int v7), (0, .ref (Z.ad 4 i0)), (1, .ref (Z.ad 9 q1)), (2, .int p2)]) hx hb dX8_came_40 hl (by decide) rfl (fun ls hl => ?_)
      refine lv_aloadN hx hb dX8_came_42 (lv_at hl 0 rfl) ?_
      refine lv_ifnullN (tgt := 55) hx hb dX8_came_44 (by decide) ?_
      refine lv_aload_n hx hb dX8_came_55 rfl (lv_at hl 3 rfl) ?_
      refine c_geti x L6 9 q1 0 288 hq1 rfl rfl (wk_in kf_X8_63) dX8_came_56 (fun v58 ev58 wv58 => ?_)
      have rv58 : rg (-2147483648) (2147483647) v58 := rg_any v58
      replace hW := (wfP_i (wfP_i (wfP_a hW v58) ev58) rv58)
      have uv58 : (-2147483648 : Int) ≤ v58.toInt ∧ v58.toInt ≤ 2147483647 := rv58
      have sv58 : v58.toInt = (g 288 q1).toInt := congrArg Int32.toInt (ev58.trans (congrFun ((show mFr [32, 33, 34, 35, 36, 37, 38, 39, 40, 41, 42, 43, 44, 45, 46, 47, 48, 49, 135, 198, 384, 385, 386, 832, 864, 1536, 1728, 1729] g g6 from (mFr.tr mFr.rf hp6.1 rfl)).at 288 rfl) _))
      refine lv_iconst (v := 5) hx hb dX8_came_59 (by decide) ?_
      refine lv_icmp_ne (tgt := 72) hx hb dX8_came_60 (by decide) (fun c60_59 => ?_) (fun c60_59 => ?_)
      · skip
        replace hW := wfP_i (wfP_l hW) (i_ne c60_59 rfl (rg_i kc_5))
        have ic60_59 : v58.toInt ≠ (5 : Int32).toInt := fun z => c60_59 (Int32.toInt_inj.mp z)
        have y60 : (5 : Int32).toInt = 5 := by decide
        refine lv_aload_n hx hb dX8_came_72 rfl (lv_at hl 3 rfl) ?_
        refine c_geti x L6 9 q1 0 288 hq1 rfl rfl (wk_in kf_X8_63) dX8_came_73 (fun v61 ev61 wv61 => ?_)
        refine m_top ((ev58).trans ev61.symm) ?_
        refine lv_bipush (v := 77) hx hb dX8_came_76 (by decide) ?_
        refine lv_icmp_ne (tgt := 153) hx hb dX8_came_78 (by decide) (fun c78_62 => ?_) (fun c78_62 => ?_)
        · skip
          replace hW := wfP_i (wfP_l hW) (i_ne c78_62 rfl (rg_i kc_77))
          have ic78_62 : v58.toInt ≠ (77 : Int32).toInt := fun z => c78_62 (Int32.toInt_inj.mp z)
          have y63 : (77 : Int32).toInt = 77 := by decide
          exact k_vret xa L6 hr hlocks (Int.le_refl _) hzl ⟨hW, (mFi.sub mFi.rf hi6 mSub_nil), (mFr.tr mFr.rf hp6.1 rfl), hp6.2.2.1, (by omega), trivial⟩ hcs.1 hcs.2 dX8_came_153
        · skip
          replace hW := wfP_i (wfP_r hW) (i_eq c78_62 rfl (rg_i kc_77))
          have ic78_62 := congrArg Int32.toInt c78_62
          have y64 : (77 : Int32).toInt = 77 := by decide
          have q65 : rg (77) (77) v58 := (rg_eq c78_62 rv58 kc_77).1
          have uq65 : (77 : Int) ≤ v58.toInt ∧ v58.toInt ≤ 77 := q65
          refine lv_aload_n hx hb dX8_came_81 rfl (lv_at hl 2 rfl) ?_
          refine lv_bipush (v := 90) hx hb dX8_came_82 (by decide) ?_
          refine lv_aload_n hx hb dX8_came_84 rfl (lv_at hl 3 rfl) ?_
          refine c_geti x L6 9 q1 1 289 hq1 rfl rfl (wk_in kf_X8_57) dX8_came_85 (fun v66 ev66 wv66 => ?_)
          refine m_top (((mm_fr ev1 hp6.1 rfl)).trans ev66.symm) ?_
          refine lv_aload_n hx hb dX8_came_88 rfl (lv_at hl 3 rfl) ?_
          refine c_geti x L6 9 q1 2 290 hq1 rfl rfl (wk_in kf_X8_60) dX8_came_89 (fun v67 ev67 wv67 => ?_)
          refine m_top (((mm_fr ev2 hp6.1 rfl)).trans ev67.symm) ?_
          refine lv_if_ne (tgt := 99) hx hb dX8_came_92 (by decide) (fun c92_68 => ?_) (fun c92_68 => ?_)
          · skip
            replace hW := wfP_i (wfP_l hW) (i_ne c92_68 rfl (rg_i kc_0))
            have ic92_68 : v2.toInt ≠ (0 : Int32).toInt := fun z => c92_68 (Int32.toInt_inj.mp z)
            have y69 : (0 : Int32).toInt = 0 := by decide
            refine lv_iconst (v := 0) hx hb dX8_came_99 (by decide) ?_
            refine lv_bipush (v := 81) hx hb dX8_came_100 (by decide) ?_
            refine c_cvU (n := 4) (owner := "CellSwitch$Side") (x0 := ⟨"CellSwitch$Side", "sayCause", "(IIZI)V"⟩) (As := [.int (90 : Int32), .int v1, .int (0 : Int32), .int (81 : Int32)]) (rest := []) x hml L6 4 i0 hal0 rfl (d_ksayCause_4 l X g6 i0 (90 : Int32) v1 (0 : Int32) (81 : Int32) hX (show i0 < Z.n from (by omega)) (rg_w kc_0 rfl) hW) (wk_U kd_X8_sayCause kl_X8_70 km_CellSwitchSide_CellSwitchSide_sayCause ks_X4_CellSwitchSide_X8_sayCause ki_X8_sayCause kn_X8) rfl ⟨rfl, rfl⟩ rfl (by decide +kernel) ⟨Nat.le_of_ble_eq_true rfl, Nat.le_of_ble_eq_true rfl⟩ rfl hl.1 rfl (lv_room (Nat.le_of_ble_eq_true rfl)) dX8_came_102 (fun  g70 H70 k70 hp70 L70 => ?_) hcs
            obtain ⟨hW, hi70, hp70⟩ := hp70
            replace hW := wfP_i hW ⟨hi70, hp70⟩
            refine lv_goto (tgt := 153) hx hb dX8_came_105 (by decide) ?_
            exact k_vret xa L70 hr hlocks (Int.le_refl _) hzl ⟨hW, (mFi.sub (mFi.sub mFi.rf hi6 mSub_nil) hi70 (mSub_any 19 rfl (mSub_any 23 rfl (mSub_any 24 rfl mSub_nil)))), (mFr.tr (mFr.tr mFr.rf hp6.1 rfl) hp70.1 rfl), (cJ_fr hp6.2.2.1 hp70.1 rfl), (by omega), trivial⟩ hcs.1 hcs.2 dX8_came_153
          · skip
            replace hW := wfP_i (wfP_r hW) (i_eq c92_68 rfl (rg_i kc_0))
            have ic92_68 := congrArg Int32.toInt c92_68
            have y71 : (0 : Int32).toInt = 0 := by decide
            exact absurd ((rg_eq c92_68 q5 kc_0).1 : rg (1) (0) v2) (fun q => rg_dead q rfl)
      · skip
        replace hW := wfP_i (wfP_r hW) (i_eq c60_59 rfl (rg_i kc_5))
        have ic60_59 := congrArg Int32.toInt c60_59
        have y72 : (5 : Int32).toInt = 5 := by decide
        have q73 : rg (5) (5) v58 := (rg_eq c60_59 rv58 kc_5).1
        have uq73 : (5 : Int) ≤ v58.toInt ∧ v58.toInt ≤ 5 := q73
        refine lv_aload_n hx hb dX8_came_63 rfl (lv_at hl 2 rfl) ?_
        refine lv_aload_n hx hb dX8_came_64 rfl (lv_at hl 3 rfl) ?_
        refine lv_iload_n hx hb dX8_came_65 rfl (lv_at hl 4 rfl) ?_
        refine k_callv xa L6 (k_runU (x := ⟨"CellSwitch$Side", "setupCame", "(LCellSwitch$Signal;I)V"⟩) (As := [.ref (Z.ad 9 q1), .int p2]) (rest := []) ⟨hx, hb, hml, x.2.2.2.2.1, x.2.2.1⟩ (d_ksetupCame_4 l X g6 i0 q1 p2 _ n1 hX hp6.2.2.1 (by omega) (show i0 < Z.n from (by omega)) hq1 hW) (va_cwA 2 x.2.2.1 (wk_U (owner := "CellSwitch$Side") kd_X4_setupCame kl_X8_66 km_CellSwitchSide_CellSwitchSide_setupCame ks_X4_CellSwitchSide_X4_setupCame ki_X4_setupCame kn_X4) rfl rfl rfl (x.2.2.2.2.2.2.2.2.2.1.2 _ (List.mem_of_getElem? (i := 1) rfl)) (by decide +kernel) ⟨Nat.le_of_ble_eq_true rfl, Nat.le_of_ble_eq_true rfl⟩) ⟨cPreA.blind, c_recv x L6 hal0 rfl, fun U hU hW => k_pre xa L6 U hU hW⟩ rfl rfl hl.1 rfl (lv_room (Nat.le_of_ble_eq_true rfl)) dX8_came_66 ⟨show 0 + 2 ≤ 2 by omega, show 0 + (18 + n1) ≤ 18 + n1 by omega⟩) (fun  Z g74 H74 k74 kc74 kn74 hk74 hn74 hp74 hz74 xa L74 => ?_)
        obtain ⟨hW, hi74, hp74⟩ := hp74
        replace hW := wfP_i (wfP_a (wfP_i (wfP_i hW ⟨hi74, hp74⟩) (cZg_of hz74 hk74 hn74)) Z) rfl
        have hww74 := hp74.2.2.1
        have ea74_0 := hz74.2.2.1 4 i0 hal0 (by omega)
        have ea74_1 := hz74.2.2.1 9 q1 hq1 (by omega)
        rw [← ea74_0] at hl
        rw [← ea74_1] at hl
        have al74_0 := hz74.2.1 4 i0 hal0
        have al74_1 := hz74.2.1 9 q1 hq1
        have hZn74 := hz74.1
        have x := xa.1
        have hz := x.2.2.2.2.2.2.2.1
        have hzn := hz.1
        have hzl := cZl.tr hzl hz74
        have hcs : 0 + kc74 ≤ 2 ∧ 0 + kn74 ≤ 18 + n1 := by omega
        refine lv_goto (tgt := 153) hx hb dX8_came_69 (by decide) ?_
        exact k_vret xa L74 hr hlocks (Int.le_refl _) hzl ⟨hW, (mFi.sub (mFi.sub mFi.rf hi6 mSub_nil) hi74 (mSub_any 0 rfl (mSub_any 1 rfl (mSub_any 2 rfl (mSub_any 3 rfl (mSub_any 4 rfl (mSub_any 5 rfl (mSub_any 6 rfl (mSub_any 7 rfl (mSub_any 8 rfl (mSub_any 9 rfl (mSub_any 10 rfl (mSub_any 11 rfl (mSub_any 12 rfl (mSub_any 13 rfl (mSub_any 14 rfl (mSub_any 15 rfl (mSub_any 16 rfl (mSub_any 17 rfl (mSub_eq 18 rfl (mSub_any 19 rfl (mSub_eq 20 rfl (mSub_eq 21 rfl (mSub_eq 22 rfl (mSub_any 23 rfl (mSub_any 24 rfl (mSub_eq 25 rfl (mSub_eq 26 rfl (mSub_eq 27 rfl mSub_nil))))))))))))))))))))))))))))), (mFr.tr (mFr.tr mFr.rf hp6.1 rfl) hp74.1 rfl), hp74.2.1, (by omega), trivial⟩ hcs.1 hcs.2 dX8_came_153
  · skip
    replace hW := wfP_i (wfP_r hW) (i_eq c9_3 rfl (rg_i kc_0))
    have ic9_3 := congrArg Int32.toInt c9_3
    have y75 : (0 : Int32).toInt = 0 := by decide
    have q76 : rg (0) (0) v2 := (rg_eq c9_3 rv2 kc_0).1
    have uq76 : (0 : Int) ≤ v2.toInt ∧ v2.toInt ≤ 0 := q76
    refine lv_iconst (v := 1) hx hb dX8_came_12 (by decide) ?_
    refine lv_goto (tgt := 17) hx hb dX8_came_13 (by decide) ?_
    refine c_ciU (n := 2) (owner := "CellSwitch$Side") (x0 := ⟨"CellSwitch$Side", "placeOfReference", "(IZ)I"⟩) (As := [.int v1, .int (1 : Int32)]) (rest := []) x hml L 4 i0 hal0 rfl (d_kplaceOfReference_4 l X g i0 v1 (1 : Int32) hX hJ (show i0 < Z.n from (by omega)) (rg_w kc_1 rfl) hW) (wk_U kd_X8_placeOfReference kl_X8_45 km_CellSwitchSide_CellSwitchSide_placeOfReference ks_X4_CellSwitchSide_X8_placeOfReference ki_X8_placeOfReference kn_X8) rfl ⟨rfl, rfl⟩ rfl (by decide +kernel) ⟨Nat.le_of_ble_eq_true rfl, Nat.le_of_ble_eq_true rfl⟩ rfl hl.1 rfl (lv_room (Nat.le_of_ble_eq_true rfl)) dX8_came_17 (fun v78 g77 H77 k77 hp77 L77 => ?_) hcs
    obtain ⟨hW, hi77, hp77⟩ := hp77
    replace hW := wfP_i hW ⟨hi77, hp77⟩
    have rv78 : rg (-1) (2147483646) v78 := hp77.2.1
    have uv78 : (-1 : Int) ≤ v78.toInt ∧ v78.toInt ≤ 2147483646 := rv78
    have hw79 := hp77.2.2.2
    refine lv_istore_n (lv' := [(3, .int v78), (0, .ref (Z.ad 4 i0)), (1, .ref (Z.ad 9 q1)), (2, .int p2)]) hx hb dX8_came_20 rfl hl (by decide) rfl (fun ls hl => ?_)
    refine lv_iload_n hx hb dX8_came_21 rfl (lv_at hl 0 rfl) ?_
    refine lv_if_ge (tgt := 29) hx hb dX8_came_22 (by decide) (fun c22_80 => ?_) (fun c22_80 => ?_)
    · skip
      replace hW := wfP_i (wfP_l hW) (i_le c22_80 (rg_i kc_0) rfl)
      have ic22_80 := Int32.le_iff_toInt_le.mp c22_80
      have q81 : rg (0) (2147483646) v78 := (rg_le c22_80 kc_0 rv78).2
      have uq81 : (0 : Int) ≤ v78.toInt ∧ v78.toInt ≤ 2147483646 := q81
      refine lv_aload_n hx hb dX8_came_29 rfl (lv_at hl 1 rfl) ?_
      have al82 : Z.al 12 i0 := hz.2 12 i0 (show i0 < 2 * Z.n from (by omega))
      refine c_getr (a := Z.ad 12 i0) x L77 4 i0 2 hal0 rfl rfl (wk_in kf_X8_10) dX8_came_30 ?_
      refine lv_iload_n hx hb dX8_came_33 rfl (lv_at hl 0 rfl) ?_
      have y83 := congrArg Int32.toInt (congrFun ((show mFr [] g g77 from (mFr.tr mFr.rf hp77.1 rfl)).at 386 rfl) (i0))
      refine c_cr (As := [.int v78]) (rest := []) x hml L77 12 i0 al82 rfl (d_klget l X g77 i0 v78 hX hp77.2.2.1 (show i0 < 2 * Z.n from (by omega)) (by omega) hW) (wk_V kd_Jx4a65c_get_915e3 kl_X8_28 ki_Jx4a65c_get_915e3 ks_Jx4a65c_Jx4a65c_get_915e3 kn_Jx4a65c) rfl ⟨rfl, rfl⟩ hd_klget ⟨Nat.le_of_ble_eq_true rfl, Nat.le_of_ble_eq_true rfl⟩ rfl hl.1 rfl (lv_room (Nat.le_of_ble_eq_true rfl)) dX8_came_34 (fun v85 g84 H84 k84 hp84 L84 => ?_) hcs
      obtain ⟨hW, hi84, hp84⟩ := hp84
      replace hW := wfP_i hW ⟨hi84, hp84⟩
      have hvv85 := hp84.2.2
      refine c_top (show Value.ref (Z.ad 1 v85.toInt.toNat) = va_rf (cOpt Z 1 v85) from (by rw [cOpt_some hvv85.1]; rfl)) ?_
      refine c_cast x L84 1 v85.toInt.toNat hvv85.2.1 rfl (wk_in kc_lX8_32) dX8_came_37 ?_
      refine lv_astore (lv' := [(4, .ref (Z.ad 1 v85.toInt.toNat)), (3, .int v78), (0, .ref (Z.ad 4 i0)), (1, .ref (Z.ad 9 q1)), (2, .int p2)]) hx hb dX8_came_40 hl (by decide) rfl (fun ls hl => ?_)
      refine lv_aload hx hb dX8_came_42 (lv_at hl 0 rfl) ?_
      refine lv_ifnull hx hb dX8_came_44 ?_
      refine lv_aload hx hb dX8_came_47 (lv_at hl 0 rfl) ?_
      refine c_ci (As := []) (rest := []) x hml L84 1 v85.toInt.toNat hvv85.2.1 rfl (d_kisOpen l X g84 v85.toInt.toNat hX hvv85.2.1 hW) (wk_V kd_X1_isOpen kl_X8_34 ki_X1_isOpen ks_X1_X1_isOpen kn_X1) rfl ⟨rfl, rfl⟩ hd_kisOpen ⟨Nat.le_of_ble_eq_true rfl, Nat.le_of_ble_eq_true rfl⟩ rfl hl.1 rfl (lv_room (Nat.le_of_ble_eq_true rfl)) dX8_came_49 (fun v87 g86 H86 k86 hp86 L86 => ?_) hcs
      obtain ⟨hW, hi86, hp86⟩ := hp86
      replace hW := wfP_i hW ⟨hi86, hp86⟩
      have rv87 : rg (0) (1) v87 := hp86.2.1
      have uv87 : (0 : Int) ≤ v87.toInt ∧ v87.toInt ≤ 1 := rv87
      refine lv_if_ne (tgt := 108) hx hb dX8_came_52 (by decide) (fun c52_88 => ?_) (fun c52_88 => ?_)
      · skip
        replace hW := wfP_i (wfP_l hW) (i_ne c52_88 rfl (rg_i kc_0))
        have ic52_88 : v87.toInt ≠ (0 : Int32).toInt := fun z => c52_88 (Int32.toInt_inj.mp z)
        have y89 : (0 : Int32).toInt = 0 := by decide
        have q90 : rg (1) (1) v87 := rg_neL c52_88 rv87 kc_0
        have uq90 : (1 : Int) ≤ v87.toInt ∧ v87.toInt ≤ 1 := q90
        refine lv_aload_n hx hb dX8_came_108 rfl (lv_at hl 3 rfl) ?_
        refine c_geti x L86 9 q1 0 288 hq1 rfl rfl (wk_in kf_X8_63) dX8_came_109 (fun v91 ev91 wv91 => ?_)
        have rv91 : rg (-2147483648) (2147483647) v91 := rg_any v91
        replace hW := (wfP_i (wfP_i (wfP_a hW v91) ev91) rv91)
        have uv91 : (-2147483648 : Int) ≤ v91.toInt ∧ v91.toInt ≤ 2147483647 := rv91
        have sv91 : v91.toInt = (g 288 q1).toInt := congrArg Int32.toInt (ev91.trans (congrFun ((show mFr [32, 33, 34, 35, 36, 37, 38, 39, 40, 41, 42, 43, 44, 45, 46, 47, 48, 49, 135, 198, 384, 385, 386, 832, 864, 1536, 1728, 1729] g g86 from (mFr.tr (mFr.tr (mFr.tr mFr.rf hp77.1 rfl) hp84.1 rfl) hp86.1 rfl)).at 288 rfl) _))
        refine lv_bipush (v := 77) hx hb dX8_came_112 (by decide) ?_
        refine lv_icmp_eq (tgt := 126) hx hb dX8_came_114 (by decide) (fun c114_92 => ?_) (fun c114_92 => ?_)
        · skip
          replace hW := wfP_i (wfP_l hW) (i_eq c114_92 rfl (rg_i kc_77))
          have ic114_92 := congrArg Int32.toInt c114_92
          have y93 : (77 : Int32).toInt = 77 := by decide
          have q94 : rg (77) (77) v91 := (rg_eq c114_92 rv91 kc_77).1
          have uq94 : (77 : Int) ≤ v91.toInt ∧ v91.toInt ≤ 77 := q94
          refine lv_aload_n hx hb dX8_came_126 rfl (lv_at hl 2 rfl) ?_
          refine lv_aload hx hb dX8_came_127 (lv_at hl 0 rfl) ?_
          refine lv_aload_n hx hb dX8_came_129 rfl (lv_at hl 3 rfl) ?_
          refine lv_iload_n hx hb dX8_came_130 rfl (lv_at hl 4 rfl) ?_
          refine c_cvU (n := 3) (owner := "CellSwitch$Side") (x0 := ⟨"CellSwitch$Side", "cleared", "(LCellSwitch$Call;LCellSwitch$Signal;I)V"⟩) (As := [.ref (Z.ad 1 v85.toInt.toNat), .ref (Z.ad 9 q1), .int p2]) (rest := []) x hml L86 4 i0 hal0 rfl (d_kcleared_4 l X g86 i0 v85.toInt.toNat q1 p2 hX (cJ_fr hp84.2.1 hp86.1 rfl) (show i0 < Z.n from (by omega)) hvv85.2.1 hq1 hW) (wk_U kd_X8_cleared kl_X8_74 km_CellSwitchSide_CellSwitchSide_cleared ks_X4_CellSwitchSide_X8_cleared ki_X8_cleared kn_X8) rfl ⟨rfl, rfl⟩ rfl (by decide +kernel) ⟨Nat.le_of_ble_eq_true rfl, Nat.le_of_ble_eq_true rfl⟩ rfl hl.1 rfl (lv_room (Nat.le_of_ble_eq_true rfl)) dX8_came_131 (fun  g95 H95 k95 hp95 L95 => ?_) hcs
          obtain ⟨hW, hi95, hp95⟩ := hp95
          replace hW := wfP_i hW ⟨hi95, hp95⟩
          refine lv_goto (tgt := 153) hx hb dX8_came_134 (by decide) ?_
          exact k_vret xa L95 hr hlocks (Int.le_refl _) hzl ⟨hW, (mFi.sub (mFi.sub (mFi.sub (mFi.sub mFi.rf hi77 mSub_nil) hi84 mSub_nil) hi86 mSub_nil) hi95 (mSub_any 4 rfl (mSub_any 8 rfl (mSub_any 9 rfl (mSub_any 10 rfl (mSub_any 12 rfl (mSub_any 13 rfl (mSub_any 14 rfl (mSub_any 16 rfl (mSub_any 19 rfl (mSub_any 23 rfl (mSub_any 24 rfl mSub_nil)))))))))))), (mFr.tr (mFr.tr (mFr.tr (mFr.tr mFr.rf hp77.1 rfl) hp84.1 rfl) hp86.1 rfl) hp95.1 rfl), hp95.2.1, (by omega), trivial⟩ hcs.1 hcs.2 dX8_came_153
        · skip
          replace hW := wfP_i (wfP_r hW) (i_ne c114_92 rfl (rg_i kc_77))
          have ic114_92 : v91.toInt ≠ (77 : Int32).toInt := fun z => c114_92 (Int32.toInt_inj.mp z)
          have y96 : (77 : Int32).toInt = 77 := by decide
          refine lv_aload_n hx hb dX8_came_117 rfl (lv_at hl 3 rfl) ?_
          refine c_geti x L86 9 q1 0 288 hq1 rfl rfl (wk_in kf_X8_63) dX8_came_118 (fun v97 ev97 wv97 => ?_)
          refine m_top ((ev91).trans ev97.symm) ?_
          refine lv_bipush (v := 90) hx hb dX8_came_121 (by decide) ?_
          refine lv_icmp_ne (tgt := 137) hx hb dX8_came_123 (by decide) (fun c123_98 => ?_) (fun c123_98 => ?_)
          · skip
            replace hW := wfP_i (wfP_l hW) (i_ne c123_98 rfl (rg_i kc_90))
            have ic123_98 : v91.toInt ≠ (90 : Int32).toInt := fun z => c123_98 (Int32.toInt_inj.mp z)
            have y99 : (90 : Int32).toInt = 90 := by decide
            refine lv_aload_n hx hb dX8_came_137 rfl (lv_at hl 3 rfl) ?_
            refine c_geti x L86 9 q1 0 288 hq1 rfl rfl (wk_in kf_X8_63) dX8_came_138 (fun v100 ev100 wv100 => ?_)
            refine m_top ((ev91).trans ev100.symm) ?_
            refine lv_iconst (v := 5) hx hb dX8_came_141 (by decide) ?_
            refine lv_icmp_eq (tgt := 153) hx hb dX8_came_142 (by decide) (fun c142_101 => ?_) (fun c142_101 => ?_)
            · skip
              replace hW := wfP_i (wfP_l hW) (i_eq c142_101 rfl (rg_i kc_5))
              have ic142_101 := congrArg Int32.toInt c142_101
              have y102 : (5 : Int32).toInt = 5 := by decide
              have q103 : rg (5) (5) v91 := (rg_eq c142_101 rv91 kc_5).1
              have uq103 : (5 : Int) ≤ v91.toInt ∧ v91.toInt ≤ 5 := q103
              exact k_vret xa L86 hr hlocks (Int.le_refl _) hzl ⟨hW, (mFi.sub (mFi.sub (mFi.sub mFi.rf hi77 mSub_nil) hi84 mSub_nil) hi86 mSub_nil), (mFr.tr (mFr.tr (mFr.tr mFr.rf hp77.1 rfl) hp84.1 rfl) hp86.1 rfl), (cJ_fr hp84.2.1 hp86.1 rfl), (by omega), trivial⟩ hcs.1 hcs.2 dX8_came_153
            · skip
              replace hW := wfP_i (wfP_r hW) (i_ne c142_101 rfl (rg_i kc_5))
              have ic142_101 : v91.toInt ≠ (5 : Int32).toInt := fun z => c142_101 (Int32.toInt_inj.mp z)
              have y104 : (5 : Int32).toInt = 5 := by decide
              refine lv_aload_n hx hb dX8_came_145 rfl (lv_at hl 2 rfl) ?_
              refine lv_aload hx hb dX8_came_146 (lv_at hl 0 rfl) ?_
              refine lv_aload_n hx hb dX8_came_148 rfl (lv_at hl 3 rfl) ?_
              refine lv_iload_n hx hb dX8_came_149 rfl (lv_at hl 4 rfl) ?_
              refine c_cvA (n := 3) (owner := "CellSwitch$Side") (x0 := ⟨"CellSwitch$Side", "progress", "(LCellSwitch$Call;LCellSwitch$Signal;I)V"⟩) (As := [.ref (Z.ad 1 v85.toInt.toNat), .ref (Z.ad 9 q1), .int p2]) (rest := []) x hml L86 4 i0 hal0 rfl (d_kprogress_4 l X g86 i0 v85.toInt.toNat q1 p2 hX (cJ_fr hp84.2.1 hp86.1 rfl) (show i0 < Z.n from (by omega)) hvv85.2.1 hq1 hW) (wk_U kd_X4_progress kl_X8_78 km_CellSwitchSide_CellSwitchSide_progress ks_X4_CellSwitchSide_X4_progress ki_X4_progress kn_X4) rfl ⟨rfl, rfl⟩ (List.mem_of_getElem? (i := 2) rfl) (by decide +kernel) ⟨Nat.le_of_ble_eq_true rfl, Nat.le_of_ble_eq_true rfl⟩ rfl hl.1 rfl (lv_room (Nat.le_of_ble_eq_true rfl)) dX8_came_150 (fun  g105 H105 k105 hp105 L105 => ?_) hcs
              obtain ⟨hW, hi105, hp105⟩ := hp105
              replace hW := wfP_i hW ⟨hi105, hp105⟩
              exact k_vret xa L105 hr hlocks (Int.le_refl _) hzl ⟨hW, (mFi.sub (mFi.sub (mFi.sub (mFi.sub mFi.rf hi77 mSub_nil) hi84 mSub_nil) hi86 mSub_nil) hi105 (mSub_any 4 rfl (mSub_any 5 rfl (mSub_any 8 rfl (mSub_any 9 rfl (mSub_any 10 rfl (mSub_any 12 rfl (mSub_any 13 rfl (mSub_any 14 rfl (mSub_any 16 rfl (mSub_any 19 rfl (mSub_any 23 rfl (mSub_any 24 rfl mSub_nil))))))))))))), (mFr.tr (mFr.tr (mFr.tr (mFr.tr mFr.rf hp77.1 rfl) hp84.1 rfl) hp86.1 rfl) hp105.1 rfl), hp105.2.1, (by omega), trivial⟩ hcs.1 hcs.2 dX8_came_153
          · skip
            replace hW := wfP_i (wfP_r hW) (i_eq c123_98 rfl (rg_i kc_90))
            have ic123_98 := congrArg Int32.toInt c123_98
            have y106 : (90 : Int32).toInt = 90 := by decide
            have q107 : rg (90) (90) v91 := (rg_eq c123_98 rv91 kc_90).1
            have uq107 : (90 : Int) ≤ v91.toInt ∧ v91.toInt ≤ 90 := q107
            refine lv_aload_n hx hb dX8_came_126 rfl (lv_at hl 2 rfl) ?_
            refine lv_aload hx hb dX8_came_127 (lv_at hl 0 rfl) ?_
            refine lv_aload_n hx hb dX8_came_129 rfl (lv_at hl 3 rfl) ?_
            refine lv_iload_n hx hb dX8_came_130 rfl (lv_at hl 4 rfl) ?_
            refine c_cvU (n := 3) (owner := "CellSwitch$Side") (x0 := ⟨"CellSwitch$Side", "cleared", "(LCellSwitch$Call;LCellSwitch$Signal;I)V"⟩) (As := [.ref (Z.ad 1 v85.toInt.toNat), .ref (Z.ad 9 q1), .int p2]) (rest := []) x hml L86 4 i0 hal0 rfl (d_kcleared_4 l X g86 i0 v85.toInt.toNat q1 p2 hX (cJ_fr hp84.2.1 hp86.1 rfl) (show i0 < Z.n from (by omega)) hvv85.2.1 hq1 hW) (wk_U kd_X8_cleared kl_X8_74 km_CellSwitchSide_CellSwitchSide_cleared ks_X4_CellSwitchSide_X8_cleared ki_X8_cleared kn_X8) rfl ⟨rfl, rfl⟩ rfl (by decide +kernel) ⟨Nat.le_of_ble_eq_true rfl, Nat.le_of_ble_eq_true rfl⟩ rfl hl.1 rfl (lv_room (Nat.le_of_ble_eq_true rfl)) dX8_came_131 (fun  g108 H108 k108 hp108 L108 => ?_) hcs
            obtain ⟨hW, hi108, hp108⟩ := hp108
            replace hW := wfP_i hW ⟨hi108, hp108⟩
            refine lv_goto (tgt := 153) hx hb dX8_came_134 (by decide) ?_
            exact k_vret xa L108 hr hlocks (Int.le_refl _) hzl ⟨hW, (mFi.sub (mFi.sub (mFi.sub (mFi.sub mFi.rf hi77 mSub_nil) hi84 mSub_nil) hi86 mSub_nil) hi108 (mSub_any 4 rfl (mSub_any 8 rfl (mSub_any 9 rfl (mSub_any 10 rfl (mSub_any 12 rfl (mSub_any 13 rfl (mSub_any 14 rfl (mSub_any 16 rfl (mSub_any 19 rfl (mSub_any 23 rfl (mSub_any 24 rfl mSub_nil)))))))))))), (mFr.tr (mFr.tr (mFr.tr (mFr.tr mFr.rf hp77.1 rfl) hp84.1 rfl) hp86.1 rfl) hp108.1 rfl), hp108.2.1, (by omega), trivial⟩ hcs.1 hcs.2 dX8_came_153
      · skip
        replace hW := wfP_i (wfP_r hW) (i_eq c52_88 rfl (rg_i kc_0))
        have ic52_88 := congrArg Int32.toInt c52_88
        have y109 : (0 : Int32).toInt = 0 := by decide
        have q110 : rg (0) (0) v87 := (rg_eq c52_88 rv87 kc_0).1
        have uq110 : (0 : Int) ≤ v87.toInt ∧ v87.toInt ≤ 0 := q110
        refine lv_aload_n hx hb dX8_came_55 rfl (lv_at hl 3 rfl) ?_
        refine c_geti x L86 9 q1 0 288 hq1 rfl rfl (wk_in kf_X8_63) dX8_came_56 (fun v111 ev111 wv111 => ?_)
        have rv111 : rg (-2147483648) (2147483647) v111 := rg_any v111
        replace hW := (wfP_i (wfP_i (wfP_a hW v111) ev111) rv111)
        have uv111 : (-2147483648 : Int) ≤ v111.toInt ∧ v111.toInt ≤ 2147483647 := rv111
        have sv111 : v111.toInt = (g 288 q1).toInt := congrArg Int32.toInt (ev111.trans (congrFun ((show mFr [32, 33, 34, 35, 36, 37, 38, 39, 40, 41, 42, 43, 44, 45, 46, 47, 48, 49, 135, 198, 384, 385, 386, 832, 864, 1536, 1728, 1729] g g86 from (mFr.tr (mFr.tr (mFr.tr mFr.rf hp77.1 rfl) hp84.1 rfl) hp86.1 rfl)).at 288 rfl) _))
        refine lv_iconst (v := 5) hx hb dX8_came_59 (by decide) ?_
        refine lv_icmp_ne (tgt := 72) hx hb dX8_came_60 (by decide) (fun c60_112 => ?_) (fun c60_112 => ?_)
        · skip
          replace hW := wfP_i (wfP_l hW) (i_ne c60_112 rfl (rg_i kc_5))
          have ic60_112 : v111.toInt ≠ (5 : Int32).toInt := fun z => c60_112 (Int32.toInt_inj.mp z)
          have y113 : (5 : Int32).toInt = 5 := by decide
          refine lv_aload_n hx hb dX8_came_72 rfl (lv_at hl 3 rfl) ?_
          refine c_geti x L86 9 q1 0 288 hq1 rfl rfl (wk_in kf_X8_63) dX8_came_73 (fun v114 ev114 wv114 => ?_)
          refine m_top ((ev111).trans ev114.symm) ?_
          refine lv_bipush (v := 77) hx hb dX8_came_76 (by decide) ?_
          refine lv_icmp_ne (tgt := 153) hx hb dX8_came_78 (by decide) (fun c78_115 => ?_) (fun c78_115 => ?_)
          · skip
            replace hW := wfP_i (wfP_l hW) (i_ne c78_115 rfl (rg_i kc_77))
            have ic78_115 : v111.toInt ≠ (77 : Int32).toInt := fun z => c78_115 (Int32.toInt_inj.mp z)
            have y116 : (77 : Int32).toInt = 77 := by decide
            exact k_vret xa L86 hr hlocks (Int.le_refl _) hzl ⟨hW, (mFi.sub (mFi.sub (mFi.sub mFi.rf hi77 mSub_nil) hi84 mSub_nil) hi86 mSub_nil), (mFr.tr (mFr.tr (mFr.tr mFr.rf hp77.1 rfl) hp84.1 rfl) hp86.1 rfl), (cJ_fr hp84.2.1 hp86.1 rfl), (by omega), trivial⟩ hcs.1 hcs.2 dX8_came_153
          · skip
            replace hW := wfP_i (wfP_r hW) (i_eq c78_115 rfl (rg_i kc_77))
            have ic78_115 := congrArg Int32.toInt c78_115
            have y117 : (77 : Int32).toInt = 77 := by decide
            have q118 : rg (77) (77) v111 := (rg_eq c78_115 rv111 kc_77).1
            have uq118 : (77 : Int) ≤ v111.toInt ∧ v111.toInt ≤ 77 := q118
            refine lv_aload_n hx hb dX8_came_81 rfl (lv_at hl 2 rfl) ?_
            refine lv_bipush (v := 90) hx hb dX8_came_82 (by decide) ?_
            refine lv_aload_n hx hb dX8_came_84 rfl (lv_at hl 3 rfl) ?_
            refine c_geti x L86 9 q1 1 289 hq1 rfl rfl (wk_in kf_X8_57) dX8_came_85 (fun v119 ev119 wv119 => ?_)
            refine m_top (((mm_fr (mm_fr (mm_fr ev1 hp77.1 rfl) hp84.1 rfl) hp86.1 rfl)).trans ev119.symm) ?_
            refine lv_aload_n hx hb dX8_came_88 rfl (lv_at hl 3 rfl) ?_
            refine c_geti x L86 9 q1 2 290 hq1 rfl rfl (wk_in kf_X8_60) dX8_came_89 (fun v120 ev120 wv120 => ?_)
            refine m_top (((mm_fr (mm_fr (mm_fr ev2 hp77.1 rfl) hp84.1 rfl) hp86.1 rfl)).trans ev120.symm) ?_
            refine lv_if_ne (tgt := 99) hx hb dX8_came_92 (by decide) (fun c92_121 => ?_) (fun c92_121 => ?_)
            · skip
              replace hW := wfP_i (wfP_l hW) (i_ne c92_121 rfl (rg_i kc_0))
              have ic92_121 : v2.toInt ≠ (0 : Int32).toInt := fun z => c92_121 (Int32.toInt_inj.mp z)
              have y122 : (0 : Int32).toInt = 0 := by decide
              exact absurd (rg_neH c92_121 q76 kc_0 : rg (0) (-1) v2) (fun q => rg_dead q rfl)
            · skip
              replace hW := wfP_i (wfP_r hW) (i_eq c92_121 rfl (rg_i kc_0))
              have ic92_121 := congrArg Int32.toInt c92_121
              have y123 : (0 : Int32).toInt = 0 := by decide
              refine lv_iconst (v := 1) hx hb dX8_came_95 (by decide) ?_
              refine lv_goto (tgt := 100) hx hb dX8_came_96 (by decide) ?_
              refine lv_bipush (v := 81) hx hb dX8_came_100 (by decide) ?_
              refine c_cvU (n := 4) (owner := "CellSwitch$Side") (x0 := ⟨"CellSwitch$Side", "sayCause", "(IIZI)V"⟩) (As := [.int (90 : Int32), .int v1, .int (1 : Int32), .int (81 : Int32)]) (rest := []) x hml L86 4 i0 hal0 rfl (d_ksayCause_4 l X g86 i0 (90 : Int32) v1 (1 : Int32) (81 : Int32) hX (show i0 < Z.n from (by omega)) (rg_w kc_1 rfl) hW) (wk_U kd_X8_sayCause kl_X8_70 km_CellSwitchSide_CellSwitchSide_sayCause ks_X4_CellSwitchSide_X8_sayCause ki_X8_sayCause kn_X8) rfl ⟨rfl, rfl⟩ rfl (by decide +kernel) ⟨Nat.le_of_ble_eq_true rfl, Nat.le_of_ble_eq_true rfl⟩ rfl hl.1 rfl (lv_room (Nat.le_of_ble_eq_true rfl)) dX8_came_102 (fun  g124 H124 k124 hp124 L124 => ?_) hcs
              obtain ⟨hW, hi124, hp124⟩ := hp124
              replace hW := wfP_i hW ⟨hi124, hp124⟩
              refine lv_goto (tgt := 153) hx hb dX8_came_105 (by decide) ?_
              exact k_vret xa L124 hr hlocks (Int.le_refl _) hzl ⟨hW, (mFi.sub (mFi.sub (mFi.sub (mFi.sub mFi.rf hi77 mSub_nil) hi84 mSub_nil) hi86 mSub_nil) hi124 (mSub_any 19 rfl (mSub_any 23 rfl (mSub_any 24 rfl mSub_nil)))), (mFr.tr (mFr.tr (mFr.tr (mFr.tr mFr.rf hp77.1 rfl) hp84.1 rfl) hp86.1 rfl) hp124.1 rfl), (cJ_fr (cJ_fr hp84.2.1 hp86.1 rfl) hp124.1 rfl), (by omega), trivial⟩ hcs.1 hcs.2 dX8_came_153
        · skip
          replace hW := wfP_i (wfP_r hW) (i_eq c60_112 rfl (rg_i kc_5))
          have ic60_112 := congrArg Int32.toInt c60_112
          have y125 : (5 : Int32).toInt = 5 := by decide
          have q126 : rg (5) (5) v111 := (rg_eq c60_112 rv111 kc_5).1
          have uq126 : (5 : Int) ≤ v111.toInt ∧ v111.toInt ≤ 5 := q126
          refine lv_aload_n hx hb dX8_came_63 rfl (lv_at hl 2 rfl) ?_
          refine lv_aload_n hx hb dX8_came_64 rfl (lv_at hl 3 rfl) ?_
          refine lv_iload_n hx hb dX8_came_65 rfl (lv_at hl 4 rfl) ?_
          refine k_callv xa L86 (k_runU (x := ⟨"CellSwitch$Side", "setupCame", "(LCellSwitch$Signal;I)V"⟩) (As := [.ref (Z.ad 9 q1), .int p2]) (rest := []) ⟨hx, hb, hml, x.2.2.2.2.1, x.2.2.1⟩ (d_ksetupCame_4 l X g86 i0 q1 p2 _ n1 hX (cJ_fr hp84.2.1 hp86.1 rfl) (by omega) (show i0 < Z.n from (by omega)) hq1 hW) (va_cwA 2 x.2.2.1 (wk_U (owner := "CellSwitch$Side") kd_X4_setupCame kl_X8_66 km_CellSwitchSide_CellSwitchSide_setupCame ks_X4_CellSwitchSide_X4_setupCame ki_X4_setupCame kn_X4) rfl rfl rfl (x.2.2.2.2.2.2.2.2.2.1.2 _ (List.mem_of_getElem? (i := 1) rfl)) (by decide +kernel) ⟨Nat.le_of_ble_eq_true rfl, Nat.le_of_ble_eq_true rfl⟩) ⟨cPreA.blind, c_recv x L86 hal0 rfl, fun U hU hW => k_pre xa L86 U hU hW⟩ rfl rfl hl.1 rfl (lv_room (Nat.le_of_ble_eq_true rfl)) dX8_came_66 ⟨show 0 + 2 ≤ 2 by omega, show 0 + (18 + n1) ≤ 18 + n1 by omega⟩) (fun  Z g127 H127 k127 kc127 kn127 hk127 hn127 hp127 hz127 xa L127 => ?_)
          obtain ⟨hW, hi127, hp127⟩ := hp127
          replace hW := wfP_i (wfP_a (wfP_i (wfP_i hW ⟨hi127, hp127⟩) (cZg_of hz127 hk127 hn127)) Z) rfl
          have hww127 := hp127.2.2.1
          have ea127_0 := hz127.2.2.1 1 v85.toInt.toNat hvv85.2.1 (by omega)
          have ea127_1 := hz127.2.2.1 4 i0 hal0 (by omega)
          have ea127_2 := hz127.2.2.1 9 q1 hq1 (by omega)
          rw [← ea127_0] at hl
          rw [← ea127_1] at hl
          rw [← ea127_2] at hl
          have al127_0 := hz127.2.1 1 v85.toInt.toNat hvv85.2.1
          have al127_1 := hz127.2.1 4 i0 hal0
          have al127_2 := hz127.2.1 9 q1 hq1
          have hZn127 := hz127.1
          have x := xa.1
          have hz := x.2.2.2.2.2.2.2.1
          have hzn := hz.1
          have hzl := cZl.tr hzl hz127
          have hcs : 0 + kc127 ≤ 2 ∧ 0 + kn127 ≤ 18 + n1 := by omega
          refine lv_goto (tgt := 153) hx hb dX8_came_69 (by decide) ?_
          exact k_vret xa L127 hr hlocks (Int.le_refl _) hzl ⟨hW, (mFi.sub (mFi.sub (mFi.sub (mFi.sub mFi.rf hi77 mSub_nil) hi84 mSub_nil) hi86 mSub_nil) hi127 (mSub_any 0 rfl (mSub_any 1 rfl (mSub_any 2 rfl (mSub_any 3 rfl (mSub_any 4 rfl (mSub_any 5 rfl (mSub_any 6 rfl (mSub_any 7 rfl (mSub_any 8 rfl (mSub_any 9 rfl (mSub_any 10 rfl (mSub_any 11 rfl (mSub_any 12 rfl (mSub_any 13 rfl (mSub_any 14 rfl (mSub_any 15 rfl (mSub_any 16 rfl (mSub_any 17 rfl (mSub_eq 18 rfl (mSub_any 19 rfl (mSub_eq 20 rfl (mSub_eq 21 rfl (mSub_eq 22 rfl (mSub_any 23 rfl (mSub_any 24 rfl (mSub_eq 25 rfl (mSub_eq 26 rfl (mSub_eq 27 rfl mSub_nil))))))))))))))))))))))))))))), (mFr.tr (mFr.tr (mFr.tr (mFr.tr mFr.rf hp77.1 rfl) hp84.1 rfl) hp86.1 rfl) hp127.1 rfl), hp127.2.1, (by omega), trivial⟩ hcs.1 hcs.2 dX8_came_153
    · skip
      replace hW := wfP_i (wfP_r hW) (i_lt (rg_nle c22_80) rfl (rg_i kc_0))
      have ic22_80 := Int32.lt_iff_toInt_lt.mp (rg_nle c22_80)
      have q128 : rg (-1) (-1) v78 := (rg_lt (rg_nle c22_80) rv78 kc_0).1
      have uq128 : (-1 : Int) ≤ v78.toInt ∧ v78.toInt ≤ -1 := q128
      refine lv_null hx hb dX8_came_25 ?_
      refine lv_goto (tgt := 40) hx hb dX8_came_26 (by decide) ?_
      refine lv_astoreN (lv' := [(4, .null), (3, .int v78), (0, .ref (Z.ad 4 i0)), (1, .ref (Z.ad 9 q1)), (2, .int p2)]) hx hb dX8_came_40 hl (by decide) rfl (fun ls hl => ?_)
      refine lv_aloadN hx hb dX8_came_42 (lv_at hl 0 rfl) ?_
      refine lv_ifnullN (tgt := 55) hx hb dX8_came_44 (by decide) ?_
      refine lv_aload_n hx hb dX8_came_55 rfl (lv_at hl 3 rfl) ?_
      refine c_geti x L77 9 q1 0 288 hq1 rfl rfl (wk_in kf_X8_63) dX8_came_56 (fun v129 ev129 wv129 => ?_)
      have rv129 : rg (-2147483648) (2147483647) v129 := rg_any v129
      replace hW := (wfP_i (wfP_i (wfP_a hW v129) ev129) rv129)
      have uv129 : (-2147483648 : Int) ≤ v129.toInt ∧ v129.toInt ≤ 2147483647 := rv129
      have sv129 : v129.toInt = (g 288 q1).toInt := congrArg Int32.toInt (ev129.trans (congrFun ((show mFr [32, 33, 34, 35, 36, 37, 38, 39, 40, 41, 42, 43, 44, 45, 46, 47, 48, 49, 135, 198, 384, 385, 386, 832, 864, 1536, 1728, 1729] g g77 from (mFr.tr mFr.rf hp77.1 rfl)).at 288 rfl) _))
      refine lv_iconst (v := 5) hx hb dX8_came_59 (by decide) ?_
      refine lv_icmp_ne (tgt := 72) hx hb dX8_came_60 (by decide) (fun c60_130 => ?_) (fun c60_130 => ?_)
      · skip
        replace hW := wfP_i (wfP_l hW) (i_ne c60_130 rfl (rg_i kc_5))
        have ic60_130 : v129.toInt ≠ (5 : Int32).toInt := fun z => c60_130 (Int32.toInt_inj.mp z)
        have y131 : (5 : Int32).toInt = 5 := by decide
        refine lv_aload_n hx hb dX8_came_72 rfl (lv_at hl 3 rfl) ?_
        refine c_geti x L77 9 q1 0 288 hq1 rfl rfl (wk_in kf_X8_63) dX8_came_73 (fun v132 ev132 wv132 => ?_)
        refine m_top ((ev129).trans ev132.symm) ?_
        refine lv_bipush (v := 77) hx hb dX8_came_76 (by decide) ?_
        refine lv_icmp_ne (tgt := 153) hx hb dX8_came_78 (by decide) (fun c78_133 => ?_) (fun c78_133 => ?_)
        · skip
          replace hW := wfP_i (wfP_l hW) (i_ne c78_133 rfl (rg_i kc_77))
          have ic78_133 : v129.toInt ≠ (77 : Int32).toInt := fun z => c78_133 (Int32.toInt_inj.mp z)
          have y134 : (77 : Int32).toInt = 77 := by decide
          exact k_vret xa L77 hr hlocks (Int.le_refl _) hzl ⟨hW, (mFi.sub mFi.rf hi77 mSub_nil), (mFr.tr mFr.rf hp77.1 rfl), hp77.2.2.1, (by omega), trivial⟩ hcs.1 hcs.2 dX8_came_153
        · skip
          replace hW := wfP_i (wfP_r hW) (i_eq c78_133 rfl (rg_i kc_77))
          have ic78_133 := congrArg Int32.toInt c78_133
          have y135 : (77 : Int32).toInt = 77 := by decide
          have q136 : rg (77) (77) v129 := (rg_eq c78_133 rv129 kc_77).1
          have uq136 : (77 : Int) ≤ v129.toInt ∧ v129.toInt ≤ 77 := q136
          refine lv_aload_n hx hb dX8_came_81 rfl (lv_at hl 2 rfl) ?_
          refine lv_bipush (v := 90) hx hb dX8_came_82 (by decide) ?_
          refine lv_aload_n hx hb dX8_came_84 rfl (lv_at hl 3 rfl) ?_
          refine c_geti x L77 9 q1 1 289 hq1 rfl rfl (wk_in kf_X8_57) dX8_came_85 (fun v137 ev137 wv137 => ?_)
          refine m_top (((mm_fr ev1 hp77.1 rfl)).trans ev137.symm) ?_
          refine lv_aload_n hx hb dX8_came_88 rfl (lv_at hl 3 rfl) ?_
          refine c_geti x L77 9 q1 2 290 hq1 rfl rfl (wk_in kf_X8_60) dX8_came_89 (fun v138 ev138 wv138 => ?_)
          refine m_top (((mm_fr ev2 hp77.1 rfl)).trans ev138.symm) ?_
          refine lv_if_ne (tgt := 99) hx hb dX8_came_92 (by decide) (fun c92_139 => ?_) (fun c92_139 => ?_)
          · skip
            replace hW := wfP_i (wfP_l hW) (i_ne c92_139 rfl (rg_i kc_0))
            have ic92_139 : v2.toInt ≠ (0 : Int32).toInt := fun z => c92_139 (Int32.toInt_inj.mp z)
            have y140 : (0 : Int32).toInt = 0 := by decide
            exact absurd (rg_neH c92_139 q76 kc_0 : rg (0) (-1) v2) (fun q => rg_dead q rfl)
          · skip
            replace hW := wfP_i (wfP_r hW) (i_eq c92_139 rfl (rg_i kc_0))
            have ic92_139 := congrArg Int32.toInt c92_139
            have y141 : (0 : Int32).toInt = 0 := by decide
            refine lv_iconst (v := 1) hx hb dX8_came_95 (by decide) ?_
            refine lv_goto (tgt := 100) hx hb dX8_came_96 (by decide) ?_
            refine lv_bipush (v := 81) hx hb dX8_came_100 (by decide) ?_
            refine c_cvU (n := 4) (owner := "CellSwitch$Side") (x0 := ⟨"CellSwitch$Side", "sayCause", "(IIZI)V"⟩) (As := [.int (90 : Int32), .int v1, .int (1 : Int32), .int (81 : Int32)]) (rest := []) x hml L77 4 i0 hal0 rfl (d_ksayCause_4 l X g77 i0 (90 : Int32) v1 (1 : Int32) (81 : Int32) hX (show i0 < Z.n from (by omega)) (rg_w kc_1 rfl) hW) (wk_U kd_X8_sayCause kl_X8_70 km_CellSwitchSide_CellSwitchSide_sayCause ks_X4_CellSwitchSide_X8_sayCause ki_X8_sayCause kn_X8) rfl ⟨rfl, rfl⟩ rfl (by decide +kernel) ⟨Nat.le_of_ble_eq_true rfl, Nat.le_of_ble_eq_true rfl⟩ rfl hl.1 rfl (lv_room (Nat.le_of_ble_eq_true rfl)) dX8_came_102 (fun  g142 H142 k142 hp142 L142 => ?_) hcs
            obtain ⟨hW, hi142, hp142⟩ := hp142
            replace hW := wfP_i hW ⟨hi142, hp142⟩
            refine lv_goto (tgt := 153) hx hb dX8_came_105 (by decide) ?_
            exact k_vret xa L142 hr hlocks (Int.le_refl _) hzl ⟨hW, (mFi.sub (mFi.sub mFi.rf hi77 mSub_nil) hi142 (mSub_any 19 rfl (mSub_any 23 rfl (mSub_any 24 rfl mSub_nil)))), (mFr.tr (mFr.tr mFr.rf hp77.1 rfl) hp142.1 rfl), (cJ_fr hp77.2.2.1 hp142.1 rfl), (by omega), trivial⟩ hcs.1 hcs.2 dX8_came_153
      · skip
        replace hW := wfP_i (wfP_r hW) (i_eq c60_130 rfl (rg_i kc_5))
        have ic60_130 := congrArg Int32.toInt c60_130
        have y143 : (5 : Int32).toInt = 5 := by decide
        have q144 : rg (5) (5) v129 := (rg_eq c60_130 rv129 kc_5).1
        have uq144 : (5 : Int) ≤ v129.toInt ∧ v129.toInt ≤ 5 := q144
        refine lv_aload_n hx hb dX8_came_63 rfl (lv_at hl 2 rfl) ?_
        refine lv_aload_n hx hb dX8_came_64 rfl (lv_at hl 3 rfl) ?_
        refine lv_iload_n hx hb dX8_came_65 rfl (lv_at hl 4 rfl) ?_
        refine k_callv xa L77 (k_runU (x := ⟨"CellSwitch$Side", "setupCame", "(LCellSwitch$Signal;I)V"⟩) (As := [.ref (Z.ad 9 q1), .int p2]) (rest := []) ⟨hx, hb, hml, x.2.2.2.2.1, x.2.2.1⟩ (d_ksetupCame_4 l X g77 i0 q1 p2 _ n1 hX hp77.2.2.1 (by omega) (show i0 < Z.n from (by omega)) hq1 hW) (va_cwA 2 x.2.2.1 (wk_U (owner := "CellSwitch$Side") kd_X4_setupCame kl_X8_66 km_CellSwitchSide_CellSwitchSide_setupCame ks_X4_CellSwitchSide_X4_setupCame ki_X4_setupCame kn_X4) rfl rfl rfl (x.2.2.2.2.2.2.2.2.2.1.2 _ (List.mem_of_getElem? (i := 1) rfl)) (by decide +kernel) ⟨Nat.le_of_ble_eq_true rfl, Nat.le_of_ble_eq_true rfl⟩) ⟨cPreA.blind, c_recv x L77 hal0 rfl, fun U hU hW => k_pre xa L77 U hU hW⟩ rfl rfl hl.1 rfl (lv_room (Nat.le_of_ble_eq_true rfl)) dX8_came_66 ⟨show 0 + 2 ≤ 2 by omega, show 0 + (18 + n1) ≤ 18 + n1 by omega⟩) (fun  Z g145 H145 k145 kc145 kn145 hk145 hn145 hp145 hz145 xa L145 => ?_)
        obtain ⟨hW, hi145, hp145⟩ := hp145
        replace hW := wfP_i (wfP_a (wfP_i (wfP_i hW ⟨hi145, hp145⟩) (cZg_of hz145 hk145 hn145)) Z) rfl
        have hww145 := hp145.2.2.1
        have ea145_0 := hz145.2.2.1 4 i0 hal0 (by omega)
        have ea145_1 := hz145.2.2.1 9 q1 hq1 (by omega)
        rw [← ea145_0] at hl
        rw [← ea145_1] at hl
        have al145_0 := hz145.2.1 4 i0 hal0
        have al145_1 := hz145.2.1 9 q1 hq1
        have hZn145 := hz145.1
        have x := xa.1
        have hz := x.2.2.2.2.2.2.2.1
        have hzn := hz.1
        have hzl := cZl.tr hzl hz145
        have hcs : 0 + kc145 ≤ 2 ∧ 0 + kn145 ≤ 18 + n1 := by omega
        refine lv_goto (tgt := 153) hx hb dX8_came_69 (by decide) ?_
        exact k_vret xa L145 hr hlocks (Int.le_refl _) hzl ⟨hW, (mFi.sub (mFi.sub mFi.rf hi77 mSub_nil) hi145 (mSub_any 0 rfl (mSub_any 1 rfl (mSub_any 2 rfl (mSub_any 3 rfl (mSub_any 4 rfl (mSub_any 5 rfl (mSub_any 6 rfl (mSub_any 7 rfl (mSub_any 8 rfl (mSub_any 9 rfl (mSub_any 10 rfl (mSub_any 11 rfl (mSub_any 12 rfl (mSub_any 13 rfl (mSub_any 14 rfl (mSub_any 15 rfl (mSub_any 16 rfl (mSub_any 17 rfl (mSub_eq 18 rfl (mSub_any 19 rfl (mSub_eq 20 rfl (mSub_eq 21 rfl (mSub_eq 22 rfl (mSub_any 23 rfl (mSub_any 24 rfl (mSub_eq 25 rfl (mSub_eq 26 rfl (mSub_eq 27 rfl mSub_nil))))))))))))))))))))))))))))), (mFr.tr (mFr.tr mFr.rf hp77.1 rfl) hp145.1 rfl), hp145.2.1, (by omega), trivial⟩ hcs.1 hcs.2 dX8_came_153

def rn_kcame_10 (n1 : Nat) (n2 : Nat) : Room := { frames := 9, cells := 4, slots := 36 + n1 + n2, locals := 211 }
def im_kcame_10 (i0 : Nat) (q1 : Nat) (p2 : Int32) : List (Nat × Nat × Nat) := [(32, 0, 0), (33, 0, 0), (34, 0, 0), (35, 0, 0), (36, 0, 0), (37, 0, 0), (38, 0, 0), (39, 0, 0), (40, 0, 0), (41, 0, 0), (42, 0, 0), (43, 0, 0), (44, 0, 0), (45, 0, 0), (46, 0, 0), (47, 0, 0), (48, 0, 0), (49, 0, 0), (198, 0, 0), (323, 0, 0), (384, 0, 0), (385, 0, 0), (386, 0, 0), (832, 0, 0), (864, 0, 0), (1728, 0, 0), (1729, 0, 0)]
def po_kcame_10 (Z : cZ) (i0 : Nat) (q1 : Nat) (p2 : Int32) (g : mSt) (r : Int32) (Z1 : cZ) (g1 : mSt) : Prop := mFi (im_kcame_10 i0 q1 p2) g g1 ∧ mFr [32, 33, 34, 35, 36, 37, 38, 39, 40, 41, 42, 43, 44, 45, 46, 47, 48, 49, 198, 323, 384, 385, 386, 832, 864, 1728, 1729] g g1 ∧ cJ Z1 g1 ∧ Z1.w 2 ≤ Z.w 2 + 2 ∧ True
def wp_kcame_10 (n1 : Nat) (n2 : Nat) (Z : cZ) (i0 : Nat) (q1 : Nat) (p2 : Int32) (g : mSt) (Φ : Int32 → cZ → mSt → Prop) : Prop :=
  ∀ (v1 : Int32), v1 = g 289 q1 → rg (-2147483648) (2147483647) v1 → ∀ (v2 : Int32), v2 = g 290 q1 → rg (0) (1) v2 → ((v2.toInt ≠ 0) → wp_kplaceOfReference_10 Z i0 v1 (0 : Int32) g (fun (v7 : Int32) (g6 : mSt) => po_kplaceOfReference_10 Z i0 v1 (0 : Int32) g v7 g6 → ((0 ≤ v7.toInt) → wp_klget Z (Z.n + i0) v7 g6 (fun (v14 : Int32) (g13 : mSt) => po_klget Z (Z.n + i0) v7 g6 v14 g13 → wp_kisOpen Z v14.toInt.toNat g13 (fun (v16 : Int32) (g15 : mSt) => po_kisOpen Z v14.toInt.toNat g13 v16 g15 → ((v16.toInt ≠ 0) → ∀ (v20 : Int32), v20 = g15 288 q1 → rg (-2147483648) (2147483647) v20 → ((v20.toInt = 77) → wp_kcleared_10 Z i0 v14.toInt.toNat q1 p2 g15 (fun (_ : Int32) (g24 : mSt) => po_kcleared_10 Z i0 v14.toInt.toNat q1 p2 g15 0 g24 → Φ 0 Z g24)) ∧ ((v20.toInt ≠ 77) → ((v20.toInt ≠ 90) → ((v20.toInt = 5) → Φ 0 Z g15) ∧ ((v20.toInt ≠ 5) → wp_kprogress_10 Z i0 v14.toInt.toNat q1 p2 g15 (fun (_ : Int32) (g34 : mSt) => po_kprogress_10 Z i0 v14.toInt.toNat q1 p2 g15 0 g34 → Φ 0 Z g34))) ∧ ((v20.toInt = 90) → wp_kcleared_10 Z i0 v14.toInt.toNat q1 p2 g15 (fun (_ : Int32) (g37 : mSt) => po_kcleared_10 Z i0 v14.toInt.toNat q1 p2 g15 0 g37 → Φ 0 Z g37)))) ∧ ((v16.toInt = 0) → ∀ (v40 : Int32), v40 = g15 288 q1 → rg (-2147483648) (2147483647) v40 → ((v40.toInt ≠ 5) → ((v40.toInt ≠ 77) → Φ 0 Z g15) ∧ ((v40.toInt = 77) → ((v2.toInt ≠ 0) → wp_ksayCause_10 Z i0 (90 : Int32) v1 (0 : Int32) (81 : Int32) g15 (fun (_ : Int32) (g52 : mSt) => po_ksayCause_10 Z i0 (90 : Int32) v1 (0 : Int32) (81 : Int32) g15 0 g52 → Φ 0 Z g52)) ∧ ((v2.toInt = 0) → True))) ∧ ((v40.toInt = 5) → wp_ksetupCame_10 n1 n2 Z i0 q1 p2 g15 (fun (_ : Int32) (Z_57 : cZ) (g57 : mSt) => po_ksetupCame_10 Z i0 q1 p2 g15 0 Z_57 g57 → cZg Z Z_57 4 (36 + n1 + n2) → ∀ Z : cZ, Z = Z_57 → Φ 0 Z g57)))))) ∧ ((v7.toInt < 0) → ∀ (v59 : Int32), v59 = g6 288 q1 → rg (-2147483648) (2147483647) v59 → ((v59.toInt ≠ 5) → ((v59.toInt ≠ 77) → Φ 0 Z g6) ∧ ((v59.toInt = 77) → ((v2.toInt ≠ 0) → wp_ksayCause_10 Z i0 (90 : Int32) v1 (0 : Int32) (81 : Int32) g6 (fun (_ : Int32) (g71 : mSt) => po_ksayCause_10 Z i0 (90 : Int32) v1 (0 : Int32) (81 : Int32) g6 0 g71 → Φ 0 Z g71)) ∧ ((v2.toInt = 0) → True))) ∧ ((v59.toInt = 5) → wp_ksetupCame_10 n1 n2 Z i0 q1 p2 g6 (fun (_ : Int32) (Z_76 : cZ) (g76 : mSt) => po_ksetupCame_10 Z i0 q1 p2 g6 0 Z_76 g76 → cZg Z Z_76 4 (36 + n1 + n2) → ∀ Z : cZ, Z = Z_76 → Φ 0 Z g76))))) ∧ ((v2.toInt = 0) → wp_kplaceOfReference_10 Z i0 v1 (1 : Int32) g (fun (v80 : Int32) (g79 : mSt) => po_kplaceOfReference_10 Z i0 v1 (1 : Int32) g v80 g79 → ((0 ≤ v80.toInt) → wp_klget Z (Z.n + i0) v80 g79 (fun (v87 : Int32) (g86 : mSt) => po_klget Z (Z.n + i0) v80 g79 v87 g86 → wp_kisOpen Z v87.toInt.toNat g86 (fun (v89 : Int32) (g88 : mSt) => po_kisOpen Z v87.toInt.toNat g86 v89 g88 → ((v89.toInt ≠ 0) → ∀ (v93 : Int32), v93 = g88 288 q1 → rg (-2147483648) (2147483647) v93 → ((v93.toInt = 77) → wp_kcleared_10 Z i0 v87.toInt.toNat q1 p2 g88 (fun (_ : Int32) (g97 : mSt) => po_kcleared_10 Z i0 v87.toInt.toNat q1 p2 g88 0 g97 → Φ 0 Z g97)) ∧ ((v93.toInt ≠ 77) → ((v93.toInt ≠ 90) → ((v93.toInt = 5) → Φ 0 Z g88) ∧ ((v93.toInt ≠ 5) → wp_kprogress_10 Z i0 v87.toInt.toNat q1 p2 g88 (fun (_ : Int32) (g107 : mSt) => po_kprogress_10 Z i0 v87.toInt.toNat q1 p2 g88 0 g107 → Φ 0 Z g107))) ∧ ((v93.toInt = 90) → wp_kcleared_10 Z i0 v87.toInt.toNat q1 p2 g88 (fun (_ : Int32) (g110 : mSt) => po_kcleared_10 Z i0 v87.toInt.toNat q1 p2 g88 0 g110 → Φ 0 Z g110)))) ∧ ((v89.toInt = 0) → ∀ (v113 : Int32), v113 = g88 288 q1 → rg (-2147483648) (2147483647) v113 → ((v113.toInt ≠ 5) → ((v113.toInt ≠ 77) → Φ 0 Z g88) ∧ ((v113.toInt = 77) → ((v2.toInt ≠ 0) → True) ∧ ((v2.toInt = 0) → wp_ksayCause_10 Z i0 (90 : Int32) v1 (1 : Int32) (81 : Int32) g88 (fun (_ : Int32) (g126 : mSt) => po_ksayCause_10 Z i0 (90 : Int32) v1 (1 : Int32) (81 : Int32) g88 0 g126 → Φ 0 Z g126)))) ∧ ((v113.toInt = 5) → wp_ksetupCame_10 n1 n2 Z i0 q1 p2 g88 (fun (_ : Int32) (Z_130 : cZ) (g130 : mSt) => po_ksetupCame_10 Z i0 q1 p2 g88 0 Z_130 g130 → cZg Z Z_130 4 (36 + n1 + n2) → ∀ Z : cZ, Z = Z_130 → Φ 0 Z g130)))))) ∧ ((v80.toInt < 0) → ∀ (v132 : Int32), v132 = g79 288 q1 → rg (-2147483648) (2147483647) v132 → ((v132.toInt ≠ 5) → ((v132.toInt ≠ 77) → Φ 0 Z g79) ∧ ((v132.toInt = 77) → ((v2.toInt ≠ 0) → True) ∧ ((v2.toInt = 0) → wp_ksayCause_10 Z i0 (90 : Int32) v1 (1 : Int32) (81 : Int32) g79 (fun (_ : Int32) (g145 : mSt) => po_ksayCause_10 Z i0 (90 : Int32) v1 (1 : Int32) (81 : Int32) g79 0 g145 → Φ 0 Z g145)))) ∧ ((v132.toInt = 5) → wp_ksetupCame_10 n1 n2 Z i0 q1 p2 g79 (fun (_ : Int32) (Z_149 : cZ) (g149 : mSt) => po_ksetupCame_10 Z i0 q1 p2 g79 0 Z_149 g149 → cZg Z Z_149 4 (36 + n1 + n2) → ∀ Z : cZ, Z = Z_149 → Φ 0 Z g149)))))
set_option maxHeartbeats 4000000 in
set_option maxRecDepth 100000 in
theorem d_kcame_10 (l : Launch) {G : cG} {Z : cZ} (X : Int) (g : mSt) (i0 : Nat) (q1 : Nat) (p2 : Int32) (sz n1 n2 : Nat) (hX : 0 ≤ X ∧ X ≤ 2000000000) (hJ : cJ Z g) (hw2 : Z.w 2 + 2 ≤ 1000000) (hi0 : i0 < Z.n) (hq1 : Z.al 9 q1) (hsig : (g 288 q1).toInt = 5 → 0 ≤ (g 291 q1).toInt) {Φ : Int32 → cZ → mSt → Prop} (hW : wfP (wp_kcame_10 n1 n2 Z i0 q1 p2 g Φ)) : Met l yX8_came (wk (Cond.code yX8_came cX8_came 5 none)) (rn_kcame_10 n1 n2) (va_Pc [.ref (Z.ad 10 i0), .ref (Z.ad 9 q1), .int p2] (cPreA G Z X g sz)) (kE 4 (36 + n1 + n2) (cAf Z sz) (cQvA G Z X (fun Z1 g1 => wfP (Φ 0 Z1 g1) ∧ mFi (im_kcame_10 i0 q1 p2) g g1 ∧ (mFr [32, 33, 34, 35, 36, 37, 38, 39, 40, 41, 42, 43, 44, 45, 46, 47, 48, 49, 198, 323, 384, 385, 386, 832, 864, 1728, 1729] g g1 ∧ cJ Z1 g1 ∧ Z1.w 2 ≤ Z.w 2 + 2 ∧ True)))) 4 (36 + n1 + n2) (cAf Z sz) := by
  refine Met.ofW (cc := cX8_came) (maxL := 5) (ret := none) (by decide) rfl ?_
  intro p e s m args below meth c s₁ B hml hv
  obtain ⟨hav, hv⟩ := hv
  have hsz0 := hv.2.1
  subst hsz0
  have hr := B.returns
  have hlocks := B.notSynchronized
  obtain ⟨xa, L⟩ := k_start B rfl (fun w h => wk_in h) hv
  have hent : entryFrame m args 5 = entryFrame m ([.ref (Z.ad 10 i0), .ref (Z.ad 9 q1), .int p2] : List Value).toArray 5 := by rw [hav]
  rw [hent]
  have hl := lv_entry ([.ref (Z.ad 10 i0), .ref (Z.ad 9 q1), .int p2]) (n := 5) (Nat.le_of_ble_eq_true rfl)
  rw [lg_entry_eq]
  generalize (lg_sl ([.ref (Z.ad 10 i0), .ref (Z.ad 9 q1), .int p2]) ++ List.replicate (5 - (lg_sl ([.ref (Z.ad 10 i0), .ref (Z.ad 9 q1), .int p2])).length) Slot.unset).toArray = ls at hl ⊢
  have hl : lv_has ls 5 [(0, .ref (Z.ad 10 i0)), (1, .ref (Z.ad 9 q1)), (2, .int p2)] := hl
  have x := xa.1
  have hx := x.1
  have hb := x.2.1
  have hz := x.2.2.2.2.2.2.2.1
  have hzn := hz.1
  have hzl : cZl Z Z 0 0 := cZl.rf
  have hcs : 0 ≤ 4 ∧ 0 ≤ 36 + n1 + n2 := ⟨Nat.zero_le _, Nat.zero_le _⟩
  have hal0 : Z.al 10 i0 := hz.2 10 i0 (show i0 < Z.n from hi0)
  have up2 : (-2147483648 : Int) ≤ p2.toInt ∧ p2.toInt ≤ 2147483647 := (rg_any p2)
  refine lv_aload_n hx hb dX8_came_0 rfl (lv_at hl 0 rfl) ?_
  refine lv_aload_n hx hb dX8_came_1 rfl (lv_at hl 1 rfl) ?_
  refine c_geti x L 9 q1 1 289 hq1 rfl rfl (wk_in kf_X8_57) dX8_came_2 (fun v1 ev1 wv1 => ?_)
  have rv1 : rg (-2147483648) (2147483647) v1 := rg_any v1
  replace hW := (wfP_i (wfP_i (wfP_a hW v1) ev1) rv1)
  have uv1 : (-2147483648 : Int) ≤ v1.toInt ∧ v1.toInt ≤ 2147483647 := rv1
  have sv1 : v1.toInt = (g 289 q1).toInt := congrArg Int32.toInt (ev1.trans (congrFun ((show mFr [32, 33, 34, 35, 36, 37, 38, 39, 40, 41, 42, 43, 44, 45, 46, 47, 48, 49, 198, 323, 384, 385, 386, 832, 864, 1728, 1729] g g from mFr.rf).at 289 rfl) _))
  refine lv_aload_n hx hb dX8_came_5 rfl (lv_at hl 1 rfl) ?_
  refine c_geti x L 9 q1 2 290 hq1 rfl rfl (wk_in kf_X8_60) dX8_came_6 (fun v2 ev2 wv2 => ?_)
  have rv2 : rg (0) (1) v2 := clj_290 wv2
  replace hW := (wfP_i (wfP_i (wfP_a hW v2) ev2) rv2)
  have uv2 : (0 : Int) ≤ v2.toInt ∧ v2.toInt ≤ 1 := rv2
  have sv2 : v2.toInt = (g 290 q1).toInt := congrArg Int32.toInt (ev2.trans (congrFun ((show mFr [32, 33, 34, 35, 36, 37, 38, 39, 40, 41, 42, 43, 44, 45, 46, 47, 48, 49, 198, 323, 384, 385, 386, 832, 864, 1728, 1729] g g from mFr.rf).at 290 rfl) _))
  refine lv_if_ne (tgt := 16) hx hb dX8_came_9 (by decide) (fun c9_3 => ?_) (fun c9_3 => ?_)
  · skip
    replace hW := wfP_i (wfP_l hW) (i_ne c9_3 rfl (rg_i kc_0))
    have ic9_3 : v2.toInt ≠ (0 : Int32).toInt := fun z => c9_3 (Int32.toInt_inj.mp z)
    have y4 : (0 : Int32).toInt = 0 := by decide
    have q5 : rg (1) (1) v2 := rg_neL c9_3 rv2 kc_0
    have uq5 : (1 : Int) ≤ v2.toInt ∧ v2.toInt ≤ 1 := q5
    refine lv_iconst (v := 0) hx hb dX8_came_16 (by decide) ?_
    refine c_ciU (n := 2) (owner := "CellSwitch$Side") (x0 := ⟨"CellSwitch$Side", "placeOfReference", "(IZ)I"⟩) (As := [.int v1, .int (0 : Int32)]) (rest := []) x hml L 10 i0 hal0 rfl (d_kplaceOfReference_10 l X g i0 v1 (0 : Int32) hX hJ (show i0 < Z.n from (by omega)) (rg_w kc_0 rfl) hW) (wk_U kd_X8_placeOfReference kl_X8_45 km_CellSwitchSide_CellSwitchSide_placeOfReference ks_X10_CellSwitchSide_X8_placeOfReference ki_X8_placeOfReference kn_X8) rfl ⟨rfl, rfl⟩ rfl (by decide +kernel) ⟨Nat.le_of_ble_eq_true rfl, Nat.le_of_ble_eq_true rfl⟩ rfl hl.1 rfl (lv_room (Nat.le_of_ble_eq_true rfl)) dX8_came_17 (fun v7 g6 H6 k6 hp6 L6 => ?_) hcs
    obtain ⟨hW, hi6, hp6⟩ := hp6
    replace hW := wfP_i hW ⟨hi6, hp6⟩
    have rv7 : rg (-1) (2147483646) v7 := hp6.2.1
    have uv7 : (-1 : Int) ≤ v7.toInt ∧ v7.toInt ≤ 2147483646 := rv7
    have hw8 := hp6.2.2.2
    refine lv_istore_n (lv' := [(3, .int v7), (0, .ref (Z.ad 10 i0)), (1, .ref (Z.ad 9 q1)), (2, .int p2)]) hx hb dX8_came_20 rfl hl (by decide) rfl (fun ls hl => ?_)
    refine lv_iload_n hx hb dX8_came_21 rfl (lv_at hl 0 rfl) ?_
    refine lv_if_ge (tgt := 29) hx hb dX8_came_22 (by decide) (fun c22_9 => ?_) (fun c22_9 => ?_)
    · skip
      replace hW := wfP_i (wfP_l hW) (i_le c22_9 (rg_i kc_0) rfl)
      have ic22_9 := Int32.le_iff_toInt_le.mp c22_9
      have q10 : rg (0) (2147483646) v7 := (rg_le c22_9 kc_0 rv7).2
      have uq10 : (0 : Int) ≤ v7.toInt ∧ v7.toInt ≤ 2147483646 := q10
      refine lv_aload_n hx hb dX8_came_29 rfl (lv_at hl 1 rfl) ?_
      have al11 : Z.al 12 (Z.n + i0) := hz.2 12 (Z.n + i0) (show (Z.n + i0) < 2 * Z.n from (by omega))
      refine c_getr (a := Z.ad 12 (Z.n + i0)) x L6 10 i0 2 hal0 rfl rfl (wk_in kf_X8_10) dX8_came_30 ?_
      refine lv_iload_n hx hb dX8_came_33 rfl (lv_at hl 0 rfl) ?_
      have y12 := congrArg Int32.toInt (congrFun ((show mFr [] g g6 from (mFr.tr mFr.rf hp6.1 rfl)).at 386 rfl) (Z.n + i0))
      refine c_cr (As := [.int v7]) (rest := []) x hml L6 12 (Z.n + i0) al11 rfl (d_klget l X g6 (Z.n + i0) v7 hX hp6.2.2.1 (show (Z.n + i0) < 2 * Z.n from (by omega)) (by omega) hW) (wk_V kd_Jx4a65c_get_915e3 kl_X8_28 ki_Jx4a65c_get_915e3 ks_Jx4a65c_Jx4a65c_get_915e3 kn_Jx4a65c) rfl ⟨rfl, rfl⟩ hd_klget ⟨Nat.le_of_ble_eq_true rfl, Nat.le_of_ble_eq_true rfl⟩ rfl hl.1 rfl (lv_room (Nat.le_of_ble_eq_true rfl)) dX8_came_34 (fun v14 g13 H13 k13 hp13 L13 => ?_) hcs
      obtain ⟨hW, hi13, hp13⟩ := hp13
      replace hW := wfP_i hW ⟨hi13, hp13⟩
      have hvv14 := hp13.2.2
      refine c_top (show Value.ref (Z.ad 1 v14.toInt.toNat) = va_rf (cOpt Z 1 v14) from (by rw [cOpt_some hvv14.1]; rfl)) ?_
      refine c_cast x L13 1 v14.toInt.toNat hvv14.2.1 rfl (wk_in kc_lX8_32) dX8_came_37 ?_
      refine lv_astore (lv' := [(4, .ref (Z.ad 1 v14.toInt.toNat)), (3, .int v7), (0, .ref (Z.ad 10 i0)), (1, .ref (Z.ad 9 q1)), (2, .int p2)]) hx hb dX8_came_40 hl (by decide) rfl (fun ls hl => ?_)
      refine lv_aload hx hb dX8_came_42 (lv_at hl 0 rfl) ?_
      refine lv_ifnull hx hb dX8_came_44 ?_
      refine lv_aload hx hb dX8_came_47 (lv_at hl 0 rfl) ?_
      refine c_ci (As := []) (rest := []) x hml L13 1 v14.toInt.toNat hvv14.2.1 rfl (d_kisOpen l X g13 v14.toInt.toNat hX hvv14.2.1 hW) (wk_V kd_X1_isOpen kl_X8_34 ki_X1_isOpen ks_X1_X1_isOpen kn_X1) rfl ⟨rfl, rfl⟩ hd_kisOpen ⟨Nat.le_of_ble_eq_true rfl, Nat.le_of_ble_eq_true rfl⟩ rfl hl.1 rfl (lv_room (Nat.le_of_ble_eq_true rfl)) dX8_came_49 (fun v16 g15 H15 k15 hp15 L15 => ?_) hcs
      obtain ⟨hW, hi15, hp15⟩ := hp15
      replace hW := wfP_i hW ⟨hi15, hp15⟩
      have rv16 : rg (0) (1) v16 := hp15.2.1
      have uv16 : (0 : Int) ≤ v16.toInt ∧ v16.toInt ≤ 1 := rv16
      refine lv_if_ne (tgt := 108) hx hb dX8_came_52 (by decide) (fun c52_17 => ?_) (fun c52_17 => ?_)
      · skip
        replace hW := wfP_i (wfP_l hW) (i_ne c52_17 rfl (rg_i kc_0))
        have ic52_17 : v16.toInt ≠ (0 : Int32).toInt := fun z => c52_17 (Int32.toInt_inj.mp z)
        have y18 : (0 : Int32).toInt = 0 := by decide
        have q19 : rg (1) (1) v16 := rg_neL c52_17 rv16 kc_0
        have uq19 : (1 : Int) ≤ v16.toInt ∧ v16.toInt ≤ 1 := q19
        refine lv_aload_n hx hb dX8_came_108 rfl (lv_at hl 3 rfl) ?_
        refine c_geti x L15 9 q1 0 288 hq1 rfl rfl (wk_in kf_X8_63) dX8_came_109 (fun v20 ev20 wv20 => ?_)
        have rv20 : rg (-2147483648) (2147483647) v20 := rg_any v20
        replace hW := (wfP_i (wfP_i (wfP_a hW v20) ev20) rv20)
        have uv20 : (-2147483648 : Int) ≤ v20.toInt ∧ v20.toInt ≤ 2147483647 := rv20
        have sv20 : v20.toInt = (g 288 q1).toInt := congrArg Int32.toInt (ev20.trans (congrFun ((show mFr [32, 33, 34, 35, 36, 37, 38, 39, 40, 41, 42, 43, 44, 45, 46, 47, 48, 49, 198, 323, 384, 385, 386, 832, 864, 1728, 1729] g g15 from (mFr.tr (mFr.tr (mFr.tr mFr.rf hp6.1 rfl) hp13.1 rfl) hp15.1 rfl)).at 288 rfl) _))
        refine lv_bipush (v := 77) hx hb dX8_came_112 (by decide) ?_
        refine lv_icmp_eq (tgt := 126) hx hb dX8_came_114 (by decide) (fun c114_21 => ?_) (fun c114_21 => ?_)
        · skip
          replace hW := wfP_i (wfP_l hW) (i_eq c114_21 rfl (rg_i kc_77))
          have ic114_21 := congrArg Int32.toInt c114_21
          have y22 : (77 : Int32).toInt = 77 := by decide
          have q23 : rg (77) (77) v20 := (rg_eq c114_21 rv20 kc_77).1
          have uq23 : (77 : Int) ≤ v20.toInt ∧ v20.toInt ≤ 77 := q23
          refine lv_aload_n hx hb dX8_came_126 rfl (lv_at hl 2 rfl) ?_
          refine lv_aload hx hb dX8_came_127 (lv_at hl 0 rfl) ?_
          refine lv_aload_n hx hb dX8_came_129 rfl (lv_at hl 3 rfl) ?_
          refine lv_iload_n hx hb dX8_came_130 rfl (lv_at hl 4 rfl) ?_
          refine c_cvU (n := 3) (owner := "CellSwitch$Side") (x0 := ⟨"CellSwitch$Side", "cleared", "(LCellSwitch$Call;LCellSwitch$Signal;I)V"⟩) (As := [.ref (Z.ad 1 v14.toInt.toNat), .ref (Z.ad 9 q1), .int p2]) (rest := []) x hml L15 10 i0 hal0 rfl (d_kcleared_10 l X g15 i0 v14.toInt.toNat q1 p2 hX (cJ_fr hp13.2.1 hp15.1 rfl) (show i0 < Z.n from (by omega)) hvv14.2.1 hq1 hW) (wk_U kd_X8_cleared kl_X8_74 km_CellSwitchSide_CellSwitchSide_cleared ks_X10_CellSwitchSide_X8_cleared ki_X8_cleared kn_X8) rfl ⟨rfl, rfl⟩ rfl (by decide +kernel) ⟨Nat.le_of_ble_eq_true rfl, Nat.le_of_ble_eq_true rfl⟩ rfl hl.1 rfl (lv_room (Nat.le_of_ble_eq_true rfl)) dX8_came_131 (fun  g24 H24 k24 hp24 L24 => ?_) hcs
          obtain ⟨hW, hi24, hp24⟩ := hp24
          replace hW := wfP_i hW ⟨hi24, hp24⟩
          refine lv_goto (tgt := 153) hx hb dX8_came_134 (by decide) ?_
          exact k_vret xa L24 hr hlocks (Int.le_refl _) hzl ⟨hW, (mFi.sub (mFi.sub (mFi.sub (mFi.sub mFi.rf hi6 mSub_nil) hi13 mSub_nil) hi15 mSub_nil) hi24 (mSub_any 4 rfl (mSub_any 8 rfl (mSub_any 9 rfl (mSub_any 10 rfl (mSub_any 12 rfl (mSub_any 13 rfl (mSub_any 14 rfl (mSub_any 16 rfl (mSub_any 18 rfl (mSub_any 23 rfl (mSub_any 24 rfl mSub_nil)))))))))))), (mFr.tr (mFr.tr (mFr.tr (mFr.tr mFr.rf hp6.1 rfl) hp13.1 rfl) hp15.1 rfl) hp24.1 rfl), hp24.2.1, (by omega), trivial⟩ hcs.1 hcs.2 dX8_came_153
        · skip
          replace hW := wfP_i (wfP_r hW) (i_ne c114_21 rfl (rg_i kc_77))
          have ic114_21 : v20.toInt ≠ (77 : Int32).toInt := fun z => c114_21 (Int32.toInt_inj.mp z)
          have y25 : (77 : Int32).toInt = 77 := by decide
          refine lv_aload_n hx hb dX8_came_117 rfl (lv_at hl 3 rfl) ?_
          refine c_geti x L15 9 q1 0 288 hq1 rfl rfl (wk_in kf_X8_63) dX8_came_118 (fun v26 ev26 wv26 => ?_)
          refine m_top ((ev20).trans ev26.symm) ?_
          refine lv_bipush (v := 90) hx hb dX8_came_121 (by decide) ?_
          refine lv_icmp_ne (tgt := 137) hx hb dX8_came_123 (by decide) (fun c123_27 => ?_) (fun c123_27 => ?_)
          · skip
            replace hW := wfP_i (wfP_l hW) (i_ne c123_27 rfl (rg_i kc_90))
            have ic123_27 : v20.toInt ≠ (90 : Int32).toInt := fun z => c123_27 (Int32.toInt_inj.mp z)
            have y28 : (90 : Int32).toInt = 90 := by decide
            refine lv_aload_n hx hb dX8_came_137 rfl (lv_at hl 3 rfl) ?_
            refine c_geti x L15 9 q1 0 288 hq1 rfl rfl (wk_in kf_X8_63) dX8_came_138 (fun v29 ev29 wv29 => ?_)
            refine m_top ((ev20).trans ev29.symm) ?_
            refine lv_iconst (v := 5) hx hb dX8_came_141 (by decide) ?_
            refine lv_icmp_eq (tgt := 153) hx hb dX8_came_142 (by decide) (fun c142_30 => ?_) (fun c142_30 => ?_)
            · skip
              replace hW := wfP_i (wfP_l hW) (i_eq c142_30 rfl (rg_i kc_5))
              have ic142_30 := congrArg Int32.toInt c142_30
              have y31 : (5 : Int32).toInt = 5 := by decide
              have q32 : rg (5) (5) v20 := (rg_eq c142_30 rv20 kc_5).1
              have uq32 : (5 : Int) ≤ v20.toInt ∧ v20.toInt ≤ 5 := q32
              exact k_vret xa L15 hr hlocks (Int.le_refl _) hzl ⟨hW, (mFi.sub (mFi.sub (mFi.sub mFi.rf hi6 mSub_nil) hi13 mSub_nil) hi15 mSub_nil), (mFr.tr (mFr.tr (mFr.tr mFr.rf hp6.1 rfl) hp13.1 rfl) hp15.1 rfl), (cJ_fr hp13.2.1 hp15.1 rfl), (by omega), trivial⟩ hcs.1 hcs.2 dX8_came_153
            · skip
              replace hW := wfP_i (wfP_r hW) (i_ne c142_30 rfl (rg_i kc_5))
              have ic142_30 : v20.toInt ≠ (5 : Int32).toInt := fun z => c142_30 (Int32.toInt_inj.mp z)
              have y33 : (5 : Int32).toInt = 5 := by decide
              refine lv_aload_n hx hb dX8_came_145 rfl (lv_at hl 2 rfl) ?_
              refine lv_aload hx hb dX8_came_146 (lv_at hl 0 rfl) ?_
              refine lv_aload_n hx hb dX8_came_148 rfl (lv_at hl 3 rfl) ?_
              refine lv_iload_n hx hb dX8_came_149 rfl (lv_at hl 4 rfl) ?_
              refine c_cvA (n := 3) (owner := "CellSwitch$Side") (x0 := ⟨"CellSwitch$Side", "progress", "(LCellSwitch$Call;LCellSwitch$Signal;I)V"⟩) (As := [.ref (Z.ad 1 v14.toInt.toNat), .ref (Z.ad 9 q1), .int p2]) (rest := []) x hml L15 10 i0 hal0 rfl (d_kprogress_10 l X g15 i0 v14.toInt.toNat q1 p2 hX (cJ_fr hp13.2.1 hp15.1 rfl) (show i0 < Z.n from (by omega)) hvv14.2.1 hq1 hW) (wk_U kd_X10_progress kl_X8_78 km_CellSwitchSide_CellSwitchSide_progress ks_X10_CellSwitchSide_X10_progress ki_X10_progress kn_X10) rfl ⟨rfl, rfl⟩ (List.mem_of_getElem? (i := 2) rfl) (by decide +kernel) ⟨Nat.le_of_ble_eq_true rfl, Nat.le_of_ble_eq_true rfl⟩ rfl hl.1 rfl (lv_room (Nat.le_of_ble_eq_true rfl)) dX8_came_150 (fun  g34 H34 k34 hp34 L34 => ?_) hcs
              obtain ⟨hW, hi34, hp34⟩ := hp34
              replace hW := wfP_i hW ⟨hi34, hp34⟩
              exact k_vret xa L34 hr hlocks (Int.le_refl _) hzl ⟨hW, (mFi.sub (mFi.sub (mFi.sub (mFi.sub mFi.rf hi6 mSub_nil) hi13 mSub_nil) hi15 mSub_nil) hi34 (mSub_any 4 rfl (mSub_any 9 rfl (mSub_any 10 rfl (mSub_any 12 rfl (mSub_any 13 rfl (mSub_any 14 rfl (mSub_any 16 rfl (mSub_any 18 rfl (mSub_any 23 rfl (mSub_any 24 rfl mSub_nil))))))))))), (mFr.tr (mFr.tr (mFr.tr (mFr.tr mFr.rf hp6.1 rfl) hp13.1 rfl) hp15.1 rfl) hp34.1 rfl), hp34.2.1, (by omega), trivial⟩ hcs.1 hcs.2 dX8_came_153
          · skip
            replace hW := wfP_i (wfP_r hW) (i_eq c123_27 rfl (rg_i kc_90))
            have ic123_27 := congrArg Int32.toInt c123_27
            have y35 : (90 : Int32).toInt = 90 := by decide
            have q36 : rg (90) (90) v20 := (rg_eq c123_27 rv20 kc_90).1
            have uq36 : (90 : Int) ≤ v20.toInt ∧ v20.toInt ≤ 90 := q36
            refine lv_aload_n hx hb dX8_came_126 rfl (lv_at hl 2 rfl) ?_
            refine lv_aload hx hb dX8_came_127 (lv_at hl 0 rfl) ?_
            refine lv_aload_n hx hb dX8_came_129 rfl (lv_at hl 3 rfl) ?_
            refine lv_iload_n hx hb dX8_came_130 rfl (lv_at hl 4 rfl) ?_
            refine c_cvU (n := 3) (owner := "CellSwitch$Side") (x0 := ⟨"CellSwitch$Side", "cleared", "(LCellSwitch$Call;LCellSwitch$Signal;I)V"⟩) (As := [.ref (Z.ad 1 v14.toInt.toNat), .ref (Z.ad 9 q1), .int p2]) (rest := []) x hml L15 10 i0 hal0 rfl (d_kcleared_10 l X g15 i0 v14.toInt.toNat q1 p2 hX (cJ_fr hp13.2.1 hp15.1 rfl) (show i0 < Z.n from (by omega)) hvv14.2.1 hq1 hW) (wk_U kd_X8_cleared kl_X8_74 km_CellSwitchSide_CellSwitchSide_cleared ks_X10_CellSwitchSide_X8_cleared ki_X8_cleared kn_X8) rfl ⟨rfl, rfl⟩ rfl (by decide +kernel) ⟨Nat.le_of_ble_eq_true rfl, Nat.le_of_ble_eq_true rfl⟩ rfl hl.1 rfl (lv_room (Nat.le_of_ble_eq_true rfl)) dX8_came_131 (fun  g37 H37 k37 hp37 L37 => ?_) hcs
            obtain ⟨hW, hi37, hp37⟩ := hp37
            replace hW := wfP_i hW ⟨hi37, hp37⟩
            refine lv_goto (tgt := 153) hx hb dX8_came_134 (by decide) ?_
            exact k_vret xa L37 hr hlocks (Int.le_refl _) hzl ⟨hW, (mFi.sub (mFi.sub (mFi.sub (mFi.sub mFi.rf hi6 mSub_nil) hi13 mSub_nil) hi15 mSub_nil) hi37 (mSub_any 4 rfl (mSub_any 8 rfl (mSub_any 9 rfl (mSub_any 10 rfl (mSub_any 12 rfl (mSub_any 13 rfl (mSub_any 14 rfl (mSub_any 16 rfl (mSub_any 18 rfl (mSub_any 23 rfl (mSub_any 24 rfl mSub_nil)))))))))))), (mFr.tr (mFr.tr (mFr.tr (mFr.tr mFr.rf hp6.1 rfl) hp13.1 rfl) hp15.1 rfl) hp37.1 rfl), hp37.2.1, (by omega), trivial⟩ hcs.1 hcs.2 dX8_came_153
      · skip
        replace hW := wfP_i (wfP_r hW) (i_eq c52_17 rfl (rg_i kc_0))
        have ic52_17 := congrArg Int32.toInt c52_17
        have y38 : (0 : Int32).toInt = 0 := by decide
        have q39 : rg (0) (0) v16 := (rg_eq c52_17 rv16 kc_0).1
        have uq39 : (0 : Int) ≤ v16.toInt ∧ v16.toInt ≤ 0 := q39
        refine lv_aload_n hx hb dX8_came_55 rfl (lv_at hl 3 rfl) ?_
        refine c_geti x L15 9 q1 0 288 hq1 rfl rfl (wk_in kf_X8_63) dX8_came_56 (fun v40 ev40 wv40 => ?_)
        have rv40 : rg (-2147483648) (2147483647) v40 := rg_any v40
        replace hW := (wfP_i (wfP_i (wfP_a hW v40) ev40) rv40)
        have uv40 : (-2147483648 : Int) ≤ v40.toInt ∧ v40.toInt ≤ 2147483647 := rv40
        have sv40 : v40.toInt = (g 288 q1).toInt := congrArg Int32.toInt (ev40.trans (congrFun ((show mFr [32, 33, 34, 35, 36, 37, 38, 39, 40, 41, 42, 43, 44, 45, 46, 47, 48, 49, 198, 323, 384, 385, 386, 832, 864, 1728, 1729] g g15 from (mFr.tr (mFr.tr (mFr.tr mFr.rf hp6.1 rfl) hp13.1 rfl) hp15.1 rfl)).at 288 rfl) _))
        refine lv_iconst (v := 5) hx hb dX8_came_59 (by decide) ?_
        refine lv_icmp_ne (tgt := 72) hx hb dX8_came_60 (by decide) (fun c60_41 => ?_) (fun c60_41 => ?_)
        · skip
          replace hW := wfP_i (wfP_l hW) (i_ne c60_41 rfl (rg_i kc_5))
          have ic60_41 : v40.toInt ≠ (5 : Int32).toInt := fun z => c60_41 (Int32.toInt_inj.mp z)
          have y42 : (5 : Int32).toInt = 5 := by decide
          refine lv_aload_n hx hb dX8_came_72 rfl (lv_at hl 3 rfl) ?_
          refine c_geti x L15 9 q1 0 288 hq1 rfl rfl (wk_in kf_X8_63) dX8_came_73 (fun v43 ev43 wv43 => ?_)
          refine m_top ((ev40).trans ev43.symm) ?_
          refine lv_bipush (v := 77) hx hb dX8_came_76 (by decide) ?_
          refine lv_icmp_ne (tgt := 153) hx hb dX8_came_78 (by decide) (fun c78_44 => ?_) (fun c78_44 => ?_)
          · skip
            replace hW := wfP_i (wfP_l hW) (i_ne c78_44 rfl (rg_i kc_77))
            have ic78_44 : v40.toInt ≠ (77 : Int32).toInt := fun z => c78_44 (Int32.toInt_inj.mp z)
            have y45 : (77 : Int32).toInt = 77 := by decide
            exact k_vret xa L15 hr hlocks (Int.le_refl _) hzl ⟨hW, (mFi.sub (mFi.sub (mFi.sub mFi.rf hi6 mSub_nil) hi13 mSub_nil) hi15 mSub_nil), (mFr.tr (mFr.tr (mFr.tr mFr.rf hp6.1 rfl) hp13.1 rfl) hp15.1 rfl), (cJ_fr hp13.2.1 hp15.1 rfl), (by omega), trivial⟩ hcs.1 hcs.2 dX8_came_153
          · skip
            replace hW := wfP_i (wfP_r hW) (i_eq c78_44 rfl (rg_i kc_77))
            have ic78_44 := congrArg Int32.toInt c78_44
            have y46 : (77 : Int32).toInt = 77 := by decide
            have q47 : rg (77) (77) v40 := (rg_eq c78_44 rv40 kc_77).1
            have uq47 : (77 : Int) ≤ v40.toInt ∧ v40.toInt ≤ 77 := q47
            refine lv_aload_n hx hb dX8_came_81 rfl (lv_at hl 2 rfl) ?_
            refine lv_bipush (v := 90) hx hb dX8_came_82 (by decide) ?_
            refine lv_aload_n hx hb dX8_came_84 rfl (lv_at hl 3 rfl) ?_
            refine c_geti x L15 9 q1 1 289 hq1 rfl rfl (wk_in kf_X8_57) dX8_came_85 (fun v48 ev48 wv48 => ?_)
            refine m_top (((mm_fr (mm_fr (mm_fr ev1 hp6.1 rfl) hp13.1 rfl) hp15.1 rfl)).trans ev48.symm) ?_
            refine lv_aload_n hx hb dX8_came_88 rfl (lv_at hl 3 rfl) ?_
            refine c_geti x L15 9 q1 2 290 hq1 rfl rfl (wk_in kf_X8_60) dX8_came_89 (fun v49 ev49 wv49 => ?_)
            refine m_top (((mm_fr (mm_fr (mm_fr ev2 hp6.1 rfl) hp13.1 rfl) hp15.1 rfl)).trans ev49.symm) ?_
            refine lv_if_ne (tgt := 99) hx hb dX8_came_92 (by decide) (fun c92_50 => ?_) (fun c92_50 => ?_)
            · skip
              replace hW := wfP_i (wfP_l hW) (i_ne c92_50 rfl (rg_i kc_0))
              have ic92_50 : v2.toInt ≠ (0 : Int32).toInt := fun z => c92_50 (Int32.toInt_inj.mp z)
              have y51 : (0 : Int32).toInt = 0 := by decide
              refine lv_iconst (v := 0) hx hb dX8_came_99 (by decide) ?_
              refine lv_bipush (v := 81) hx hb dX8_came_100 (by decide) ?_
              refine c_cvU (n := 4) (owner := "CellSwitch$Side") (x0 := ⟨"CellSwitch$Side", "sayCause", "(IIZI)V"⟩) (As := [.int (90 : Int32), .int v1, .int (0 : Int32), .int (81 : Int32)]) (rest := []) x hml L15 10 i0 hal0 rfl (d_ksayCause_10 l X g15 i0 (90 : Int32) v1 (0 : Int32) (81 : Int32) hX (show i0 < Z.n from (by omega)) (rg_w kc_0 rfl) hW) (wk_U kd_X8_sayCause kl_X8_70 km_CellSwitchSide_CellSwitchSide_sayCause ks_X10_CellSwitchSide_X8_sayCause ki_X8_sayCause kn_X8) rfl ⟨rfl, rfl⟩ rfl (by decide +kernel) ⟨Nat.le_of_ble_eq_true rfl, Nat.le_of_ble_eq_true rfl⟩ rfl hl.1 rfl (lv_room (Nat.le_of_ble_eq_true rfl)) dX8_came_102 (fun  g52 H52 k52 hp52 L52 => ?_) hcs
              obtain ⟨hW, hi52, hp52⟩ := hp52
              replace hW := wfP_i hW ⟨hi52, hp52⟩
              refine lv_goto (tgt := 153) hx hb dX8_came_105 (by decide) ?_
              exact k_vret xa L52 hr hlocks (Int.le_refl _) hzl ⟨hW, (mFi.sub (mFi.sub (mFi.sub (mFi.sub mFi.rf hi6 mSub_nil) hi13 mSub_nil) hi15 mSub_nil) hi52 (mSub_any 18 rfl (mSub_any 23 rfl (mSub_any 24 rfl mSub_nil)))), (mFr.tr (mFr.tr (mFr.tr (mFr.tr mFr.rf hp6.1 rfl) hp13.1 rfl) hp15.1 rfl) hp52.1 rfl), (cJ_fr (cJ_fr hp13.2.1 hp15.1 rfl) hp52.1 rfl), (by omega), trivial⟩ hcs.1 hcs.2 dX8_came_153
            · skip
              replace hW := wfP_i (wfP_r hW) (i_eq c92_50 rfl (rg_i kc_0))
              have ic92_50 := congrArg Int32.toInt c92_50
              have y53 : (0 : Int32).toInt = 0 := by decide
              exact absurd ((rg_eq c92_50 q5 kc_0).1 : rg (1) (0) v2) (fun q => rg_dead q rfl)
        · skip
          replace hW := wfP_i (wfP_r hW) (i_eq c60_41 rfl (rg_i kc_5))
          have ic60_41 := congrArg Int32.toInt c60_41
          have y54 : (5 : Int32).toInt = 5 := by decide
          have q55 : rg (5) (5) v40 := (rg_eq c60_41 rv40 kc_5).1
          have uq55 : (5 : Int) ≤ v40.toInt ∧ v40.toInt ≤ 5 := q55
          refine lv_aload_n hx hb dX8_came_63 rfl (lv_at hl 2 rfl) ?_
          refine lv_aload_n hx hb dX8_came_64 rfl (lv_at hl 3 rfl) ?_
          refine lv_iload_n hx hb dX8_came_65 rfl (lv_at hl 4 rfl) ?_
          have y56 := congrArg Int32.toInt (congrFun ((show mFr [] g g15 from (mFr.tr (mFr.tr (mFr.tr mFr.rf hp6.1 rfl) hp13.1 rfl) hp15.1 rfl)).at 291 rfl) (q1))
          refine k_callv xa L15 (k_runU (x := ⟨"CellSwitch$Side", "setupCame", "(LCellSwitch$Signal;I)V"⟩) (As := [.ref (Z.ad 9 q1), .int p2]) (rest := []) ⟨hx, hb, hml, x.2.2.2.2.1, x.2.2.1⟩ (d_ksetupCame_10 l X g15 i0 q1 p2 _ n1 n2 hX (cJ_fr hp13.2.1 hp15.1 rfl) (by omega) (show i0 < Z.n from (by omega)) hq1 (by omega) hW) (va_cwA 2 x.2.2.1 (wk_U (owner := "CellSwitch$Side") kd_X10_setupCame kl_X8_66 km_CellSwitchSide_CellSwitchSide_setupCame ks_X10_CellSwitchSide_X10_setupCame ki_X10_setupCame kn_X10) rfl rfl rfl (x.2.2.2.2.2.2.2.2.2.1.2 _ (List.mem_of_getElem? (i := 1) rfl)) (by decide +kernel) ⟨Nat.le_of_ble_eq_true rfl, Nat.le_of_ble_eq_true rfl⟩) ⟨cPreA.blind, c_recv x L15 hal0 rfl, fun U hU hW => k_pre xa L15 U hU hW⟩ rfl rfl hl.1 rfl (lv_room (Nat.le_of_ble_eq_true rfl)) dX8_came_66 ⟨show 0 + 4 ≤ 4 by omega, show 0 + (36 + n1 + n2) ≤ 36 + n1 + n2 by omega⟩) (fun  Z g57 H57 k57 kc57 kn57 hk57 hn57 hp57 hz57 xa L57 => ?_)
          obtain ⟨hW, hi57, hp57⟩ := hp57
          replace hW := wfP_i (wfP_a (wfP_i (wfP_i hW ⟨hi57, hp57⟩) (cZg_of hz57 hk57 hn57)) Z) rfl
          have hww57 := hp57.2.2.1
          have ea57_0 := hz57.2.2.1 1 v14.toInt.toNat hvv14.2.1 (by omega)
          have ea57_1 := hz57.2.2.1 10 i0 hal0 (by omega)
          have ea57_2 := hz57.2.2.1 9 q1 hq1 (by omega)
          rw [← ea57_0] at hl
          rw [← ea57_1] at hl
          rw [← ea57_2] at hl
          have al57_0 := hz57.2.1 1 v14.toInt.toNat hvv14.2.1
          have al57_1 := hz57.2.1 10 i0 hal0
          have al57_2 := hz57.2.1 9 q1 hq1
          have hZn57 := hz57.1
          have x := xa.1
          have hz := x.2.2.2.2.2.2.2.1
          have hzn := hz.1
          have hzl := cZl.tr hzl hz57
          have hcs : 0 + kc57 ≤ 4 ∧ 0 + kn57 ≤ 36 + n1 + n2 := by omega
          refine lv_goto (tgt := 153) hx hb dX8_came_69 (by decide) ?_
          exact k_vret xa L57 hr hlocks (Int.le_refl _) hzl ⟨hW, (mFi.sub (mFi.sub (mFi.sub (mFi.sub mFi.rf hi6 mSub_nil) hi13 mSub_nil) hi15 mSub_nil) hi57 (mSub_any 0 rfl (mSub_any 1 rfl (mSub_any 2 rfl (mSub_any 3 rfl (mSub_any 4 rfl (mSub_any 5 rfl (mSub_any 6 rfl (mSub_any 7 rfl (mSub_any 8 rfl (mSub_any 9 rfl (mSub_any 10 rfl (mSub_any 11 rfl (mSub_any 12 rfl (mSub_any 13 rfl (mSub_any 14 rfl (mSub_any 15 rfl (mSub_any 16 rfl (mSub_any 17 rfl (mSub_any 18 rfl (mSub_any 19 rfl (mSub_any 20 rfl (mSub_any 21 rfl (mSub_any 22 rfl (mSub_any 23 rfl (mSub_any 24 rfl (mSub_any 25 rfl (mSub_any 26 rfl mSub_nil)))))))))))))))))))))))))))), (mFr.tr (mFr.tr (mFr.tr (mFr.tr mFr.rf hp6.1 rfl) hp13.1 rfl) hp15.1 rfl) hp57.1 rfl), hp57.2.1, (by omega), trivial⟩ hcs.1 hcs.2 dX8_came_153
    · skip
      replace hW := wfP_i (wfP_r hW) (i_lt (rg_nle c22_9) rfl (rg_i kc_0))
      have ic22_9 := Int32.lt_iff_toInt_lt.mp (rg_nle c22_9)
      have q58 : rg (-1) (-1) v7 := (rg_lt (rg_nle c22_9) rv7 kc_0).1
      have uq58 : (-1 : Int) ≤ v7.toInt ∧ v7.toInt ≤ -1 := q58
      refine lv_null hx hb dX8_came_25 ?_
      refine lv_goto (tgt := 40) hx hb dX8_came_26 (by decide) ?_
      refine lv_astoreN (lv' := [(4, .null), (3, .int v7), (0, .ref (Z.ad 10 i0)), (1, .ref (Z.ad 9 q1)), (2, .int p2)]) hx hb dX8_came_40 hl (by decide) rfl (fun ls hl => ?_)
      refine lv_aloadN hx hb dX8_came_42 (lv_at hl 0 rfl) ?_
      refine lv_ifnullN (tgt := 55) hx hb dX8_came_44 (by decide) ?_
      refine lv_aload_n hx hb dX8_came_55 rfl (lv_at hl 3 rfl) ?_
      refine c_geti x L6 9 q1 0 288 hq1 rfl rfl (wk_in kf_X8_63) dX8_came_56 (fun v59 ev59 wv59 => ?_)
      have rv59 : rg (-2147483648) (2147483647) v59 := rg_any v59
      replace hW := (wfP_i (wfP_i (wfP_a hW v59) ev59) rv59)
      have uv59 : (-2147483648 : Int) ≤ v59.toInt ∧ v59.toInt ≤ 2147483647 := rv59
      have sv59 : v59.toInt = (g 288 q1).toInt := congrArg Int32.toInt (ev59.trans (congrFun ((show mFr [32, 33, 34, 35, 36, 37, 38, 39, 40, 41, 42, 43, 44, 45, 46, 47, 48, 49, 198, 323, 384, 385, 386, 832, 864, 1728, 1729] g g6 from (mFr.tr mFr.rf hp6.1 rfl)).at 288 rfl) _))
      refine lv_iconst (v := 5) hx hb dX8_came_59 (by decide) ?_
      refine lv_icmp_ne (tgt := 72) hx hb dX8_came_60 (by decide) (fun c60_60 => ?_) (fun c60_60 => ?_)
      · skip
        replace hW := wfP_i (wfP_l hW) (i_ne c60_60 rfl (rg_i kc_5))
        have ic60_60 : v59.toInt ≠ (5 : Int32).toInt := fun z => c60_60 (Int32.toInt_inj.mp z)
        have y61 : (5 : Int32).toInt = 5 := by decide
        refine lv_aload_n hx hb dX8_came_72 rfl (lv_at hl 3 rfl) ?_
        refine c_geti x L6 9 q1 0 288 hq1 rfl rfl (wk_in kf_X8_63) dX8_came_73 (fun v62 ev62 wv62 => ?_)
        refine m_top ((ev59).trans ev62.symm) ?_
        refine lv_bipush (v := 77) hx hb dX8_came_76 (by decide) ?_
        refine lv_icmp_ne (tgt := 153) hx hb dX8_came_78 (by decide) (fun c78_63 => ?_) (fun c78_63 => ?_)
        · skip
          replace hW := wfP_i (wfP_l hW) (i_ne c78_63 rfl (rg_i kc_77))
          have ic78_63 : v59.toInt ≠ (77 : Int32).toInt := fun z => c78_63 (Int32.toInt_inj.mp z)
          have y64 : (77 : Int32).toInt = 77 := by decide
          exact k_vret xa L6 hr hlocks (Int.le_refl _) hzl ⟨hW, (mFi.sub mFi.rf hi6 mSub_nil), (mFr.tr mFr.rf hp6.1 rfl), hp6.2.2.1, (by omega), trivial⟩ hcs.1 hcs.2 dX8_came_153
        · skip
          replace hW := wfP_i (wfP_r hW) (i_eq c78_63 rfl (rg_i kc_77))
          have ic78_63 := congrArg Int32.toInt c78_63
          have y65 : (77 : Int32).toInt = 77 := by decide
          have q66 : rg (77) (77) v59 := (rg_eq c78_63 rv59 kc_77).1
          have uq66 : (77 : Int) ≤ v59.toInt ∧ v59.toInt ≤ 77 := q66
          refine lv_aload_n hx hb dX8_came_81 rfl (lv_at hl 2 rfl) ?_
          refine lv_bipush (v := 90) hx hb dX8_came_82 (by decide) ?_
          refine lv_aload_n hx hb dX8_came_84 rfl (lv_at hl 3 rfl) ?_
          refine c_geti x L6 9 q1 1 289 hq1 rfl rfl (wk_in kf_X8_57) dX8_came_85 (fun v67 ev67 wv67 => ?_)
          refine m_top (((mm_fr ev1 hp6.1 rfl)).trans ev67.symm) ?_
          refine lv_aload_n hx hb dX8_came_88 rfl (lv_at hl 3 rfl) ?_
          refine c_geti x L6 9 q1 2 290 hq1 rfl rfl (wk_in kf_X8_60) dX8_came_89 (fun v68 ev68 wv68 => ?_)
          refine m_top (((mm_fr ev2 hp6.1 rfl)).trans ev68.symm) ?_
          refine lv_if_ne (tgt := 99) hx hb dX8_came_92 (by decide) (fun c92_69 => ?_) (fun c92_69 => ?_)
          · skip
            replace hW := wfP_i (wfP_l hW) (i_ne c92_69 rfl (rg_i kc_0))
            have ic92_69 : v2.toInt ≠ (0 : Int32).toInt := fun z => c92_69 (Int32.toInt_inj.mp z)
            have y70 : (0 : Int32).toInt = 0 := by decide
            refine lv_iconst (v := 0) hx hb dX8_came_99 (by decide) ?_
            refine lv_bipush (v := 81) hx hb dX8_came_100 (by decide) ?_
            refine c_cvU (n := 4) (owner := "CellSwitch$Side") (x0 := ⟨"CellSwitch$Side", "sayCause", "(IIZI)V"⟩) (As := [.int (90 : Int32), .int v1, .int (0 : Int32), .int (81 : Int32)]) (rest := []) x hml L6 10 i0 hal0 rfl (d_ksayCause_10 l X g6 i0 (90 : Int32) v1 (0 : Int32) (81 : Int32) hX (show i0 < Z.n from (by omega)) (rg_w kc_0 rfl) hW) (wk_U kd_X8_sayCause kl_X8_70 km_CellSwitchSide_CellSwitchSide_sayCause ks_X10_CellSwitchSide_X8_sayCause ki_X8_sayCause kn_X8) rfl ⟨rfl, rfl⟩ rfl (by decide +kernel) ⟨Nat.le_of_ble_eq_true rfl, Nat.le_of_ble_eq_true rfl⟩ rfl hl.1 rfl (lv_room (Nat.le_of_ble_eq_true rfl)) dX8_came_102 (fun  g71 H71 k71 hp71 L71 => ?_) hcs
            obtain ⟨hW, hi71, hp71⟩ := hp71
            replace hW := wfP_i hW ⟨hi71, hp71⟩
            refine lv_goto (tgt := 153) hx hb dX8_came_105 (by decide) ?_
            exact k_vret xa L71 hr hlocks (Int.le_refl _) hzl ⟨hW, (mFi.sub (mFi.sub mFi.rf hi6 mSub_nil) hi71 (mSub_any 18 rfl (mSub_any 23 rfl (mSub_any 24 rfl mSub_nil)))), (mFr.tr (mFr.tr mFr.rf hp6.1 rfl) hp71.1 rfl), (cJ_fr hp6.2.2.1 hp71.1 rfl), (by omega), trivial⟩ hcs.1 hcs.2 dX8_came_153
          · skip
            replace hW := wfP_i (wfP_r hW) (i_eq c92_69 rfl (rg_i kc_0))
            have ic92_69 := congrArg Int32.toInt c92_69
            have y72 : (0 : Int32).toInt = 0 := by decide
            exact absurd ((rg_eq c92_69 q5 kc_0).1 : rg (1) (0) v2) (fun q => rg_dead q rfl)
      · skip
        replace hW := wfP_i (wfP_r hW) (i_eq c60_60 rfl (rg_i kc_5))
        have ic60_60 := congrArg Int32.toInt c60_60
        have y73 : (5 : Int32).toInt = 5 := by decide
        have q74 : rg (5) (5) v59 := (rg_eq c60_60 rv59 kc_5).1
        have uq74 : (5 : Int) ≤ v59.toInt ∧ v59.toInt ≤ 5 := q74
        refine lv_aload_n hx hb dX8_came_63 rfl (lv_at hl 2 rfl) ?_
        refine lv_aload_n hx hb dX8_came_64 rfl (lv_at hl 3 rfl) ?_
        refine lv_iload_n hx hb dX8_came_65 rfl (lv_at hl 4 rfl) ?_
        have y75 := congrArg Int32.toInt (congrFun ((show mFr [] g g6 from (mFr.tr mFr.rf hp6.1 rfl)).at 291 rfl) (q1))
        refine k_callv xa L6 (k_runU (x := ⟨"CellSwitch$Side", "setupCame", "(LCellSwitch$Signal;I)V"⟩) (As := [.ref (Z.ad 9 q1), .int p2]) (rest := []) ⟨hx, hb, hml, x.2.2.2.2.1, x.2.2.1⟩ (d_ksetupCame_10 l X g6 i0 q1 p2 _ n1 n2 hX hp6.2.2.1 (by omega) (show i0 < Z.n from (by omega)) hq1 (by omega) hW) (va_cwA 2 x.2.2.1 (wk_U (owner := "CellSwitch$Side") kd_X10_setupCame kl_X8_66 km_CellSwitchSide_CellSwitchSide_setupCame ks_X10_CellSwitchSide_X10_setupCame ki_X10_setupCame kn_X10) rfl rfl rfl (x.2.2.2.2.2.2.2.2.2.1.2 _ (List.mem_of_getElem? (i := 1) rfl)) (by decide +kernel) ⟨Nat.le_of_ble_eq_true rfl, Nat.le_of_ble_eq_true rfl⟩) ⟨cPreA.blind, c_recv x L6 hal0 rfl, fun U hU hW => k_pre xa L6 U hU hW⟩ rfl rfl hl.1 rfl (lv_room (Nat.le_of_ble_eq_true rfl)) dX8_came_66 ⟨show 0 + 4 ≤ 4 by omega, show 0 + (36 + n1 + n2) ≤ 36 + n1 + n2 by omega⟩) (fun  Z g76 H76 k76 kc76 kn76 hk76 hn76 hp76 hz76 xa L76 => ?_)
        obtain ⟨hW, hi76, hp76⟩ := hp76
        replace hW := wfP_i (wfP_a (wfP_i (wfP_i hW ⟨hi76, hp76⟩) (cZg_of hz76 hk76 hn76)) Z) rfl
        have hww76 := hp76.2.2.1
        have ea76_0 := hz76.2.2.1 10 i0 hal0 (by omega)
        have ea76_1 := hz76.2.2.1 9 q1 hq1 (by omega)
        rw [← ea76_0] at hl
        rw [← ea76_1] at hl
        have al76_0 := hz76.2.1 10 i0 hal0
        have al76_1 := hz76.2.1 9 q1 hq1
        have hZn76 := hz76.1
        have x := xa.1
        have hz := x.2.2.2.2.2.2.2.1
        have hzn := hz.1
        have hzl := cZl.tr hzl hz76
        have hcs : 0 + kc76 ≤ 4 ∧ 0 + kn76 ≤ 36 + n1 + n2 := by omega
        refine lv_goto (tgt := 153) hx hb dX8_came_69 (by decide) ?_
        exact k_vret xa L76 hr hlocks (Int.le_refl _) hzl ⟨hW, (mFi.sub (mFi.sub mFi.rf hi6 mSub_nil) hi76 (mSub_any 0 rfl (mSub_any 1 rfl (mSub_any 2 rfl (mSub_any 3 rfl (mSub_any 4 rfl (mSub_any 5 rfl (mSub_any 6 rfl (mSub_any 7 rfl (mSub_any 8 rfl (mSub_any 9 rfl (mSub_any 10 rfl (mSub_any 11 rfl (mSub_any 12 rfl (mSub_any 13 rfl (mSub_any 14 rfl (mSub_any 15 rfl (mSub_any 16 rfl (mSub_any 17 rfl (mSub_any 18 rfl (mSub_any 19 rfl (mSub_any 20 rfl (mSub_any 21 rfl (mSub_any 22 rfl (mSub_any 23 rfl (mSub_any 24 rfl (mSub_any 25 rfl (mSub_any 26 rfl mSub_nil)))))))))))))))))))))))))))), (mFr.tr (mFr.tr mFr.rf hp6.1 rfl) hp76.1 rfl), hp76.2.1, (by omega), trivial⟩ hcs.1 hcs.2 dX8_came_153
  · skip
    replace hW := wfP_i (wfP_r hW) (i_eq c9_3 rfl (rg_i kc_0))
    have ic9_3 := congrArg Int32.toInt c9_3
    have y77 : (0 : Int32).toInt = 0 := by decide
    have q78 : rg (0) (0) v2 := (rg_eq c9_3 rv2 kc_0).1
    have uq78 : (0 : Int) ≤ v2.toInt ∧ v2.toInt ≤ 0 := q78
    refine lv_iconst (v := 1) hx hb dX8_came_12 (by decide) ?_
    refine lv_goto (tgt := 17) hx hb dX8_came_13 (by decide) ?_
    refine c_ciU (n := 2) (owner := "CellSwitch$Side") (x0 := ⟨"CellSwitch$Side", "placeOfReference", "(IZ)I"⟩) (As := [.int v1, .int (1 : Int32)]) (rest := []) x hml L 10 i0 hal0 rfl (d_kplaceOfReference_10 l X g i0 v1 (1 : Int32) hX hJ (show i0 < Z.n from (by omega)) (rg_w kc_1 rfl) hW) (wk_U kd_X8_placeOfReference kl_X8_45 km_CellSwitchSide_CellSwitchSide_placeOfReference ks_X10_CellSwitchSide_X8_placeOfReference ki_X8_placeOfReference kn_X8) rfl ⟨rfl, rfl⟩ rfl (by decide +kernel) ⟨Nat.le_of_ble_eq_true rfl, Nat.le_of_ble_eq_true rfl⟩ rfl hl.1 rfl (lv_room (Nat.le_of_ble_eq_true rfl)) dX8_came_17 (fun v80 g79 H79 k79 hp79 L79 => ?_) hcs
    obtain ⟨hW, hi79, hp79⟩ := hp79
    replace hW := wfP_i hW ⟨hi79, hp79⟩
    have rv80 : rg (-1) (2147483646) v80 := hp79.2.1
    have uv80 : (-1 : Int) ≤ v80.toInt ∧ v80.toInt ≤ 2147483646 := rv80
    have hw81 := hp79.2.2.2
    refine lv_istore_n (lv' := [(3, .int v80), (0, .ref (Z.ad 10 i0)), (1, .ref (Z.ad 9 q1)), (2, .int p2)]) hx hb dX8_came_20 rfl hl (by decide) rfl (fun ls hl => ?_)
    refine lv_iload_n hx hb dX8_came_21 rfl (lv_at hl 0 rfl) ?_
    refine lv_if_ge (tgt := 29) hx hb dX8_came_22 (by decide) (fun c22_82 => ?_) (fun c22_82 => ?_)
    · skip
      replace hW := wfP_i (wfP_l hW) (i_le c22_82 (rg_i kc_0) rfl)
      have ic22_82 := Int32.le_iff_toInt_le.mp c22_82
      have q83 : rg (0) (2147483646) v80 := (rg_le c22_82 kc_0 rv80).2
      have uq83 : (0 : Int) ≤ v80.toInt ∧ v80.toInt ≤ 2147483646 := q83
      refine lv_aload_n hx hb dX8_came_29 rfl (lv_at hl 1 rfl) ?_
      have al84 : Z.al 12 (Z.n + i0) := hz.2 12 (Z.n + i0) (show (Z.n + i0) < 2 * Z.n from (by omega))
      refine c_getr (a := Z.ad 12 (Z.n + i0)) x L79 10 i0 2 hal0 rfl rfl (wk_in kf_X8_10) dX8_came_30 ?_
      refine lv_iload_n hx hb dX8_came_33 rfl (lv_at hl 0 rfl) ?_
      have y85 := congrArg Int32.toInt (congrFun ((show mFr [] g g79 from (mFr.tr mFr.rf hp79.1 rfl)).at 386 rfl) (Z.n + i0))
      refine c_cr (As := [.int v80]) (rest := []) x hml L79 12 (Z.n + i0) al84 rfl (d_klget l X g79 (Z.n + i0) v80 hX hp79.2.2.1 (show (Z.n + i0) < 2 * Z.n from (by omega)) (by omega) hW) (wk_V kd_Jx4a65c_get_915e3 kl_X8_28 ki_Jx4a65c_get_915e3 ks_Jx4a65c_Jx4a65c_get_915e3 kn_Jx4a65c) rfl ⟨rfl, rfl⟩ hd_klget ⟨Nat.le_of_ble_eq_true rfl, Nat.le_of_ble_eq_true rfl⟩ rfl hl.1 rfl (lv_room (Nat.le_of_ble_eq_true rfl)) dX8_came_34 (fun v87 g86 H86 k86 hp86 L86 => ?_) hcs
      obtain ⟨hW, hi86, hp86⟩ := hp86
      replace hW := wfP_i hW ⟨hi86, hp86⟩
      have hvv87 := hp86.2.2
      refine c_top (show Value.ref (Z.ad 1 v87.toInt.toNat) = va_rf (cOpt Z 1 v87) from (by rw [cOpt_some hvv87.1]; rfl)) ?_
      refine c_cast x L86 1 v87.toInt.toNat hvv87.2.1 rfl (wk_in kc_lX8_32) dX8_came_37 ?_
      refine lv_astore (lv' := [(4, .ref (Z.ad 1 v87.toInt.toNat)), (3, .int v80), (0, .ref (Z.ad 10 i0)), (1, .ref (Z.ad 9 q1)), (2, .int p2)]) hx hb dX8_came_40 hl (by decide) rfl (fun ls hl => ?_)
      refine lv_aload hx hb dX8_came_42 (lv_at hl 0 rfl) ?_
      refine lv_ifnull hx hb dX8_came_44 ?_
      refine lv_aload hx hb dX8_came_47 (lv_at hl 0 rfl) ?_
      refine c_ci (As := []) (rest := []) x hml L86 1 v87.toInt.toNat hvv87.2.1 rfl (d_kisOpen l X g86 v87.toInt.toNat hX hvv87.2.1 hW) (wk_V kd_X1_isOpen kl_X8_34 ki_X1_isOpen ks_X1_X1_isOpen kn_X1) rfl ⟨rfl, rfl⟩ hd_kisOpen ⟨Nat.le_of_ble_eq_true rfl, Nat.le_of_ble_eq_true rfl⟩ rfl hl.1 rfl (lv_room (Nat.le_of_ble_eq_true rfl)) dX8_came_49 (fun v89 g88 H88 k88 hp88 L88 => ?_) hcs
      obtain ⟨hW, hi88, hp88⟩ := hp88
      replace hW := wfP_i hW ⟨hi88, hp88⟩
      have rv89 : rg (0) (1) v89 := hp88.2.1
      have uv89 : (0 : Int) ≤ v89.toInt ∧ v89.toInt ≤ 1 := rv89
      refine lv_if_ne (tgt := 108) hx hb dX8_came_52 (by decide) (fun c52_90 => ?_) (fun c52_90 => ?_)
      · skip
        replace hW := wfP_i (wfP_l hW) (i_ne c52_90 rfl (rg_i kc_0))
        have ic52_90 : v89.toInt ≠ (0 : Int32).toInt := fun z => c52_90 (Int32.toInt_inj.mp z)
        have y91 : (0 : Int32).toInt = 0 := by decide
        have q92 : rg (1) (1) v89 := rg_neL c52_90 rv89 kc_0
        have uq92 : (1 : Int) ≤ v89.toInt ∧ v89.toInt ≤ 1 := q92
        refine lv_aload_n hx hb dX8_came_108 rfl (lv_at hl 3 rfl) ?_
        refine c_geti x L88 9 q1 0 288 hq1 rfl rfl (wk_in kf_X8_63) dX8_came_109 (fun v93 ev93 wv93 => ?_)
        have rv93 : rg (-2147483648) (2147483647) v93 := rg_any v93
        replace hW := (wfP_i (wfP_i (wfP_a hW v93) ev93) rv93)
        have uv93 : (-2147483648 : Int) ≤ v93.toInt ∧ v93.toInt ≤ 2147483647 := rv93
        have sv93 : v93.toInt = (g 288 q1).toInt := congrArg Int32.toInt (ev93.trans (congrFun ((show mFr [32, 33, 34, 35, 36, 37, 38, 39, 40, 41, 42, 43, 44, 45, 46, 47, 48, 49, 198, 323, 384, 385, 386, 832, 864, 1728, 1729] g g88 from (mFr.tr (mFr.tr (mFr.tr mFr.rf hp79.1 rfl) hp86.1 rfl) hp88.1 rfl)).at 288 rfl) _))
        refine lv_bipush (v := 77) hx hb dX8_came_112 (by decide) ?_
        refine lv_icmp_eq (tgt := 126) hx hb dX8_came_114 (by decide) (fun c114_94 => ?_) (fun c114_94 => ?_)
        · skip
          replace hW := wfP_i (wfP_l hW) (i_eq c114_94 rfl (rg_i kc_77))
          have ic114_94 := congrArg Int32.toInt c114_94
          have y95 : (77 : Int32).toInt = 77 := by decide
          have q96 : rg (77) (77) v93 := (rg_eq c114_94 rv93 kc_77).1
          have uq96 : (77 : Int) ≤ v93.toInt ∧ v93.toInt ≤ 77 := q96
          refine lv_aload_n hx hb dX8_came_126 rfl (lv_at hl 2 rfl) ?_
          refine lv_aload hx hb dX8_came_127 (lv_at hl 0 rfl) ?_
          refine lv_aload_n hx hb dX8_came_129 rfl (lv_at hl 3 rfl) ?_
          refine lv_iload_n hx hb dX8_came_130 rfl (lv_at hl 4 rfl) ?_
          refine c_cvU (n := 3) (owner := "CellSwitch$Side") (x0 := ⟨"CellSwitch$Side", "cleared", "(LCellSwitch$Call;LCellSwitch$Signal;I)V"⟩) (As := [.ref (Z.ad 1 v87.toInt.toNat), .ref (Z.ad 9 q1), .int p2]) (rest := []) x hml L88 10 i0 hal0 rfl (d_kcleared_10 l X g88 i0 v87.toInt.toNat q1 p2 hX (cJ_fr hp86.2.1 hp88.1 rfl) (show i0 < Z.n from (by omega)) hvv87.2.1 hq1 hW) (wk_U kd_X8_cleared kl_X8_74 km_CellSwitchSide_CellSwitchSide_cleared ks_X10_CellSwitchSide_X8_cleared ki_X8_cleared kn_X8) rfl ⟨rfl, rfl⟩ rfl (by decide +kernel) ⟨Nat.le_of_ble_eq_true rfl, Nat.le_of_ble_eq_true rfl⟩ rfl hl.1 rfl (lv_room (Nat.le_of_ble_eq_true rfl)) dX8_came_131 (fun  g97 H97 k97 hp97 L97 => ?_) hcs
          obtain ⟨hW, hi97, hp97⟩ := hp97
          replace hW := wfP_i hW ⟨hi97, hp97⟩
          refine lv_goto (tgt := 153) hx hb dX8_came_134 (by decide) ?_
          exact k_vret xa L97 hr hlocks (Int.le_refl _) hzl ⟨hW, (mFi.sub (mFi.sub (mFi.sub (mFi.sub mFi.rf hi79 mSub_nil) hi86 mSub_nil) hi88 mSub_nil) hi97 (mSub_any 4 rfl (mSub_any 8 rfl (mSub_any 9 rfl (mSub_any 10 rfl (mSub_any 12 rfl (mSub_any 13 rfl (mSub_any 14 rfl (mSub_any 16 rfl (mSub_any 18 rfl (mSub_any 23 rfl (mSub_any 24 rfl mSub_nil)))))))))))), (mFr.tr (mFr.tr (mFr.tr (mFr.tr mFr.rf hp79.1 rfl) hp86.1 rfl) hp88.1 rfl) hp97.1 rfl), hp97.2.1, (by omega), trivial⟩ hcs.1 hcs.2 dX8_came_153
        · skip
          replace hW := wfP_i (wfP_r hW) (i_ne c114_94 rfl (rg_i kc_77))
          have ic114_94 : v93.toInt ≠ (77 : Int32).toInt := fun z => c114_94 (Int32.toInt_inj.mp z)
          have y98 : (77 : Int32).toInt = 77 := by decide
          refine lv_aload_n hx hb dX8_came_117 rfl (lv_at hl 3 rfl) ?_
          refine c_geti x L88 9 q1 0 288 hq1 rfl rfl (wk_in kf_X8_63) dX8_came_118 (fun v99 ev99 wv99 => ?_)
          refine m_top ((ev93).trans ev99.symm) ?_
          refine lv_bipush (v := 90) hx hb dX8_came_121 (by decide) ?_
          refine lv_icmp_ne (tgt := 137) hx hb dX8_came_123 (by decide) (fun c123_100 => ?_) (fun c123_100 => ?_)
          · skip
            replace hW := wfP_i (wfP_l hW) (i_ne c123_100 rfl (rg_i kc_90))
            have ic123_100 : v93.toInt ≠ (90 : Int32).toInt := fun z => c123_100 (Int32.toInt_inj.mp z)
            have y101 : (90 : Int32).toInt = 90 := by decide
            refine lv_aload_n hx hb dX8_came_137 rfl (lv_at hl 3 rfl) ?_
            refine c_geti x L88 9 q1 0 288 hq1 rfl rfl (wk_in kf_X8_63) dX8_came_138 (fun v102 ev102 wv102 => ?_)
            refine m_top ((ev93).trans ev102.symm) ?_
            refine lv_iconst (v := 5) hx hb dX8_came_141 (by decide) ?_
            refine lv_icmp_eq (tgt := 153) hx hb dX8_came_142 (by decide) (fun c142_103 => ?_) (fun c142_103 => ?_)
            · skip
              replace hW := wfP_i (wfP_l hW) (i_eq c142_103 rfl (rg_i kc_5))
              have ic142_103 := congrArg Int32.toInt c142_103
              have y104 : (5 : Int32).toInt = 5 := by decide
              have q105 : rg (5) (5) v93 := (rg_eq c142_103 rv93 kc_5).1
              have uq105 : (5 : Int) ≤ v93.toInt ∧ v93.toInt ≤ 5 := q105
              exact k_vret xa L88 hr hlocks (Int.le_refl _) hzl ⟨hW, (mFi.sub (mFi.sub (mFi.sub mFi.rf hi79 mSub_nil) hi86 mSub_nil) hi88 mSub_nil), (mFr.tr (mFr.tr (mFr.tr mFr.rf hp79.1 rfl) hp86.1 rfl) hp88.1 rfl), (cJ_fr hp86.2.1 hp88.1 rfl), (by omega), trivial⟩ hcs.1 hcs.2 dX8_came_153
            · skip
              replace hW := wfP_i (wfP_r hW) (i_ne c142_103 rfl (rg_i kc_5))
              have ic142_103 : v93.toInt ≠ (5 : Int32).toInt := fun z => c142_103 (Int32.toInt_inj.mp z)
              have y106 : (5 : Int32).toInt = 5 := by decide
              refine lv_aload_n hx hb dX8_came_145 rfl (lv_at hl 2 rfl) ?_
              refine lv_aload hx hb dX8_came_146 (lv_at hl 0 rfl) ?_
              refine lv_aload_n hx hb dX8_came_148 rfl (lv_at hl 3 rfl) ?_
              refine lv_iload_n hx hb dX8_came_149 rfl (lv_at hl 4 rfl) ?_
              refine c_cvA (n := 3) (owner := "CellSwitch$Side") (x0 := ⟨"CellSwitch$Side", "progress", "(LCellSwitch$Call;LCellSwitch$Signal;I)V"⟩) (As := [.ref (Z.ad 1 v87.toInt.toNat), .ref (Z.ad 9 q1), .int p2]) (rest := []) x hml L88 10 i0 hal0 rfl (d_kprogress_10 l X g88 i0 v87.toInt.toNat q1 p2 hX (cJ_fr hp86.2.1 hp88.1 rfl) (show i0 < Z.n from (by omega)) hvv87.2.1 hq1 hW) (wk_U kd_X10_progress kl_X8_78 km_CellSwitchSide_CellSwitchSide_progress ks_X10_CellSwitchSide_X10_progress ki_X10_progress kn_X10) rfl ⟨rfl, rfl⟩ (List.mem_of_getElem? (i := 2) rfl) (by decide +kernel) ⟨Nat.le_of_ble_eq_true rfl, Nat.le_of_ble_eq_true rfl⟩ rfl hl.1 rfl (lv_room (Nat.le_of_ble_eq_true rfl)) dX8_came_150 (fun  g107 H107 k107 hp107 L107 => ?_) hcs
              obtain ⟨hW, hi107, hp107⟩ := hp107
              replace hW := wfP_i hW ⟨hi107, hp107⟩
              exact k_vret xa L107 hr hlocks (Int.le_refl _) hzl ⟨hW, (mFi.sub (mFi.sub (mFi.sub (mFi.sub mFi.rf hi79 mSub_nil) hi86 mSub_nil) hi88 mSub_nil) hi107 (mSub_any 4 rfl (mSub_any 9 rfl (mSub_any 10 rfl (mSub_any 12 rfl (mSub_any 13 rfl (mSub_any 14 rfl (mSub_any 16 rfl (mSub_any 18 rfl (mSub_any 23 rfl (mSub_any 24 rfl mSub_nil))))))))))), (mFr.tr (mFr.tr (mFr.tr (mFr.tr mFr.rf hp79.1 rfl) hp86.1 rfl) hp88.1 rfl) hp107.1 rfl), hp107.2.1, (by omega), trivial⟩ hcs.1 hcs.2 dX8_came_153
          · skip
            replace hW := wfP_i (wfP_r hW) (i_eq c123_100 rfl (rg_i kc_90))
            have ic123_100 := congrArg Int32.toInt c123_100
            have y108 : (90 : Int32).toInt = 90 := by decide
            have q109 : rg (90) (90) v93 := (rg_eq c123_100 rv93 kc_90).1
            have uq109 : (90 : Int) ≤ v93.toInt ∧ v93.toInt ≤ 90 := q109
            refine lv_aload_n hx hb dX8_came_126 rfl (lv_at hl 2 rfl) ?_
            refine lv_aload hx hb dX8_came_127 (lv_at hl 0 rfl) ?_
            refine lv_aload_n hx hb dX8_came_129 rfl (lv_at hl 3 rfl) ?_
            refine lv_iload_n hx hb dX8_came_130 rfl (lv_at hl 4 rfl) ?_
            refine c_cvU (n := 3) (owner := "CellSwitch$Side") (x0 := ⟨"CellSwitch$Side", "cleared", "(LCellSwitch$Call;LCellSwitch$Signal;I)V"⟩) (As := [.ref (Z.ad 1 v87.toInt.toNat), .ref (Z.ad 9 q1), .int p2]) (rest := []) x hml L88 10 i0 hal0 rfl (d_kcleared_10 l X g88 i0 v87.toInt.toNat q1 p2 hX (cJ_fr hp86.2.1 hp88.1 rfl) (show i0 < Z.n from (by omega)) hvv87.2.1 hq1 hW) (wk_U kd_X8_cleared kl_X8_74 km_CellSwitchSide_CellSwitchSide_cleared ks_X10_CellSwitchSide_X8_cleared ki_X8_cleared kn_X8) rfl ⟨rfl, rfl⟩ rfl (by decide +kernel) ⟨Nat.le_of_ble_eq_true rfl, Nat.le_of_ble_eq_true rfl⟩ rfl hl.1 rfl (lv_room (Nat.le_of_ble_eq_true rfl)) dX8_came_131 (fun  g110 H110 k110 hp110 L110 => ?_) hcs
            obtain ⟨hW, hi110, hp110⟩ := hp110
            replace hW := wfP_i hW ⟨hi110, hp110⟩
            refine lv_goto (tgt := 153) hx hb dX8_came_134 (by decide) ?_
            exact k_vret xa L110 hr hlocks (Int.le_refl _) hzl ⟨hW, (mFi.sub (mFi.sub (mFi.sub (mFi.sub mFi.rf hi79 mSub_nil) hi86 mSub_nil) hi88 mSub_nil) hi110 (mSub_any 4 rfl (mSub_any 8 rfl (mSub_any 9 rfl (mSub_any 10 rfl (mSub_any 12 rfl (mSub_any 13 rfl (mSub_any 14 rfl (mSub_any 16 rfl (mSub_any 18 rfl (mSub_any 23 rfl (mSub_any 24 rfl mSub_nil)))))))))))), (mFr.tr (mFr.tr (mFr.tr (mFr.tr mFr.rf hp79.1 rfl) hp86.1 rfl) hp88.1 rfl) hp110.1 rfl), hp110.2.1, (by omega), trivial⟩ hcs.1 hcs.2 dX8_came_153
      · skip
        replace hW := wfP_i (wfP_r hW) (i_eq c52_90 rfl (rg_i kc_0))
        have ic52_90 := congrArg Int32.toInt c52_90
        have y111 : (0 : Int32).toInt = 0 := by decide
        have q112 : rg (0) (0) v89 := (rg_eq c52_90 rv89 kc_0).1
        have uq112 : (0 : Int) ≤ v89.toInt ∧ v89.toInt ≤ 0 := q112
        refine lv_aload_n hx hb dX8_came_55 rfl (lv_at hl 3 rfl) ?_
        refine c_geti x L88 9 q1 0 288 hq1 rfl rfl (wk_in kf_X8_63) dX8_came_56 (fun v113 ev113 wv113 => ?_)
        have rv113 : rg (-2147483648) (2147483647) v113 := rg_any v113
        replace hW := (wfP_i (wfP_i (wfP_a hW v113) ev113) rv113)
        have uv113 : (-2147483648 : Int) ≤ v113.toInt ∧ v113.toInt ≤ 2147483647 := rv113
        have sv113 : v113.toInt = (g 288 q1).toInt := congrArg Int32.toInt (ev113.trans (congrFun ((show mFr [32, 33, 34, 35, 36, 37, 38, 39, 40, 41, 42, 43, 44, 45, 46, 47, 48, 49, 198, 323, 384, 385, 386, 832, 864, 1728, 1729] g g88 from (mFr.tr (mFr.tr (mFr.tr mFr.rf hp79.1 rfl) hp86.1 rfl) hp88.1 rfl)).at 288 rfl) _))
        refine lv_iconst (v := 5) hx hb dX8_came_59 (by decide) ?_
        refine lv_icmp_ne (tgt := 72) hx hb dX8_came_60 (by decide) (fun c60_114 => ?_) (fun c60_114 => ?_)
        · skip
          replace hW := wfP_i (wfP_l hW) (i_ne c60_114 rfl (rg_i kc_5))
          have ic60_114 : v113.toInt ≠ (5 : Int32).toInt := fun z => c60_114 (Int32.toInt_inj.mp z)
          have y115 : (5 : Int32).toInt = 5 := by decide
          refine lv_aload_n hx hb dX8_came_72 rfl (lv_at hl 3 rfl) ?_
          refine c_geti x L88 9 q1 0 288 hq1 rfl rfl (wk_in kf_X8_63) dX8_came_73 (fun v116 ev116 wv116 => ?_)
          refine m_top ((ev113).trans ev116.symm) ?_
          refine lv_bipush (v := 77) hx hb dX8_came_76 (by decide) ?_
          refine lv_icmp_ne (tgt := 153) hx hb dX8_came_78 (by decide) (fun c78_117 => ?_) (fun c78_117 => ?_)
          · skip
            replace hW := wfP_i (wfP_l hW) (i_ne c78_117 rfl (rg_i kc_77))
            have ic78_117 : v113.toInt ≠ (77 : Int32).toInt := fun z => c78_117 (Int32.toInt_inj.mp z)
            have y118 : (77 : Int32).toInt = 77 := by decide
            exact k_vret xa L88 hr hlocks (Int.le_refl _) hzl ⟨hW, (mFi.sub (mFi.sub (mFi.sub mFi.rf hi79 mSub_nil) hi86 mSub_nil) hi88 mSub_nil), (mFr.tr (mFr.tr (mFr.tr mFr.rf hp79.1 rfl) hp86.1 rfl) hp88.1 rfl), (cJ_fr hp86.2.1 hp88.1 rfl), (by omega), trivial⟩ hcs.1 hcs.2 dX8_came_153
          · skip
            replace hW := wfP_i (wfP_r hW) (i_eq c78_117 rfl (rg_i kc_77))
            have ic78_117 := congrArg Int32.toInt c78_117
            have y119 : (77 : Int32).toInt = 77 := by decide
            have q120 : rg (77) (77) v113 := (rg_eq c78_117 rv113 kc_77).1
            have uq120 : (77 : Int) ≤ v113.toInt ∧ v113.toInt ≤ 77 := q120
            refine lv_aload_n hx hb dX8_came_81 rfl (lv_at hl 2 rfl) ?_
            refine lv_bipush (v := 90) hx hb dX8_came_82 (by decide) ?_
            refine lv_aload_n hx hb dX8_came_84 rfl (lv_at hl 3 rfl) ?_
            refine c_geti x L88 9 q1 1 289 hq1 rfl rfl (wk_in kf_X8_57) dX8_came_85 (fun v121 ev121 wv121 => ?_)
            refine m_top (((mm_fr (mm_fr (mm_fr ev1 hp79.1 rfl) hp86.1 rfl) hp88.1 rfl)).trans ev121.symm) ?_
            refine lv_aload_n hx hb dX8_came_88 rfl (lv_at hl 3 rfl) ?_
            refine c_geti x L88 9 q1 2 290 hq1 rfl rfl (wk_in kf_X8_60) dX8_came_89 (fun v122 ev122 wv122 => ?_)
            refine m_top (((mm_fr (mm_fr (mm_fr ev2 hp79.1 rfl) hp86.1 rfl) hp88.1 rfl)).trans ev122.symm) ?_
            refine lv_if_ne (tgt := 99) hx hb dX8_came_92 (by decide) (fun c92_123 => ?_) (fun c92_123 => ?_)
            · skip
              replace hW := wfP_i (wfP_l hW) (i_ne c92_123 rfl (rg_i kc_0))
              have ic92_123 : v2.toInt ≠ (0 : Int32).toInt := fun z => c92_123 (Int32.toInt_inj.mp z)
              have y124 : (0 : Int32).toInt = 0 := by decide
              exact absurd (rg_neH c92_123 q78 kc_0 : rg (0) (-1) v2) (fun q => rg_dead q rfl)
            · skip
              replace hW := wfP_i (wfP_r hW) (i_eq c92_123 rfl (rg_i kc_0))
              have ic92_123 := congrArg Int32.toInt c92_123
              have y125 : (0 : Int32).toInt = 0 := by decide
              refine lv_iconst (v := 1) hx hb dX8_came_95 (by decide) ?_
              refine lv_goto (tgt := 100) hx hb dX8_came_96 (by decide) ?_
              refine lv_bipush (v := 81) hx hb dX8_came_100 (by decide) ?_
              refine c_cvU (n := 4) (owner := "CellSwitch$Side") (x0 := ⟨"CellSwitch$Side", "sayCause", "(IIZI)V"⟩) (As := [.int (90 : Int32), .int v1, .int (1 : Int32), .int (81 : Int32)]) (rest := []) x hml L88 10 i0 hal0 rfl (d_ksayCause_10 l X g88 i0 (90 : Int32) v1 (1 : Int32) (81 : Int32) hX (show i0 < Z.n from (by omega)) (rg_w kc_1 rfl) hW) (wk_U kd_X8_sayCause kl_X8_70 km_CellSwitchSide_CellSwitchSide_sayCause ks_X10_CellSwitchSide_X8_sayCause ki_X8_sayCause kn_X8) rfl ⟨rfl, rfl⟩ rfl (by decide +kernel) ⟨Nat.le_of_ble_eq_true rfl, Nat.le_of_ble_eq_true rfl⟩ rfl hl.1 rfl (lv_room (Nat.le_of_ble_eq_true rfl)) dX8_came_102 (fun  g126 H126 k126 hp126 L126 => ?_) hcs
              obtain ⟨hW, hi126, hp126⟩ := hp126
              replace hW := wfP_i hW ⟨hi126, hp126⟩
              refine lv_goto (tgt := 153) hx hb dX8_came_105 (by decide) ?_
              exact k_vret xa L126 hr hlocks (Int.le_refl _) hzl ⟨hW, (mFi.sub (mFi.sub (mFi.sub (mFi.sub mFi.rf hi79 mSub_nil) hi86 mSub_nil) hi88 mSub_nil) hi126 (mSub_any 18 rfl (mSub_any 23 rfl (mSub_any 24 rfl mSub_nil)))), (mFr.tr (mFr.tr (mFr.tr (mFr.tr mFr.rf hp79.1 rfl) hp86.1 rfl) hp88.1 rfl) hp126.1 rfl), (cJ_fr (cJ_fr hp86.2.1 hp88.1 rfl) hp126.1 rfl), (by omega), trivial⟩ hcs.1 hcs.2 dX8_came_153
        · skip
          replace hW := wfP_i (wfP_r hW) (i_eq c60_114 rfl (rg_i kc_5))
          have ic60_114 := congrArg Int32.toInt c60_114
          have y127 : (5 : Int32).toInt = 5 := by decide
          have q128 : rg (5) (5) v113 := (rg_eq c60_114 rv113 kc_5).1
          have uq128 : (5 : Int) ≤ v113.toInt ∧ v113.toInt ≤ 5 := q128
          refine lv_aload_n hx hb dX8_came_63 rfl (lv_at hl 2 rfl) ?_
          refine lv_aload_n hx hb dX8_came_64 rfl (lv_at hl 3 rfl) ?_
          refine lv_iload_n hx hb dX8_came_65 rfl (lv_at hl 4 rfl) ?_
          have y129 := congrArg Int32.toInt (congrFun ((show mFr [] g g88 from (mFr.tr (mFr.tr (mFr.tr mFr.rf hp79.1 rfl) hp86.1 rfl) hp88.1 rfl)).at 291 rfl) (q1))
          refine k_callv xa L88 (k_runU (x := ⟨"CellSwitch$Side", "setupCame", "(LCellSwitch$Signal;I)V"⟩) (As := [.ref (Z.ad 9 q1), .int p2]) (rest := []) ⟨hx, hb, hml, x.2.2.2.2.1, x.2.2.1⟩ (d_ksetupCame_10 l X g88 i0 q1 p2 _ n1 n2 hX (cJ_fr hp86.2.1 hp88.1 rfl) (by omega) (show i0 < Z.n from (by omega)) hq1 (by omega) hW) (va_cwA 2 x.2.2.1 (wk_U (owner := "CellSwitch$Side") kd_X10_setupCame kl_X8_66 km_CellSwitchSide_CellSwitchSide_setupCame ks_X10_CellSwitchSide_X10_setupCame ki_X10_setupCame kn_X10) rfl rfl rfl (x.2.2.2.2.2.2.2.2.2.1.2 _ (List.mem_of_getElem? (i := 1) rfl)) (by decide +kernel) ⟨Nat.le_of_ble_eq_true rfl, Nat.le_of_ble_eq_true rfl⟩) ⟨cPreA.blind, c_recv x L88 hal0 rfl, fun U hU hW => k_pre xa L88 U hU hW⟩ rfl rfl hl.1 rfl (lv_room (Nat.le_of_ble_eq_true rfl)) dX8_came_66 ⟨show 0 + 4 ≤ 4 by omega, show 0 + (36 + n1 + n2) ≤ 36 + n1 + n2 by omega⟩) (fun  Z g130 H130 k130 kc130 kn130 hk130 hn130 hp130 hz130 xa L130 => ?_)
          obtain ⟨hW, hi130, hp130⟩ := hp130
          replace hW := wfP_i (wfP_a (wfP_i (wfP_i hW ⟨hi130, hp130⟩) (cZg_of hz130 hk130 hn130)) Z) rfl
          have hww130 := hp130.2.2.1
          have ea130_0 := hz130.2.2.1 1 v87.toInt.toNat hvv87.2.1 (by omega)
          have ea130_1 := hz130.2.2.1 10 i0 hal0 (by omega)
          have ea130_2 := hz130.2.2.1 9 q1 hq1 (by omega)
          rw [← ea130_0] at hl
          rw [← ea130_1] at hl
          rw [← ea130_2] at hl
          have al130_0 := hz130.2.1 1 v87.toInt.toNat hvv87.2.1
          have al130_1 := hz130.2.1 10 i0 hal0
          have al130_2 := hz130.2.1 9 q1 hq1
          have hZn130 := hz130.1
          have x := xa.1
          have hz := x.2.2.2.2.2.2.2.1
          have hzn := hz.1
          have hzl := cZl.tr hzl hz130
          have hcs : 0 + kc130 ≤ 4 ∧ 0 + kn130 ≤ 36 + n1 + n2 := by omega
          refine lv_goto (tgt := 153) hx hb dX8_came_69 (by decide) ?_
          exact k_vret xa L130 hr hlocks (Int.le_refl _) hzl ⟨hW, (mFi.sub (mFi.sub (mFi.sub (mFi.sub mFi.rf hi79 mSub_nil) hi86 mSub_nil) hi88 mSub_nil) hi130 (mSub_any 0 rfl (mSub_any 1 rfl (mSub_any 2 rfl (mSub_any 3 rfl (mSub_any 4 rfl (mSub_any 5 rfl (mSub_any 6 rfl (mSub_any 7 rfl (mSub_any 8 rfl (mSub_any 9 rfl (mSub_any 10 rfl (mSub_any 11 rfl (mSub_any 12 rfl (mSub_any 13 rfl (mSub_any 14 rfl (mSub_any 15 rfl (mSub_any 16 rfl (mSub_any 17 rfl (mSub_any 18 rfl (mSub_any 19 rfl (mSub_any 20 rfl (mSub_any 21 rfl (mSub_any 22 rfl (mSub_any 23 rfl (mSub_any 24 rfl (mSub_any 25 rfl (mSub_any 26 rfl mSub_nil)))))))))))))))))))))))))))), (mFr.tr (mFr.tr (mFr.tr (mFr.tr mFr.rf hp79.1 rfl) hp86.1 rfl) hp88.1 rfl) hp130.1 rfl), hp130.2.1, (by omega), trivial⟩ hcs.1 hcs.2 dX8_came_153
    · skip
      replace hW := wfP_i (wfP_r hW) (i_lt (rg_nle c22_82) rfl (rg_i kc_0))
      have ic22_82 := Int32.lt_iff_toInt_lt.mp (rg_nle c22_82)
      have q131 : rg (-1) (-1) v80 := (rg_lt (rg_nle c22_82) rv80 kc_0).1
      have uq131 : (-1 : Int) ≤ v80.toInt ∧ v80.toInt ≤ -1 := q131
      refine lv_null hx hb dX8_came_25 ?_
      refine lv_goto (tgt := 40) hx hb dX8_came_26 (by decide) ?_
      refine lv_astoreN (lv' := [(4, .null), (3, .int v80), (0, .ref (Z.ad 10 i0)), (1, .ref (Z.ad 9 q1)), (2, .int p2)]) hx hb dX8_came_40 hl (by decide) rfl (fun ls hl => ?_)
      refine lv_aloadN hx hb dX8_came_42 (lv_at hl 0 rfl) ?_
      refine lv_ifnullN (tgt := 55) hx hb dX8_came_44 (by decide) ?_
      refine lv_aload_n hx hb dX8_came_55 rfl (lv_at hl 3 rfl) ?_
      refine c_geti x L79 9 q1 0 288 hq1 rfl rfl (wk_in kf_X8_63) dX8_came_56 (fun v132 ev132 wv132 => ?_)
      have rv132 : rg (-2147483648) (2147483647) v132 := rg_any v132
      replace hW := (wfP_i (wfP_i (wfP_a hW v132) ev132) rv132)
      have uv132 : (-2147483648 : Int) ≤ v132.toInt ∧ v132.toInt ≤ 2147483647 := rv132
      have sv132 : v132.toInt = (g 288 q1).toInt := congrArg Int32.toInt (ev132.trans (congrFun ((show mFr [32, 33, 34, 35, 36, 37, 38, 39, 40, 41, 42, 43, 44, 45, 46, 47, 48, 49, 198, 323, 384, 385, 386, 832, 864, 1728, 1729] g g79 from (mFr.tr mFr.rf hp79.1 rfl)).at 288 rfl) _))
      refine lv_iconst (v := 5) hx hb dX8_came_59 (by decide) ?_
      refine lv_icmp_ne (tgt := 72) hx hb dX8_came_60 (by decide) (fun c60_133 => ?_) (fun c60_133 => ?_)
      · skip
        replace hW := wfP_i (wfP_l hW) (i_ne c60_133 rfl (rg_i kc_5))
        have ic60_133 : v132.toInt ≠ (5 : Int32).toInt := fun z => c60_133 (Int32.toInt_inj.mp z)
        have y134 : (5 : Int32).toInt = 5 := by decide
        refine lv_aload_n hx hb dX8_came_72 rfl (lv_at hl 3 rfl) ?_
        refine c_geti x L79 9 q1 0 288 hq1 rfl rfl (wk_in kf_X8_63) dX8_came_73 (fun v135 ev135 wv135 => ?_)
        refine m_top ((ev132).trans ev135.symm) ?_
        refine lv_bipush (v := 77) hx hb dX8_came_76 (by decide) ?_
        refine lv_icmp_ne (tgt := 153) hx hb dX8_came_78 (by decide) (fun c78_136 => ?_) (fun c78_136 => ?_)
        · skip
          replace hW := wfP_i (wfP_l hW) (i_ne c78_136 rfl (rg_i kc_77))
          have ic78_136 : v132.toInt ≠ (77 : Int32).toInt := fun z => c78_136 (Int32.toInt_inj.mp z)
          have y137 : (77 : Int32).toInt = 77 := by decide
          exact k_vret xa L79 hr hlocks (Int.le_refl _) hzl ⟨hW, (mFi.sub mFi.rf hi79 mSub_nil), (mFr.tr mFr.rf hp79.1 rfl), hp79.2.2.1, (by omega), trivial⟩ hcs.1 hcs.2 dX8_came_153
        · skip
          replace hW := wfP_i (wfP_r hW) (i_eq c78_136 rfl (rg_i kc_77))
          have ic78_136 := congrArg Int32.toInt c78_136
          have y138 : (77 : Int32).toInt = 77 := by decide
          have q139 : rg (77) (77) v132 := (rg_eq c78_136 rv132 kc_77).1
          have uq139 : (77 : Int) ≤ v132.toInt ∧ v132.toInt ≤ 77 := q139
          refine lv_aload_n hx hb dX8_came_81 rfl (lv_at hl 2 rfl) ?_
          refine lv_bipush (v := 90) hx hb dX8_came_82 (by decide) ?_
          refine lv_aload_n hx hb dX8_came_84 rfl (lv_at hl 3 rfl) ?_
          refine c_geti x L79 9 q1 1 289 hq1 rfl rfl (wk_in kf_X8_57) dX8_came_85 (fun v140 ev140 wv140 => ?_)
          refine m_top (((mm_fr ev1 hp79.1 rfl)).trans ev140.symm) ?_
          refine lv_aload_n hx hb dX8_came_88 rfl (lv_at hl 3 rfl) ?_
          refine c_geti x L79 9 q1 2 290 hq1 rfl rfl (wk_in kf_X8_60) dX8_came_89 (fun v141 ev141 wv141 => ?_)
          refine m_top (((mm_fr ev2 hp79.1 rfl)).trans ev141.symm) ?_
          refine lv_if_ne (tgt := 99) hx hb dX8_came_92 (by decide) (fun c92_142 => ?_) (fun c92_142 => ?_)
          · skip
            replace hW := wfP_i (wfP_l hW) (i_ne c92_142 rfl (rg_i kc_0))
            have ic92_142 : v2.toInt ≠ (0 : Int32).toInt := fun z => c92_142 (Int32.toInt_inj.mp z)
            have y143 : (0 : Int32).toInt = 0 := by decide
            exact absurd (rg_neH c92_142 q78 kc_0 : rg (0) (-1) v2) (fun q => rg_dead q rfl)
          · skip
            replace hW := wfP_i (wfP_r hW) (i_eq c92_142 rfl (rg_i kc_0))
            have ic92_142 := congrArg Int32.toInt c92_142
            have y144 : (0 : Int32).toInt = 0 := by decide
            refine lv_iconst (v := 1) hx hb dX8_came_95 (by decide) ?_
            refine lv_goto (tgt := 100) hx hb dX8_came_96 (by decide) ?_
            refine lv_bipush (v := 81) hx hb dX8_came_100 (by decide) ?_
            refine c_cvU (n := 4) (owner := "CellSwitch$Side") (x0 := ⟨"CellSwitch$Side", "sayCause", "(IIZI)V"⟩) (As := [.int (90 : Int32), .int v1, .int (1 : Int32), .int (81 : Int32)]) (rest := []) x hml L79 10 i0 hal0 rfl (d_ksayCause_10 l X g79 i0 (90 : Int32) v1 (1 : Int32) (81 : Int32) hX (show i0 < Z.n from (by omega)) (rg_w kc_1 rfl) hW) (wk_U kd_X8_sayCause kl_X8_70 km_CellSwitchSide_CellSwitchSide_sayCause ks_X10_CellSwitchSide_X8_sayCause ki_X8_sayCause kn_X8) rfl ⟨rfl, rfl⟩ rfl (by decide +kernel) ⟨Nat.le_of_ble_eq_true rfl, Nat.le_of_ble_eq_true rfl⟩ rfl hl.1 rfl (lv_room (Nat.le_of_ble_eq_true rfl)) dX8_came_102 (fun  g145 H145 k145 hp145 L145 => ?_) hcs
            obtain ⟨hW, hi145, hp145⟩ := hp145
            replace hW := wfP_i hW ⟨hi145, hp145⟩
            refine lv_goto (tgt := 153) hx hb dX8_came_105 (by decide) ?_
            exact k_vret xa L145 hr hlocks (Int.le_refl _) hzl ⟨hW, (mFi.sub (mFi.sub mFi.rf hi79 mSub_nil) hi145 (mSub_any 18 rfl (mSub_any 23 rfl (mSub_any 24 rfl mSub_nil)))), (mFr.tr (mFr.tr mFr.rf hp79.1 rfl) hp145.1 rfl), (cJ_fr hp79.2.2.1 hp145.1 rfl), (by omega), trivial⟩ hcs.1 hcs.2 dX8_came_153
      · skip
        replace hW := wfP_i (wfP_r hW) (i_eq c60_133 rfl (rg_i kc_5))
        have ic60_133 := congrArg Int32.toInt c60_133
        have y146 : (5 : Int32).toInt = 5 := by decide
        have q147 : rg (5) (5) v132 := (rg_eq c60_133 rv132 kc_5).1
        have uq147 : (5 : Int) ≤ v132.toInt ∧ v132.toInt ≤ 5 := q147
        refine lv_aload_n hx hb dX8_came_63 rfl (lv_at hl 2 rfl) ?_
        refine lv_aload_n hx hb dX8_came_64 rfl (lv_at hl 3 rfl) ?_
        refine lv_iload_n hx hb dX8_came_65 rfl (lv_at hl 4 rfl) ?_
        have y148 := congrArg Int32.toInt (congrFun ((show mFr [] g g79 from (mFr.tr mFr.rf hp79.1 rfl)).at 291 rfl) (q1))
        refine k_callv xa L79 (k_runU (x := ⟨"CellSwitch$Side", "setupCame", "(LCellSwitch$Signal;I)V"⟩) (As := [.ref (Z.ad 9 q1), .int p2]) (rest := []) ⟨hx, hb, hml, x.2.2.2.2.1, x.2.2.1⟩ (d_ksetupCame_10 l X g79 i0 q1 p2 _ n1 n2 hX hp79.2.2.1 (by omega) (show i0 < Z.n from (by omega)) hq1 (by omega) hW) (va_cwA 2 x.2.2.1 (wk_U (owner := "CellSwitch$Side") kd_X10_setupCame kl_X8_66 km_CellSwitchSide_CellSwitchSide_setupCame ks_X10_CellSwitchSide_X10_setupCame ki_X10_setupCame kn_X10) rfl rfl rfl (x.2.2.2.2.2.2.2.2.2.1.2 _ (List.mem_of_getElem? (i := 1) rfl)) (by decide +kernel) ⟨Nat.le_of_ble_eq_true rfl, Nat.le_of_ble_eq_true rfl⟩) ⟨cPreA.blind, c_recv x L79 hal0 rfl, fun U hU hW => k_pre xa L79 U hU hW⟩ rfl rfl hl.1 rfl (lv_room (Nat.le_of_ble_eq_true rfl)) dX8_came_66 ⟨show 0 + 4 ≤ 4 by omega, show 0 + (36 + n1 + n2) ≤ 36 + n1 + n2 by omega⟩) (fun  Z g149 H149 k149 kc149 kn149 hk149 hn149 hp149 hz149 xa L149 => ?_)
        obtain ⟨hW, hi149, hp149⟩ := hp149
        replace hW := wfP_i (wfP_a (wfP_i (wfP_i hW ⟨hi149, hp149⟩) (cZg_of hz149 hk149 hn149)) Z) rfl
        have hww149 := hp149.2.2.1
        have ea149_0 := hz149.2.2.1 10 i0 hal0 (by omega)
        have ea149_1 := hz149.2.2.1 9 q1 hq1 (by omega)
        rw [← ea149_0] at hl
        rw [← ea149_1] at hl
        have al149_0 := hz149.2.1 10 i0 hal0
        have al149_1 := hz149.2.1 9 q1 hq1
        have hZn149 := hz149.1
        have x := xa.1
        have hz := x.2.2.2.2.2.2.2.1
        have hzn := hz.1
        have hzl := cZl.tr hzl hz149
        have hcs : 0 + kc149 ≤ 4 ∧ 0 + kn149 ≤ 36 + n1 + n2 := by omega
        refine lv_goto (tgt := 153) hx hb dX8_came_69 (by decide) ?_
        exact k_vret xa L149 hr hlocks (Int.le_refl _) hzl ⟨hW, (mFi.sub (mFi.sub mFi.rf hi79 mSub_nil) hi149 (mSub_any 0 rfl (mSub_any 1 rfl (mSub_any 2 rfl (mSub_any 3 rfl (mSub_any 4 rfl (mSub_any 5 rfl (mSub_any 6 rfl (mSub_any 7 rfl (mSub_any 8 rfl (mSub_any 9 rfl (mSub_any 10 rfl (mSub_any 11 rfl (mSub_any 12 rfl (mSub_any 13 rfl (mSub_any 14 rfl (mSub_any 15 rfl (mSub_any 16 rfl (mSub_any 17 rfl (mSub_any 18 rfl (mSub_any 19 rfl (mSub_any 20 rfl (mSub_any 21 rfl (mSub_any 22 rfl (mSub_any 23 rfl (mSub_any 24 rfl (mSub_any 25 rfl (mSub_any 26 rfl mSub_nil)))))))))))))))))))))))))))), (mFr.tr (mFr.tr mFr.rf hp79.1 rfl) hp149.1 rfl), hp149.2.1, (by omega), trivial⟩ hcs.1 hcs.2 dX8_came_153

def rn_kxcall (n1 : Nat) : Room := { frames := 10, cells := 2, slots := 18 + n1, locals := 230 }
def im_kxcall (i0 : Nat) (p1 : Int32) (p2 : Int32) (p3 : Int32) : List (Nat × Nat × Nat) := [(32, 0, 0), (33, 0, 0), (34, 0, 0), (35, 0, 0), (36, 0, 0), (37, 0, 0), (38, 0, 0), (39, 0, 0), (40, 0, 0), (41, 0, 0), (42, 0, 0), (43, 0, 0), (44, 0, 0), (45, 0, 0), (46, 0, 0), (47, 0, 0), (48, 0, 0), (49, 0, 0), (131, p1.toInt.toNat, 1), (135, p1.toInt.toNat, 1), (198, p1.toInt.toNat, 1), (384, p1.toInt.toNat, 1), (385, p1.toInt.toNat, 1), (386, p1.toInt.toNat, 1), (832, p1.toInt.toNat, 8192), (864, p1.toInt.toNat, 8192), (1536, p1.toInt.toNat, 16777216), (1728, p1.toInt.toNat, 16777216), (1729, p1.toInt.toNat, 1)]
def po_kxcall (Z : cZ) (i0 : Nat) (p1 : Int32) (p2 : Int32) (p3 : Int32) (g : mSt) (r : Int32) (Z1 : cZ) (g1 : mSt) : Prop := mFi (im_kxcall i0 p1 p2 p3) g g1 ∧ mFr [32, 33, 34, 35, 36, 37, 38, 39, 40, 41, 42, 43, 44, 45, 46, 47, 48, 49, 131, 135, 198, 384, 385, 386, 832, 864, 1536, 1728, 1729] g g1 ∧ rg (-2147483648) (2147483647) r ∧ cJ Z1 g1 ∧ Z1.w 2 ≤ Z.w 2 + 1 ∧ True
def wp_kxcall (n1 : Nat) (Z : cZ) (i0 : Nat) (p1 : Int32) (p2 : Int32) (p3 : Int32) (g : mSt) (Φ : Int32 → cZ → mSt → Prop) : Prop :=
  wp_kisEnd Z i0 p1 g (fun (v2 : Int32) (g1 : mSt) => po_kisEnd Z i0 p1 g v2 g1 → ((v2.toInt = 0) → Φ (-1 : Int32) Z g1) ∧ ((v2.toInt ≠ 0) → wp_kisEnd Z i0 p2 g1 (fun (v10 : Int32) (g9 : mSt) => po_kisEnd Z i0 p2 g1 v10 g9 → ((v10.toInt = 0) → Φ (-1 : Int32) Z g9) ∧ ((v10.toInt ≠ 0) → ((p1.toInt = p2.toInt) → Φ (-1 : Int32) Z g9) ∧ ((p1.toInt ≠ p2.toInt) → ((p3.toInt < 1) → Φ (-1 : Int32) Z g9) ∧ ((1 ≤ p3.toInt) → ((p3.toInt ≤ 5) → ∀ (v25 : Int32), v25 = g9 362 i0 → rg (-2147483648) (2147483647) v25 → wp_kaskc n1 Z p1.toInt.toNat p2 p3 v25 g9 (fun (v27 : Int32) (Z_26 : cZ) (g26 : mSt) => po_kaskc Z p1.toInt.toNat p2 p3 v25 g9 v27 Z_26 g26 → cZg Z Z_26 2 (18 + n1) → ∀ Z : cZ, Z = Z_26 → Φ v27 Z g26)) ∧ ((5 < p3.toInt) → Φ (-1 : Int32) Z g9)))))))
set_option maxHeartbeats 4000000 in
set_option maxRecDepth 100000 in
theorem d_kxcall (l : Launch) {G : cG} {Z : cZ} (X : Int) (g : mSt) (i0 : Nat) (p1 : Int32) (p2 : Int32) (p3 : Int32) (sz n1 : Nat) (hX : 0 ≤ X ∧ X ≤ 2000000000) (hJ : cJ Z g) (hw2 : Z.w 2 + 1 ≤ 1000000) (hal0 : Z.al 11 i0) {Φ : Int32 → cZ → mSt → Prop} (hW : wfP (wp_kxcall n1 Z i0 p1 p2 p3 g Φ)) : Met l yX11_call (wk (Cond.code yX11_call cX11_call 4 (some .int))) (rn_kxcall n1) (va_Pc [.ref (Z.ad 11 i0), .int p1, .int p2, .int p3] (cPreA G Z X g sz)) (kE 2 (18 + n1) (cAf Z sz) (cQiA G Z X (fun r Z1 g1 => wfP (Φ r Z1 g1) ∧ mFi (im_kxcall i0 p1 p2 p3) g g1 ∧ (mFr [32, 33, 34, 35, 36, 37, 38, 39, 40, 41, 42, 43, 44, 45, 46, 47, 48, 49, 131, 135, 198, 384, 385, 386, 832, 864, 1536, 1728, 1729] g g1 ∧ rg (-2147483648) (2147483647) r ∧ cJ Z1 g1 ∧ Z1.w 2 ≤ Z.w 2 + 1 ∧ True)))) 2 (18 + n1) (cAf Z sz) := by
  refine Met.ofW (cc := cX11_call) (maxL := 4) (ret := (some .int)) (by decide) rfl ?_
  intro p e s m args below meth c s₁ B hml hv
  obtain ⟨hav, hv⟩ := hv
  have hsz0 := hv.2.1
  subst hsz0
  have hr := B.returns
  have hlocks := B.notSynchronized
  obtain ⟨xa, L⟩ := k_start B rfl (fun w h => wk_in h) hv
  have hent : entryFrame m args 4 = entryFrame m ([.ref (Z.ad 11 i0), .int p1, .int p2, .int p3] : List Value).toArray 4 := by rw [hav]
  rw [hent]
  have hl := lv_entry ([.ref (Z.ad 11 i0), .int p1, .int p2, .int p3]) (n := 4) (Nat.le_of_ble_eq_true rfl)
  rw [lg_entry_eq]
  generalize (lg_sl ([.ref (Z.ad 11 i0), .int p1, .int p2, .int p3]) ++ List.replicate (4 - (lg_sl ([.ref (Z.ad 11 i0), .int p1, .int p2, .int p3])).length) Slot.unset).toArray = ls at hl ⊢
  have hl : lv_has ls 4 [(0, .ref (Z.ad 11 i0)), (1, .int p1), (2, .int p2), (3, .int p3)] := hl
  have x := xa.1
  have hx := x.1
  have hb := x.2.1
  have hz := x.2.2.2.2.2.2.2.1
  have hzn := hz.1
  have hzl : cZl Z Z 0 0 := cZl.rf
  have hcs : 0 ≤ 2 ∧ 0 ≤ 18 + n1 := ⟨Nat.zero_le _, Nat.zero_le _⟩
  have up1 : (-2147483648 : Int) ≤ p1.toInt ∧ p1.toInt ≤ 2147483647 := (rg_any p1)
  have up2 : (-2147483648 : Int) ≤ p2.toInt ∧ p2.toInt ≤ 2147483647 := (rg_any p2)
  have up3 : (-2147483648 : Int) ≤ p3.toInt ∧ p3.toInt ≤ 2147483647 := (rg_any p3)
  refine lv_aload_n hx hb dX11_call_0 rfl (lv_at hl 0 rfl) ?_
  refine lv_iload_n hx hb dX11_call_1 rfl (lv_at hl 1 rfl) ?_
  refine c_ci (As := [.int p1]) (rest := []) x hml L 11 i0 hal0 rfl (d_kisEnd l X g i0 p1 hX hal0 hW) (wk_V kd_X11_isEnd kl_X11_223 ki_X11_isEnd ks_X11_X11_isEnd kn_X11) rfl ⟨rfl, rfl⟩ hd_kisEnd ⟨Nat.le_of_ble_eq_true rfl, Nat.le_of_ble_eq_true rfl⟩ rfl hl.1 rfl (lv_room (Nat.le_of_ble_eq_true rfl)) dX11_call_2 (fun v2 g1 H1 k1 hp1 L1 => ?_) hcs
  obtain ⟨hW, hi1, hp1⟩ := hp1
  replace hW := wfP_i hW ⟨hi1, hp1⟩
  have rv2 : rg (0) (1) v2 := hp1.2.1
  have uv2 : (0 : Int) ≤ v2.toInt ∧ v2.toInt ≤ 1 := rv2
  have hw3 := hp1.2.2
  refine lv_if_eq (tgt := 31) hx hb dX11_call_5 (by decide) (fun c5_4 => ?_) (fun c5_4 => ?_)
  · skip
    replace hW := wfP_i (wfP_l hW) (i_eq c5_4 rfl (rg_i kc_0))
    have ic5_4 := congrArg Int32.toInt c5_4
    have y5 : (0 : Int32).toInt = 0 := by decide
    have q6 : rg (0) (0) v2 := (rg_eq c5_4 rv2 kc_0).1
    have uq6 : (0 : Int) ≤ v2.toInt ∧ v2.toInt ≤ 0 := q6
    refine lv_iconst (v := (-1)) hx hb dX11_call_31 (by decide) ?_
    exact k_iret (v := (-1 : Int32)) xa L1 hr hlocks (Int.le_refl _) hzl ⟨hW, (mFi.sub mFi.rf hi1 mSub_nil), (mFr.tr mFr.rf hp1.1 rfl), rg_w kc_m1 rfl, (cJ_fr hJ hp1.1 rfl), (by omega), trivial⟩ hcs.1 hcs.2 dX11_call_32
  · skip
    replace hW := wfP_i (wfP_r hW) (i_ne c5_4 rfl (rg_i kc_0))
    have ic5_4 : v2.toInt ≠ (0 : Int32).toInt := fun z => c5_4 (Int32.toInt_inj.mp z)
    have y7 : (0 : Int32).toInt = 0 := by decide
    have q8 : rg (1) (1) v2 := rg_neL c5_4 rv2 kc_0
    have uq8 : (1 : Int) ≤ v2.toInt ∧ v2.toInt ≤ 1 := q8
    refine lv_aload_n hx hb dX11_call_8 rfl (lv_at hl 0 rfl) ?_
    refine lv_iload_n hx hb dX11_call_9 rfl (lv_at hl 2 rfl) ?_
    refine c_ci (As := [.int p2]) (rest := []) x hml L1 11 i0 hal0 rfl (d_kisEnd l X g1 i0 p2 hX hal0 hW) (wk_V kd_X11_isEnd kl_X11_223 ki_X11_isEnd ks_X11_X11_isEnd kn_X11) rfl ⟨rfl, rfl⟩ hd_kisEnd ⟨Nat.le_of_ble_eq_true rfl, Nat.le_of_ble_eq_true rfl⟩ rfl hl.1 rfl (lv_room (Nat.le_of_ble_eq_true rfl)) dX11_call_10 (fun v10 g9 H9 k9 hp9 L9 => ?_) hcs
    obtain ⟨hW, hi9, hp9⟩ := hp9
    replace hW := wfP_i hW ⟨hi9, hp9⟩
    have rv10 : rg (0) (1) v10 := hp9.2.1
    have uv10 : (0 : Int) ≤ v10.toInt ∧ v10.toInt ≤ 1 := rv10
    have hw11 := hp9.2.2
    refine lv_if_eq (tgt := 31) hx hb dX11_call_13 (by decide) (fun c13_12 => ?_) (fun c13_12 => ?_)
    · skip
      replace hW := wfP_i (wfP_l hW) (i_eq c13_12 rfl (rg_i kc_0))
      have ic13_12 := congrArg Int32.toInt c13_12
      have y13 : (0 : Int32).toInt = 0 := by decide
      have q14 : rg (0) (0) v10 := (rg_eq c13_12 rv10 kc_0).1
      have uq14 : (0 : Int) ≤ v10.toInt ∧ v10.toInt ≤ 0 := q14
      refine lv_iconst (v := (-1)) hx hb dX11_call_31 (by decide) ?_
      exact k_iret (v := (-1 : Int32)) xa L9 hr hlocks (Int.le_refl _) hzl ⟨hW, (mFi.sub (mFi.sub mFi.rf hi1 mSub_nil) hi9 mSub_nil), (mFr.tr (mFr.tr mFr.rf hp1.1 rfl) hp9.1 rfl), rg_w kc_m1 rfl, (cJ_fr (cJ_fr hJ hp1.1 rfl) hp9.1 rfl), (by omega), trivial⟩ hcs.1 hcs.2 dX11_call_32
    · skip
      replace hW := wfP_i (wfP_r hW) (i_ne c13_12 rfl (rg_i kc_0))
      have ic13_12 : v10.toInt ≠ (0 : Int32).toInt := fun z => c13_12 (Int32.toInt_inj.mp z)
      have y15 : (0 : Int32).toInt = 0 := by decide
      have q16 : rg (1) (1) v10 := rg_neL c13_12 rv10 kc_0
      have uq16 : (1 : Int) ≤ v10.toInt ∧ v10.toInt ≤ 1 := q16
      refine lv_iload_n hx hb dX11_call_16 rfl (lv_at hl 1 rfl) ?_
      refine lv_iload_n hx hb dX11_call_17 rfl (lv_at hl 2 rfl) ?_
      refine lv_icmp_eq (tgt := 31) hx hb dX11_call_18 (by decide) (fun c18_17 => ?_) (fun c18_17 => ?_)
      · skip
        replace hW := wfP_i (wfP_l hW) (i_eq c18_17 rfl rfl)
        have ic18_17 := congrArg Int32.toInt c18_17
        refine lv_iconst (v := (-1)) hx hb dX11_call_31 (by decide) ?_
        exact k_iret (v := (-1 : Int32)) xa L9 hr hlocks (Int.le_refl _) hzl ⟨hW, (mFi.sub (mFi.sub mFi.rf hi1 mSub_nil) hi9 mSub_nil), (mFr.tr (mFr.tr mFr.rf hp1.1 rfl) hp9.1 rfl), rg_w kc_m1 rfl, (cJ_fr (cJ_fr hJ hp1.1 rfl) hp9.1 rfl), (by omega), trivial⟩ hcs.1 hcs.2 dX11_call_32
      · skip
        replace hW := wfP_i (wfP_r hW) (i_ne c18_17 rfl rfl)
        have ic18_17 : p1.toInt ≠ p2.toInt := fun z => c18_17 (Int32.toInt_inj.mp z)
        refine lv_iload_n hx hb dX11_call_21 rfl (lv_at hl 3 rfl) ?_
        refine lv_iconst (v := 1) hx hb dX11_call_22 (by decide) ?_
        refine lv_icmp_lt (tgt := 31) hx hb dX11_call_23 (by decide) (fun c23_18 => ?_) (fun c23_18 => ?_)
        · skip
          replace hW := wfP_i (wfP_l hW) (i_lt c23_18 rfl (rg_i kc_1))
          have ic23_18 := Int32.lt_iff_toInt_lt.mp c23_18
          have q19 : rg (-2147483648) (0) p3 := (rg_lt c23_18 (rg_any p3) kc_1).1
          have uq19 : (-2147483648 : Int) ≤ p3.toInt ∧ p3.toInt ≤ 0 := q19
          refine lv_iconst (v := (-1)) hx hb dX11_call_31 (by decide) ?_
          exact k_iret (v := (-1 : Int32)) xa L9 hr hlocks (Int.le_refl _) hzl ⟨hW, (mFi.sub (mFi.sub mFi.rf hi1 mSub_nil) hi9 mSub_nil), (mFr.tr (mFr.tr mFr.rf hp1.1 rfl) hp9.1 rfl), rg_w kc_m1 rfl, (cJ_fr (cJ_fr hJ hp1.1 rfl) hp9.1 rfl), (by omega), trivial⟩ hcs.1 hcs.2 dX11_call_32
        · skip
          replace hW := wfP_i (wfP_r hW) (i_le (rg_nlt c23_18) (rg_i kc_1) rfl)
          have ic23_18 := Int32.le_iff_toInt_le.mp (rg_nlt c23_18)
          have q20 : rg (1) (2147483647) p3 := (rg_le (rg_nlt c23_18) kc_1 (rg_any p3)).2
          have uq20 : (1 : Int) ≤ p3.toInt ∧ p3.toInt ≤ 2147483647 := q20
          refine lv_iload_n hx hb dX11_call_26 rfl (lv_at hl 3 rfl) ?_
          refine lv_iconst (v := 5) hx hb dX11_call_27 (by decide) ?_
          refine lv_icmp_le (tgt := 33) hx hb dX11_call_28 (by decide) (fun c28_21 => ?_) (fun c28_21 => ?_)
          · skip
            replace hW := wfP_i (wfP_l hW) (i_le c28_21 rfl (rg_i kc_5))
            have ic28_21 := Int32.le_iff_toInt_le.mp c28_21
            have q22 : rg (1) (5) p3 := (rg_le c28_21 q20 kc_5).1
            have uq22 : (1 : Int) ≤ p3.toInt ∧ p3.toInt ≤ 5 := q22
            refine lv_aload_n hx hb dX11_call_33 rfl (lv_at hl 0 rfl) ?_
            have al23 : Z.al 51 0 := hz.2 51 0 (show 0 < 1 from (by omega))
            refine c_getr (a := Z.ad 51 0) x L9 11 i0 2 hal0 rfl rfl (wk_in kf_X11_63) dX11_call_34 ?_
            refine lv_iload_n hx hb dX11_call_37 rfl (lv_at hl 1 rfl) ?_
            refine c_ldr (a := Z.ad 4 p1.toInt.toNat) x L9 51 0 al23 rfl (by omega) (show p1.toInt < ((Z.n : Nat) : Int) from (by omega)) rfl dX11_call_38 ?_
            have al24 : Z.al 4 p1.toInt.toNat := hz.2 4 p1.toInt.toNat (show p1.toInt.toNat < Z.n from (by omega))
            refine lv_iload_n hx hb dX11_call_39 rfl (lv_at hl 2 rfl) ?_
            refine lv_iload_n hx hb dX11_call_40 rfl (lv_at hl 3 rfl) ?_
            refine lv_aload_n hx hb dX11_call_41 rfl (lv_at hl 0 rfl) ?_
            refine c_geti x L9 11 i0 10 362 hal0 rfl rfl (wk_in kf_X11_82) dX11_call_42 (fun v25 ev25 wv25 => ?_)
            have rv25 : rg (-2147483648) (2147483647) v25 := rg_any v25
            replace hW := (wfP_i (wfP_i (wfP_a hW v25) ev25) rv25)
            have uv25 : (-2147483648 : Int) ≤ v25.toInt ∧ v25.toInt ≤ 2147483647 := rv25
            have sv25 : v25.toInt = (g 362 i0).toInt := congrArg Int32.toInt (ev25.trans (congrFun ((show mFr [32, 33, 34, 35, 36, 37, 38, 39, 40, 41, 42, 43, 44, 45, 46, 47, 48, 49, 131, 135, 198, 384, 385, 386, 832, 864, 1536, 1728, 1729] g g9 from (mFr.tr (mFr.tr mFr.rf hp1.1 rfl) hp9.1 rfl)).at 362 rfl) _))
            refine k_calli xa L9 (k_runV (As := [.int p2, .int p3, .int v25]) (rest := []) ⟨hx, hb, hml, x.2.2.2.2.1, x.2.2.1⟩ (d_kaskc l X g9 p1.toInt.toNat p2 p3 v25 _ n1 hX (cJ_fr (cJ_fr hJ hp1.1 rfl) hp9.1 rfl) (by omega) (show p1.toInt.toNat < Z.n from (by omega)) hW) (cwV 3 x.2.2.1 (wk_V kd_X4_ask kl_X11_226 ki_X4_ask ks_X4_X4_ask kn_X4) rfl rfl rfl hd_kaskc ⟨Nat.le_of_ble_eq_true rfl, Nat.le_of_ble_eq_true rfl⟩) ⟨cPreA.blind, c_recv x L9 al24 rfl, fun U hU hW => k_pre xa L9 U hU hW⟩ rfl rfl hl.1 rfl (lv_room (Nat.le_of_ble_eq_true rfl)) dX11_call_45 ⟨show 0 + 2 ≤ 2 by omega, show 0 + (18 + n1) ≤ 18 + n1 by omega⟩) (fun v27 Z g26 H26 k26 kc26 kn26 hk26 hn26 hp26 hz26 xa L26 => ?_)
            obtain ⟨hW, hi26, hp26⟩ := hp26
            replace hW := wfP_i (wfP_a (wfP_i (wfP_i hW ⟨hi26, hp26⟩) (cZg_of hz26 hk26 hn26)) Z) rfl
            have rv27 : rg (-2147483648) (2147483647) v27 := hp26.2.1
            have uv27 : (-2147483648 : Int) ≤ v27.toInt ∧ v27.toInt ≤ 2147483647 := rv27
            have hww26 := hp26.2.2.2.1
            have ea26_0 := hz26.2.2.1 11 i0 hal0 (by omega)
            rw [← ea26_0] at hl
            have al26_0 := hz26.2.1 11 i0 hal0
            have hZn26 := hz26.1
            have x := xa.1
            have hz := x.2.2.2.2.2.2.2.1
            have hzn := hz.1
            have hzl := cZl.tr hzl hz26
            have hcs : 0 + kc26 ≤ 2 ∧ 0 + kn26 ≤ 18 + n1 := by omega
            exact k_iret (v := v27) xa L26 hr hlocks (Int.le_refl _) hzl ⟨hW, (mFi.sub (mFi.sub (mFi.sub mFi.rf hi1 mSub_nil) hi9 mSub_nil) hi26 (mSub_any 0 rfl (mSub_any 1 rfl (mSub_any 2 rfl (mSub_any 3 rfl (mSub_any 4 rfl (mSub_any 5 rfl (mSub_any 6 rfl (mSub_any 7 rfl (mSub_any 8 rfl (mSub_any 9 rfl (mSub_any 10 rfl (mSub_any 11 rfl (mSub_any 12 rfl (mSub_any 13 rfl (mSub_any 14 rfl (mSub_any 15 rfl (mSub_any 16 rfl (mSub_any 17 rfl (mSub_eq 18 rfl (mSub_eq 19 rfl (mSub_eq 20 rfl (mSub_eq 21 rfl (mSub_eq 22 rfl (mSub_eq 23 rfl (mSub_eq 24 rfl (mSub_eq 25 rfl (mSub_eq 26 rfl (mSub_eq 27 rfl (mSub_eq 28 rfl mSub_nil)))))))))))))))))))))))))))))), (mFr.tr (mFr.tr (mFr.tr mFr.rf hp1.1 rfl) hp9.1 rfl) hp26.1 rfl), rg_w rv27 rfl, hp26.2.2.1, (by omega), trivial⟩ hcs.1 hcs.2 dX11_call_48
          · skip
            replace hW := wfP_i (wfP_r hW) (i_lt (rg_nle c28_21) (rg_i kc_5) rfl)
            have ic28_21 := Int32.lt_iff_toInt_lt.mp (rg_nle c28_21)
            have q28 : rg (6) (2147483647) p3 := (rg_lt (rg_nle c28_21) kc_5 q20).2
            have uq28 : (6 : Int) ≤ p3.toInt ∧ p3.toInt ≤ 2147483647 := q28
            refine lv_iconst (v := (-1)) hx hb dX11_call_31 (by decide) ?_
            exact k_iret (v := (-1 : Int32)) xa L9 hr hlocks (Int.le_refl _) hzl ⟨hW, (mFi.sub (mFi.sub mFi.rf hi1 mSub_nil) hi9 mSub_nil), (mFr.tr (mFr.tr mFr.rf hp1.1 rfl) hp9.1 rfl), rg_w kc_m1 rfl, (cJ_fr (cJ_fr hJ hp1.1 rfl) hp9.1 rfl), (by omega), trivial⟩ hcs.1 hcs.2 dX11_call_32
