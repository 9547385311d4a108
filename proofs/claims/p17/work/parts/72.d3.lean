def im_ksendData (Z : cZ) (i0 : Nat) (p1 : Int32) : List (Nat × Nat × Nat) := [(67, (2 * (cOut Z.n i0)), 1), (108, (cOut Z.n i0), 1), (111, (cOut Z.n i0), 1), (179, i0, 1), (544, (2 * (cOut Z.n i0)), 8192), (576, (2 * (cOut Z.n i0)), 8192), (768, (cOut Z.n i0), 8192), (1312, (2 * i0), 8192), (1344, (2 * i0), 8192)]
def po_ksendData (Z : cZ) (i0 : Nat) (p1 : Int32) (g : mSt) (r : Int32) (g1 : mSt) : Prop := mFi (im_ksendData Z i0 p1) g g1 ∧ mFr [67, 108, 111, 179, 544, 576, 768, 1312, 1344] g g1 ∧ rg (0) (1) r ∧ True
def wp_ksendData (Z : cZ) (i0 : Nat) (p1 : Int32) (g : mSt) (Φ : Int32 → mSt → Prop) : Prop :=
  ∀ (v1 : Int32), v1 = p1 - p1 / (8 : Int32) * (8 : Int32) → rg (0) (7) v1 → v1.toInt = p1.toInt % 8 → ∀ (v4 : Int32), v4 = g 168 i0 → rg (-2147483648) (2147483647) v4 → ∀ (g5 : mSt), g5 = up2 g 1312 (8192 * (2 * i0) + v1.toNatClampNeg) v4 → ∀ (g7 : mSt), g7 = up2 g5 1344 (8192 * (2 * i0) + v1.toNatClampNeg) (0 : Int32) → ∀ (v8 : Int32), v8 = g7 179 i0 → rg (-2147483648) (2147483647) v8 → ∀ (v9 : Int32), v9 = v8 + (1 : Int32) → rg (-2147483648) (2147483647) v9 → ∀ (g10 : mSt), g10 = up2 g7 179 i0 v9 → ∀ (v14 : Int32), v14 = v1 * (60 : Int32) → rg (0) (420) v14 → v14.toInt = v1.toInt * 60 → ∀ (v16 : Int32), v16 = g10 1280 (8192 * (2 * i0) + v1.toNatClampNeg) → rg (0) (60) v16 → wp_krow_39 Z (cOut Z.n i0) (2 * i0) v14 v16 g10 (fun (_ : Int32) (g17 : mSt) => po_krow_39 Z (cOut Z.n i0) (2 * i0) v14 v16 g10 0 g17 → wp_ksendUnit Z (cOut Z.n i0) (8 : Int32) p1 g17 (fun (_ : Int32) (g18 : mSt) => po_ksendUnit Z (cOut Z.n i0) (8 : Int32) p1 g17 0 g18 → ∃ P21 : Int32 → mSt → Prop, (∀ (b88_0_20 : Int32) (g21 : mSt), mFr [] g18 g21 → mFi (im_ksendData Z i0 p1) g18 g21 → rg (0) (1) b88_0_20 → P21 b88_0_20 g21 → Φ b88_0_20 g21) ∧ ((v9.toInt < 5) → P21 (0 : Int32) g18) ∧ ((5 ≤ v9.toInt) → P21 (1 : Int32) g18)))
set_option maxHeartbeats 4000000 in
set_option maxRecDepth 100000 in
theorem v_ksendData {p : Program} {l : Launch} {e : Env} {s : State} {m : MethodId} {args : Array Value} {below : List Frame} {meth : Method} {c : Code} {H : Heap} {locs : List Loc} {Q : State → Prop} {ls : Array Slot} {G : cG} {Z : cZ} {A : Nat → Prop} {g : mSt} {H0 : Heap} {X : Int} (x : cX p c cX5_sendData s args (wk (Cond.code yX5_sendData cX5_sendData 3 (some .boolean))) m G Z A RX5 H0) (hml : c.maxLocals = 3) (L : cL G Z A H0 X g H locs) (hX : 0 ≤ X ∧ X ≤ 2000000000) (i0 : Nat) (p1 : Int32) (hi0 : i0 < 2 * Z.n) (rp1 : rg (0) (16777223) p1) {Φ : Int32 → mSt → Prop} (hW : wfP (wp_ksendData Z i0 p1 g Φ)) (hl : lv_has ls 3 [(0, .ref (Z.ad 5 i0)), (1, .int p1)]) (hQ : ∀ (pc' : Nat) (ls' : Array Slot) (r : Int32) (g1 : mSt) (H1 : Heap) (locs1 : List Loc), decode cX5_sendData pc' = .ok (.ireturn, 1) → cL G Z A H0 X g1 H1 locs1 → (wfP (Φ r g1) ∧ mFi (im_ksendData Z i0 p1) g g1 ∧ (mFr [67, 108, 111, 179, 544, 576, 768, 1312, 1344] g g1 ∧ rg (0) (1) r ∧ True)) → W p l e rm_ksendData s m args below meth c H1 locs1 0 0 Q (F0 m pc' ls' [.int r])) : W p l e rm_ksendData s m args below meth c H locs 0 0 Q (F0 m 0 ls []) := by
  have hx := x.1
  have hb := x.2.1
  have hz := x.2.2.2.2.2.2.2.1
  have hzn := hz.1
  have hal0 : Z.al 5 i0 := hz.2 5 i0 (show i0 < 2 * Z.n from hi0)
  refine lv_iload_n hx hb dX5_sendData_0 rfl (lv_at hl 1 rfl) ?_
  refine lv_bipush (v := 8) hx hb dX5_sendData_1 (by decide) ?_
  refine lv_irem hx hb dX5_sendData_3 (by decide) ?_
  refine lv_topi (fun v1 ev1 => ?_)
  have rv1 : rg (0) (7) v1 := (rg_rem ev1 rp1 kc_8 rfl).1
  replace hW := (wfP_i (wfP_i (wfP_i (wfP_a hW v1) ev1) rv1) ((rg_rem ev1 rp1 kc_8 rfl).2))
  refine lv_istore_n (lv' := [(2, .int v1), (0, .ref (Z.ad 5 i0)), (1, .int p1)]) hx hb dX5_sendData_4 rfl hl (by decide) rfl (fun ls hl => ?_)
  refine lv_aload_n hx hb dX5_sendData_5 rfl (lv_at hl 1 rfl) ?_
  have al2 : Z.al 13 (2 * i0) := hz.2 13 (2 * i0) (show (2 * i0) < 4 * Z.n from (by omega))
  refine c_getr (a := Z.ad 13 (2 * i0)) x L 5 i0 2 hal0 rfl rfl (wk_in kf_X5_20) dX5_sendData_6 ?_
  have al3 : Z.al 41 (2 * i0) := hz.2 41 (2 * i0) (show (2 * i0) < 4 * Z.n from (by omega))
  refine c_getr (a := Z.ad 41 (2 * i0)) x L 13 (2 * i0) 3 al2 rfl rfl (wk_in kf_X5_136) dX5_sendData_9 ?_
  refine lv_iload_n hx hb dX5_sendData_12 rfl (lv_at hl 0 rfl) ?_
  refine lv_aload_n hx hb dX5_sendData_13 rfl (lv_at hl 1 rfl) ?_
  refine c_geti x L 5 i0 8 168 hal0 rfl rfl (wk_in kf_X5_43) dX5_sendData_14 (fun v4 ev4 wv4 => ?_)
  have rv4 : rg (-2147483648) (2147483647) v4 := rg_any v4
  replace hW := (wfP_i (wfP_i (wfP_a hW v4) ev4) rv4)
  refine c_st x L 41 (2 * i0) 1312 al3 rfl rfl rv1 rfl (rg_any v4) dX5_sendData_17 (fun g5 H5 k5 eg5 L5 => ?_)
  replace hW := (wfP_i (wfP_a hW g5) eg5)
  refine lv_aload_n hx hb dX5_sendData_18 rfl (lv_at hl 1 rfl) ?_
  refine c_getr (a := Z.ad 13 (2 * i0)) x L5 5 i0 2 hal0 rfl rfl (wk_in kf_X5_20) dX5_sendData_19 ?_
  have al6 : Z.al 42 (2 * i0) := hz.2 42 (2 * i0) (show (2 * i0) < 4 * Z.n from (by omega))
  refine c_getr (a := Z.ad 42 (2 * i0)) x L5 13 (2 * i0) 4 al2 rfl rfl (wk_in kf_X5_115) dX5_sendData_22 ?_
  refine lv_iload_n hx hb dX5_sendData_25 rfl (lv_at hl 0 rfl) ?_
  refine lv_iconst (v := 0) hx hb dX5_sendData_26 (by decide) ?_
  refine c_stz x L5 42 (2 * i0) 1344 al6 rfl rfl rv1 rfl (rg_w kc_0 rfl) (crj_1344 (rg_w kc_0 rfl)) dX5_sendData_27 (fun g7 H7 k7 eg7 L7 => ?_)
  replace hW := (wfP_i (wfP_a hW g7) eg7)
  refine lv_aload_n hx hb dX5_sendData_28 rfl (lv_at hl 1 rfl) ?_
  refine lv_dup hx hb dX5_sendData_29 rfl ?_
  refine c_geti x L7 5 i0 19 179 hal0 rfl rfl (wk_in kf_X5_69) dX5_sendData_30 (fun v8 ev8 wv8 => ?_)
  have rv8 : rg (-2147483648) (2147483647) v8 := rg_any v8
  replace hW := (wfP_i (wfP_i (wfP_a hW v8) ev8) rv8)
  refine lv_iconst (v := 1) hx hb dX5_sendData_33 (by decide) ?_
  refine lv_iadd hx hb dX5_sendData_34 ?_
  refine lv_topi (fun v9 ev9 => ?_)
  have rv9 : rg (-2147483648) (2147483647) v9 := rg_any v9
  replace hW := (wfP_i (wfP_i (wfP_a hW v9) ev9) rv9)
  refine c_puti x L7 5 i0 19 179 hal0 rfl rfl ⟨rfl, by decide +kernel⟩ (wk_in kf_X5_69) dX5_sendData_35 (rg_any v9) (fun g10 H10 k10 eg10 L10 => ?_)
  replace hW := (wfP_i (wfP_a hW g10) eg10)
  refine lv_aload_n hx hb dX5_sendData_38 rfl (lv_at hl 1 rfl) ?_
  have ho11 := cOut_lt (n := Z.n) (i := i0) (by omega)
  have al12 : Z.al 3 (cOut Z.n i0) := hz.2 3 (cOut Z.n i0) (show (cOut Z.n i0) < 2 * Z.n from (by omega))
  refine c_getr (a := Z.ad 3 (cOut Z.n i0)) x L10 5 i0 0 hal0 rfl rfl (wk_in kf_X5_30) dX5_sendData_39 ?_
  refine lv_aload_n hx hb dX5_sendData_42 rfl (lv_at hl 1 rfl) ?_
  refine c_getr (a := Z.ad 13 (2 * i0)) x L10 5 i0 2 hal0 rfl rfl (wk_in kf_X5_20) dX5_sendData_43 ?_
  have al13 : Z.al 39 (2 * i0) := hz.2 39 (2 * i0) (show (2 * i0) < 4 * Z.n from (by omega))
  refine c_getr (a := Z.ad 39 (2 * i0)) x L10 13 (2 * i0) 1 al2 rfl rfl (wk_in kf_X5_126) dX5_sendData_46 ?_
  refine lv_iload_n hx hb dX5_sendData_49 rfl (lv_at hl 0 rfl) ?_
  refine lv_bipush (v := 60) hx hb dX5_sendData_50 (by decide) ?_
  refine lv_imul hx hb dX5_sendData_52 ?_
  refine lv_topi (fun v14 ev14 => ?_)
  have rv14 : rg (0) (420) v14 := (rg_mul ev14 rv1 kc_60 rfl).1
  replace hW := (wfP_i (wfP_i (wfP_i (wfP_a hW v14) ev14) rv14) ((rg_mul ev14 rv1 kc_60 rfl).2))
  refine lv_aload_n hx hb dX5_sendData_53 rfl (lv_at hl 1 rfl) ?_
  refine c_getr (a := Z.ad 13 (2 * i0)) x L10 5 i0 2 hal0 rfl rfl (wk_in kf_X5_20) dX5_sendData_54 ?_
  have al15 : Z.al 40 (2 * i0) := hz.2 40 (2 * i0) (show (2 * i0) < 4 * Z.n from (by omega))
  refine c_getr (a := Z.ad 40 (2 * i0)) x L10 13 (2 * i0) 2 al2 rfl rfl (wk_in kf_X5_65) dX5_sendData_57 ?_
  refine lv_iload_n hx hb dX5_sendData_60 rfl (lv_at hl 0 rfl) ?_
  refine c_ld x L10 40 (2 * i0) 1280 al15 rfl rfl rv1 rfl dX5_sendData_61 (fun v16 ev16 wv16 => ?_)
  have rv16 : rg (0) (60) v16 := clj_1280 wv16
  replace hW := (wfP_i (wfP_i (wfP_a hW v16) ev16) rv16)
  refine c_cv (As := [.ref (Z.ad 39 (2 * i0)), .int v14, .int v16]) (rest := []) x hml L10 3 (cOut Z.n i0) al12 rfl (d_krow_39 l X g10 (cOut Z.n i0) (2 * i0) v14 v16 hX (show (cOut Z.n i0) < 2 * Z.n from (by omega)) al13 (rg_w rv14 rfl) (rg_w rv16 rfl) hW) (wk_V kd_X3_row kl_X5_139 ki_X3_row ks_X3_X3_row kn_X3) rfl ⟨rfl, rfl⟩ hd_krow_39 ⟨Nat.le_of_ble_eq_true rfl, Nat.le_of_ble_eq_true rfl⟩ rfl hl.1 rfl (lv_room (Nat.le_of_ble_eq_true rfl)) dX5_sendData_62 (fun  g17 H17 k17 hp17 L17 => ?_)
  obtain ⟨hW, hi17, hp17⟩ := hp17
  replace hW := wfP_i hW ⟨hi17, hp17⟩
  refine lv_aload_n hx hb dX5_sendData_65 rfl (lv_at hl 1 rfl) ?_
  refine c_getr (a := Z.ad 3 (cOut Z.n i0)) x L17 5 i0 0 hal0 rfl rfl (wk_in kf_X5_30) dX5_sendData_66 ?_
  refine lv_bipush (v := 8) hx hb dX5_sendData_69 (by decide) ?_
  refine lv_iload_n hx hb dX5_sendData_71 rfl (lv_at hl 2 rfl) ?_
  refine c_cv (As := [.int (8 : Int32), .int p1]) (rest := []) x hml L17 3 (cOut Z.n i0) al12 rfl (d_ksendUnit l X g17 (cOut Z.n i0) (8 : Int32) p1 hX (show (cOut Z.n i0) < 2 * Z.n from (by omega)) hW) (wk_V kd_X3_sendUnit kl_X5_96 ki_X3_sendUnit ks_X3_X3_sendUnit kn_X3) rfl ⟨rfl, rfl⟩ hd_ksendUnit ⟨Nat.le_of_ble_eq_true rfl, Nat.le_of_ble_eq_true rfl⟩ rfl hl.1 rfl (lv_room (Nat.le_of_ble_eq_true rfl)) dX5_sendData_72 (fun  g18 H18 k18 hp18 L18 => ?_)
  obtain ⟨hW, hi18, hp18⟩ := hp18
  replace hW := wfP_i hW ⟨hi18, hp18⟩
  refine lv_aload_n hx hb dX5_sendData_75 rfl (lv_at hl 1 rfl) ?_
  refine c_geti x L18 5 i0 19 179 hal0 rfl rfl (wk_in kf_X5_69) dX5_sendData_76 (fun v19 ev19 wv19 => ?_)
  refine m_top (((mm_fr (mm_fr (mm_st eg10) hp17.1 rfl) hp18.1 rfl)).trans ev19.symm) ?_
  refine lv_iconst (v := 5) hx hb dX5_sendData_79 (by decide) ?_
  obtain ⟨P21, hP21, hW⟩ := wfP_ex hW
  have j88_21 : ∀ (b88_0_20 : Int32) (g21 : mSt) (H21 : Heap) (k21 : List Loc) (ls : Array Slot), mFr [] g18 g21 → cL G Z A H0 X g21 H21 k21 → rg (0) (1) b88_0_20 → mFi (im_ksendData Z i0 p1) g18 g21 → wfP (P21 b88_0_20 g21) → lv_has ls 3 [(0, .ref (Z.ad 5 i0))] → W p l e rm_ksendData s m args below meth c H21 k21 0 0 Q (F0 m 88 ls [.int b88_0_20]) := by
    intro b88_0_20 g21 H21 k21 ls hF21 L21 rb88_0_20 hI21 hW hl
    replace hW := wfP_i (wfP_i (wfP_i (wfP_i (wfP_a (wfP_a hP21 b88_0_20) g21) hF21) hI21) rb88_0_20) hW
    exact hQ _ _ b88_0_20 _ _ _ dX5_sendData_88 L21 ⟨hW, (mFi.tr (mFi.sub (mFi.sub (mFi.up (mFi.up (mFi.up mFi.rf eg5 (mIn_at 7 rfl (Or.inr (mIx rv1 rfl)))) eg7 (mIn_at 8 rfl (Or.inr (mIx rv1 rfl)))) eg10 (mIn_at 3 rfl (Or.inr (Nat.div_one _)))) hi17 (mSub_eq 2 rfl (mSub_eq 6 rfl mSub_nil))) hi18 (mSub_eq 0 rfl (mSub_eq 1 rfl (mSub_eq 2 rfl (mSub_eq 4 rfl (mSub_eq 5 rfl (mSub_eq 6 rfl mSub_nil))))))) hI21), (mFr.tr (mFr.tr (mFr.tr (mFr.upE (mFr.upE (mFr.upE mFr.rf eg5 rfl) eg7 rfl) eg10 rfl) hp17.1 rfl) hp18.1 rfl) hF21 rfl), rg_w rb88_0_20 rfl, trivial⟩
  refine lv_icmp_lt (tgt := 87) hx hb dX5_sendData_80 (by decide) (fun c80_22 => ?_) (fun c80_22 => ?_)
  · skip
    replace hW := wfP_i (wfP_l hW) (i_lt c80_22 rfl (rg_i kc_5))
    have q23 : rg (-2147483648) (4) v9 := (rg_lt c80_22 rv9 kc_5).1
    refine lv_iconst (v := 0) hx hb dX5_sendData_87 (by decide) ?_
    exact j88_21 (0 : Int32) g18 _ _ ls mFr.rf L18 (rg_w kc_0 rfl) mFi.rf hW (lv_sub hl [1] rfl)
  · skip
    replace hW := wfP_i (wfP_r hW) (i_le (rg_nlt c80_22) (rg_i kc_5) rfl)
    have q24 : rg (5) (2147483647) v9 := (rg_le (rg_nlt c80_22) kc_5 rv9).2
    refine lv_iconst (v := 1) hx hb dX5_sendData_83 (by decide) ?_
    refine lv_goto (tgt := 88) hx hb dX5_sendData_84 (by decide) ?_
    exact j88_21 (1 : Int32) g18 _ _ ls mFr.rf L18 (rg_w kc_1 rfl) mFi.rf hW (lv_sub hl [1] rfl)
theorem d_ksendData (l : Launch) {G : cG} {Z : cZ} (X : Int) (g : mSt) (i0 : Nat) (p1 : Int32) (hX : 0 ≤ X ∧ X ≤ 2000000000) (hi0 : i0 < 2 * Z.n) (rp1 : rg (0) (16777223) p1) {Φ : Int32 → mSt → Prop} (hW : wfP (wp_ksendData Z i0 p1 g Φ)) : Met l yX5_sendData (wk (Cond.code yX5_sendData cX5_sendData 3 (some .boolean))) rm_ksendData (va_Pc [.ref (Z.ad 5 i0), .int p1] (cPre G Z X g)) (cQi G Z X (fun r g1 => wfP (Φ r g1) ∧ mFi (im_ksendData Z i0 p1) g g1 ∧ (mFr [67, 108, 111, 179, 544, 576, 768, 1312, 1344] g g1 ∧ rg (0) (1) r ∧ True))) 0 0 (cAd Z) := by
  refine Met.ofW (cc := cX5_sendData) (maxL := 3) (ret := (some .boolean)) (by decide) rfl ?_
  intro p e s m args below meth c s₁ B hml hv
  obtain ⟨rfl, hv⟩ := hv
  have hr := B.returns
  have hlocks := B.notSynchronized
  obtain ⟨x, L⟩ := c_start B rfl (fun w h => wk_in h) hv
  have hl := lv_entry ([.ref (Z.ad 5 i0), .int p1]) (n := 3) (Nat.le_of_ble_eq_true rfl)
  rw [lg_entry_eq]
  generalize (lg_sl ([.ref (Z.ad 5 i0), .int p1]) ++ List.replicate (3 - (lg_sl ([.ref (Z.ad 5 i0), .int p1])).length) Slot.unset).toArray = ls at hl ⊢
  exact v_ksendData x hml L hX i0 p1 hi0 rp1 hW hl (fun pc' ls' r g1 H1 locs1 hdg L hp => c_zret x L hr hlocks (nar01 (rg_w hp.2.2.2.1 rfl)) (Int.le_refl _) hp hdg)

def im_kturn (Z : cZ) (i0 : Nat) (p1 : Int32) : List (Nat × Nat × Nat) := [(67, (2 * (cOut Z.n i0)), 1), (108, (cOut Z.n i0), 1), (111, (cOut Z.n i0), 1), (164, i0, 1), (165, i0, 1), (168, i0, 1), (173, i0, 1), (176, i0, 1), (177, i0, 1), (178, i0, 1), (179, i0, 1), (197, i0, 1), (198, i0, 1), (544, (2 * (cOut Z.n i0)), 8192), (576, (2 * (cOut Z.n i0)), 8192), (768, (cOut Z.n i0), 8192), (1248, (2 * i0), 8192), (1280, (2 * i0), 8192), (1312, (2 * i0), 8192), (1344, (2 * i0), 8192)]
def po_kturn (Z : cZ) (i0 : Nat) (p1 : Int32) (g : mSt) (r : Int32) (g1 : mSt) : Prop := mFi (im_kturn Z i0 p1) g g1 ∧ mFr [67, 108, 111, 164, 165, 168, 173, 176, 177, 178, 179, 197, 198, 544, 576, 768, 1248, 1280, 1312, 1344] g g1 ∧ True
def wp_kturn (Z : cZ) (i0 : Nat) (p1 : Int32) (g : mSt) (Φ : Int32 → mSt → Prop) : Prop :=
  ∀ (v1 : Int32), v1 = g 164 i0 → rg (0) (4) v1 → ∃ P2 : mSt → Prop, (∀ (g2 : mSt), mFr [67, 108, 111, 164, 173, 176, 177, 178, 544, 576, 768] g g2 → mFi (im_kturn Z i0 p1) g g2 → P2 g2 → ∀ (v3 : Int32), v3 = g2 164 i0 → rg (0) (4) v3 → ((v3.toInt = 2) → ∀ (v7 : Int32), v7 = g2 166 i0 → rg (0) (16777215) v7 → ∃ P9 : Int32 → mSt → Prop, (∀ (a38_2_8 : Int32) (g9 : mSt), mFr [67, 108, 111, 168, 178, 179, 544, 576, 768, 1312, 1344] g2 g9 → mFi (im_kturn Z i0 p1) g2 g9 → rg (0) (2000000000) a38_2_8 → P9 a38_2_8 g9 → ∀ (v10 : Int32), v10 = g9 165 i0 → rg (0) (16777223) v10 → ((v10.toInt ≤ a38_2_8.toInt) → ∃ P13 : Int32 → mSt → Prop, (∀ (a82_2_12 : Int32) (g13 : mSt), mFr [67, 108, 111, 165, 168, 178, 179, 197, 198, 544, 576, 768, 1248, 1280, 1312, 1344] g9 g13 → mFi (im_kturn Z i0 p1) g9 g13 → rg (0) (10) a82_2_12 → P13 a82_2_12 g13 → ∃ P14 : mSt → Prop, (∀ (g14 : mSt), mFr [] g13 g14 → mFi (im_kturn Z i0 p1) g13 g14 → P14 g14 → Φ 0 g14) ∧ ((10 ≤ a82_2_12.toInt) → P14 g13) ∧ ((a82_2_12.toInt < 10) → ∀ (v19 : Int32), v19 = g13 198 i0 → rg (0) (10) v19 → ((v19.toInt ≤ 0) → P14 g13) ∧ ((0 < v19.toInt) → ∀ (v23 : Int32), v23 = g13 165 i0 → rg (0) (16777223) v23 → ∀ (v24 : Int32), v24 = g13 167 i0 → rg (0) (16777223) v24 → ((v24.toInt ≤ v23.toInt) → P14 g13) ∧ ((v23.toInt < v24.toInt) → ∀ (v30 : Int32), v30 = v23 - v7 → rg (-16777215) (16777222) v30 → v30.toInt = v23.toInt - v7.toInt → ((8 ≤ v30.toInt) → P14 g13) ∧ ((v30.toInt < 8) → ∀ (v34 : Int32), v34 = g13 197 i0 → rg (0) (9) v34 → ∀ (v37 : Int32), v37 = v23 - v23 / (8 : Int32) * (8 : Int32) → rg (0) (7) v37 → v37.toInt = v23.toInt % 8 → ∀ (v40 : Int32), v40 = v34 * (60 : Int32) → rg (0) (540) v40 → v40.toInt = v34.toInt * 60 → ∀ (v43 : Int32), v43 = g13 864 (8192 * i0 + v34.toNatClampNeg) → rg (0) (60) v43 → wp_kput_26 Z (2 * i0) v37 i0 v40 v43 g13 (fun (_ : Int32) (g44 : mSt) => po_kput_26 Z (2 * i0) v37 i0 v40 v43 g13 0 g44 → wp_kmdropFirst Z i0 g44 (fun (_ : Int32) (g45 : mSt) => po_kmdropFirst Z i0 g44 0 g45 → ∀ (v47 : Int32), v47 = v23 + (1 : Int32) → rg (1) (16777223) v47 → v47.toInt = v23.toInt + 1 → ∀ (g49 : mSt), g49 = up2 g45 165 i0 v47 → ∀ (v51 : Int32), v51 = v47 - (1 : Int32) → rg (0) (16777222) v51 → v51.toInt = v47.toInt - 1 → wp_ksendData Z i0 v51 g49 (fun (v54 : Int32) (g53 : mSt) => po_ksendData Z i0 v51 g49 v54 g53 → ∃ P55 : mSt → Prop, (∀ (g55 : mSt), mFr [67, 108, 111, 168, 178, 179, 544, 576, 768] g53 g55 → mFi (im_kturn Z i0 p1) g53 g55 → P55 g55 → ∀ (v56 : Int32), v56 = a82_2_12 + (1 : Int32) → rg (1) (10) v56 → v56.toInt = a82_2_12.toInt + 1 → P13 v56 g55) ∧ ((v54.toInt = 0) → P55 g53) ∧ ((v54.toInt ≠ 0) → wp_kpoll Z i0 p1 g53 (fun (_ : Int32) (g62 : mSt) => po_kpoll Z i0 p1 g53 0 g62 → P55 g62)))))))))) ∧ P13 (0 : Int32) g9) ∧ ((a38_2_8.toInt < v10.toInt) → ∀ (v68 : Int32), v68 = a38_2_8 - a38_2_8 / (8 : Int32) * (8 : Int32) → rg (0) (7) v68 → v68.toInt = a38_2_8.toInt % 8 → ∀ (v70 : Int32), v70 = g9 1344 (8192 * (2 * i0) + v68.toNatClampNeg) → rg (0) (1) v70 → ∃ P71 : mSt → Prop, (∀ (g71 : mSt), mFr [67, 108, 111, 168, 178, 179, 544, 576, 768, 1312, 1344] g9 g71 → mFi (im_kturn Z i0 p1) g9 g71 → P71 g71 → ∀ (v72 : Int32), v72 = a38_2_8 + (1 : Int32) → rg (1) (16777223) v72 → v72.toInt = a38_2_8.toInt + 1 → P9 v72 g71) ∧ ((v70.toInt = 0) → P71 g9) ∧ ((v70.toInt ≠ 0) → wp_ksendData Z i0 a38_2_8 g9 (fun (v79 : Int32) (g78 : mSt) => po_ksendData Z i0 a38_2_8 g9 v79 g78 → ((v79.toInt = 0) → P71 g78) ∧ ((v79.toInt ≠ 0) → wp_kpoll Z i0 p1 g78 (fun (_ : Int32) (g85 : mSt) => po_kpoll Z i0 p1 g78 0 g85 → P71 g85)))))) ∧ P9 v7 g2) ∧ ((v3.toInt ≠ 2) → Φ 0 g2)) ∧ ((v1.toInt ≠ 0) → P2 g) ∧ ((v1.toInt = 0) → ∀ (v93 : Int32), v93 = g 198 i0 → rg (0) (10) v93 → ((v93.toInt ≤ 0) → P2 g) ∧ ((0 < v93.toInt) → wp_kask Z i0 (1 : Int32) (1 : Int32) p1 g (fun (_ : Int32) (g97 : mSt) => po_kask Z i0 (1 : Int32) (1 : Int32) p1 g 0 g97 → P2 g97)))
set_option maxHeartbeats 4000000 in
set_option maxRecDepth 100000 in
theorem v_kturn {p : Program} {l : Launch} {e : Env} {s : State} {m : MethodId} {args : Array Value} {below : List Frame} {meth : Method} {c : Code} {H : Heap} {locs : List Loc} {Q : State → Prop} {ls : Array Slot} {G : cG} {Z : cZ} {A : Nat → Prop} {g : mSt} {H0 : Heap} {X : Int} (x : cX p c cX5_turn s args (wk (Cond.code yX5_turn cX5_turn 4 none)) m G Z A RX5 H0) (hml : c.maxLocals = 4) (L : cL G Z A H0 X g H locs) (hX : 0 ≤ X ∧ X ≤ 2000000000) (i0 : Nat) (p1 : Int32) (hi0 : i0 < 2 * Z.n) {Φ : Int32 → mSt → Prop} (hW : wfP (wp_kturn Z i0 p1 g Φ)) (hl : lv_has ls 4 [(0, .ref (Z.ad 5 i0)), (1, .int p1)]) (hQ : ∀ (pc' : Nat) (ls' : Array Slot) (g1 : mSt) (H1 : Heap) (locs1 : List Loc), decode cX5_turn pc' = .ok (.return_, 1) → cL G Z A H0 X g1 H1 locs1 → (wfP (Φ 0 g1) ∧ mFi (im_kturn Z i0 p1) g g1 ∧ (mFr [67, 108, 111, 164, 165, 168, 173, 176, 177, 178, 179, 197, 198, 544, 576, 768, 1248, 1280, 1312, 1344] g g1 ∧ True)) → W p l e rm_kturn s m args below meth c H1 locs1 0 0 Q (F0 m pc' ls' [])) : W p l e rm_kturn s m args below meth c H locs 0 0 Q (F0 m 0 ls []) := by
  have hx := x.1
  have hb := x.2.1
  have hz := x.2.2.2.2.2.2.2.1
  have hzn := hz.1
  have hal0 : Z.al 5 i0 := hz.2 5 i0 (show i0 < 2 * Z.n from hi0)
  have up1 : (-2147483648 : Int) ≤ p1.toInt ∧ p1.toInt ≤ 2147483647 := (rg_any p1)
  refine lv_aload_n hx hb dX5_turn_0 rfl (lv_at hl 0 rfl) ?_
  refine c_geti x L 5 i0 4 164 hal0 rfl rfl (wk_in kf_X5_26) dX5_turn_1 (fun v1 ev1 wv1 => ?_)
  have rv1 : rg (0) (4) v1 := clj_164 wv1
  replace hW := (wfP_i (wfP_i (wfP_a hW v1) ev1) rv1)
  have uv1 : (0 : Int) ≤ v1.toInt ∧ v1.toInt ≤ 4 := rv1
  have sv1 := congrArg Int32.toInt ev1
  obtain ⟨P2, hP2, hW⟩ := wfP_ex hW
  have j24_2 : ∀ (g2 : mSt) (H2 : Heap) (k2 : List Loc) (ls : Array Slot), mFr [67, 108, 111, 164, 173, 176, 177, 178, 544, 576, 768] g g2 → cL G Z A H0 X g2 H2 k2 → mFi (im_kturn Z i0 p1) g g2 → wfP (P2 g2) → lv_has ls 4 [(0, .ref (Z.ad 5 i0)), (1, .int p1)] → W p l e rm_kturn s m args below meth c H2 k2 0 0 Q (F0 m 24 ls []) := by
    intro  g2 H2 k2 ls hF2 L2  hI2 hW hl
    replace hW := wfP_i (wfP_i (wfP_i (wfP_a hP2 g2) hF2) hI2) hW
    refine lv_aload_n hx hb dX5_turn_24 rfl (lv_at hl 0 rfl) ?_
    refine c_geti x L2 5 i0 4 164 hal0 rfl rfl (wk_in kf_X5_26) dX5_turn_25 (fun v3 ev3 wv3 => ?_)
    have rv3 : rg (0) (4) v3 := clj_164 wv3
    replace hW := (wfP_i (wfP_i (wfP_a hW v3) ev3) rv3)
    have uv3 : (0 : Int) ≤ v3.toInt ∧ v3.toInt ≤ 4 := rv3
    refine lv_iconst (v := 2) hx hb dX5_turn_28 (by decide) ?_
    refine lv_icmp_eq (tgt := 33) hx hb dX5_turn_29 (by decide) (fun c29_4 => ?_) (fun c29_4 => ?_)
    · skip
      replace hW := wfP_i (wfP_l hW) (i_eq c29_4 rfl (rg_i kc_2))
      have ic29_4 := congrArg Int32.toInt c29_4
      have y5 : (2 : Int32).toInt = 2 := by decide
      have q6 : rg (2) (2) v3 := (rg_eq c29_4 rv3 kc_2).1
      have uq6 : (2 : Int) ≤ v3.toInt ∧ v3.toInt ≤ 2 := q6
      refine lv_aload_n hx hb dX5_turn_33 rfl (lv_at hl 0 rfl) ?_
      refine c_geti x L2 5 i0 6 166 hal0 rfl rfl (wk_in kf_X5_37) dX5_turn_34 (fun v7 ev7 wv7 => ?_)
      have rv7 : rg (0) (16777215) v7 := clj_166 wv7
      replace hW := (wfP_i (wfP_i (wfP_a hW v7) ev7) rv7)
      have uv7 : (0 : Int) ≤ v7.toInt ∧ v7.toInt ≤ 16777215 := rv7
      have sv7 : v7.toInt = (g 166 i0).toInt := congrArg Int32.toInt (ev7.trans (congrFun ((show mFr [67, 108, 111, 164, 165, 168, 173, 176, 177, 178, 179, 197, 198, 544, 576, 768, 1248, 1280, 1312, 1344] g g2 from (mFr.tr mFr.rf hF2 rfl)).at 166 rfl) _))
      refine lv_istore_n (lv' := [(2, .int v7), (0, .ref (Z.ad 5 i0)), (1, .int p1)]) hx hb dX5_turn_37 rfl hl (by decide) rfl (fun ls hl => ?_)
      obtain ⟨P9, hP9, hW⟩ := wfP_ex hW
      have j38_9 : ∀ (n : Nat) (a38_2_8 : Int32) (g9 : mSt) (H9 : Heap) (k9 : List Loc) (ls : Array Slot), mFr [67, 108, 111, 168, 178, 179, 544, 576, 768, 1312, 1344] g2 g9 → cL G Z A H0 X g9 H9 k9 → rg (0) (2000000000) a38_2_8 → mFi (im_kturn Z i0 p1) g2 g9 → wfP (P9 a38_2_8 g9) → lv_has ls 4 [(0, .ref (Z.ad 5 i0)), (1, .int p1), (2, .int a38_2_8)] → ((2000000000 : Int) - a38_2_8.toInt).toNat = n → W p l e rm_kturn s m args below meth c H9 k9 0 0 Q (F0 m 38 ls []) := by
        intro n
        induction n using Nat.strongRecOn with
        | _ n ih9 =>
          intro a38_2_8 g9 H9 k9 ls hF9 L9 ra38_2_8 hI9 hW hl hn9
          subst hn9
          replace hW := wfP_i (wfP_i (wfP_i (wfP_i (wfP_a (wfP_a hP9 a38_2_8) g9) hF9) hI9) ra38_2_8) hW
          have ua38_2_8 : (0 : Int) ≤ a38_2_8.toInt ∧ a38_2_8.toInt ≤ 2000000000 := ra38_2_8
          refine lv_iload_n hx hb dX5_turn_38 rfl (lv_at hl 2 rfl) ?_
          refine lv_aload_n hx hb dX5_turn_39 rfl (lv_at hl 0 rfl) ?_
          refine c_geti x L9 5 i0 5 165 hal0 rfl rfl (wk_in kf_X5_34) dX5_turn_40 (fun v10 ev10 wv10 => ?_)
          have rv10 : rg (0) (16777223) v10 := clj_165 wv10
          replace hW := (wfP_i (wfP_i (wfP_a hW v10) ev10) rv10)
          have uv10 : (0 : Int) ≤ v10.toInt ∧ v10.toInt ≤ 16777223 := rv10
          refine lv_icmp_ge (tgt := 80) hx hb dX5_turn_43 (by decide) (fun c43_11 => ?_) (fun c43_11 => ?_)
          · skip
            replace hW := wfP_i (wfP_l hW) (i_le c43_11 rfl rfl)
            have ic43_11 := Int32.le_iff_toInt_le.mp c43_11
            refine lv_iconst (v := 0) hx hb dX5_turn_80 (by decide) ?_
            refine lv_istore_n (lv' := [(2, .int (0 : Int32)), (0, .ref (Z.ad 5 i0)), (1, .int p1)]) hx hb dX5_turn_81 rfl hl (by decide) rfl (fun ls hl => ?_)
            obtain ⟨P13, hP13, hW⟩ := wfP_ex hW
            have j82_13 : ∀ (n : Nat) (a82_2_12 : Int32) (g13 : mSt) (H13 : Heap) (k13 : List Loc) (ls : Array Slot), mFr [67, 108, 111, 165, 168, 178, 179, 197, 198, 544, 576, 768, 1248, 1280, 1312, 1344] g9 g13 → cL G Z A H0 X g13 H13 k13 → rg (0) (10) a82_2_12 → mFi (im_kturn Z i0 p1) g9 g13 → wfP (P13 a82_2_12 g13) → lv_has ls 4 [(0, .ref (Z.ad 5 i0)), (1, .int p1), (2, .int a82_2_12)] → ((10 : Int) - a82_2_12.toInt).toNat = n → W p l e rm_kturn s m args below meth c H13 k13 0 0 Q (F0 m 82 ls []) := by
              intro n
              induction n using Nat.strongRecOn with
              | _ n ih13 =>
                intro a82_2_12 g13 H13 k13 ls hF13 L13 ra82_2_12 hI13 hW hl hn13
                subst hn13
                replace hW := wfP_i (wfP_i (wfP_i (wfP_i (wfP_a (wfP_a hP13 a82_2_12) g13) hF13) hI13) ra82_2_12) hW
                have ua82_2_12 : (0 : Int) ≤ a82_2_12.toInt ∧ a82_2_12.toInt ≤ 10 := ra82_2_12
                refine lv_iload_n hx hb dX5_turn_82 rfl (lv_at hl 2 rfl) ?_
                refine lv_bipush (v := 10) hx hb dX5_turn_83 (by decide) ?_
                obtain ⟨P14, hP14, hW⟩ := wfP_ex hW
                have j206_14 : ∀ (g14 : mSt) (H14 : Heap) (k14 : List Loc) (ls : Array Slot), mFr [] g13 g14 → cL G Z A H0 X g14 H14 k14 → mFi (im_kturn Z i0 p1) g13 g14 → wfP (P14 g14) → lv_has ls 4 [(0, .ref (Z.ad 5 i0))] → W p l e rm_kturn s m args below meth c H14 k14 0 0 Q (F0 m 206 ls []) := by
                  intro  g14 H14 k14 ls hF14 L14  hI14 hW hl
                  replace hW := wfP_i (wfP_i (wfP_i (wfP_a hP14 g14) hF14) hI14) hW
                  exact hQ _ _ _ _ _ dX5_turn_206 L14 ⟨hW, (mFi.tr (mFi.tr (mFi.tr (mFi.tr mFi.rf hI2) hI9) hI13) hI14), (mFr.tr (mFr.tr (mFr.tr (mFr.tr mFr.rf hF2 rfl) hF9 rfl) hF13 rfl) hF14 rfl), trivial⟩
                refine lv_icmp_ge (tgt := 206) hx hb dX5_turn_85 (by decide) (fun c85_15 => ?_) (fun c85_15 => ?_)
                · skip
                  replace hW := wfP_i (wfP_l hW) (i_le c85_15 (rg_i kc_10) rfl)
                  have ic85_15 := Int32.le_iff_toInt_le.mp c85_15
                  have q16 : rg (10) (10) a82_2_12 := (rg_le c85_15 kc_10 ra82_2_12).2
                  have uq16 : (10 : Int) ≤ a82_2_12.toInt ∧ a82_2_12.toInt ≤ 10 := q16
                  exact j206_14  g13 _ _ ls mFr.rf L13 mFi.rf hW (lv_sub hl [0] rfl)
                · skip
                  replace hW := wfP_i (wfP_r hW) (i_lt (rg_nle c85_15) rfl (rg_i kc_10))
                  have ic85_15 := Int32.lt_iff_toInt_lt.mp (rg_nle c85_15)
                  have q17 : rg (0) (9) a82_2_12 := (rg_lt (rg_nle c85_15) ra82_2_12 kc_10).1
                  have uq17 : (0 : Int) ≤ a82_2_12.toInt ∧ a82_2_12.toInt ≤ 9 := q17
                  refine lv_aload_n hx hb dX5_turn_88 rfl (lv_at hl 0 rfl) ?_
                  have al18 : Z.al 6 i0 := hz.2 6 i0 (show i0 < 2 * Z.n from (by omega))
                  refine c_getr (a := Z.ad 6 i0) x L13 5 i0 1 hal0 rfl rfl (wk_in kf_X5_16) dX5_turn_89 ?_
                  refine c_geti x L13 6 i0 6 198 al18 rfl rfl (wk_in kf_X5_55) dX5_turn_92 (fun v19 ev19 wv19 => ?_)
                  have rv19 : rg (0) (10) v19 := clj_198 wv19
                  replace hW := (wfP_i (wfP_i (wfP_a hW v19) ev19) rv19)
                  have uv19 : (0 : Int) ≤ v19.toInt ∧ v19.toInt ≤ 10 := rv19
                  refine lv_if_le (tgt := 206) hx hb dX5_turn_95 (by decide) (fun c95_20 => ?_) (fun c95_20 => ?_)
                  · skip
                    replace hW := wfP_i (wfP_l hW) (i_le c95_20 rfl (rg_i kc_0))
                    have ic95_20 := Int32.le_iff_toInt_le.mp c95_20
                    have q21 : rg (0) (0) v19 := (rg_le c95_20 rv19 kc_0).1
                    have uq21 : (0 : Int) ≤ v19.toInt ∧ v19.toInt ≤ 0 := q21
                    exact j206_14  g13 _ _ ls mFr.rf L13 mFi.rf hW (lv_sub hl [0] rfl)
                  · skip
                    replace hW := wfP_i (wfP_r hW) (i_lt (rg_nle c95_20) (rg_i kc_0) rfl)
                    have ic95_20 := Int32.lt_iff_toInt_lt.mp (rg_nle c95_20)
                    have q22 : rg (1) (10) v19 := (rg_lt (rg_nle c95_20) kc_0 rv19).2
                    have uq22 : (1 : Int) ≤ v19.toInt ∧ v19.toInt ≤ 10 := q22
                    refine lv_aload_n hx hb dX5_turn_98 rfl (lv_at hl 0 rfl) ?_
                    refine c_geti x L13 5 i0 5 165 hal0 rfl rfl (wk_in kf_X5_34) dX5_turn_99 (fun v23 ev23 wv23 => ?_)
                    have rv23 : rg (0) (16777223) v23 := clj_165 wv23
                    replace hW := (wfP_i (wfP_i (wfP_a hW v23) ev23) rv23)
                    have uv23 : (0 : Int) ≤ v23.toInt ∧ v23.toInt ≤ 16777223 := rv23
                    refine lv_aload_n hx hb dX5_turn_102 rfl (lv_at hl 0 rfl) ?_
                    refine c_geti x L13 5 i0 7 167 hal0 rfl rfl (wk_in kf_X5_40) dX5_turn_103 (fun v24 ev24 wv24 => ?_)
                    have rv24 : rg (0) (16777223) v24 := clj_167 wv24
                    replace hW := (wfP_i (wfP_i (wfP_a hW v24) ev24) rv24)
                    have uv24 : (0 : Int) ≤ v24.toInt ∧ v24.toInt ≤ 16777223 := rv24
                    have sv24 : v24.toInt = (g 167 i0).toInt := congrArg Int32.toInt (ev24.trans (congrFun ((show mFr [67, 108, 111, 164, 165, 168, 173, 176, 177, 178, 179, 197, 198, 544, 576, 768, 1248, 1280, 1312, 1344] g g13 from (mFr.tr (mFr.tr (mFr.tr mFr.rf hF2 rfl) hF9 rfl) hF13 rfl)).at 167 rfl) _))
                    refine lv_icmp_ge (tgt := 206) hx hb dX5_turn_106 (by decide) (fun c106_25 => ?_) (fun c106_25 => ?_)
                    · skip
                      replace hW := wfP_i (wfP_l hW) (i_le c106_25 rfl rfl)
                      have ic106_25 := Int32.le_iff_toInt_le.mp c106_25
                      exact j206_14  g13 _ _ ls mFr.rf L13 mFi.rf hW (lv_sub hl [0] rfl)
                    · skip
                      replace hW := wfP_i (wfP_r hW) (i_lt (rg_nle c106_25) rfl rfl)
                      have ic106_25 := Int32.lt_iff_toInt_lt.mp (rg_nle c106_25)
                      have q26 : rg (0) (16777222) v23 := (rg_lt (rg_nle c106_25) rv23 rv24).1
                      have uq26 : (0 : Int) ≤ v23.toInt ∧ v23.toInt ≤ 16777222 := q26
                      have q27 : rg (1) (16777223) v24 := (rg_lt (rg_nle c106_25) rv23 rv24).2
                      have uq27 : (1 : Int) ≤ v24.toInt ∧ v24.toInt ≤ 16777223 := q27
                      refine lv_aload_n hx hb dX5_turn_109 rfl (lv_at hl 0 rfl) ?_
                      refine c_geti x L13 5 i0 5 165 hal0 rfl rfl (wk_in kf_X5_34) dX5_turn_110 (fun v28 ev28 wv28 => ?_)
                      refine m_top ((ev23).trans ev28.symm) ?_
                      refine lv_aload_n hx hb dX5_turn_113 rfl (lv_at hl 0 rfl) ?_
                      refine c_geti x L13 5 i0 6 166 hal0 rfl rfl (wk_in kf_X5_37) dX5_turn_114 (fun v29 ev29 wv29 => ?_)
                      refine m_top (((mm_fr (mm_fr ev7 hF9 rfl) hF13 rfl)).trans ev29.symm) ?_
                      refine lv_isub hx hb dX5_turn_117 ?_
                      refine lv_topi (fun v30 ev30 => ?_)
                      have rv30 : rg (-16777215) (16777222) v30 := (rg_sub ev30 q26 rv7 rfl).1
                      replace hW := (wfP_i (wfP_i (wfP_i (wfP_a hW v30) ev30) rv30) (w_isub ((rg_sub ev30 q26 rv7 rfl).2) rfl rfl))
                      have tv30 := (rg_sub ev30 q26 rv7 rfl).2
                      have uv30 : (-16777215 : Int) ≤ v30.toInt ∧ v30.toInt ≤ 16777222 := rv30
                      refine lv_bipush (v := 8) hx hb dX5_turn_118 (by decide) ?_
                      refine lv_icmp_ge (tgt := 206) hx hb dX5_turn_120 (by decide) (fun c120_31 => ?_) (fun c120_31 => ?_)
                      · skip
                        replace hW := wfP_i (wfP_l hW) (i_le c120_31 (rg_i kc_8) rfl)
                        have ic120_31 := Int32.le_iff_toInt_le.mp c120_31
                        have q32 : rg (8) (16777222) v30 := (rg_le c120_31 kc_8 rv30).2
                        have uq32 : (8 : Int) ≤ v30.toInt ∧ v30.toInt ≤ 16777222 := q32
                        exact j206_14  g13 _ _ ls mFr.rf L13 mFi.rf hW (lv_sub hl [0] rfl)
                      · skip
                        replace hW := wfP_i (wfP_r hW) (i_lt (rg_nle c120_31) rfl (rg_i kc_8))
                        have ic120_31 := Int32.lt_iff_toInt_lt.mp (rg_nle c120_31)
                        have q33 : rg (-16777215) (7) v30 := (rg_lt (rg_nle c120_31) rv30 kc_8).1
                        have uq33 : (-16777215 : Int) ≤ v30.toInt ∧ v30.toInt ≤ 7 := q33
                        refine lv_aload_n hx hb dX5_turn_123 rfl (lv_at hl 0 rfl) ?_
                        refine c_getr (a := Z.ad 6 i0) x L13 5 i0 1 hal0 rfl rfl (wk_in kf_X5_16) dX5_turn_124 ?_
                        refine c_geti x L13 6 i0 5 197 al18 rfl rfl (wk_in kf_X5_123) dX5_turn_127 (fun v34 ev34 wv34 => ?_)
                        have rv34 : rg (0) (9) v34 := clj_197 wv34
                        replace hW := (wfP_i (wfP_i (wfP_a hW v34) ev34) rv34)
                        have uv34 : (0 : Int) ≤ v34.toInt ∧ v34.toInt ≤ 9 := rv34
                        refine lv_istore_n (lv' := [(3, .int v34), (0, .ref (Z.ad 5 i0)), (1, .int p1), (2, .int a82_2_12)]) hx hb dX5_turn_130 rfl hl (by decide) rfl (fun ls hl => ?_)
                        refine lv_aload_n hx hb dX5_turn_131 rfl (lv_at hl 1 rfl) ?_
                        have al35 : Z.al 13 (2 * i0) := hz.2 13 (2 * i0) (show (2 * i0) < 4 * Z.n from (by omega))
                        refine c_getr (a := Z.ad 13 (2 * i0)) x L13 5 i0 2 hal0 rfl rfl (wk_in kf_X5_20) dX5_turn_132 ?_
                        refine lv_aload_n hx hb dX5_turn_135 rfl (lv_at hl 1 rfl) ?_
                        refine c_geti x L13 5 i0 5 165 hal0 rfl rfl (wk_in kf_X5_34) dX5_turn_136 (fun v36 ev36 wv36 => ?_)
                        refine m_top ((ev23).trans ev36.symm) ?_
                        refine lv_bipush (v := 8) hx hb dX5_turn_139 (by decide) ?_
                        refine lv_irem hx hb dX5_turn_141 (by decide) ?_
                        refine lv_topi (fun v37 ev37 => ?_)
                        have rv37 : rg (0) (7) v37 := (rg_rem ev37 q26 kc_8 rfl).1
                        replace hW := (wfP_i (wfP_i (wfP_i (wfP_a hW v37) ev37) rv37) ((rg_rem ev37 q26 kc_8 rfl).2))
                        have tv37 := (rg_rem ev37 q26 kc_8 rfl).2
                        have y38 : (8 : Int32).toInt = 8 := by decide
                        have uv37 : (0 : Int) ≤ v37.toInt ∧ v37.toInt ≤ 7 := rv37
                        refine lv_aload_n hx hb dX5_turn_142 rfl (lv_at hl 1 rfl) ?_
                        refine c_getr (a := Z.ad 6 i0) x L13 5 i0 1 hal0 rfl rfl (wk_in kf_X5_16) dX5_turn_143 ?_
                        have al39 : Z.al 26 i0 := hz.2 26 i0 (show i0 < 2 * Z.n from (by omega))
                        refine c_getr (a := Z.ad 26 i0) x L13 6 i0 1 al18 rfl rfl (wk_in kf_X5_126) dX5_turn_146 ?_
                        refine lv_iload_n hx hb dX5_turn_149 rfl (lv_at hl 0 rfl) ?_
                        refine lv_bipush (v := 60) hx hb dX5_turn_150 (by decide) ?_
                        refine lv_imul hx hb dX5_turn_152 ?_
                        refine lv_topi (fun v40 ev40 => ?_)
                        have rv40 : rg (0) (540) v40 := (rg_mul ev40 rv34 kc_60 rfl).1
                        replace hW := (wfP_i (wfP_i (wfP_i (wfP_a hW v40) ev40) rv40) ((rg_mul ev40 rv34 kc_60 rfl).2))
                        have tv40 := (rg_mul ev40 rv34 kc_60 rfl).2
                        have y41 : (60 : Int32).toInt = 60 := by decide
                        have uv40 : (0 : Int) ≤ v40.toInt ∧ v40.toInt ≤ 540 := rv40
                        refine lv_aload_n hx hb dX5_turn_153 rfl (lv_at hl 1 rfl) ?_
                        refine c_getr (a := Z.ad 6 i0) x L13 5 i0 1 hal0 rfl rfl (wk_in kf_X5_16) dX5_turn_154 ?_
                        have al42 : Z.al 27 i0 := hz.2 27 i0 (show i0 < 2 * Z.n from (by omega))
                        refine c_getr (a := Z.ad 27 i0) x L13 6 i0 2 al18 rfl rfl (wk_in kf_X5_65) dX5_turn_157 ?_
                        refine lv_iload_n hx hb dX5_turn_160 rfl (lv_at hl 0 rfl) ?_
                        refine c_ld x L13 27 i0 864 al42 rfl rfl rv34 rfl dX5_turn_161 (fun v43 ev43 wv43 => ?_)
                        have rv43 : rg (0) (60) v43 := clj_864 wv43
                        replace hW := (wfP_i (wfP_i (wfP_a hW v43) ev43) rv43)
                        have uv43 : (0 : Int) ≤ v43.toInt ∧ v43.toInt ≤ 60 := rv43
                        have sv43 : v43.toInt = (g 864 (8192 * i0 + v34.toNatClampNeg)).toInt := congrArg Int32.toInt (ev43.trans (congrFun ((show mFr [67, 108, 111, 164, 165, 168, 173, 176, 177, 178, 179, 197, 198, 544, 576, 768, 1248, 1280, 1312, 1344] g g13 from (mFr.tr (mFr.tr (mFr.tr mFr.rf hF2 rfl) hF9 rfl) hF13 rfl)).at 864 rfl) _))
                        refine c_cv (As := [.int v37, .ref (Z.ad 26 i0), .int v40, .int v43]) (rest := []) x hml L13 13 (2 * i0) al35 rfl (d_kput_26 l X g13 (2 * i0) v37 i0 v40 v43 hX (show (2 * i0) < 4 * Z.n from (by omega)) al39 (rg_w rv40 rfl) hW) (wk_V kd_X6_put kl_X5_129 ki_X6_put ks_X6_X6_put kn_X6) rfl ⟨rfl, rfl⟩ hd_kput_26 ⟨Nat.le_of_ble_eq_true rfl, Nat.le_of_ble_eq_true rfl⟩ rfl hl.1 rfl (lv_room (Nat.le_of_ble_eq_true rfl)) dX5_turn_162 (fun  g44 H44 k44 hp44 L44 => ?_)
                        obtain ⟨hW, hi44, hp44⟩ := hp44
                        replace hW := wfP_i hW ⟨hi44, hp44⟩
                        refine lv_aload_n hx hb dX5_turn_165 rfl (lv_at hl 1 rfl) ?_
                        refine c_getr (a := Z.ad 6 i0) x L44 5 i0 1 hal0 rfl rfl (wk_in kf_X5_16) dX5_turn_166 ?_
                        refine c_cv (As := []) (rest := []) x hml L44 6 i0 al18 rfl (d_kmdropFirst l X g44 i0 hX (show i0 < 2 * Z.n from (by omega)) hW) (wk_V kd_X6_dropFirst kl_X5_133 ki_X6_dropFirst ks_X6_X6_dropFirst kn_X6) rfl ⟨rfl, rfl⟩ hd_kmdropFirst ⟨Nat.le_of_ble_eq_true rfl, Nat.le_of_ble_eq_true rfl⟩ rfl hl.1 rfl (lv_room (Nat.le_of_ble_eq_true rfl)) dX5_turn_169 (fun  g45 H45 k45 hp45 L45 => ?_)
                        obtain ⟨hW, hi45, hp45⟩ := hp45
                        replace hW := wfP_i hW ⟨hi45, hp45⟩
                        refine lv_aload_n hx hb dX5_turn_172 rfl (lv_at hl 1 rfl) ?_
                        refine lv_dup hx hb dX5_turn_173 rfl ?_
                        refine c_geti x L45 5 i0 5 165 hal0 rfl rfl (wk_in kf_X5_34) dX5_turn_174 (fun v46 ev46 wv46 => ?_)
                        refine m_top (((mm_fr (mm_fr ev23 hp44.1 rfl) hp45.1 rfl)).trans ev46.symm) ?_
                        refine lv_iconst (v := 1) hx hb dX5_turn_177 (by decide) ?_
                        refine lv_iadd hx hb dX5_turn_178 ?_
                        refine lv_topi (fun v47 ev47 => ?_)
                        have rv47 : rg (1) (16777223) v47 := (rg_add ev47 q26 kc_1 rfl).1
                        replace hW := (wfP_i (wfP_i (wfP_i (wfP_a hW v47) ev47) rv47) (w_iadd ((rg_add ev47 q26 kc_1 rfl).2) rfl (rg_i kc_1)))
                        have tv47 := (rg_add ev47 q26 kc_1 rfl).2
                        have y48 : (1 : Int32).toInt = 1 := by decide
                        have uv47 : (1 : Int) ≤ v47.toInt ∧ v47.toInt ≤ 16777223 := rv47
                        refine c_puti x L45 5 i0 5 165 hal0 rfl rfl ⟨rfl, by decide +kernel⟩ (wk_in kf_X5_34) dX5_turn_179 (crj_165 (rg_w rv47 rfl)) (fun g49 H49 k49 eg49 L49 => ?_)
                        replace hW := (wfP_i (wfP_a hW g49) eg49)
                        refine lv_aload_n hx hb dX5_turn_182 rfl (lv_at hl 1 rfl) ?_
                        refine lv_aload_n hx hb dX5_turn_183 rfl (lv_at hl 1 rfl) ?_
                        refine c_geti x L49 5 i0 5 165 hal0 rfl rfl (wk_in kf_X5_34) dX5_turn_184 (fun v50 ev50 wv50 => ?_)
                        refine m_top (((mm_st eg49)).trans ev50.symm) ?_
                        refine lv_iconst (v := 1) hx hb dX5_turn_187 (by decide) ?_
                        refine lv_isub hx hb dX5_turn_188 ?_
                        refine lv_topi (fun v51 ev51 => ?_)
                        have rv51 : rg (0) (16777222) v51 := (rg_sub ev51 rv47 kc_1 rfl).1
                        replace hW := (wfP_i (wfP_i (wfP_i (wfP_a hW v51) ev51) rv51) (w_isub ((rg_sub ev51 rv47 kc_1 rfl).2) rfl (rg_i kc_1)))
                        have tv51 := (rg_sub ev51 rv47 kc_1 rfl).2
                        have y52 : (1 : Int32).toInt = 1 := by decide
                        have uv51 : (0 : Int) ≤ v51.toInt ∧ v51.toInt ≤ 16777222 := rv51
                        refine c_ci (As := [.int v51]) (rest := []) x hml L49 5 i0 hal0 rfl (d_ksendData l X g49 i0 v51 hX (show i0 < 2 * Z.n from (by omega)) (rg_w rv51 rfl) hW) (wk_V kd_X5_sendData kl_X5_119 ki_X5_sendData ks_X5_X5_sendData kn_X5) rfl ⟨rfl, rfl⟩ hd_ksendData ⟨Nat.le_of_ble_eq_true rfl, Nat.le_of_ble_eq_true rfl⟩ rfl hl.1 rfl (lv_room (Nat.le_of_ble_eq_true rfl)) dX5_turn_189 (fun v54 g53 H53 k53 hp53 L53 => ?_)
                        obtain ⟨hW, hi53, hp53⟩ := hp53
                        replace hW := wfP_i hW ⟨hi53, hp53⟩
                        have rv54 : rg (0) (1) v54 := hp53.2.1
                        have uv54 : (0 : Int) ≤ v54.toInt ∧ v54.toInt ≤ 1 := rv54
                        obtain ⟨P55, hP55, hW⟩ := wfP_ex hW
                        have j200_55 : ∀ (g55 : mSt) (H55 : Heap) (k55 : List Loc) (ls : Array Slot), mFr [67, 108, 111, 168, 178, 179, 544, 576, 768] g53 g55 → cL G Z A H0 X g55 H55 k55 → mFi (im_kturn Z i0 p1) g53 g55 → wfP (P55 g55) → lv_has ls 4 [(0, .ref (Z.ad 5 i0)), (1, .int p1), (2, .int a82_2_12)] → W p l e rm_kturn s m args below meth c H55 k55 0 0 Q (F0 m 200 ls []) := by
                          intro  g55 H55 k55 ls hF55 L55  hI55 hW hl
                          replace hW := wfP_i (wfP_i (wfP_i (wfP_a hP55 g55) hF55) hI55) hW
                          obtain ⟨v56, ev56, fv56⟩ := inc_ex a82_2_12 (1) (1 : Int32) (by decide)
                          have rv56 : rg (1) (10) v56 := (rg_add ev56 q17 kc_1 rfl).1
                          have tv56 := (rg_add ev56 q17 kc_1 rfl).2
                          have yv56 : (1 : Int32).toInt = 1 := by decide
                          replace hW := (wfP_i (wfP_i (wfP_i (wfP_a hW v56) ev56) rv56) (w_iadd tv56 rfl (rg_i kc_1)))
                          refine lv_iinc (v := v56) (lv' := [(2, .int v56), (0, .ref (Z.ad 5 i0)), (1, .int p1)]) hx hb dX5_turn_200 hl (k := 2) rfl fv56 (by decide) rfl (fun ls hl => ?_)
                          refine lv_goto (tgt := 82) hx hb dX5_turn_203 (by decide) ?_
                          exact ih13 _ (ms_up tv56 kc_1 q17 rfl rfl) v56 g55 _ _ ls (mFr.tr (mFr.tr (mFr.upE (mFr.tr (mFr.tr hF13 hp44.1 rfl) hp45.1 rfl) eg49 rfl) hp53.1 rfl) hF55 rfl) L55 (rg_w rv56 rfl) (mFi.tr (mFi.sub (mFi.up (mFi.sub (mFi.sub hI13 hi44 (mSub_eq 16 rfl (mSub_eq 17 rfl mSub_nil))) hi45 (mSub_eq 11 rfl (mSub_eq 12 rfl mSub_nil))) eg49 (mIn_at 4 rfl (Or.inr (Nat.div_one _)))) hi53 (mSub_eq 0 rfl (mSub_eq 1 rfl (mSub_eq 2 rfl (mSub_eq 10 rfl (mSub_eq 13 rfl (mSub_eq 14 rfl (mSub_eq 15 rfl (mSub_eq 18 rfl (mSub_eq 19 rfl mSub_nil)))))))))) hI55) hW (lv_sub hl [1, 2, 0] rfl) rfl
                        refine lv_if_eq (tgt := 200) hx hb dX5_turn_192 (by decide) (fun c192_57 => ?_) (fun c192_57 => ?_)
                        · skip
                          replace hW := wfP_i (wfP_l hW) (i_eq c192_57 rfl (rg_i kc_0))
                          have ic192_57 := congrArg Int32.toInt c192_57
                          have y58 : (0 : Int32).toInt = 0 := by decide
                          have q59 : rg (0) (0) v54 := (rg_eq c192_57 rv54 kc_0).1
                          have uq59 : (0 : Int) ≤ v54.toInt ∧ v54.toInt ≤ 0 := q59
                          exact j200_55  g53 _ _ ls mFr.rf L53 mFi.rf hW (lv_sub hl [1, 2, 3] rfl)
                        · skip
                          replace hW := wfP_i (wfP_r hW) (i_ne c192_57 rfl (rg_i kc_0))
                          have ic192_57 : v54.toInt ≠ (0 : Int32).toInt := fun z => c192_57 (Int32.toInt_inj.mp z)
                          have y60 : (0 : Int32).toInt = 0 := by decide
                          have q61 : rg (1) (1) v54 := rg_neL c192_57 rv54 kc_0
                          have uq61 : (1 : Int) ≤ v54.toInt ∧ v54.toInt ≤ 1 := q61
                          refine lv_aload_n hx hb dX5_turn_195 rfl (lv_at hl 1 rfl) ?_
                          refine lv_iload_n hx hb dX5_turn_196 rfl (lv_at hl 2 rfl) ?_
                          refine c_cv (As := [.int p1]) (rest := []) x hml L53 5 i0 hal0 rfl (d_kpoll l X g53 i0 p1 hX (show i0 < 2 * Z.n from (by omega)) hW) (wk_V kd_X5_poll kl_X5_105 ki_X5_poll ks_X5_X5_poll kn_X5) rfl ⟨rfl, rfl⟩ hd_kpoll ⟨Nat.le_of_ble_eq_true rfl, Nat.le_of_ble_eq_true rfl⟩ rfl hl.1 rfl (lv_room (Nat.le_of_ble_eq_true rfl)) dX5_turn_197 (fun  g62 H62 k62 hp62 L62 => ?_)
                          obtain ⟨hW, hi62, hp62⟩ := hp62
                          replace hW := wfP_i hW ⟨hi62, hp62⟩
                          exact j200_55  g62 _ _ ls (mFr.tr mFr.rf hp62.1 rfl) L62 (mFi.sub mFi.rf hi62 (mSub_eq 0 rfl (mSub_eq 1 rfl (mSub_eq 2 rfl (mSub_eq 5 rfl (mSub_eq 9 rfl (mSub_eq 10 rfl (mSub_eq 13 rfl (mSub_eq 14 rfl (mSub_eq 15 rfl mSub_nil)))))))))) hW (lv_sub hl [1, 2, 3] rfl)
            have y63 : (0 : Int32).toInt = 0 := by decide
            exact j82_13 _ (0 : Int32) g9 _ _ ls mFr.rf L9 (rg_w kc_0 rfl) mFi.rf hW (lv_sub hl [1, 2, 0] rfl) rfl
          · skip
            replace hW := wfP_i (wfP_r hW) (i_lt (rg_nle c43_11) rfl rfl)
            have ic43_11 := Int32.lt_iff_toInt_lt.mp (rg_nle c43_11)
            have q64 : rg (0) (16777222) a38_2_8 := (rg_lt (rg_nle c43_11) ra38_2_8 rv10).1
            have uq64 : (0 : Int) ≤ a38_2_8.toInt ∧ a38_2_8.toInt ≤ 16777222 := q64
            have q65 : rg (1) (16777223) v10 := (rg_lt (rg_nle c43_11) ra38_2_8 rv10).2
            have uq65 : (1 : Int) ≤ v10.toInt ∧ v10.toInt ≤ 16777223 := q65
            refine lv_aload_n hx hb dX5_turn_46 rfl (lv_at hl 0 rfl) ?_
            have al66 : Z.al 13 (2 * i0) := hz.2 13 (2 * i0) (show (2 * i0) < 4 * Z.n from (by omega))
            refine c_getr (a := Z.ad 13 (2 * i0)) x L9 5 i0 2 hal0 rfl rfl (wk_in kf_X5_20) dX5_turn_47 ?_
            have al67 : Z.al 42 (2 * i0) := hz.2 42 (2 * i0) (show (2 * i0) < 4 * Z.n from (by omega))
            refine c_getr (a := Z.ad 42 (2 * i0)) x L9 13 (2 * i0) 4 al66 rfl rfl (wk_in kf_X5_115) dX5_turn_50 ?_
            refine lv_iload_n hx hb dX5_turn_53 rfl (lv_at hl 2 rfl) ?_
            refine lv_bipush (v := 8) hx hb dX5_turn_54 (by decide) ?_
            refine lv_irem hx hb dX5_turn_56 (by decide) ?_
            refine lv_topi (fun v68 ev68 => ?_)
            have rv68 : rg (0) (7) v68 := (rg_rem ev68 q64 kc_8 rfl).1
            replace hW := (wfP_i (wfP_i (wfP_i (wfP_a hW v68) ev68) rv68) ((rg_rem ev68 q64 kc_8 rfl).2))
            have tv68 := (rg_rem ev68 q64 kc_8 rfl).2
            have y69 : (8 : Int32).toInt = 8 := by decide
            have uv68 : (0 : Int) ≤ v68.toInt ∧ v68.toInt ≤ 7 := rv68
            refine c_ldz x L9 42 (2 * i0) 1344 al67 rfl rfl rv68 rfl dX5_turn_57 (fun v70 ev70 wv70 => ?_)
            have rv70 : rg (0) (1) v70 := clj_1344 wv70
            replace hW := (wfP_i (wfP_i (wfP_a hW v70) ev70) rv70)
            have uv70 : (0 : Int) ≤ v70.toInt ∧ v70.toInt ≤ 1 := rv70
            obtain ⟨P71, hP71, hW⟩ := wfP_ex hW
            have j74_71 : ∀ (g71 : mSt) (H71 : Heap) (k71 : List Loc) (ls : Array Slot), mFr [67, 108, 111, 168, 178, 179, 544, 576, 768, 1312, 1344] g9 g71 → cL G Z A H0 X g71 H71 k71 → mFi (im_kturn Z i0 p1) g9 g71 → wfP (P71 g71) → lv_has ls 4 [(0, .ref (Z.ad 5 i0)), (1, .int p1), (2, .int a38_2_8)] → W p l e rm_kturn s m args below meth c H71 k71 0 0 Q (F0 m 74 ls []) := by
              intro  g71 H71 k71 ls hF71 L71  hI71 hW hl
              replace hW := wfP_i (wfP_i (wfP_i (wfP_a hP71 g71) hF71) hI71) hW
              obtain ⟨v72, ev72, fv72⟩ := inc_ex a38_2_8 (1) (1 : Int32) (by decide)
              have rv72 : rg (1) (16777223) v72 := (rg_add ev72 q64 kc_1 rfl).1
              have tv72 := (rg_add ev72 q64 kc_1 rfl).2
              have yv72 : (1 : Int32).toInt = 1 := by decide
              replace hW := (wfP_i (wfP_i (wfP_i (wfP_a hW v72) ev72) rv72) (w_iadd tv72 rfl (rg_i kc_1)))
              refine lv_iinc (v := v72) (lv' := [(2, .int v72), (0, .ref (Z.ad 5 i0)), (1, .int p1)]) hx hb dX5_turn_74 hl (k := 2) rfl fv72 (by decide) rfl (fun ls hl => ?_)
              refine lv_goto (tgt := 38) hx hb dX5_turn_77 (by decide) ?_
              exact ih9 _ (ms_up tv72 kc_1 q64 rfl rfl) v72 g71 _ _ ls (mFr.tr hF9 hF71 rfl) L71 (rg_w rv72 rfl) (mFi.tr hI9 hI71) hW (lv_sub hl [1, 2, 0] rfl) rfl
            refine lv_if_eq (tgt := 74) hx hb dX5_turn_58 (by decide) (fun c58_73 => ?_) (fun c58_73 => ?_)
            · skip
              replace hW := wfP_i (wfP_l hW) (i_eq c58_73 rfl (rg_i kc_0))
              have ic58_73 := congrArg Int32.toInt c58_73
              have y74 : (0 : Int32).toInt = 0 := by decide
              have q75 : rg (0) (0) v70 := (rg_eq c58_73 rv70 kc_0).1
              have uq75 : (0 : Int) ≤ v70.toInt ∧ v70.toInt ≤ 0 := q75
              exact j74_71  g9 _ _ ls mFr.rf L9 mFi.rf hW (lv_sub hl [0, 1, 2] rfl)
            · skip
              replace hW := wfP_i (wfP_r hW) (i_ne c58_73 rfl (rg_i kc_0))
              have ic58_73 : v70.toInt ≠ (0 : Int32).toInt := fun z => c58_73 (Int32.toInt_inj.mp z)
              have y76 : (0 : Int32).toInt = 0 := by decide
              have q77 : rg (1) (1) v70 := rg_neL c58_73 rv70 kc_0
              have uq77 : (1 : Int) ≤ v70.toInt ∧ v70.toInt ≤ 1 := q77
              refine lv_aload_n hx hb dX5_turn_61 rfl (lv_at hl 0 rfl) ?_
              refine lv_iload_n hx hb dX5_turn_62 rfl (lv_at hl 2 rfl) ?_
              refine c_ci (As := [.int a38_2_8]) (rest := []) x hml L9 5 i0 hal0 rfl (d_ksendData l X g9 i0 a38_2_8 hX (show i0 < 2 * Z.n from (by omega)) (rg_w q64 rfl) hW) (wk_V kd_X5_sendData kl_X5_119 ki_X5_sendData ks_X5_X5_sendData kn_X5) rfl ⟨rfl, rfl⟩ hd_ksendData ⟨Nat.le_of_ble_eq_true rfl, Nat.le_of_ble_eq_true rfl⟩ rfl hl.1 rfl (lv_room (Nat.le_of_ble_eq_true rfl)) dX5_turn_63 (fun v79 g78 H78 k78 hp78 L78 => ?_)
              obtain ⟨hW, hi78, hp78⟩ := hp78
              replace hW := wfP_i hW ⟨hi78, hp78⟩
              have rv79 : rg (0) (1) v79 := hp78.2.1
              have uv79 : (0 : Int) ≤ v79.toInt ∧ v79.toInt ≤ 1 := rv79
              refine lv_if_eq (tgt := 74) hx hb dX5_turn_66 (by decide) (fun c66_80 => ?_) (fun c66_80 => ?_)
              · skip
                replace hW := wfP_i (wfP_l hW) (i_eq c66_80 rfl (rg_i kc_0))
                have ic66_80 := congrArg Int32.toInt c66_80
                have y81 : (0 : Int32).toInt = 0 := by decide
                have q82 : rg (0) (0) v79 := (rg_eq c66_80 rv79 kc_0).1
                have uq82 : (0 : Int) ≤ v79.toInt ∧ v79.toInt ≤ 0 := q82
                exact j74_71  g78 _ _ ls (mFr.tr mFr.rf hp78.1 rfl) L78 (mFi.sub mFi.rf hi78 (mSub_eq 0 rfl (mSub_eq 1 rfl (mSub_eq 2 rfl (mSub_eq 10 rfl (mSub_eq 13 rfl (mSub_eq 14 rfl (mSub_eq 15 rfl (mSub_eq 18 rfl (mSub_eq 19 rfl mSub_nil)))))))))) hW (lv_sub hl [0, 1, 2] rfl)
              · skip
                replace hW := wfP_i (wfP_r hW) (i_ne c66_80 rfl (rg_i kc_0))
                have ic66_80 : v79.toInt ≠ (0 : Int32).toInt := fun z => c66_80 (Int32.toInt_inj.mp z)
                have y83 : (0 : Int32).toInt = 0 := by decide
                have q84 : rg (1) (1) v79 := rg_neL c66_80 rv79 kc_0
                have uq84 : (1 : Int) ≤ v79.toInt ∧ v79.toInt ≤ 1 := q84
                refine lv_aload_n hx hb dX5_turn_69 rfl (lv_at hl 0 rfl) ?_
                refine lv_iload_n hx hb dX5_turn_70 rfl (lv_at hl 1 rfl) ?_
                refine c_cv (As := [.int p1]) (rest := []) x hml L78 5 i0 hal0 rfl (d_kpoll l X g78 i0 p1 hX (show i0 < 2 * Z.n from (by omega)) hW) (wk_V kd_X5_poll kl_X5_105 ki_X5_poll ks_X5_X5_poll kn_X5) rfl ⟨rfl, rfl⟩ hd_kpoll ⟨Nat.le_of_ble_eq_true rfl, Nat.le_of_ble_eq_true rfl⟩ rfl hl.1 rfl (lv_room (Nat.le_of_ble_eq_true rfl)) dX5_turn_71 (fun  g85 H85 k85 hp85 L85 => ?_)
                obtain ⟨hW, hi85, hp85⟩ := hp85
                replace hW := wfP_i hW ⟨hi85, hp85⟩
                exact j74_71  g85 _ _ ls (mFr.tr (mFr.tr mFr.rf hp78.1 rfl) hp85.1 rfl) L85 (mFi.sub (mFi.sub mFi.rf hi78 (mSub_eq 0 rfl (mSub_eq 1 rfl (mSub_eq 2 rfl (mSub_eq 10 rfl (mSub_eq 13 rfl (mSub_eq 14 rfl (mSub_eq 15 rfl (mSub_eq 18 rfl (mSub_eq 19 rfl mSub_nil)))))))))) hi85 (mSub_eq 0 rfl (mSub_eq 1 rfl (mSub_eq 2 rfl (mSub_eq 5 rfl (mSub_eq 9 rfl (mSub_eq 10 rfl (mSub_eq 13 rfl (mSub_eq 14 rfl (mSub_eq 15 rfl mSub_nil)))))))))) hW (lv_sub hl [0, 1, 2] rfl)
      exact j38_9 _ v7 g2 _ _ ls mFr.rf L2 (rg_w rv7 rfl) mFi.rf hW (lv_sub hl [1, 2, 0] rfl) rfl
    · skip
      replace hW := wfP_i (wfP_r hW) (i_ne c29_4 rfl (rg_i kc_2))
      have ic29_4 : v3.toInt ≠ (2 : Int32).toInt := fun z => c29_4 (Int32.toInt_inj.mp z)
      have y86 : (2 : Int32).toInt = 2 := by decide
      exact hQ _ _ _ _ _ dX5_turn_32 L2 ⟨hW, (mFi.tr mFi.rf hI2), (mFr.tr mFr.rf hF2 rfl), trivial⟩
  refine lv_if_ne (tgt := 24) hx hb dX5_turn_4 (by decide) (fun c4_87 => ?_) (fun c4_87 => ?_)
  · skip
    replace hW := wfP_i (wfP_l hW) (i_ne c4_87 rfl (rg_i kc_0))
    have ic4_87 : v1.toInt ≠ (0 : Int32).toInt := fun z => c4_87 (Int32.toInt_inj.mp z)
    have y88 : (0 : Int32).toInt = 0 := by decide
    have q89 : rg (1) (4) v1 := rg_neL c4_87 rv1 kc_0
    have uq89 : (1 : Int) ≤ v1.toInt ∧ v1.toInt ≤ 4 := q89
    exact j24_2  g _ _ ls mFr.rf L mFi.rf hW (lv_sub hl [0, 1] rfl)
  · skip
    replace hW := wfP_i (wfP_r hW) (i_eq c4_87 rfl (rg_i kc_0))
    have ic4_87 := congrArg Int32.toInt c4_87
    have y90 : (0 : Int32).toInt = 0 := by decide
    have q91 : rg (0) (0) v1 := (rg_eq c4_87 rv1 kc_0).1
    have uq91 : (0 : Int) ≤ v1.toInt ∧ v1.toInt ≤ 0 := q91
    refine lv_aload_n hx hb dX5_turn_7 rfl (lv_at hl 0 rfl) ?_
    have al92 : Z.al 6 i0 := hz.2 6 i0 (show i0 < 2 * Z.n from (by omega))
    refine c_getr (a := Z.ad 6 i0) x L 5 i0 1 hal0 rfl rfl (wk_in kf_X5_16) dX5_turn_8 ?_
    refine c_geti x L 6 i0 6 198 al92 rfl rfl (wk_in kf_X5_55) dX5_turn_11 (fun v93 ev93 wv93 => ?_)
    have rv93 : rg (0) (10) v93 := clj_198 wv93
    replace hW := (wfP_i (wfP_i (wfP_a hW v93) ev93) rv93)
    have uv93 : (0 : Int) ≤ v93.toInt ∧ v93.toInt ≤ 10 := rv93
    have sv93 := congrArg Int32.toInt ev93
    refine lv_if_le (tgt := 24) hx hb dX5_turn_14 (by decide) (fun c14_94 => ?_) (fun c14_94 => ?_)
    · skip
      replace hW := wfP_i (wfP_l hW) (i_le c14_94 rfl (rg_i kc_0))
      have ic14_94 := Int32.le_iff_toInt_le.mp c14_94
      have q95 : rg (0) (0) v93 := (rg_le c14_94 rv93 kc_0).1
      have uq95 : (0 : Int) ≤ v93.toInt ∧ v93.toInt ≤ 0 := q95
      exact j24_2  g _ _ ls mFr.rf L mFi.rf hW (lv_sub hl [0, 1] rfl)
    · skip
      replace hW := wfP_i (wfP_r hW) (i_lt (rg_nle c14_94) (rg_i kc_0) rfl)
      have ic14_94 := Int32.lt_iff_toInt_lt.mp (rg_nle c14_94)
      have q96 : rg (1) (10) v93 := (rg_lt (rg_nle c14_94) kc_0 rv93).2
      have uq96 : (1 : Int) ≤ v93.toInt ∧ v93.toInt ≤ 10 := q96
      refine lv_aload_n hx hb dX5_turn_17 rfl (lv_at hl 0 rfl) ?_
      refine lv_iconst (v := 1) hx hb dX5_turn_18 (by decide) ?_
      refine lv_iconst (v := 1) hx hb dX5_turn_19 (by decide) ?_
      refine lv_iload_n hx hb dX5_turn_20 rfl (lv_at hl 1 rfl) ?_
      refine c_cv (As := [.int (1 : Int32), .int (1 : Int32), .int p1]) (rest := []) x hml L 5 i0 hal0 rfl (d_kask l X g i0 (1 : Int32) (1 : Int32) p1 hX (show i0 < 2 * Z.n from (by omega)) (rg_w kc_1 rfl) hW) (wk_V kd_X5_ask kl_X5_111 ki_X5_ask ks_X5_X5_ask kn_X5) rfl ⟨rfl, rfl⟩ hd_kask ⟨Nat.le_of_ble_eq_true rfl, Nat.le_of_ble_eq_true rfl⟩ rfl hl.1 rfl (lv_room (Nat.le_of_ble_eq_true rfl)) dX5_turn_21 (fun  g97 H97 k97 hp97 L97 => ?_)
      obtain ⟨hW, hi97, hp97⟩ := hp97
      replace hW := wfP_i hW ⟨hi97, hp97⟩
      exact j24_2  g97 _ _ ls (mFr.tr mFr.rf hp97.1 rfl) L97 (mFi.sub mFi.rf hi97 (mSub_eq 0 rfl (mSub_eq 1 rfl (mSub_eq 2 rfl (mSub_eq 3 rfl (mSub_eq 6 rfl (mSub_eq 7 rfl (mSub_eq 8 rfl (mSub_eq 9 rfl (mSub_eq 13 rfl (mSub_eq 14 rfl (mSub_eq 15 rfl mSub_nil)))))))))))) hW (lv_sub hl [0, 1] rfl)
theorem d_kturn (l : Launch) {G : cG} {Z : cZ} (X : Int) (g : mSt) (i0 : Nat) (p1 : Int32) (hX : 0 ≤ X ∧ X ≤ 2000000000) (hi0 : i0 < 2 * Z.n) {Φ : Int32 → mSt → Prop} (hW : wfP (wp_kturn Z i0 p1 g Φ)) : Met l yX5_turn (wk (Cond.code yX5_turn cX5_turn 4 none)) rm_kturn (va_Pc [.ref (Z.ad 5 i0), .int p1] (cPre G Z X g)) (cQv G Z X (fun g1 => wfP (Φ 0 g1) ∧ mFi (im_kturn Z i0 p1) g g1 ∧ (mFr [67, 108, 111, 164, 165, 168, 173, 176, 177, 178, 179, 197, 198, 544, 576, 768, 1248, 1280, 1312, 1344] g g1 ∧ True))) 0 0 (cAd Z) := by
  refine Met.ofW (cc := cX5_turn) (maxL := 4) (ret := none) (by decide) rfl ?_
  intro p e s m args below meth c s₁ B hml hv
  obtain ⟨rfl, hv⟩ := hv
  have hr := B.returns
  have hlocks := B.notSynchronized
  obtain ⟨x, L⟩ := c_start B rfl (fun w h => wk_in h) hv
  have hl := lv_entry ([.ref (Z.ad 5 i0), .int p1]) (n := 4) (Nat.le_of_ble_eq_true rfl)
  rw [lg_entry_eq]
  generalize (lg_sl ([.ref (Z.ad 5 i0), .int p1]) ++ List.replicate (4 - (lg_sl ([.ref (Z.ad 5 i0), .int p1])).length) Slot.unset).toArray = ls at hl ⊢
  exact v_kturn x hml L hX i0 p1 hi0 hW hl (fun pc' ls' g1 H1 locs1 hdg L hp => c_vret x L hr hlocks (Int.le_refl _) hp hdg)

def im_kisUnit (Z : cZ) (q1 : Nat) (p2 : Int32) : List (Nat × Nat × Nat) := []
def po_kisUnit (Z : cZ) (q1 : Nat) (p2 : Int32) (g : mSt) (r : Int32) (g1 : mSt) : Prop := mFi (im_kisUnit Z q1 p2) g g1 ∧ mFr [] g g1 ∧ rg (0) (1) r ∧ (r.toInt ≠ 0 → 4 ≤ p2.toInt ∧ p2.toInt ≤ 240)
def wp_kisUnit (Z : cZ) (q1 : Nat) (p2 : Int32) (g : mSt) (Φ : Int32 → mSt → Prop) : Prop :=
  ((p2.toInt < 4) → Φ (0 : Int32) g) ∧ ((4 ≤ p2.toInt) → ((p2.toInt ≤ 240) → ∀ (v6 : Int32), v6 = p2 - (4 : Int32) → rg (0) (236) v6 → v6.toInt = p2.toInt - 4 → wp_kwordAt_16 Z q1 v6 g (fun (v9 : Int32) (g8 : mSt) => po_kwordAt_16 Z q1 v6 g v9 g8 → ∀ (v10 : Int32), v10 = v9 &&& (16777215 : Int32) → rg (0) (16777215) v10 → ∀ (v11 : Int32), v11 = p2 - (8 : Int32) → rg (-4) (232) v11 → v11.toInt = p2.toInt - 8 → wp_kwordAt_16 Z q1 v11 g8 (fun (v14 : Int32) (g13 : mSt) => po_kwordAt_16 Z q1 v11 g8 v14 g13 → ∀ (v15 : Int32), v15 = (v9.toUInt32 >>> ((24 : Int32).toUInt32 &&& Int32.toUInt32 31)).toInt32 → rg (0) (255) v15 → ((v15.toInt < 1) → Φ (0 : Int32) g13) ∧ ((15 < v15.toInt) → Φ (0 : Int32) g13) ∧ ((v15.toInt = 1) → ((p2.toInt ≠ 8) → Φ (0 : Int32) g13) ∧ ((p2.toInt = 8) → ((v14.toInt ≠ 8) → Φ (0 : Int32) g13) ∧ ((v14.toInt = 8) → ((v10.toInt = 0) → Φ (0 : Int32) g13) ∧ ((v10.toInt ≠ 0) → Φ (1 : Int32) g13)))) ∧ ((v15.toInt = 2) → ((p2.toInt ≠ 8) → Φ (0 : Int32) g13) ∧ ((p2.toInt = 8) → ((v14.toInt ≠ 8) → Φ (0 : Int32) g13) ∧ ((v14.toInt = 8) → ((v10.toInt ≠ 0) → Φ (0 : Int32) g13) ∧ ((v10.toInt = 0) → Φ (1 : Int32) g13)))) ∧ ((v15.toInt = 3) → ((p2.toInt ≠ 4) → Φ (0 : Int32) g13) ∧ ((p2.toInt = 4) → ((1 < v10.toInt) → Φ (0 : Int32) g13) ∧ ((v10.toInt ≤ 1) → Φ (1 : Int32) g13))) ∧ ((v15.toInt = 4) → ((p2.toInt ≠ 4) → Φ (0 : Int32) g13) ∧ ((p2.toInt = 4) → ((v10.toInt ≠ 0) → Φ (0 : Int32) g13) ∧ ((v10.toInt = 0) → Φ (1 : Int32) g13))) ∧ ((v15.toInt = 5) → ((p2.toInt ≠ 8) → Φ (0 : Int32) g13) ∧ ((p2.toInt = 8) → ((v14.toInt ≠ 8) → Φ (0 : Int32) g13) ∧ ((v14.toInt = 8) → ((v10.toInt = 0) → Φ (0 : Int32) g13) ∧ ((v10.toInt ≠ 0) → Φ (1 : Int32) g13)))) ∧ ((v15.toInt = 6) → ((p2.toInt ≠ 8) → Φ (0 : Int32) g13) ∧ ((p2.toInt = 8) → ((v14.toInt ≠ 8) → Φ (0 : Int32) g13) ∧ ((v14.toInt = 8) → ((v10.toInt ≠ 0) → Φ (0 : Int32) g13) ∧ ((v10.toInt = 0) → Φ (1 : Int32) g13)))) ∧ ((v15.toInt = 7) → Φ (0 : Int32) g13) ∧ ((v15.toInt = 8) → ((p2.toInt ≤ 4) → Φ (0 : Int32) g13) ∧ ((4 < p2.toInt) → ((64 < p2.toInt) → Φ (0 : Int32) g13) ∧ ((p2.toInt ≤ 64) → Φ (1 : Int32) g13))) ∧ ((v15.toInt = 9) → ((p2.toInt ≠ 8) → Φ (0 : Int32) g13) ∧ ((p2.toInt = 8) → ((v14.toInt ≠ 8) → Φ (0 : Int32) g13) ∧ ((v14.toInt = 8) → ((v10.toInt = 0) → Φ (0 : Int32) g13) ∧ ((v10.toInt ≠ 0) → Φ (1 : Int32) g13)))) ∧ ((v15.toInt = 10) → ((p2.toInt ≠ 8) → Φ (0 : Int32) g13) ∧ ((p2.toInt = 8) → Φ (1 : Int32) g13)) ∧ ((v15.toInt = 11) → ((p2.toInt < 12) → Φ (0 : Int32) g13) ∧ ((12 ≤ p2.toInt) → ((60 < p2.toInt) → Φ (0 : Int32) g13) ∧ ((p2.toInt ≤ 60) → ∀ (v127 : Int32), v127 = p2 - p2 / (4 : Int32) * (4 : Int32) → rg (0) (3) v127 → v127.toInt = p2.toInt % 4 → ((v127.toInt ≠ 0) → Φ (0 : Int32) g13) ∧ ((v127.toInt = 0) → ∀ (v134 : Int32), v134 = v10 + (8 : Int32) → rg (8) (16777223) v134 → v134.toInt = v10.toInt + 8 → ((v14.toInt ≠ v134.toInt) → Φ (0 : Int32) g13) ∧ ((v14.toInt = v134.toInt) → Φ (1 : Int32) g13))))) ∧ ((v15.toInt = 12) → ((p2.toInt ≠ 16) → Φ (0 : Int32) g13) ∧ ((p2.toInt = 16) → ∀ (v143 : Int32), v143 = v10 + (8 : Int32) → rg (8) (16777223) v143 → v143.toInt = v10.toInt + 8 → ((v14.toInt ≠ v143.toInt) → Φ (0 : Int32) g13) ∧ ((v14.toInt = v143.toInt) → Φ (1 : Int32) g13))) ∧ ((v15.toInt = 13) → Φ (0 : Int32) g13) ∧ ((v15.toInt = 14) → Φ (0 : Int32) g13) ∧ ((v15.toInt = 15) → ((p2.toInt ≠ 8) → Φ (0 : Int32) g13) ∧ ((p2.toInt = 8) → ((v14.toInt ≠ 8) → Φ (0 : Int32) g13) ∧ ((v14.toInt = 8) → ((v10.toInt ≠ 0) → Φ (0 : Int32) g13) ∧ ((v10.toInt = 0) → Φ (1 : Int32) g13))))))) ∧ ((240 < p2.toInt) → Φ (0 : Int32) g))
set_option maxHeartbeats 4000000 in
set_option maxRecDepth 100000 in
theorem v_kisUnit {p : Program} {l : Launch} {e : Env} {s : State} {m : MethodId} {args : Array Value} {below : List Frame} {meth : Method} {c : Code} {H : Heap} {locs : List Loc} {Q : State → Prop} {ls : Array Slot} {G : cG} {Z : cZ} {A : Nat → Prop} {g : mSt} {H0 : Heap} {X : Int} (x : cX p c cX5_isUnit s args (wk (Cond.code yX5_isUnit cX5_isUnit 5 (some .boolean))) m G Z A RX5 H0) (hml : c.maxLocals = 5) (L : cL G Z A H0 X g H locs) (hX : 0 ≤ X ∧ X ≤ 2000000000) (q1 : Nat) (p2 : Int32) (hq1 : Z.al 16 q1) {Φ : Int32 → mSt → Prop} (hW : wfP (wp_kisUnit Z q1 p2 g Φ)) (hl : lv_has ls 5 [(0, .ref (Z.ad 16 q1)), (1, .int p2)]) (hQ : ∀ (pc' : Nat) (ls' : Array Slot) (r : Int32) (g1 : mSt) (H1 : Heap) (locs1 : List Loc), decode cX5_isUnit pc' = .ok (.ireturn, 1) → cL G Z A H0 X g1 H1 locs1 → (wfP (Φ r g1) ∧ mFi (im_kisUnit Z q1 p2) g g1 ∧ (mFr [] g g1 ∧ rg (0) (1) r ∧ (r.toInt ≠ 0 → 4 ≤ p2.toInt ∧ p2.toInt ≤ 240))) → W p l e rm_kisUnit s m args below meth c H1 locs1 0 0 Q (F0 m pc' ls' [.int r])) : W p l e rm_kisUnit s m args below meth c H locs 0 0 Q (F0 m 0 ls []) := by
  have hx := x.1
  have hb := x.2.1
  have hz := x.2.2.2.2.2.2.2.1
  have hzn := hz.1
  have up2 : (-2147483648 : Int) ≤ p2.toInt ∧ p2.toInt ≤ 2147483647 := (rg_any p2)
  refine lv_iload_n hx hb dX5_isUnit_0 rfl (lv_at hl 1 rfl) ?_
  refine lv_iconst (v := 4) hx hb dX5_isUnit_1 (by decide) ?_
  refine lv_icmp_lt (tgt := 11) hx hb dX5_isUnit_2 (by decide) (fun c2_1 => ?_) (fun c2_1 => ?_)
  · skip
    replace hW := wfP_i (wfP_l hW) (i_lt c2_1 rfl (rg_i kc_4))
    have ic2_1 := Int32.lt_iff_toInt_lt.mp c2_1
    have q2 : rg (-2147483648) (3) p2 := (rg_lt c2_1 (rg_any p2) kc_4).1
    have uq2 : (-2147483648 : Int) ≤ p2.toInt ∧ p2.toInt ≤ 3 := q2
    refine lv_iconst (v := 0) hx hb dX5_isUnit_11 (by decide) ?_
    exact hQ _ _ (0 : Int32) _ _ _ dX5_isUnit_12 L ⟨hW, mFi.rf, mFr.rf, rg_w kc_0 rfl, (by have : (0 : Int32).toInt = 0 := (by decide); omega)⟩
  · skip
    replace hW := wfP_i (wfP_r hW) (i_le (rg_nlt c2_1) (rg_i kc_4) rfl)
    have ic2_1 := Int32.le_iff_toInt_le.mp (rg_nlt c2_1)
    have q3 : rg (4) (2147483647) p2 := (rg_le (rg_nlt c2_1) kc_4 (rg_any p2)).2
    have uq3 : (4 : Int) ≤ p2.toInt ∧ p2.toInt ≤ 2147483647 := q3
    refine lv_iload_n hx hb dX5_isUnit_5 rfl (lv_at hl 1 rfl) ?_
    refine lv_aload_n hx hb dX5_isUnit_6 rfl (lv_at hl 0 rfl) ?_
    refine c_len (n := 240) x L 16 q1 hq1 rfl (by decide) dX5_isUnit_7 ?_
    refine lv_icmp_le (tgt := 13) hx hb dX5_isUnit_8 (by decide) (fun c8_4 => ?_) (fun c8_4 => ?_)
    · skip
      replace hW := wfP_i (wfP_l hW) (i_le c8_4 rfl (rg_i kc_240))
      have ic8_4 := Int32.le_iff_toInt_le.mp c8_4
      have q5 : rg (4) (240) p2 := (rg_le c8_4 q3 kc_240).1
      have uq5 : (4 : Int) ≤ p2.toInt ∧ p2.toInt ≤ 240 := q5
      refine lv_aload_n hx hb dX5_isUnit_13 rfl (lv_at hl 0 rfl) ?_
      refine lv_iload_n hx hb dX5_isUnit_14 rfl (lv_at hl 1 rfl) ?_
      refine lv_iconst (v := 4) hx hb dX5_isUnit_15 (by decide) ?_
      refine lv_isub hx hb dX5_isUnit_16 ?_
      refine lv_topi (fun v6 ev6 => ?_)
      have rv6 : rg (0) (236) v6 := (rg_sub ev6 q5 kc_4 rfl).1
      replace hW := (wfP_i (wfP_i (wfP_i (wfP_a hW v6) ev6) rv6) (w_isub ((rg_sub ev6 q5 kc_4 rfl).2) rfl (rg_i kc_4)))
      have tv6 := (rg_sub ev6 q5 kc_4 rfl).2
      have y7 : (4 : Int32).toInt = 4 := by decide
      have uv6 : (0 : Int) ≤ v6.toInt ∧ v6.toInt ≤ 236 := rv6
      refine c_siN (As := [.ref (Z.ad 16 q1), .int v6]) (rest := []) x hml L (d_kwordAt_16 l X g q1 v6 hX hq1 (rg_w rv6 rfl) hW) (goodC (wk_all kd_X11_wordAt)) (List.mem_of_getElem? (i := 12) rfl) (wk_in kt_X11_wordAt) (wk_in kn_X11) rfl ⟨rfl, rfl⟩ hd_kwordAt_16 ⟨Nat.le_of_ble_eq_true rfl, Nat.le_of_ble_eq_true rfl⟩ rfl hl.1 rfl (lv_room (Nat.le_of_ble_eq_true rfl)) dX5_isUnit_17 (fun v9 g8 H8 k8 hp8 L8 => ?_)
      obtain ⟨hW, hi8, hp8⟩ := hp8
      replace hW := wfP_i hW ⟨hi8, hp8⟩
      have rv9 : rg (-2147483648) (2147483647) v9 := hp8.2.1
      have uv9 : (-2147483648 : Int) ≤ v9.toInt ∧ v9.toInt ≤ 2147483647 := rv9
      refine lv_istore_n (lv' := [(2, .int v9), (0, .ref (Z.ad 16 q1)), (1, .int p2)]) hx hb dX5_isUnit_20 rfl hl (by decide) rfl (fun ls hl => ?_)
      refine lv_iload_n hx hb dX5_isUnit_21 rfl (lv_at hl 0 rfl) ?_
      refine lv_ldc (own := RX5) (v := 16777215) hx hb x.2.2.2.2.1 (x.2.2.1 _ (wk_in kk_X5_151)) dX5_isUnit_22 ?_
      refine lv_iand hx hb dX5_isUnit_24 ?_
      refine lv_topi (fun v10 ev10 => ?_)
      have rv10 : rg (0) (16777215) v10 := rg_and ev10 24 16777215 (by decide) rfl
      replace hW := (wfP_i (wfP_i (wfP_a hW v10) ev10) rv10)
      have uv10 : (0 : Int) ≤ v10.toInt ∧ v10.toInt ≤ 16777215 := rv10
      refine lv_istore_n (lv' := [(3, .int v10), (2, .int v9), (0, .ref (Z.ad 16 q1)), (1, .int p2)]) hx hb dX5_isUnit_25 rfl hl (by decide) rfl (fun ls hl => ?_)
      refine lv_aload_n hx hb dX5_isUnit_26 rfl (lv_at hl 2 rfl) ?_
      refine lv_iload_n hx hb dX5_isUnit_27 rfl (lv_at hl 3 rfl) ?_
      refine lv_bipush (v := 8) hx hb dX5_isUnit_28 (by decide) ?_
      refine lv_isub hx hb dX5_isUnit_30 ?_
      refine lv_topi (fun v11 ev11 => ?_)
      have rv11 : rg (-4) (232) v11 := (rg_sub ev11 q5 kc_8 rfl).1
      replace hW := (wfP_i (wfP_i (wfP_i (wfP_a hW v11) ev11) rv11) (w_isub ((rg_sub ev11 q5 kc_8 rfl).2) rfl (rg_i kc_8)))
      have tv11 := (rg_sub ev11 q5 kc_8 rfl).2
      have y12 : (8 : Int32).toInt = 8 := by decide
      have uv11 : (-4 : Int) ≤ v11.toInt ∧ v11.toInt ≤ 232 := rv11
      refine c_siN (As := [.ref (Z.ad 16 q1), .int v11]) (rest := []) x hml L8 (d_kwordAt_16 l X g8 q1 v11 hX hq1 (rg_w rv11 rfl) hW) (goodC (wk_all kd_X11_wordAt)) (List.mem_of_getElem? (i := 12) rfl) (wk_in kt_X11_wordAt) (wk_in kn_X11) rfl ⟨rfl, rfl⟩ hd_kwordAt_16 ⟨Nat.le_of_ble_eq_true rfl, Nat.le_of_ble_eq_true rfl⟩ rfl hl.1 rfl (lv_room (Nat.le_of_ble_eq_true rfl)) dX5_isUnit_31 (fun v14 g13 H13 k13 hp13 L13 => ?_)
      obtain ⟨hW, hi13, hp13⟩ := hp13
      replace hW := wfP_i hW ⟨hi13, hp13⟩
      have rv14 : rg (-2147483648) (2147483647) v14 := hp13.2.1
      have uv14 : (-2147483648 : Int) ≤ v14.toInt ∧ v14.toInt ≤ 2147483647 := rv14
      refine lv_istore (lv' := [(4, .int v14), (3, .int v10), (2, .int v9), (0, .ref (Z.ad 16 q1)), (1, .int p2)]) hx hb dX5_isUnit_34 hl (by decide) rfl (fun ls hl => ?_)
      refine lv_iload_n hx hb dX5_isUnit_36 rfl (lv_at hl 2 rfl) ?_
      refine lv_bipush (v := 24) hx hb dX5_isUnit_37 (by decide) ?_
      refine lv_iushr hx hb dX5_isUnit_39 rfl ?_
      refine lv_topi (fun v15 ev15 => ?_)
      have rv15 : rg (0) (255) v15 := rg_ush ev15 24 rfl
      replace hW := (wfP_i (wfP_i (wfP_a hW v15) ev15) rv15)
      have uv15 : (0 : Int) ≤ v15.toInt ∧ v15.toInt ≤ 255 := rv15
      rcases (show v15.toInt < 1 ∨ 15 < v15.toInt ∨ v15.toInt = 1 ∨ v15.toInt = 2 ∨ v15.toInt = 3 ∨ v15.toInt = 4 ∨ v15.toInt = 5 ∨ v15.toInt = 6 ∨ v15.toInt = 7 ∨ v15.toInt = 8 ∨ v15.toInt = 9 ∨ v15.toInt = 10 ∨ v15.toInt = 11 ∨ v15.toInt = 12 ∨ v15.toInt = 13 ∨ v15.toInt = 14 ∨ v15.toInt = 15 by omega) with c40_16 | c40_16 | c40_16 | c40_16 | c40_16 | c40_16 | c40_16 | c40_16 | c40_16 | c40_16 | c40_16 | c40_16 | c40_16 | c40_16 | c40_16 | c40_16 | c40_16
      · skip
        replace hW := wfP_i (wfP_l hW) c40_16
        refine lv_tableOut (tgt := 276) hx hb dX5_isUnit_40 (Or.inl c40_16) (by decide) ?_
        refine lv_iconst (v := 0) hx hb dX5_isUnit_276 (by decide) ?_
        exact hQ _ _ (0 : Int32) _ _ _ dX5_isUnit_277 L13 ⟨hW, (mFi.sub (mFi.sub mFi.rf hi8 mSub_nil) hi13 mSub_nil), (mFr.tr (mFr.tr mFr.rf hp8.1 rfl) hp13.1 rfl), rg_w kc_0 rfl, (by have : (0 : Int32).toInt = 0 := (by decide); omega)⟩
      · skip
        replace hW := wfP_i (wfP_l (wfP_r hW)) c40_16
        refine lv_tableOut (tgt := 276) hx hb dX5_isUnit_40 (Or.inr c40_16) (by decide) ?_
        refine lv_iconst (v := 0) hx hb dX5_isUnit_276 (by decide) ?_
        exact hQ _ _ (0 : Int32) _ _ _ dX5_isUnit_277 L13 ⟨hW, (mFi.sub (mFi.sub mFi.rf hi8 mSub_nil) hi13 mSub_nil), (mFr.tr (mFr.tr mFr.rf hp8.1 rfl) hp13.1 rfl), rg_w kc_0 rfl, (by have : (0 : Int32).toInt = 0 := (by decide); omega)⟩
      · skip
        replace hW := wfP_i (wfP_l (wfP_r (wfP_r hW))) c40_16
        have q17 : rg (1) (1) v15 := ⟨by omega, by omega⟩
        refine lv_tableIn (off := 76) (tgt := 116) hx hb dX5_isUnit_40 (by omega) (by omega) (by rw [c40_16]; rfl) (by decide) ?_
        refine lv_iload_n hx hb dX5_isUnit_116 rfl (lv_at hl 4 rfl) ?_
        refine lv_bipush (v := 8) hx hb dX5_isUnit_117 (by decide) ?_
        refine lv_icmp_ne (tgt := 137) hx hb dX5_isUnit_119 (by decide) (fun c119_18 => ?_) (fun c119_18 => ?_)
        · skip
          replace hW := wfP_i (wfP_l hW) (i_ne c119_18 rfl (rg_i kc_8))
          have ic119_18 : p2.toInt ≠ (8 : Int32).toInt := fun z => c119_18 (Int32.toInt_inj.mp z)
          have y19 : (8 : Int32).toInt = 8 := by decide
          refine lv_iconst (v := 0) hx hb dX5_isUnit_137 (by decide) ?_
          exact hQ _ _ (0 : Int32) _ _ _ dX5_isUnit_138 L13 ⟨hW, (mFi.sub (mFi.sub mFi.rf hi8 mSub_nil) hi13 mSub_nil), (mFr.tr (mFr.tr mFr.rf hp8.1 rfl) hp13.1 rfl), rg_w kc_0 rfl, (by have : (0 : Int32).toInt = 0 := (by decide); omega)⟩
        · skip
          replace hW := wfP_i (wfP_r hW) (i_eq c119_18 rfl (rg_i kc_8))
          have ic119_18 := congrArg Int32.toInt c119_18
          have y20 : (8 : Int32).toInt = 8 := by decide
          have q21 : rg (8) (8) p2 := (rg_eq c119_18 q5 kc_8).1
          have uq21 : (8 : Int) ≤ p2.toInt ∧ p2.toInt ≤ 8 := q21
          refine lv_iload hx hb dX5_isUnit_122 (lv_at hl 0 rfl) ?_
          refine lv_bipush (v := 8) hx hb dX5_isUnit_124 (by decide) ?_
          refine lv_icmp_ne (tgt := 137) hx hb dX5_isUnit_126 (by decide) (fun c126_22 => ?_) (fun c126_22 => ?_)
          · skip
            replace hW := wfP_i (wfP_l hW) (i_ne c126_22 rfl (rg_i kc_8))
            have ic126_22 : v14.toInt ≠ (8 : Int32).toInt := fun z => c126_22 (Int32.toInt_inj.mp z)
            have y23 : (8 : Int32).toInt = 8 := by decide
            refine lv_iconst (v := 0) hx hb dX5_isUnit_137 (by decide) ?_
            exact hQ _ _ (0 : Int32) _ _ _ dX5_isUnit_138 L13 ⟨hW, (mFi.sub (mFi.sub mFi.rf hi8 mSub_nil) hi13 mSub_nil), (mFr.tr (mFr.tr mFr.rf hp8.1 rfl) hp13.1 rfl), rg_w kc_0 rfl, (by have : (0 : Int32).toInt = 0 := (by decide); omega)⟩
          · skip
            replace hW := wfP_i (wfP_r hW) (i_eq c126_22 rfl (rg_i kc_8))
            have ic126_22 := congrArg Int32.toInt c126_22
            have y24 : (8 : Int32).toInt = 8 := by decide
            have q25 : rg (8) (8) v14 := (rg_eq c126_22 rv14 kc_8).1
            have uq25 : (8 : Int) ≤ v14.toInt ∧ v14.toInt ≤ 8 := q25
            refine lv_iload_n hx hb dX5_isUnit_129 rfl (lv_at hl 1 rfl) ?_
            refine lv_if_eq (tgt := 137) hx hb dX5_isUnit_130 (by decide) (fun c130_26 => ?_) (fun c130_26 => ?_)
            · skip
              replace hW := wfP_i (wfP_l hW) (i_eq c130_26 rfl (rg_i kc_0))
              have ic130_26 := congrArg Int32.toInt c130_26
              have y27 : (0 : Int32).toInt = 0 := by decide
              have q28 : rg (0) (0) v10 := (rg_eq c130_26 rv10 kc_0).1
              have uq28 : (0 : Int) ≤ v10.toInt ∧ v10.toInt ≤ 0 := q28
              refine lv_iconst (v := 0) hx hb dX5_isUnit_137 (by decide) ?_
              exact hQ _ _ (0 : Int32) _ _ _ dX5_isUnit_138 L13 ⟨hW, (mFi.sub (mFi.sub mFi.rf hi8 mSub_nil) hi13 mSub_nil), (mFr.tr (mFr.tr mFr.rf hp8.1 rfl) hp13.1 rfl), rg_w kc_0 rfl, (by have : (0 : Int32).toInt = 0 := (by decide); omega)⟩
            · skip
              replace hW := wfP_i (wfP_r hW) (i_ne c130_26 rfl (rg_i kc_0))
              have ic130_26 : v10.toInt ≠ (0 : Int32).toInt := fun z => c130_26 (Int32.toInt_inj.mp z)
              have y29 : (0 : Int32).toInt = 0 := by decide
              have q30 : rg (1) (16777215) v10 := rg_neL c130_26 rv10 kc_0
              have uq30 : (1 : Int) ≤ v10.toInt ∧ v10.toInt ≤ 16777215 := q30
              refine lv_iconst (v := 1) hx hb dX5_isUnit_133 (by decide) ?_
              refine lv_goto (tgt := 138) hx hb dX5_isUnit_134 (by decide) ?_
              exact hQ _ _ (1 : Int32) _ _ _ dX5_isUnit_138 L13 ⟨hW, (mFi.sub (mFi.sub mFi.rf hi8 mSub_nil) hi13 mSub_nil), (mFr.tr (mFr.tr mFr.rf hp8.1 rfl) hp13.1 rfl), rg_w kc_1 rfl, (by have : (1 : Int32).toInt = 1 := (by decide); omega)⟩
      · skip
        replace hW := wfP_i (wfP_l (wfP_r (wfP_r (wfP_r hW)))) c40_16
        have q31 : rg (2) (2) v15 := ⟨by omega, by omega⟩
        refine lv_tableIn (off := 99) (tgt := 139) hx hb dX5_isUnit_40 (by omega) (by omega) (by rw [c40_16]; rfl) (by decide) ?_
        refine lv_iload_n hx hb dX5_isUnit_139 rfl (lv_at hl 4 rfl) ?_
        refine lv_bipush (v := 8) hx hb dX5_isUnit_140 (by decide) ?_
        refine lv_icmp_ne (tgt := 160) hx hb dX5_isUnit_142 (by decide) (fun c142_32 => ?_) (fun c142_32 => ?_)
        · skip
          replace hW := wfP_i (wfP_l hW) (i_ne c142_32 rfl (rg_i kc_8))
          have ic142_32 : p2.toInt ≠ (8 : Int32).toInt := fun z => c142_32 (Int32.toInt_inj.mp z)
          have y33 : (8 : Int32).toInt = 8 := by decide
          refine lv_iconst (v := 0) hx hb dX5_isUnit_160 (by decide) ?_
          exact hQ _ _ (0 : Int32) _ _ _ dX5_isUnit_161 L13 ⟨hW, (mFi.sub (mFi.sub mFi.rf hi8 mSub_nil) hi13 mSub_nil), (mFr.tr (mFr.tr mFr.rf hp8.1 rfl) hp13.1 rfl), rg_w kc_0 rfl, (by have : (0 : Int32).toInt = 0 := (by decide); omega)⟩
        · skip
          replace hW := wfP_i (wfP_r hW) (i_eq c142_32 rfl (rg_i kc_8))
          have ic142_32 := congrArg Int32.toInt c142_32
          have y34 : (8 : Int32).toInt = 8 := by decide
          have q35 : rg (8) (8) p2 := (rg_eq c142_32 q5 kc_8).1
          have uq35 : (8 : Int) ≤ p2.toInt ∧ p2.toInt ≤ 8 := q35
          refine lv_iload hx hb dX5_isUnit_145 (lv_at hl 0 rfl) ?_
          refine lv_bipush (v := 8) hx hb dX5_isUnit_147 (by decide) ?_
          refine lv_icmp_ne (tgt := 160) hx hb dX5_isUnit_149 (by decide) (fun c149_36 => ?_) (fun c149_36 => ?_)
          · skip
            replace hW := wfP_i (wfP_l hW) (i_ne c149_36 rfl (rg_i kc_8))
            have ic149_36 : v14.toInt ≠ (8 : Int32).toInt := fun z => c149_36 (Int32.toInt_inj.mp z)
            have y37 : (8 : Int32).toInt = 8 := by decide
            refine lv_iconst (v := 0) hx hb dX5_isUnit_160 (by decide) ?_
            exact hQ _ _ (0 : Int32) _ _ _ dX5_isUnit_161 L13 ⟨hW, (mFi.sub (mFi.sub mFi.rf hi8 mSub_nil) hi13 mSub_nil), (mFr.tr (mFr.tr mFr.rf hp8.1 rfl) hp13.1 rfl), rg_w kc_0 rfl, (by have : (0 : Int32).toInt = 0 := (by decide); omega)⟩
          · skip
            replace hW := wfP_i (wfP_r hW) (i_eq c149_36 rfl (rg_i kc_8))
            have ic149_36 := congrArg Int32.toInt c149_36
            have y38 : (8 : Int32).toInt = 8 := by decide
            have q39 : rg (8) (8) v14 := (rg_eq c149_36 rv14 kc_8).1
            have uq39 : (8 : Int) ≤ v14.toInt ∧ v14.toInt ≤ 8 := q39
            refine lv_iload_n hx hb dX5_isUnit_152 rfl (lv_at hl 1 rfl) ?_
            refine lv_if_ne (tgt := 160) hx hb dX5_isUnit_153 (by decide) (fun c153_40 => ?_) (fun c153_40 => ?_)
            · skip
              replace hW := wfP_i (wfP_l hW) (i_ne c153_40 rfl (rg_i kc_0))
              have ic153_40 : v10.toInt ≠ (0 : Int32).toInt := fun z => c153_40 (Int32.toInt_inj.mp z)
              have y41 : (0 : Int32).toInt = 0 := by decide
              have q42 : rg (1) (16777215) v10 := rg_neL c153_40 rv10 kc_0
              have uq42 : (1 : Int) ≤ v10.toInt ∧ v10.toInt ≤ 16777215 := q42
              refine lv_iconst (v := 0) hx hb dX5_isUnit_160 (by decide) ?_
              exact hQ _ _ (0 : Int32) _ _ _ dX5_isUnit_161 L13 ⟨hW, (mFi.sub (mFi.sub mFi.rf hi8 mSub_nil) hi13 mSub_nil), (mFr.tr (mFr.tr mFr.rf hp8.1 rfl) hp13.1 rfl), rg_w kc_0 rfl, (by have : (0 : Int32).toInt = 0 := (by decide); omega)⟩
            · skip
              replace hW := wfP_i (wfP_r hW) (i_eq c153_40 rfl (rg_i kc_0))
              have ic153_40 := congrArg Int32.toInt c153_40
              have y43 : (0 : Int32).toInt = 0 := by decide
              have q44 : rg (0) (0) v10 := (rg_eq c153_40 rv10 kc_0).1
              have uq44 : (0 : Int) ≤ v10.toInt ∧ v10.toInt ≤ 0 := q44
              refine lv_iconst (v := 1) hx hb dX5_isUnit_156 (by decide) ?_
              refine lv_goto (tgt := 161) hx hb dX5_isUnit_157 (by decide) ?_
              exact hQ _ _ (1 : Int32) _ _ _ dX5_isUnit_161 L13 ⟨hW, (mFi.sub (mFi.sub mFi.rf hi8 mSub_nil) hi13 mSub_nil), (mFr.tr (mFr.tr mFr.rf hp8.1 rfl) hp13.1 rfl), rg_w kc_1 rfl, (by have : (1 : Int32).toInt = 1 := (by decide); omega)⟩
      · skip
        replace hW := wfP_i (wfP_l (wfP_r (wfP_r (wfP_r (wfP_r hW))))) c40_16
        have q45 : rg (3) (3) v15 := ⟨by omega, by omega⟩
        refine lv_tableIn (off := 122) (tgt := 162) hx hb dX5_isUnit_40 (by omega) (by omega) (by rw [c40_16]; rfl) (by decide) ?_
        refine lv_iload_n hx hb dX5_isUnit_162 rfl (lv_at hl 4 rfl) ?_
        refine lv_iconst (v := 4) hx hb dX5_isUnit_163 (by decide) ?_
        refine lv_icmp_ne (tgt := 176) hx hb dX5_isUnit_164 (by decide) (fun c164_46 => ?_) (fun c164_46 => ?_)
        · skip
          replace hW := wfP_i (wfP_l hW) (i_ne c164_46 rfl (rg_i kc_4))
          have ic164_46 : p2.toInt ≠ (4 : Int32).toInt := fun z => c164_46 (Int32.toInt_inj.mp z)
          have y47 : (4 : Int32).toInt = 4 := by decide
          have q48 : rg (5) (240) p2 := rg_neL c164_46 q5 kc_4
          have uq48 : (5 : Int) ≤ p2.toInt ∧ p2.toInt ≤ 240 := q48
          refine lv_iconst (v := 0) hx hb dX5_isUnit_176 (by decide) ?_
          exact hQ _ _ (0 : Int32) _ _ _ dX5_isUnit_177 L13 ⟨hW, (mFi.sub (mFi.sub mFi.rf hi8 mSub_nil) hi13 mSub_nil), (mFr.tr (mFr.tr mFr.rf hp8.1 rfl) hp13.1 rfl), rg_w kc_0 rfl, (by have : (0 : Int32).toInt = 0 := (by decide); omega)⟩
        · skip
          replace hW := wfP_i (wfP_r hW) (i_eq c164_46 rfl (rg_i kc_4))
          have ic164_46 := congrArg Int32.toInt c164_46
          have y49 : (4 : Int32).toInt = 4 := by decide
          have q50 : rg (4) (4) p2 := (rg_eq c164_46 q5 kc_4).1
          have uq50 : (4 : Int) ≤ p2.toInt ∧ p2.toInt ≤ 4 := q50
          refine lv_iload_n hx hb dX5_isUnit_167 rfl (lv_at hl 1 rfl) ?_
          refine lv_iconst (v := 1) hx hb dX5_isUnit_168 (by decide) ?_
          refine lv_icmp_gt (tgt := 176) hx hb dX5_isUnit_169 (by decide) (fun c169_51 => ?_) (fun c169_51 => ?_)
          · skip
            replace hW := wfP_i (wfP_l hW) (i_lt c169_51 (rg_i kc_1) rfl)
            have ic169_51 := Int32.lt_iff_toInt_lt.mp c169_51
            have q52 : rg (2) (16777215) v10 := (rg_lt c169_51 kc_1 rv10).2
            have uq52 : (2 : Int) ≤ v10.toInt ∧ v10.toInt ≤ 16777215 := q52
            refine lv_iconst (v := 0) hx hb dX5_isUnit_176 (by decide) ?_
            exact hQ _ _ (0 : Int32) _ _ _ dX5_isUnit_177 L13 ⟨hW, (mFi.sub (mFi.sub mFi.rf hi8 mSub_nil) hi13 mSub_nil), (mFr.tr (mFr.tr mFr.rf hp8.1 rfl) hp13.1 rfl), rg_w kc_0 rfl, (by have : (0 : Int32).toInt = 0 := (by decide); omega)⟩
          · skip
            replace hW := wfP_i (wfP_r hW) (i_le (rg_nlt c169_51) rfl (rg_i kc_1))
            have ic169_51 := Int32.le_iff_toInt_le.mp (rg_nlt c169_51)
            have q53 : rg (0) (1) v10 := (rg_le (rg_nlt c169_51) rv10 kc_1).1
            have uq53 : (0 : Int) ≤ v10.toInt ∧ v10.toInt ≤ 1 := q53
            refine lv_iconst (v := 1) hx hb dX5_isUnit_172 (by decide) ?_
            refine lv_goto (tgt := 177) hx hb dX5_isUnit_173 (by decide) ?_
            exact hQ _ _ (1 : Int32) _ _ _ dX5_isUnit_177 L13 ⟨hW, (mFi.sub (mFi.sub mFi.rf hi8 mSub_nil) hi13 mSub_nil), (mFr.tr (mFr.tr mFr.rf hp8.1 rfl) hp13.1 rfl), rg_w kc_1 rfl, (by have : (1 : Int32).toInt = 1 := (by decide); omega)⟩
      · skip
        replace hW := wfP_i (wfP_l (wfP_r (wfP_r (wfP_r (wfP_r (wfP_r hW)))))) c40_16
        have q54 : rg (4) (4) v15 := ⟨by omega, by omega⟩
        refine lv_tableIn (off := 138) (tgt := 178) hx hb dX5_isUnit_40 (by omega) (by omega) (by rw [c40_16]; rfl) (by decide) ?_
        refine lv_iload_n hx hb dX5_isUnit_178 rfl (lv_at hl 4 rfl) ?_
        refine lv_iconst (v := 4) hx hb dX5_isUnit_179 (by decide) ?_
        refine lv_icmp_ne (tgt := 191) hx hb dX5_isUnit_180 (by decide) (fun c180_55 => ?_) (fun c180_55 => ?_)
        · skip
          replace hW := wfP_i (wfP_l hW) (i_ne c180_55 rfl (rg_i kc_4))
          have ic180_55 : p2.toInt ≠ (4 : Int32).toInt := fun z => c180_55 (Int32.toInt_inj.mp z)
          have y56 : (4 : Int32).toInt = 4 := by decide
          have q57 : rg (5) (240) p2 := rg_neL c180_55 q5 kc_4
          have uq57 : (5 : Int) ≤ p2.toInt ∧ p2.toInt ≤ 240 := q57
          refine lv_iconst (v := 0) hx hb dX5_isUnit_191 (by decide) ?_
          exact hQ _ _ (0 : Int32) _ _ _ dX5_isUnit_192 L13 ⟨hW, (mFi.sub (mFi.sub mFi.rf hi8 mSub_nil) hi13 mSub_nil), (mFr.tr (mFr.tr mFr.rf hp8.1 rfl) hp13.1 rfl), rg_w kc_0 rfl, (by have : (0 : Int32).toInt = 0 := (by decide); omega)⟩
        · skip
          replace hW := wfP_i (wfP_r hW) (i_eq c180_55 rfl (rg_i kc_4))
          have ic180_55 := congrArg Int32.toInt c180_55
          have y58 : (4 : Int32).toInt = 4 := by decide
          have q59 : rg (4) (4) p2 := (rg_eq c180_55 q5 kc_4).1
          have uq59 : (4 : Int) ≤ p2.toInt ∧ p2.toInt ≤ 4 := q59
          refine lv_iload_n hx hb dX5_isUnit_183 rfl (lv_at hl 1 rfl) ?_
          refine lv_if_ne (tgt := 191) hx hb dX5_isUnit_184 (by decide) (fun c184_60 => ?_) (fun c184_60 => ?_)
          · skip
            replace hW := wfP_i (wfP_l hW) (i_ne c184_60 rfl (rg_i kc_0))
            have ic184_60 : v10.toInt ≠ (0 : Int32).toInt := fun z => c184_60 (Int32.toInt_inj.mp z)
            have y61 : (0 : Int32).toInt = 0 := by decide
            have q62 : rg (1) (16777215) v10 := rg_neL c184_60 rv10 kc_0
            have uq62 : (1 : Int) ≤ v10.toInt ∧ v10.toInt ≤ 16777215 := q62
            refine lv_iconst (v := 0) hx hb dX5_isUnit_191 (by decide) ?_
            exact hQ _ _ (0 : Int32) _ _ _ dX5_isUnit_192 L13 ⟨hW, (mFi.sub (mFi.sub mFi.rf hi8 mSub_nil) hi13 mSub_nil), (mFr.tr (mFr.tr mFr.rf hp8.1 rfl) hp13.1 rfl), rg_w kc_0 rfl, (by have : (0 : Int32).toInt = 0 := (by decide); omega)⟩
          · skip
            replace hW := wfP_i (wfP_r hW) (i_eq c184_60 rfl (rg_i kc_0))
            have ic184_60 := congrArg Int32.toInt c184_60
            have y63 : (0 : Int32).toInt = 0 := by decide
            have q64 : rg (0) (0) v10 := (rg_eq c184_60 rv10 kc_0).1
            have uq64 : (0 : Int) ≤ v10.toInt ∧ v10.toInt ≤ 0 := q64
            refine lv_iconst (v := 1) hx hb dX5_isUnit_187 (by decide) ?_
            refine lv_goto (tgt := 192) hx hb dX5_isUnit_188 (by decide) ?_
            exact hQ _ _ (1 : Int32) _ _ _ dX5_isUnit_192 L13 ⟨hW, (mFi.sub (mFi.sub mFi.rf hi8 mSub_nil) hi13 mSub_nil), (mFr.tr (mFr.tr mFr.rf hp8.1 rfl) hp13.1 rfl), rg_w kc_1 rfl, (by have : (1 : Int32).toInt = 1 := (by decide); omega)⟩
      · skip
        replace hW := wfP_i (wfP_l (wfP_r (wfP_r (wfP_r (wfP_r (wfP_r (wfP_r hW))))))) c40_16
        have q65 : rg (5) (5) v15 := ⟨by omega, by omega⟩
        refine lv_tableIn (off := 76) (tgt := 116) hx hb dX5_isUnit_40 (by omega) (by omega) (by rw [c40_16]; rfl) (by decide) ?_
        refine lv_iload_n hx hb dX5_isUnit_116 rfl (lv_at hl 4 rfl) ?_
        refine lv_bipush (v := 8) hx hb dX5_isUnit_117 (by decide) ?_
        refine lv_icmp_ne (tgt := 137) hx hb dX5_isUnit_119 (by decide) (fun c119_66 => ?_) (fun c119_66 => ?_)
        · skip
          replace hW := wfP_i (wfP_l hW) (i_ne c119_66 rfl (rg_i kc_8))
          have ic119_66 : p2.toInt ≠ (8 : Int32).toInt := fun z => c119_66 (Int32.toInt_inj.mp z)
          have y67 : (8 : Int32).toInt = 8 := by decide
          refine lv_iconst (v := 0) hx hb dX5_isUnit_137 (by decide) ?_
          exact hQ _ _ (0 : Int32) _ _ _ dX5_isUnit_138 L13 ⟨hW, (mFi.sub (mFi.sub mFi.rf hi8 mSub_nil) hi13 mSub_nil), (mFr.tr (mFr.tr mFr.rf hp8.1 rfl) hp13.1 rfl), rg_w kc_0 rfl, (by have : (0 : Int32).toInt = 0 := (by decide); omega)⟩
        · skip
          replace hW := wfP_i (wfP_r hW) (i_eq c119_66 rfl (rg_i kc_8))
          have ic119_66 := congrArg Int32.toInt c119_66
          have y68 : (8 : Int32).toInt = 8 := by decide
          have q69 : rg (8) (8) p2 := (rg_eq c119_66 q5 kc_8).1
          have uq69 : (8 : Int) ≤ p2.toInt ∧ p2.toInt ≤ 8 := q69
          refine lv_iload hx hb dX5_isUnit_122 (lv_at hl 0 rfl) ?_
          refine lv_bipush (v := 8) hx hb dX5_isUnit_124 (by decide) ?_
          refine lv_icmp_ne (tgt := 137) hx hb dX5_isUnit_126 (by decide) (fun c126_70 => ?_) (fun c126_70 => ?_)
          · skip
            replace hW := wfP_i (wfP_l hW) (i_ne c126_70 rfl (rg_i kc_8))
            have ic126_70 : v14.toInt ≠ (8 : Int32).toInt := fun z => c126_70 (Int32.toInt_inj.mp z)
            have y71 : (8 : Int32).toInt = 8 := by decide
            refine lv_iconst (v := 0) hx hb dX5_isUnit_137 (by decide) ?_
            exact hQ _ _ (0 : Int32) _ _ _ dX5_isUnit_138 L13 ⟨hW, (mFi.sub (mFi.sub mFi.rf hi8 mSub_nil) hi13 mSub_nil), (mFr.tr (mFr.tr mFr.rf hp8.1 rfl) hp13.1 rfl), rg_w kc_0 rfl, (by have : (0 : Int32).toInt = 0 := (by decide); omega)⟩
          · skip
            replace hW := wfP_i (wfP_r hW) (i_eq c126_70 rfl (rg_i kc_8))
            have ic126_70 := congrArg Int32.toInt c126_70
            have y72 : (8 : Int32).toInt = 8 := by decide
            have q73 : rg (8) (8) v14 := (rg_eq c126_70 rv14 kc_8).1
            have uq73 : (8 : Int) ≤ v14.toInt ∧ v14.toInt ≤ 8 := q73
            refine lv_iload_n hx hb dX5_isUnit_129 rfl (lv_at hl 1 rfl) ?_
            refine lv_if_eq (tgt := 137) hx hb dX5_isUnit_130 (by decide) (fun c130_74 => ?_) (fun c130_74 => ?_)
            · skip
              replace hW := wfP_i (wfP_l hW) (i_eq c130_74 rfl (rg_i kc_0))
              have ic130_74 := congrArg Int32.toInt c130_74
              have y75 : (0 : Int32).toInt = 0 := by decide
              have q76 : rg (0) (0) v10 := (rg_eq c130_74 rv10 kc_0).1
              have uq76 : (0 : Int) ≤ v10.toInt ∧ v10.toInt ≤ 0 := q76
              refine lv_iconst (v := 0) hx hb dX5_isUnit_137 (by decide) ?_
              exact hQ _ _ (0 : Int32) _ _ _ dX5_isUnit_138 L13 ⟨hW, (mFi.sub (mFi.sub mFi.rf hi8 mSub_nil) hi13 mSub_nil), (mFr.tr (mFr.tr mFr.rf hp8.1 rfl) hp13.1 rfl), rg_w kc_0 rfl, (by have : (0 : Int32).toInt = 0 := (by decide); omega)⟩
            · skip
              replace hW := wfP_i (wfP_r hW) (i_ne c130_74 rfl (rg_i kc_0))
              have ic130_74 : v10.toInt ≠ (0 : Int32).toInt := fun z => c130_74 (Int32.toInt_inj.mp z)
              have y77 : (0 : Int32).toInt = 0 := by decide
              have q78 : rg (1) (16777215) v10 := rg_neL c130_74 rv10 kc_0
              have uq78 : (1 : Int) ≤ v10.toInt ∧ v10.toInt ≤ 16777215 := q78
              refine lv_iconst (v := 1) hx hb dX5_isUnit_133 (by decide) ?_
              refine lv_goto (tgt := 138) hx hb dX5_isUnit_134 (by decide) ?_
              exact hQ _ _ (1 : Int32) _ _ _ dX5_isUnit_138 L13 ⟨hW, (mFi.sub (mFi.sub mFi.rf hi8 mSub_nil) hi13 mSub_nil), (mFr.tr (mFr.tr mFr.rf hp8.1 rfl) hp13.1 rfl), rg_w kc_1 rfl, (by have : (1 : Int32).toInt = 1 := (by decide); omega)⟩
      · skip
        replace hW := wfP_i (wfP_l (wfP_r (wfP_r (wfP_r (wfP_r (wfP_r (wfP_r (wfP_r hW)))))))) c40_16
        have q79 : rg (6) (6) v15 := ⟨by omega, by omega⟩
        refine lv_tableIn (off := 99) (tgt := 139) hx hb dX5_isUnit_40 (by omega) (by omega) (by rw [c40_16]; rfl) (by decide) ?_
        refine lv_iload_n hx hb dX5_isUnit_139 rfl (lv_at hl 4 rfl) ?_
        refine lv_bipush (v := 8) hx hb dX5_isUnit_140 (by decide) ?_
        refine lv_icmp_ne (tgt := 160) hx hb dX5_isUnit_142 (by decide) (fun c142_80 => ?_) (fun c142_80 => ?_)
        · skip
          replace hW := wfP_i (wfP_l hW) (i_ne c142_80 rfl (rg_i kc_8))
          have ic142_80 : p2.toInt ≠ (8 : Int32).toInt := fun z => c142_80 (Int32.toInt_inj.mp z)
          have y81 : (8 : Int32).toInt = 8 := by decide
          refine lv_iconst (v := 0) hx hb dX5_isUnit_160 (by decide) ?_
          exact hQ _ _ (0 : Int32) _ _ _ dX5_isUnit_161 L13 ⟨hW, (mFi.sub (mFi.sub mFi.rf hi8 mSub_nil) hi13 mSub_nil), (mFr.tr (mFr.tr mFr.rf hp8.1 rfl) hp13.1 rfl), rg_w kc_0 rfl, (by have : (0 : Int32).toInt = 0 := (by decide); omega)⟩
        · skip
          replace hW := wfP_i (wfP_r hW) (i_eq c142_80 rfl (rg_i kc_8))
          have ic142_80 := congrArg Int32.toInt c142_80
          have y82 : (8 : Int32).toInt = 8 := by decide
          have q83 : rg (8) (8) p2 := (rg_eq c142_80 q5 kc_8).1
          have uq83 : (8 : Int) ≤ p2.toInt ∧ p2.toInt ≤ 8 := q83
          refine lv_iload hx hb dX5_isUnit_145 (lv_at hl 0 rfl) ?_
          refine lv_bipush (v := 8) hx hb dX5_isUnit_147 (by decide) ?_
          refine lv_icmp_ne (tgt := 160) hx hb dX5_isUnit_149 (by decide) (fun c149_84 => ?_) (fun c149_84 => ?_)
          · skip
            replace hW := wfP_i (wfP_l hW) (i_ne c149_84 rfl (rg_i kc_8))
            have ic149_84 : v14.toInt ≠ (8 : Int32).toInt := fun z => c149_84 (Int32.toInt_inj.mp z)
            have y85 : (8 : Int32).toInt = 8 := by decide
            refine lv_iconst (v := 0) hx hb dX5_isUnit_160 (by decide) ?_
            exact hQ _ _ (0 : Int32) _ _ _ dX5_isUnit_161 L13 ⟨hW, (mFi.sub (mFi.sub mFi.rf hi8 mSub_nil) hi13 mSub_nil), (mFr.tr (mFr.tr mFr.rf hp8.1 rfl) hp13.1 rfl), rg_w kc_0 rfl, (by have : (0 : Int32).toInt = 0 := (by decide); omega)⟩
          · skip
            replace hW := wfP_i (wfP_r hW) (i_eq c149_84 rfl (rg_i kc_8))
            have ic149_84 := congrArg Int32.toInt c149_84
            have y86 : (8 : Int32).toInt = 8 := by decide
            have q87 : rg (8) (8) v14 := (rg_eq c149_84 rv14 kc_8).1
            have uq87 : (8 : Int) ≤ v14.toInt ∧ v14.toInt ≤ 8 := q87
            refine lv_iload_n hx hb dX5_isUnit_152 rfl (lv_at hl 1 rfl) ?_
            refine lv_if_ne (tgt := 160) hx hb dX5_isUnit_153 (by decide) (fun c153_88 => ?_) (fun c153_88 => ?_)
            · skip
              replace hW := wfP_i (wfP_l hW) (i_ne c153_88 rfl (rg_i kc_0))
              have ic153_88 : v10.toInt ≠ (0 : Int32).toInt := fun z => c153_88 (Int32.toInt_inj.mp z)
              have y89 : (0 : Int32).toInt = 0 := by decide
              have q90 : rg (1) (16777215) v10 := rg_neL c153_88 rv10 kc_0
              have uq90 : (1 : Int) ≤ v10.toInt ∧ v10.toInt ≤ 16777215 := q90
              refine lv_iconst (v := 0) hx hb dX5_isUnit_160 (by decide) ?_
              exact hQ _ _ (0 : Int32) _ _ _ dX5_isUnit_161 L13 ⟨hW, (mFi.sub (mFi.sub mFi.rf hi8 mSub_nil) hi13 mSub_nil), (mFr.tr (mFr.tr mFr.rf hp8.1 rfl) hp13.1 rfl), rg_w kc_0 rfl, (by have : (0 : Int32).toInt = 0 := (by decide); omega)⟩
            · skip
              replace hW := wfP_i (wfP_r hW) (i_eq c153_88 rfl (rg_i kc_0))
              have ic153_88 := congrArg Int32.toInt c153_88
              have y91 : (0 : Int32).toInt = 0 := by decide
              have q92 : rg (0) (0) v10 := (rg_eq c153_88 rv10 kc_0).1
              have uq92 : (0 : Int) ≤ v10.toInt ∧ v10.toInt ≤ 0 := q92
              refine lv_iconst (v := 1) hx hb dX5_isUnit_156 (by decide) ?_
              refine lv_goto (tgt := 161) hx hb dX5_isUnit_157 (by decide) ?_
              exact hQ _ _ (1 : Int32) _ _ _ dX5_isUnit_161 L13 ⟨hW, (mFi.sub (mFi.sub mFi.rf hi8 mSub_nil) hi13 mSub_nil), (mFr.tr (mFr.tr mFr.rf hp8.1 rfl) hp13.1 rfl), rg_w kc_1 rfl, (by have : (1 : Int32).toInt = 1 := (by decide); omega)⟩
      · skip
        replace hW := wfP_i (wfP_l (wfP_r (wfP_r (wfP_r (wfP_r (wfP_r (wfP_r (wfP_r (wfP_r hW))))))))) c40_16
        have q93 : rg (7) (7) v15 := ⟨by omega, by omega⟩
        refine lv_tableIn (off := 236) (tgt := 276) hx hb dX5_isUnit_40 (by omega) (by omega) (by rw [c40_16]; rfl) (by decide) ?_
        refine lv_iconst (v := 0) hx hb dX5_isUnit_276 (by decide) ?_
        exact hQ _ _ (0 : Int32) _ _ _ dX5_isUnit_277 L13 ⟨hW, (mFi.sub (mFi.sub mFi.rf hi8 mSub_nil) hi13 mSub_nil), (mFr.tr (mFr.tr mFr.rf hp8.1 rfl) hp13.1 rfl), rg_w kc_0 rfl, (by have : (0 : Int32).toInt = 0 := (by decide); omega)⟩
      · skip
        replace hW := wfP_i (wfP_l (wfP_r (wfP_r (wfP_r (wfP_r (wfP_r (wfP_r (wfP_r (wfP_r (wfP_r hW)))))))))) c40_16
        have q94 : rg (8) (8) v15 := ⟨by omega, by omega⟩
        refine lv_tableIn (off := 153) (tgt := 193) hx hb dX5_isUnit_40 (by omega) (by omega) (by rw [c40_16]; rfl) (by decide) ?_
        refine lv_iload_n hx hb dX5_isUnit_193 rfl (lv_at hl 4 rfl) ?_
        refine lv_iconst (v := 4) hx hb dX5_isUnit_194 (by decide) ?_
        refine lv_icmp_le (tgt := 208) hx hb dX5_isUnit_195 (by decide) (fun c195_95 => ?_) (fun c195_95 => ?_)
        · skip
          replace hW := wfP_i (wfP_l hW) (i_le c195_95 rfl (rg_i kc_4))
          have ic195_95 := Int32.le_iff_toInt_le.mp c195_95
          have q96 : rg (4) (4) p2 := (rg_le c195_95 q5 kc_4).1
          have uq96 : (4 : Int) ≤ p2.toInt ∧ p2.toInt ≤ 4 := q96
          refine lv_iconst (v := 0) hx hb dX5_isUnit_208 (by decide) ?_
          exact hQ _ _ (0 : Int32) _ _ _ dX5_isUnit_209 L13 ⟨hW, (mFi.sub (mFi.sub mFi.rf hi8 mSub_nil) hi13 mSub_nil), (mFr.tr (mFr.tr mFr.rf hp8.1 rfl) hp13.1 rfl), rg_w kc_0 rfl, (by have : (0 : Int32).toInt = 0 := (by decide); omega)⟩
        · skip
          replace hW := wfP_i (wfP_r hW) (i_lt (rg_nle c195_95) (rg_i kc_4) rfl)
          have ic195_95 := Int32.lt_iff_toInt_lt.mp (rg_nle c195_95)
          have q97 : rg (5) (240) p2 := (rg_lt (rg_nle c195_95) kc_4 q5).2
          have uq97 : (5 : Int) ≤ p2.toInt ∧ p2.toInt ≤ 240 := q97
          refine lv_iload_n hx hb dX5_isUnit_198 rfl (lv_at hl 4 rfl) ?_
          refine lv_bipush (v := 64) hx hb dX5_isUnit_199 (by decide) ?_
          refine lv_icmp_gt (tgt := 208) hx hb dX5_isUnit_201 (by decide) (fun c201_98 => ?_) (fun c201_98 => ?_)
          · skip
            replace hW := wfP_i (wfP_l hW) (i_lt c201_98 (rg_i kc_64) rfl)
            have ic201_98 := Int32.lt_iff_toInt_lt.mp c201_98
            have q99 : rg (65) (240) p2 := (rg_lt c201_98 kc_64 q97).2
            have uq99 : (65 : Int) ≤ p2.toInt ∧ p2.toInt ≤ 240 := q99
            refine lv_iconst (v := 0) hx hb dX5_isUnit_208 (by decide) ?_
            exact hQ _ _ (0 : Int32) _ _ _ dX5_isUnit_209 L13 ⟨hW, (mFi.sub (mFi.sub mFi.rf hi8 mSub_nil) hi13 mSub_nil), (mFr.tr (mFr.tr mFr.rf hp8.1 rfl) hp13.1 rfl), rg_w kc_0 rfl, (by have : (0 : Int32).toInt = 0 := (by decide); omega)⟩
          · skip
            replace hW := wfP_i (wfP_r hW) (i_le (rg_nlt c201_98) rfl (rg_i kc_64))
            have ic201_98 := Int32.le_iff_toInt_le.mp (rg_nlt c201_98)
            have q100 : rg (5) (64) p2 := (rg_le (rg_nlt c201_98) q97 kc_64).1
            have uq100 : (5 : Int) ≤ p2.toInt ∧ p2.toInt ≤ 64 := q100
            refine lv_iconst (v := 1) hx hb dX5_isUnit_204 (by decide) ?_
            refine lv_goto (tgt := 209) hx hb dX5_isUnit_205 (by decide) ?_
            exact hQ _ _ (1 : Int32) _ _ _ dX5_isUnit_209 L13 ⟨hW, (mFi.sub (mFi.sub mFi.rf hi8 mSub_nil) hi13 mSub_nil), (mFr.tr (mFr.tr mFr.rf hp8.1 rfl) hp13.1 rfl), rg_w kc_1 rfl, (by have : (1 : Int32).toInt = 1 := (by decide); omega)⟩
      · skip
        replace hW := wfP_i (wfP_l (wfP_r (wfP_r (wfP_r (wfP_r (wfP_r (wfP_r (wfP_r (wfP_r (wfP_r (wfP_r hW))))))))))) c40_16
        have q101 : rg (9) (9) v15 := ⟨by omega, by omega⟩
        refine lv_tableIn (off := 76) (tgt := 116) hx hb dX5_isUnit_40 (by omega) (by omega) (by rw [c40_16]; rfl) (by decide) ?_
        refine lv_iload_n hx hb dX5_isUnit_116 rfl (lv_at hl 4 rfl) ?_
        refine lv_bipush (v := 8) hx hb dX5_isUnit_117 (by decide) ?_
        refine lv_icmp_ne (tgt := 137) hx hb dX5_isUnit_119 (by decide) (fun c119_102 => ?_) (fun c119_102 => ?_)
        · skip
          replace hW := wfP_i (wfP_l hW) (i_ne c119_102 rfl (rg_i kc_8))
          have ic119_102 : p2.toInt ≠ (8 : Int32).toInt := fun z => c119_102 (Int32.toInt_inj.mp z)
          have y103 : (8 : Int32).toInt = 8 := by decide
          refine lv_iconst (v := 0) hx hb dX5_isUnit_137 (by decide) ?_
          exact hQ _ _ (0 : Int32) _ _ _ dX5_isUnit_138 L13 ⟨hW, (mFi.sub (mFi.sub mFi.rf hi8 mSub_nil) hi13 mSub_nil), (mFr.tr (mFr.tr mFr.rf hp8.1 rfl) hp13.1 rfl), rg_w kc_0 rfl, (by have : (0 : Int32).toInt = 0 := (by decide); omega)⟩
        · skip
          replace hW := wfP_i (wfP_r hW) (i_eq c119_102 rfl (rg_i kc_8))
          have ic119_102 := congrArg Int32.toInt c119_102
          have y104 : (8 : Int32).toInt = 8 := by decide
          have q105 : rg (8) (8) p2 := (rg_eq c119_102 q5 kc_8).1
          have uq105 : (8 : Int) ≤ p2.toInt ∧ p2.toInt ≤ 8 := q105
          refine lv_iload hx hb dX5_isUnit_122 (lv_at hl 0 rfl) ?_
          refine lv_bipush (v := 8) hx hb dX5_isUnit_124 (by decide) ?_
          refine lv_icmp_ne (tgt := 137) hx hb dX5_isUnit_126 (by decide) (fun c126_106 => ?_) (fun c126_106 => ?_)
          · skip
            replace hW := wfP_i (wfP_l hW) (i_ne c126_106 rfl (rg_i kc_8))
            have ic126_106 : v14.toInt ≠ (8 : Int32).toInt := fun z => c126_106 (Int32.toInt_inj.mp z)
            have y107 : (8 : Int32).toInt = 8 := by decide
            refine lv_iconst (v := 0) hx hb dX5_isUnit_137 (by decide) ?_
            exact hQ _ _ (0 : Int32) _ _ _ dX5_isUnit_138 L13 ⟨hW, (mFi.sub (mFi.sub mFi.rf hi8 mSub_nil) hi13 mSub_nil), (mFr.tr (mFr.tr mFr.rf hp8.1 rfl) hp13.1 rfl), rg_w kc_0 rfl, (by have : (0 : Int32).toInt = 0 := (by decide); omega)⟩
          · skip
            replace hW := wfP_i (wfP_r hW) (i_eq c126_106 rfl (rg_i kc_8))
            have ic126_106 := congrArg Int32.toInt c126_106
            have y108 : (8 : Int32).toInt = 8 := by decide
            have q109 : rg (8) (8) v14 := (rg_eq c126_106 rv14 kc_8).1
            have uq109 : (8 : Int) ≤ v14.toInt ∧ v14.toInt ≤ 8 := q109
            refine lv_iload_n hx hb dX5_isUnit_129 rfl (lv_at hl 1 rfl) ?_
            refine lv_if_eq (tgt := 137) hx hb dX5_isUnit_130 (by decide) (fun c130_110 => ?_) (fun c130_110 => ?_)
            · skip
              replace hW := wfP_i (wfP_l hW) (i_eq c130_110 rfl (rg_i kc_0))
              have ic130_110 := congrArg Int32.toInt c130_110
              have y111 : (0 : Int32).toInt = 0 := by decide
              have q112 : rg (0) (0) v10 := (rg_eq c130_110 rv10 kc_0).1
              have uq112 : (0 : Int) ≤ v10.toInt ∧ v10.toInt ≤ 0 := q112
              refine lv_iconst (v := 0) hx hb dX5_isUnit_137 (by decide) ?_
              exact hQ _ _ (0 : Int32) _ _ _ dX5_isUnit_138 L13 ⟨hW, (mFi.sub (mFi.sub mFi.rf hi8 mSub_nil) hi13 mSub_nil), (mFr.tr (mFr.tr mFr.rf hp8.1 rfl) hp13.1 rfl), rg_w kc_0 rfl, (by have : (0 : Int32).toInt = 0 := (by decide); omega)⟩
            · skip
              replace hW := wfP_i (wfP_r hW) (i_ne c130_110 rfl (rg_i kc_0))
              have ic130_110 : v10.toInt ≠ (0 : Int32).toInt := fun z => c130_110 (Int32.toInt_inj.mp z)
              have y113 : (0 : Int32).toInt = 0 := by decide
              have q114 : rg (1) (16777215) v10 := rg_neL c130_110 rv10 kc_0
              have uq114 : (1 : Int) ≤ v10.toInt ∧ v10.toInt ≤ 16777215 := q114
              refine lv_iconst (v := 1) hx hb dX5_isUnit_133 (by decide) ?_
              refine lv_goto (tgt := 138) hx hb dX5_isUnit_134 (by decide) ?_
              exact hQ _ _ (1 : Int32) _ _ _ dX5_isUnit_138 L13 ⟨hW, (mFi.sub (mFi.sub mFi.rf hi8 mSub_nil) hi13 mSub_nil), (mFr.tr (mFr.tr mFr.rf hp8.1 rfl) hp13.1 rfl), rg_w kc_1 rfl, (by have : (1 : Int32).toInt = 1 := (by decide); omega)⟩
      · skip
        replace hW := wfP_i (wfP_l (wfP_r (wfP_r (wfP_r (wfP_r (wfP_r (wfP_r (wfP_r (wfP_r (wfP_r (wfP_r (wfP_r hW)))))))))))) c40_16
        have q115 : rg (10) (10) v15 := ⟨by omega, by omega⟩
        refine lv_tableIn (off := 170) (tgt := 210) hx hb dX5_isUnit_40 (by omega) (by omega) (by rw [c40_16]; rfl) (by decide) ?_
        refine lv_iload_n hx hb dX5_isUnit_210 rfl (lv_at hl 4 rfl) ?_
        refine lv_bipush (v := 8) hx hb dX5_isUnit_211 (by decide) ?_
        refine lv_icmp_ne (tgt := 220) hx hb dX5_isUnit_213 (by decide) (fun c213_116 => ?_) (fun c213_116 => ?_)
        · skip
          replace hW := wfP_i (wfP_l hW) (i_ne c213_116 rfl (rg_i kc_8))
          have ic213_116 : p2.toInt ≠ (8 : Int32).toInt := fun z => c213_116 (Int32.toInt_inj.mp z)
          have y117 : (8 : Int32).toInt = 8 := by decide
          refine lv_iconst (v := 0) hx hb dX5_isUnit_220 (by decide) ?_
          exact hQ _ _ (0 : Int32) _ _ _ dX5_isUnit_221 L13 ⟨hW, (mFi.sub (mFi.sub mFi.rf hi8 mSub_nil) hi13 mSub_nil), (mFr.tr (mFr.tr mFr.rf hp8.1 rfl) hp13.1 rfl), rg_w kc_0 rfl, (by have : (0 : Int32).toInt = 0 := (by decide); omega)⟩
        · skip
          replace hW := wfP_i (wfP_r hW) (i_eq c213_116 rfl (rg_i kc_8))
          have ic213_116 := congrArg Int32.toInt c213_116
          have y118 : (8 : Int32).toInt = 8 := by decide
          have q119 : rg (8) (8) p2 := (rg_eq c213_116 q5 kc_8).1
          have uq119 : (8 : Int) ≤ p2.toInt ∧ p2.toInt ≤ 8 := q119
          refine lv_iconst (v := 1) hx hb dX5_isUnit_216 (by decide) ?_
          refine lv_goto (tgt := 221) hx hb dX5_isUnit_217 (by decide) ?_
          exact hQ _ _ (1 : Int32) _ _ _ dX5_isUnit_221 L13 ⟨hW, (mFi.sub (mFi.sub mFi.rf hi8 mSub_nil) hi13 mSub_nil), (mFr.tr (mFr.tr mFr.rf hp8.1 rfl) hp13.1 rfl), rg_w kc_1 rfl, (by have : (1 : Int32).toInt = 1 := (by decide); omega)⟩
      · skip
        replace hW := wfP_i (wfP_l (wfP_r (wfP_r (wfP_r (wfP_r (wfP_r (wfP_r (wfP_r (wfP_r (wfP_r (wfP_r (wfP_r (wfP_r hW))))))))))))) c40_16
        have q120 : rg (11) (11) v15 := ⟨by omega, by omega⟩
        refine lv_tableIn (off := 182) (tgt := 222) hx hb dX5_isUnit_40 (by omega) (by omega) (by rw [c40_16]; rfl) (by decide) ?_
        refine lv_iload_n hx hb dX5_isUnit_222 rfl (lv_at hl 4 rfl) ?_
        refine lv_bipush (v := 12) hx hb dX5_isUnit_223 (by decide) ?_
        refine lv_icmp_lt (tgt := 253) hx hb dX5_isUnit_225 (by decide) (fun c225_121 => ?_) (fun c225_121 => ?_)
        · skip
          replace hW := wfP_i (wfP_l hW) (i_lt c225_121 rfl (rg_i kc_12))
          have ic225_121 := Int32.lt_iff_toInt_lt.mp c225_121
          have q122 : rg (4) (11) p2 := (rg_lt c225_121 q5 kc_12).1
          have uq122 : (4 : Int) ≤ p2.toInt ∧ p2.toInt ≤ 11 := q122
          refine lv_iconst (v := 0) hx hb dX5_isUnit_253 (by decide) ?_
          exact hQ _ _ (0 : Int32) _ _ _ dX5_isUnit_254 L13 ⟨hW, (mFi.sub (mFi.sub mFi.rf hi8 mSub_nil) hi13 mSub_nil), (mFr.tr (mFr.tr mFr.rf hp8.1 rfl) hp13.1 rfl), rg_w kc_0 rfl, (by have : (0 : Int32).toInt = 0 := (by decide); omega)⟩
        · skip
          replace hW := wfP_i (wfP_r hW) (i_le (rg_nlt c225_121) (rg_i kc_12) rfl)
          have ic225_121 := Int32.le_iff_toInt_le.mp (rg_nlt c225_121)
          have q123 : rg (12) (240) p2 := (rg_le (rg_nlt c225_121) kc_12 q5).2
          have uq123 : (12 : Int) ≤ p2.toInt ∧ p2.toInt ≤ 240 := q123
          refine lv_iload_n hx hb dX5_isUnit_228 rfl (lv_at hl 4 rfl) ?_
          refine lv_bipush (v := 60) hx hb dX5_isUnit_229 (by decide) ?_
          refine lv_icmp_gt (tgt := 253) hx hb dX5_isUnit_231 (by decide) (fun c231_124 => ?_) (fun c231_124 => ?_)
          · skip
            replace hW := wfP_i (wfP_l hW) (i_lt c231_124 (rg_i kc_60) rfl)
            have ic231_124 := Int32.lt_iff_toInt_lt.mp c231_124
            have q125 : rg (61) (240) p2 := (rg_lt c231_124 kc_60 q123).2
            have uq125 : (61 : Int) ≤ p2.toInt ∧ p2.toInt ≤ 240 := q125
            refine lv_iconst (v := 0) hx hb dX5_isUnit_253 (by decide) ?_
            exact hQ _ _ (0 : Int32) _ _ _ dX5_isUnit_254 L13 ⟨hW, (mFi.sub (mFi.sub mFi.rf hi8 mSub_nil) hi13 mSub_nil), (mFr.tr (mFr.tr mFr.rf hp8.1 rfl) hp13.1 rfl), rg_w kc_0 rfl, (by have : (0 : Int32).toInt = 0 := (by decide); omega)⟩
          · skip
            replace hW := wfP_i (wfP_r hW) (i_le (rg_nlt c231_124) rfl (rg_i kc_60))
            have ic231_124 := Int32.le_iff_toInt_le.mp (rg_nlt c231_124)
            have q126 : rg (12) (60) p2 := (rg_le (rg_nlt c231_124) q123 kc_60).1
            have uq126 : (12 : Int) ≤ p2.toInt ∧ p2.toInt ≤ 60 := q126
            refine lv_iload_n hx hb dX5_isUnit_234 rfl (lv_at hl 4 rfl) ?_
            refine lv_iconst (v := 4) hx hb dX5_isUnit_235 (by decide) ?_
            refine lv_irem hx hb dX5_isUnit_236 (by decide) ?_
            refine lv_topi (fun v127 ev127 => ?_)
            have rv127 : rg (0) (3) v127 := (rg_rem ev127 q126 kc_4 rfl).1
            replace hW := (wfP_i (wfP_i (wfP_i (wfP_a hW v127) ev127) rv127) ((rg_rem ev127 q126 kc_4 rfl).2))
            have tv127 := (rg_rem ev127 q126 kc_4 rfl).2
            have y128 : (4 : Int32).toInt = 4 := by decide
            have uv127 : (0 : Int) ≤ v127.toInt ∧ v127.toInt ≤ 3 := rv127
            refine lv_if_ne (tgt := 253) hx hb dX5_isUnit_237 (by decide) (fun c237_129 => ?_) (fun c237_129 => ?_)
            · skip
              replace hW := wfP_i (wfP_l hW) (i_ne c237_129 rfl (rg_i kc_0))
              have ic237_129 : v127.toInt ≠ (0 : Int32).toInt := fun z => c237_129 (Int32.toInt_inj.mp z)
              have y130 : (0 : Int32).toInt = 0 := by decide
              have q131 : rg (1) (3) v127 := rg_neL c237_129 rv127 kc_0
              have uq131 : (1 : Int) ≤ v127.toInt ∧ v127.toInt ≤ 3 := q131
              refine lv_iconst (v := 0) hx hb dX5_isUnit_253 (by decide) ?_
              exact hQ _ _ (0 : Int32) _ _ _ dX5_isUnit_254 L13 ⟨hW, (mFi.sub (mFi.sub mFi.rf hi8 mSub_nil) hi13 mSub_nil), (mFr.tr (mFr.tr mFr.rf hp8.1 rfl) hp13.1 rfl), rg_w kc_0 rfl, (by have : (0 : Int32).toInt = 0 := (by decide); omega)⟩
            · skip
              replace hW := wfP_i (wfP_r hW) (i_eq c237_129 rfl (rg_i kc_0))
              have ic237_129 := congrArg Int32.toInt c237_129
              have y132 : (0 : Int32).toInt = 0 := by decide
              have q133 : rg (0) (0) v127 := (rg_eq c237_129 rv127 kc_0).1
              have uq133 : (0 : Int) ≤ v127.toInt ∧ v127.toInt ≤ 0 := q133
              refine lv_iload hx hb dX5_isUnit_240 (lv_at hl 0 rfl) ?_
              refine lv_iload_n hx hb dX5_isUnit_242 rfl (lv_at hl 1 rfl) ?_
              refine lv_bipush (v := 8) hx hb dX5_isUnit_243 (by decide) ?_
              refine lv_iadd hx hb dX5_isUnit_245 ?_
              refine lv_topi (fun v134 ev134 => ?_)
              have rv134 : rg (8) (16777223) v134 := (rg_add ev134 rv10 kc_8 rfl).1
              replace hW := (wfP_i (wfP_i (wfP_i (wfP_a hW v134) ev134) rv134) (w_iadd ((rg_add ev134 rv10 kc_8 rfl).2) rfl (rg_i kc_8)))
              have tv134 := (rg_add ev134 rv10 kc_8 rfl).2
              have y135 : (8 : Int32).toInt = 8 := by decide
              have uv134 : (8 : Int) ≤ v134.toInt ∧ v134.toInt ≤ 16777223 := rv134
              refine lv_icmp_ne (tgt := 253) hx hb dX5_isUnit_246 (by decide) (fun c246_136 => ?_) (fun c246_136 => ?_)
              · skip
                replace hW := wfP_i (wfP_l hW) (i_ne c246_136 rfl rfl)
                have ic246_136 : v14.toInt ≠ v134.toInt := fun z => c246_136 (Int32.toInt_inj.mp z)
                refine lv_iconst (v := 0) hx hb dX5_isUnit_253 (by decide) ?_
                exact hQ _ _ (0 : Int32) _ _ _ dX5_isUnit_254 L13 ⟨hW, (mFi.sub (mFi.sub mFi.rf hi8 mSub_nil) hi13 mSub_nil), (mFr.tr (mFr.tr mFr.rf hp8.1 rfl) hp13.1 rfl), rg_w kc_0 rfl, (by have : (0 : Int32).toInt = 0 := (by decide); omega)⟩
              · skip
                replace hW := wfP_i (wfP_r hW) (i_eq c246_136 rfl rfl)
                have ic246_136 := congrArg Int32.toInt c246_136
                have q137 : rg (8) (16777223) v14 := (rg_eq c246_136 rv14 rv134).1
                have uq137 : (8 : Int) ≤ v14.toInt ∧ v14.toInt ≤ 16777223 := q137
                refine lv_iconst (v := 1) hx hb dX5_isUnit_249 (by decide) ?_
                refine lv_goto (tgt := 254) hx hb dX5_isUnit_250 (by decide) ?_
                exact hQ _ _ (1 : Int32) _ _ _ dX5_isUnit_254 L13 ⟨hW, (mFi.sub (mFi.sub mFi.rf hi8 mSub_nil) hi13 mSub_nil), (mFr.tr (mFr.tr mFr.rf hp8.1 rfl) hp13.1 rfl), rg_w kc_1 rfl, (by have : (1 : Int32).toInt = 1 := (by decide); omega)⟩
      · skip
        replace hW := wfP_i (wfP_l (wfP_r (wfP_r (wfP_r (wfP_r (wfP_r (wfP_r (wfP_r (wfP_r (wfP_r (wfP_r (wfP_r (wfP_r (wfP_r hW)))))))))))))) c40_16
        have q138 : rg (12) (12) v15 := ⟨by omega, by omega⟩
        refine lv_tableIn (off := 215) (tgt := 255) hx hb dX5_isUnit_40 (by omega) (by omega) (by rw [c40_16]; rfl) (by decide) ?_
        refine lv_iload_n hx hb dX5_isUnit_255 rfl (lv_at hl 4 rfl) ?_
        refine lv_bipush (v := 16) hx hb dX5_isUnit_256 (by decide) ?_
        refine lv_icmp_ne (tgt := 274) hx hb dX5_isUnit_258 (by decide) (fun c258_139 => ?_) (fun c258_139 => ?_)
        · skip
          replace hW := wfP_i (wfP_l hW) (i_ne c258_139 rfl (rg_i kc_16))
          have ic258_139 : p2.toInt ≠ (16 : Int32).toInt := fun z => c258_139 (Int32.toInt_inj.mp z)
          have y140 : (16 : Int32).toInt = 16 := by decide
          refine lv_iconst (v := 0) hx hb dX5_isUnit_274 (by decide) ?_
          exact hQ _ _ (0 : Int32) _ _ _ dX5_isUnit_275 L13 ⟨hW, (mFi.sub (mFi.sub mFi.rf hi8 mSub_nil) hi13 mSub_nil), (mFr.tr (mFr.tr mFr.rf hp8.1 rfl) hp13.1 rfl), rg_w kc_0 rfl, (by have : (0 : Int32).toInt = 0 := (by decide); omega)⟩
        · skip
          replace hW := wfP_i (wfP_r hW) (i_eq c258_139 rfl (rg_i kc_16))
          have ic258_139 := congrArg Int32.toInt c258_139
          have y141 : (16 : Int32).toInt = 16 := by decide
          have q142 : rg (16) (16) p2 := (rg_eq c258_139 q5 kc_16).1
          have uq142 : (16 : Int) ≤ p2.toInt ∧ p2.toInt ≤ 16 := q142
          refine lv_iload hx hb dX5_isUnit_261 (lv_at hl 0 rfl) ?_
          refine lv_iload_n hx hb dX5_isUnit_263 rfl (lv_at hl 1 rfl) ?_
          refine lv_bipush (v := 8) hx hb dX5_isUnit_264 (by decide) ?_
          refine lv_iadd hx hb dX5_isUnit_266 ?_
          refine lv_topi (fun v143 ev143 => ?_)
          have rv143 : rg (8) (16777223) v143 := (rg_add ev143 rv10 kc_8 rfl).1
          replace hW := (wfP_i (wfP_i (wfP_i (wfP_a hW v143) ev143) rv143) (w_iadd ((rg_add ev143 rv10 kc_8 rfl).2) rfl (rg_i kc_8)))
          have tv143 := (rg_add ev143 rv10 kc_8 rfl).2
          have y144 : (8 : Int32).toInt = 8 := by decide
          have uv143 : (8 : Int) ≤ v143.toInt ∧ v143.toInt ≤ 16777223 := rv143
          refine lv_icmp_ne (tgt := 274) hx hb dX5_isUnit_267 (by decide) (fun c267_145 => ?_) (fun c267_145 => ?_)
          · skip
            replace hW := wfP_i (wfP_l hW) (i_ne c267_145 rfl rfl)
            have ic267_145 : v14.toInt ≠ v143.toInt := fun z => c267_145 (Int32.toInt_inj.mp z)
            refine lv_iconst (v := 0) hx hb dX5_isUnit_274 (by decide) ?_
            exact hQ _ _ (0 : Int32) _ _ _ dX5_isUnit_275 L13 ⟨hW, (mFi.sub (mFi.sub mFi.rf hi8 mSub_nil) hi13 mSub_nil), (mFr.tr (mFr.tr mFr.rf hp8.1 rfl) hp13.1 rfl), rg_w kc_0 rfl, (by have : (0 : Int32).toInt = 0 := (by decide); omega)⟩
          · skip
            replace hW := wfP_i (wfP_r hW) (i_eq c267_145 rfl rfl)
            have ic267_145 := congrArg Int32.toInt c267_145
            have q146 : rg (8) (16777223) v14 := (rg_eq c267_145 rv14 rv143).1
            have uq146 : (8 : Int) ≤ v14.toInt ∧ v14.toInt ≤ 16777223 := q146
            refine lv_iconst (v := 1) hx hb dX5_isUnit_270 (by decide) ?_
            refine lv_goto (tgt := 275) hx hb dX5_isUnit_271 (by decide) ?_
            exact hQ _ _ (1 : Int32) _ _ _ dX5_isUnit_275 L13 ⟨hW, (mFi.sub (mFi.sub mFi.rf hi8 mSub_nil) hi13 mSub_nil), (mFr.tr (mFr.tr mFr.rf hp8.1 rfl) hp13.1 rfl), rg_w kc_1 rfl, (by have : (1 : Int32).toInt = 1 := (by decide); omega)⟩
      · skip
        replace hW := wfP_i (wfP_l (wfP_r (wfP_r (wfP_r (wfP_r (wfP_r (wfP_r (wfP_r (wfP_r (wfP_r (wfP_r (wfP_r (wfP_r (wfP_r (wfP_r hW))))))))))))))) c40_16
        have q147 : rg (13) (13) v15 := ⟨by omega, by omega⟩
        refine lv_tableIn (off := 236) (tgt := 276) hx hb dX5_isUnit_40 (by omega) (by omega) (by rw [c40_16]; rfl) (by decide) ?_
        refine lv_iconst (v := 0) hx hb dX5_isUnit_276 (by decide) ?_
        exact hQ _ _ (0 : Int32) _ _ _ dX5_isUnit_277 L13 ⟨hW, (mFi.sub (mFi.sub mFi.rf hi8 mSub_nil) hi13 mSub_nil), (mFr.tr (mFr.tr mFr.rf hp8.1 rfl) hp13.1 rfl), rg_w kc_0 rfl, (by have : (0 : Int32).toInt = 0 := (by decide); omega)⟩
      · skip
        replace hW := wfP_i (wfP_l (wfP_r (wfP_r (wfP_r (wfP_r (wfP_r (wfP_r (wfP_r (wfP_r (wfP_r (wfP_r (wfP_r (wfP_r (wfP_r (wfP_r (wfP_r hW)))))))))))))))) c40_16
        have q148 : rg (14) (14) v15 := ⟨by omega, by omega⟩
        refine lv_tableIn (off := 236) (tgt := 276) hx hb dX5_isUnit_40 (by omega) (by omega) (by rw [c40_16]; rfl) (by decide) ?_
        refine lv_iconst (v := 0) hx hb dX5_isUnit_276 (by decide) ?_
        exact hQ _ _ (0 : Int32) _ _ _ dX5_isUnit_277 L13 ⟨hW, (mFi.sub (mFi.sub mFi.rf hi8 mSub_nil) hi13 mSub_nil), (mFr.tr (mFr.tr mFr.rf hp8.1 rfl) hp13.1 rfl), rg_w kc_0 rfl, (by have : (0 : Int32).toInt = 0 := (by decide); omega)⟩
      · skip
        replace hW := wfP_i (wfP_r (wfP_r (wfP_r (wfP_r (wfP_r (wfP_r (wfP_r (wfP_r (wfP_r (wfP_r (wfP_r (wfP_r (wfP_r (wfP_r (wfP_r (wfP_r hW)))))))))))))))) c40_16
        have q149 : rg (15) (15) v15 := ⟨by omega, by omega⟩
        refine lv_tableIn (off := 99) (tgt := 139) hx hb dX5_isUnit_40 (by omega) (by omega) (by rw [c40_16]; rfl) (by decide) ?_
        refine lv_iload_n hx hb dX5_isUnit_139 rfl (lv_at hl 4 rfl) ?_
        refine lv_bipush (v := 8) hx hb dX5_isUnit_140 (by decide) ?_
        refine lv_icmp_ne (tgt := 160) hx hb dX5_isUnit_142 (by decide) (fun c142_150 => ?_) (fun c142_150 => ?_)
        · skip
          replace hW := wfP_i (wfP_l hW) (i_ne c142_150 rfl (rg_i kc_8))
          have ic142_150 : p2.toInt ≠ (8 : Int32).toInt := fun z => c142_150 (Int32.toInt_inj.mp z)
          have y151 : (8 : Int32).toInt = 8 := by decide
          refine lv_iconst (v := 0) hx hb dX5_isUnit_160 (by decide) ?_
          exact hQ _ _ (0 : Int32) _ _ _ dX5_isUnit_161 L13 ⟨hW, (mFi.sub (mFi.sub mFi.rf hi8 mSub_nil) hi13 mSub_nil), (mFr.tr (mFr.tr mFr.rf hp8.1 rfl) hp13.1 rfl), rg_w kc_0 rfl, (by have : (0 : Int32).toInt = 0 := (by decide); omega)⟩
        · skip
          replace hW := wfP_i (wfP_r hW) (i_eq c142_150 rfl (rg_i kc_8))
          have ic142_150 := congrArg Int32.toInt c142_150
          have y152 : (8 : Int32).toInt = 8 := by decide
          have q153 : rg (8) (8) p2 := (rg_eq c142_150 q5 kc_8).1
          have uq153 : (8 : Int) ≤ p2.toInt ∧ p2.toInt ≤ 8 := q153
          refine lv_iload hx hb dX5_isUnit_145 (lv_at hl 0 rfl) ?_
          refine lv_bipush (v := 8) hx hb dX5_isUnit_147 (by decide) ?_
          refine lv_icmp_ne (tgt := 160) hx hb dX5_isUnit_149 (by decide) (fun c149_154 => ?_) (fun c149_154 => ?_)
          · skip
            replace hW := wfP_i (wfP_l hW) (i_ne c149_154 rfl (rg_i kc_8))
            have ic149_154 : v14.toInt ≠ (8 : Int32).toInt := fun z => c149_154 (Int32.toInt_inj.mp z)
            have y155 : (8 : Int32).toInt = 8 := by decide
            refine lv_iconst (v := 0) hx hb dX5_isUnit_160 (by decide) ?_
            exact hQ _ _ (0 : Int32) _ _ _ dX5_isUnit_161 L13 ⟨hW, (mFi.sub (mFi.sub mFi.rf hi8 mSub_nil) hi13 mSub_nil), (mFr.tr (mFr.tr mFr.rf hp8.1 rfl) hp13.1 rfl), rg_w kc_0 rfl, (by have : (0 : Int32).toInt = 0 := (by decide); omega)⟩
          · skip
            replace hW := wfP_i (wfP_r hW) (i_eq c149_154 rfl (rg_i kc_8))
            have ic149_154 := congrArg Int32.toInt c149_154
            have y156 : (8 : Int32).toInt = 8 := by decide
            have q157 : rg (8) (8) v14 := (rg_eq c149_154 rv14 kc_8).1
            have uq157 : (8 : Int) ≤ v14.toInt ∧ v14.toInt ≤ 8 := q157
            refine lv_iload_n hx hb dX5_isUnit_152 rfl (lv_at hl 1 rfl) ?_
            refine lv_if_ne (tgt := 160) hx hb dX5_isUnit_153 (by decide) (fun c153_158 => ?_) (fun c153_158 => ?_)
            · skip
              replace hW := wfP_i (wfP_l hW) (i_ne c153_158 rfl (rg_i kc_0))
              have ic153_158 : v10.toInt ≠ (0 : Int32).toInt := fun z => c153_158 (Int32.toInt_inj.mp z)
              have y159 : (0 : Int32).toInt = 0 := by decide
              have q160 : rg (1) (16777215) v10 := rg_neL c153_158 rv10 kc_0
              have uq160 : (1 : Int) ≤ v10.toInt ∧ v10.toInt ≤ 16777215 := q160
              refine lv_iconst (v := 0) hx hb dX5_isUnit_160 (by decide) ?_
              exact hQ _ _ (0 : Int32) _ _ _ dX5_isUnit_161 L13 ⟨hW, (mFi.sub (mFi.sub mFi.rf hi8 mSub_nil) hi13 mSub_nil), (mFr.tr (mFr.tr mFr.rf hp8.1 rfl) hp13.1 rfl), rg_w kc_0 rfl, (by have : (0 : Int32).toInt = 0 := (by decide); omega)⟩
            · skip
              replace hW := wfP_i (wfP_r hW) (i_eq c153_158 rfl (rg_i kc_0))
              have ic153_158 := congrArg Int32.toInt c153_158
              have y161 : (0 : Int32).toInt = 0 := by decide
              have q162 : rg (0) (0) v10 := (rg_eq c153_158 rv10 kc_0).1
              have uq162 : (0 : Int) ≤ v10.toInt ∧ v10.toInt ≤ 0 := q162
              refine lv_iconst (v := 1) hx hb dX5_isUnit_156 (by decide) ?_
              refine lv_goto (tgt := 161) hx hb dX5_isUnit_157 (by decide) ?_
              exact hQ _ _ (1 : Int32) _ _ _ dX5_isUnit_161 L13 ⟨hW, (mFi.sub (mFi.sub mFi.rf hi8 mSub_nil) hi13 mSub_nil), (mFr.tr (mFr.tr mFr.rf hp8.1 rfl) hp13.1 rfl), rg_w kc_1 rfl, (by have : (1 : Int32).toInt = 1 := (by decide); omega)⟩
    · skip
      replace hW := wfP_i (wfP_r hW) (i_lt (rg_nle c8_4) (rg_i kc_240) rfl)
      have ic8_4 := Int32.lt_iff_toInt_lt.mp (rg_nle c8_4)
      have q163 : rg (241) (2147483647) p2 := (rg_lt (rg_nle c8_4) kc_240 q3).2
      have uq163 : (241 : Int) ≤ p2.toInt ∧ p2.toInt ≤ 2147483647 := q163
      refine lv_iconst (v := 0) hx hb dX5_isUnit_11 (by decide) ?_
      exact hQ _ _ (0 : Int32) _ _ _ dX5_isUnit_12 L ⟨hW, mFi.rf, mFr.rf, rg_w kc_0 rfl, (by have : (0 : Int32).toInt = 0 := (by decide); omega)⟩
theorem d_kisUnit (l : Launch) {G : cG} {Z : cZ} (X : Int) (g : mSt) (q1 : Nat) (p2 : Int32) (hX : 0 ≤ X ∧ X ≤ 2000000000) (hq1 : Z.al 16 q1) {Φ : Int32 → mSt → Prop} (hW : wfP (wp_kisUnit Z q1 p2 g Φ)) : Met l yX5_isUnit (wk (Cond.code yX5_isUnit cX5_isUnit 5 (some .boolean))) rm_kisUnit (va_Pc [.ref (Z.ad 16 q1), .int p2] (cPre G Z X g)) (cQi G Z X (fun r g1 => wfP (Φ r g1) ∧ mFi (im_kisUnit Z q1 p2) g g1 ∧ (mFr [] g g1 ∧ rg (0) (1) r ∧ (r.toInt ≠ 0 → 4 ≤ p2.toInt ∧ p2.toInt ≤ 240)))) 0 0 (cAd Z) := by
  refine Met.ofW (cc := cX5_isUnit) (maxL := 5) (ret := (some .boolean)) (by decide) rfl ?_
  intro p e s m args below meth c s₁ B hml hv
  obtain ⟨rfl, hv⟩ := hv
  have hr := B.returns
  have hlocks := B.notSynchronized
  obtain ⟨x, L⟩ := c_start B rfl (fun w h => wk_in h) hv
  have hl := lv_entry ([.ref (Z.ad 16 q1), .int p2]) (n := 5) (Nat.le_of_ble_eq_true rfl)
  rw [lg_entry_eq]
  generalize (lg_sl ([.ref (Z.ad 16 q1), .int p2]) ++ List.replicate (5 - (lg_sl ([.ref (Z.ad 16 q1), .int p2])).length) Slot.unset).toArray = ls at hl ⊢
  exact v_kisUnit x hml L hX q1 p2 hq1 hW hl (fun pc' ls' r g1 H1 locs1 hdg L hp => c_zret x L hr hlocks (nar01 (rg_w hp.2.2.2.1 rfl)) (Int.le_refl _) hp hdg)

def im_kbeginCame (Z : cZ) (i0 : Nat) (p1 : Int32) (p2 : Int32) : List (Nat × Nat × Nat) := [(67, (2 * (cOut Z.n i0)), 1), (108, (cOut Z.n i0), 1), (111, (cOut Z.n i0), 1), (164, i0, 1), (165, i0, 1), (166, i0, 1), (167, i0, 1), (168, i0, 1), (169, i0, 1), (170, i0, 1), (171, i0, 1), (174, i0, 1), (178, i0, 1), (179, i0, 1), (180, i0, 1), (421, (2 * i0 + 1), 1), (421, (2 * i0), 1), (422, (2 * i0 + 1), 1), (422, (2 * i0), 1), (544, (2 * (cOut Z.n i0)), 8192), (576, (2 * (cOut Z.n i0)), 8192), (768, (cOut Z.n i0), 8192), (1280, (2 * i0 + 1), 8192), (1280, (2 * i0), 8192), (1344, (2 * i0 + 1), 8192), (1344, (2 * i0), 8192)]
def po_kbeginCame (Z : cZ) (i0 : Nat) (p1 : Int32) (p2 : Int32) (g : mSt) (r : Int32) (g1 : mSt) : Prop := mFi (im_kbeginCame Z i0 p1 p2) g g1 ∧ mFr [67, 108, 111, 164, 165, 166, 167, 168, 169, 170, 171, 174, 178, 179, 180, 421, 422, 544, 576, 768, 1280, 1344] g g1 ∧ rg (0) (1) r ∧ True
def wp_kbeginCame (Z : cZ) (i0 : Nat) (p1 : Int32) (p2 : Int32) (g : mSt) (Φ : Int32 → mSt → Prop) : Prop :=
  ∀ (v1 : Int32), v1 = g 164 i0 → rg (0) (4) v1 → ∃ P3 : Int32 → mSt → Prop, (∀ (b21_0_2 : Int32) (g3 : mSt), mFr [] g g3 → mFi (im_kbeginCame Z i0 p1 p2) g g3 → rg (0) (1) b21_0_2 → P3 b21_0_2 g3 → ∃ P5 : Int32 → mSt → Prop, (∀ (b55_0_4 : Int32) (g5 : mSt), mFr [] g3 g5 → mFi (im_kbeginCame Z i0 p1 p2) g3 g5 → rg (0) (1) b55_0_4 → P5 b55_0_4 g5 → ∀ (g6 : mSt), g6 = up2 g5 174 i0 p1 → ∃ P7 : mSt → Prop, (∀ (g7 : mSt), mFr [164, 165, 166, 167, 168, 169, 170, 171, 178, 179, 180, 421, 422, 1280, 1344] g6 g7 → mFi (im_kbeginCame Z i0 p1 p2) g6 g7 → P7 g7 → ∀ (v10 : Int32), v10 = g7 170 i0 → rg (0) (2000000000) v10 → ∀ (v11 : Int32), v11 = v10 + (8 : Int32) → rg (8) (2000000008) v11 → v11.toInt = v10.toInt + 8 → wp_kword Z (cOut Z.n i0) v11 g7 (fun (_ : Int32) (g12 : mSt) => po_kword Z (cOut Z.n i0) v11 g7 0 g12 → wp_ksendUnit Z (cOut Z.n i0) (2 : Int32) (0 : Int32) g12 (fun (_ : Int32) (g13 : mSt) => po_ksendUnit Z (cOut Z.n i0) (2 : Int32) (0 : Int32) g12 0 g13 → ∃ P15 : Int32 → mSt → Prop, (∀ (b104_0_14 : Int32) (g15 : mSt), mFr [] g13 g15 → mFi (im_kbeginCame Z i0 p1 p2) g13 g15 → rg (0) (1) b104_0_14 → P15 b104_0_14 g15 → Φ b104_0_14 g15) ∧ ((b55_0_4.toInt = 0) → P15 (0 : Int32) g13) ∧ ((b55_0_4.toInt ≠ 0) → P15 (1 : Int32) g13)))) ∧ ((b21_0_2.toInt ≠ 0) → P7 g6) ∧ ((b21_0_2.toInt = 0) → wp_kbecomeReady Z i0 p2 g6 (fun (_ : Int32) (g22 : mSt) => po_kbecomeReady Z i0 p2 g6 0 g22 → P7 g22))) ∧ ∃ P23 : mSt → Prop, (∀ (g23 : mSt), mFr [] g3 g23 → mFi (im_kbeginCame Z i0 p1 p2) g3 g23 → P23 g23 → P5 (0 : Int32) g23) ∧ ((b21_0_2.toInt ≠ 0) → P23 g3) ∧ ((b21_0_2.toInt = 0) → ∃ P28 : mSt → Prop, (∀ (g28 : mSt), mFr [] g3 g28 → mFi (im_kbeginCame Z i0 p1 p2) g3 g28 → P28 g28 → P5 (1 : Int32) g28) ∧ ((v1.toInt = 2) → P28 g3) ∧ ((v1.toInt ≠ 2) → ((v1.toInt = 3) → P28 g3) ∧ ((v1.toInt ≠ 3) → ((v1.toInt ≠ 4) → P23 g3) ∧ ((v1.toInt = 4) → P28 g3))))) ∧ ∃ P38 : mSt → Prop, (∀ (g38 : mSt), mFr [] g g38 → mFi (im_kbeginCame Z i0 p1 p2) g g38 → P38 g38 → P3 (0 : Int32) g38) ∧ ((v1.toInt ≠ 2) → P38 g) ∧ ((v1.toInt = 2) → ∀ (v41 : Int32), v41 = g 174 i0 → rg (-2147483648) (2147483647) v41 → ((p1.toInt ≠ v41.toInt) → P38 g) ∧ ((p1.toInt = v41.toInt) → P3 (1 : Int32) g))
set_option maxHeartbeats 4000000 in
set_option maxRecDepth 100000 in
theorem v_kbeginCame {p : Program} {l : Launch} {e : Env} {s : State} {m : MethodId} {args : Array Value} {below : List Frame} {meth : Method} {c : Code} {H : Heap} {locs : List Loc} {Q : State → Prop} {ls : Array Slot} {G : cG} {Z : cZ} {A : Nat → Prop} {g : mSt} {H0 : Heap} {X : Int} (x : cX p c cX5_beginCame s args (wk (Cond.code yX5_beginCame cX5_beginCame 5 (some .int))) m G Z A RX5 H0) (hml : c.maxLocals = 5) (L : cL G Z A H0 X g H locs) (hX : 0 ≤ X ∧ X ≤ 2000000000) (i0 : Nat) (p1 : Int32) (p2 : Int32) (hi0 : i0 < 2 * Z.n) (rp1 : rg (0) (16777215) p1) {Φ : Int32 → mSt → Prop} (hW : wfP (wp_kbeginCame Z i0 p1 p2 g Φ)) (hl : lv_has ls 5 [(0, .ref (Z.ad 5 i0)), (1, .int p1), (2, .int p2)]) (hQ : ∀ (pc' : Nat) (ls' : Array Slot) (r : Int32) (g1 : mSt) (H1 : Heap) (locs1 : List Loc), decode cX5_beginCame pc' = .ok (.ireturn, 1) → cL G Z A H0 X g1 H1 locs1 → (wfP (Φ r g1) ∧ mFi (im_kbeginCame Z i0 p1 p2) g g1 ∧ (mFr [67, 108, 111, 164, 165, 166, 167, 168, 169, 170, 171, 174, 178, 179, 180, 421, 422, 544, 576, 768, 1280, 1344] g g1 ∧ rg (0) (1) r ∧ True)) → W p l e rm_kbeginCame s m args below meth c H1 locs1 0 0 Q (F0 m pc' ls' [.int r])) : W p l e rm_kbeginCame s m args below meth c H locs 0 0 Q (F0 m 0 ls []) := by
  have hx := x.1
  have hb := x.2.1
  have hz := x.2.2.2.2.2.2.2.1
  have hzn := hz.1
  have hal0 : Z.al 5 i0 := hz.2 5 i0 (show i0 < 2 * Z.n from hi0)
  refine lv_aload_n hx hb dX5_beginCame_0 rfl (lv_at hl 0 rfl) ?_
  refine c_geti x L 5 i0 4 164 hal0 rfl rfl (wk_in kf_X5_26) dX5_beginCame_1 (fun v1 ev1 wv1 => ?_)
  have rv1 : rg (0) (4) v1 := clj_164 wv1
  replace hW := (wfP_i (wfP_i (wfP_a hW v1) ev1) rv1)
  refine lv_iconst (v := 2) hx hb dX5_beginCame_4 (by decide) ?_
  obtain ⟨P3, hP3, hW⟩ := wfP_ex hW
  have j21_3 : ∀ (b21_0_2 : Int32) (g3 : mSt) (H3 : Heap) (k3 : List Loc) (ls : Array Slot), mFr [] g g3 → cL G Z A H0 X g3 H3 k3 → rg (0) (1) b21_0_2 → mFi (im_kbeginCame Z i0 p1 p2) g g3 → wfP (P3 b21_0_2 g3) → lv_has ls 5 [(0, .ref (Z.ad 5 i0)), (1, .int p1), (2, .int p2)] → W p l e rm_kbeginCame s m args below meth c H3 k3 0 0 Q (F0 m 21 ls [.int b21_0_2]) := by
    intro b21_0_2 g3 H3 k3 ls hF3 L3 rb21_0_2 hI3 hW hl
    replace hW := wfP_i (wfP_i (wfP_i (wfP_i (wfP_a (wfP_a hP3 b21_0_2) g3) hF3) hI3) rb21_0_2) hW
    refine lv_istore_n (lv' := [(3, .int b21_0_2), (0, .ref (Z.ad 5 i0)), (1, .int p1), (2, .int p2)]) hx hb dX5_beginCame_21 rfl hl (by decide) rfl (fun ls hl => ?_)
    refine lv_iload_n hx hb dX5_beginCame_22 rfl (lv_at hl 0 rfl) ?_
    obtain ⟨P5, hP5, hW⟩ := wfP_ex hW
    have j55_5 : ∀ (b55_0_4 : Int32) (g5 : mSt) (H5 : Heap) (k5 : List Loc) (ls : Array Slot), mFr [] g3 g5 → cL G Z A H0 X g5 H5 k5 → rg (0) (1) b55_0_4 → mFi (im_kbeginCame Z i0 p1 p2) g3 g5 → wfP (P5 b55_0_4 g5) → lv_has ls 5 [(0, .ref (Z.ad 5 i0)), (1, .int p1), (2, .int p2), (3, .int b21_0_2)] → W p l e rm_kbeginCame s m args below meth c H5 k5 0 0 Q (F0 m 55 ls [.int b55_0_4]) := by
      intro b55_0_4 g5 H5 k5 ls hF5 L5 rb55_0_4 hI5 hW hl
      replace hW := wfP_i (wfP_i (wfP_i (wfP_i (wfP_a (wfP_a hP5 b55_0_4) g5) hF5) hI5) rb55_0_4) hW
      refine lv_istore (lv' := [(4, .int b55_0_4), (0, .ref (Z.ad 5 i0)), (1, .int p1), (2, .int p2), (3, .int b21_0_2)]) hx hb dX5_beginCame_55 hl (by decide) rfl (fun ls hl => ?_)
      refine lv_aload_n hx hb dX5_beginCame_57 rfl (lv_at hl 1 rfl) ?_
      refine lv_iload_n hx hb dX5_beginCame_58 rfl (lv_at hl 2 rfl) ?_
      refine c_puti x L5 5 i0 14 174 hal0 rfl rfl ⟨rfl, by decide +kernel⟩ (wk_in kf_X5_179) dX5_beginCame_59 (rg_any p1) (fun g6 H6 k6 eg6 L6 => ?_)
      replace hW := (wfP_i (wfP_a hW g6) eg6)
      refine lv_iload_n hx hb dX5_beginCame_62 rfl (lv_at hl 4 rfl) ?_
      obtain ⟨P7, hP7, hW⟩ := wfP_ex hW
      have j71_7 : ∀ (g7 : mSt) (H7 : Heap) (k7 : List Loc) (ls : Array Slot), mFr [164, 165, 166, 167, 168, 169, 170, 171, 178, 179, 180, 421, 422, 1280, 1344] g6 g7 → cL G Z A H0 X g7 H7 k7 → mFi (im_kbeginCame Z i0 p1 p2) g6 g7 → wfP (P7 g7) → lv_has ls 5 [(0, .ref (Z.ad 5 i0)), (4, .int b55_0_4)] → W p l e rm_kbeginCame s m args below meth c H7 k7 0 0 Q (F0 m 71 ls []) := by
        intro  g7 H7 k7 ls hF7 L7  hI7 hW hl
        replace hW := wfP_i (wfP_i (wfP_i (wfP_a hP7 g7) hF7) hI7) hW
        refine lv_aload_n hx hb dX5_beginCame_71 rfl (lv_at hl 0 rfl) ?_
        have ho8 := cOut_lt (n := Z.n) (i := i0) (by omega)
        have al9 : Z.al 3 (cOut Z.n i0) := hz.2 3 (cOut Z.n i0) (show (cOut Z.n i0) < 2 * Z.n from (by omega))
        refine c_getr (a := Z.ad 3 (cOut Z.n i0)) x L7 5 i0 0 hal0 rfl rfl (wk_in kf_X5_30) dX5_beginCame_72 ?_
        refine lv_aload_n hx hb dX5_beginCame_75 rfl (lv_at hl 0 rfl) ?_
        refine c_geti x L7 5 i0 10 170 hal0 rfl rfl (wk_in kf_X5_49) dX5_beginCame_76 (fun v10 ev10 wv10 => ?_)
        have rv10 : rg 0 2000000000 v10 := rg_X hX (clj_170 wv10)
        replace hW := (wfP_i (wfP_i (wfP_a hW v10) ev10) rv10)
        refine lv_bipush (v := 8) hx hb dX5_beginCame_79 (by decide) ?_
        refine lv_iadd hx hb dX5_beginCame_81 ?_
        refine lv_topi (fun v11 ev11 => ?_)
        have rv11 : rg (8) (2000000008) v11 := (rg_add ev11 rv10 kc_8 rfl).1
        replace hW := (wfP_i (wfP_i (wfP_i (wfP_a hW v11) ev11) rv11) (w_iadd ((rg_add ev11 rv10 kc_8 rfl).2) rfl (rg_i kc_8)))
        refine c_cv (As := [.int v11]) (rest := []) x hml L7 3 (cOut Z.n i0) al9 rfl (d_kword l X g7 (cOut Z.n i0) v11 hX (show (cOut Z.n i0) < 2 * Z.n from (by omega)) hW) (wk_V kd_X3_word kl_X5_102 ki_X3_word ks_X3_X3_word kn_X3) rfl ⟨rfl, rfl⟩ hd_kword ⟨Nat.le_of_ble_eq_true rfl, Nat.le_of_ble_eq_true rfl⟩ rfl hl.1 rfl (lv_room (Nat.le_of_ble_eq_true rfl)) dX5_beginCame_82 (fun  g12 H12 k12 hp12 L12 => ?_)
        obtain ⟨hW, hi12, hp12⟩ := hp12
        replace hW := wfP_i hW ⟨hi12, hp12⟩
        refine lv_aload_n hx hb dX5_beginCame_85 rfl (lv_at hl 0 rfl) ?_
        refine c_getr (a := Z.ad 3 (cOut Z.n i0)) x L12 5 i0 0 hal0 rfl rfl (wk_in kf_X5_30) dX5_beginCame_86 ?_
        refine lv_iconst (v := 2) hx hb dX5_beginCame_89 (by decide) ?_
        refine lv_iconst (v := 0) hx hb dX5_beginCame_90 (by decide) ?_
        refine c_cv (As := [.int (2 : Int32), .int (0 : Int32)]) (rest := []) x hml L12 3 (cOut Z.n i0) al9 rfl (d_ksendUnit l X g12 (cOut Z.n i0) (2 : Int32) (0 : Int32) hX (show (cOut Z.n i0) < 2 * Z.n from (by omega)) hW) (wk_V kd_X3_sendUnit kl_X5_96 ki_X3_sendUnit ks_X3_X3_sendUnit kn_X3) rfl ⟨rfl, rfl⟩ hd_ksendUnit ⟨Nat.le_of_ble_eq_true rfl, Nat.le_of_ble_eq_true rfl⟩ rfl hl.1 rfl (lv_room (Nat.le_of_ble_eq_true rfl)) dX5_beginCame_91 (fun  g13 H13 k13 hp13 L13 => ?_)
        obtain ⟨hW, hi13, hp13⟩ := hp13
        replace hW := wfP_i hW ⟨hi13, hp13⟩
        refine lv_iload hx hb dX5_beginCame_94 (lv_at hl 1 rfl) ?_
        obtain ⟨P15, hP15, hW⟩ := wfP_ex hW
        have j104_15 : ∀ (b104_0_14 : Int32) (g15 : mSt) (H15 : Heap) (k15 : List Loc) (ls : Array Slot), mFr [] g13 g15 → cL G Z A H0 X g15 H15 k15 → rg (0) (1) b104_0_14 → mFi (im_kbeginCame Z i0 p1 p2) g13 g15 → wfP (P15 b104_0_14 g15) → lv_has ls 5 [(0, .ref (Z.ad 5 i0))] → W p l e rm_kbeginCame s m args below meth c H15 k15 0 0 Q (F0 m 104 ls [.int b104_0_14]) := by
          intro b104_0_14 g15 H15 k15 ls hF15 L15 rb104_0_14 hI15 hW hl
          replace hW := wfP_i (wfP_i (wfP_i (wfP_i (wfP_a (wfP_a hP15 b104_0_14) g15) hF15) hI15) rb104_0_14) hW
          exact hQ _ _ b104_0_14 _ _ _ dX5_beginCame_104 L15 ⟨hW, (mFi.tr (mFi.sub (mFi.sub (mFi.tr (mFi.up (mFi.tr (mFi.tr mFi.rf hI3) hI5) eg6 (mIn_at 11 rfl (Or.inr (Nat.div_one _)))) hI7) hi12 (mSub_eq 2 rfl (mSub_eq 21 rfl mSub_nil))) hi13 (mSub_eq 0 rfl (mSub_eq 1 rfl (mSub_eq 2 rfl (mSub_eq 19 rfl (mSub_eq 20 rfl (mSub_eq 21 rfl mSub_nil))))))) hI15), (mFr.tr (mFr.tr (mFr.tr (mFr.tr (mFr.upE (mFr.tr (mFr.tr mFr.rf hF3 rfl) hF5 rfl) eg6 rfl) hF7 rfl) hp12.1 rfl) hp13.1 rfl) hF15 rfl), rg_w rb104_0_14 rfl, trivial⟩
        refine lv_if_eq (tgt := 103) hx hb dX5_beginCame_96 (by decide) (fun c96_16 => ?_) (fun c96_16 => ?_)
        · skip
          replace hW := wfP_i (wfP_l hW) (i_eq c96_16 rfl (rg_i kc_0))
          have q17 : rg (0) (0) b55_0_4 := (rg_eq c96_16 rb55_0_4 kc_0).1
          refine lv_iconst (v := 0) hx hb dX5_beginCame_103 (by decide) ?_
          exact j104_15 (0 : Int32) g13 _ _ ls mFr.rf L13 (rg_w kc_0 rfl) mFi.rf hW (lv_sub hl [0] rfl)
        · skip
          replace hW := wfP_i (wfP_r hW) (i_ne c96_16 rfl (rg_i kc_0))
          have q18 : rg (1) (1) b55_0_4 := rg_neL c96_16 rb55_0_4 kc_0
          refine lv_iconst (v := 1) hx hb dX5_beginCame_99 (by decide) ?_
          refine lv_goto (tgt := 104) hx hb dX5_beginCame_100 (by decide) ?_
          exact j104_15 (1 : Int32) g13 _ _ ls mFr.rf L13 (rg_w kc_1 rfl) mFi.rf hW (lv_sub hl [0] rfl)
      refine lv_if_ne (tgt := 71) hx hb dX5_beginCame_63 (by decide) (fun c63_19 => ?_) (fun c63_19 => ?_)
      · skip
        replace hW := wfP_i (wfP_l hW) (i_ne c63_19 rfl (rg_i kc_0))
        have q20 : rg (1) (1) b21_0_2 := rg_neL c63_19 rb21_0_2 kc_0
        exact j71_7  g6 _ _ ls mFr.rf L6 mFi.rf hW (lv_sub hl [1, 0] rfl)
      · skip
        replace hW := wfP_i (wfP_r hW) (i_eq c63_19 rfl (rg_i kc_0))
        have q21 : rg (0) (0) b21_0_2 := (rg_eq c63_19 rb21_0_2 kc_0).1
        refine lv_aload_n hx hb dX5_beginCame_66 rfl (lv_at hl 1 rfl) ?_
        refine lv_iload_n hx hb dX5_beginCame_67 rfl (lv_at hl 3 rfl) ?_
        refine c_cv (As := [.int p2]) (rest := []) x hml L6 5 i0 hal0 rfl (d_kbecomeReady l X g6 i0 p2 hX (show i0 < 2 * Z.n from (by omega)) hW) (wk_V kd_X5_becomeReady kl_X5_182 ki_X5_becomeReady ks_X5_X5_becomeReady kn_X5) rfl ⟨rfl, rfl⟩ hd_kbecomeReady ⟨Nat.le_of_ble_eq_true rfl, Nat.le_of_ble_eq_true rfl⟩ rfl hl.1 rfl (lv_room (Nat.le_of_ble_eq_true rfl)) dX5_beginCame_68 (fun  g22 H22 k22 hp22 L22 => ?_)
        obtain ⟨hW, hi22, hp22⟩ := hp22
        replace hW := wfP_i hW ⟨hi22, hp22⟩
        exact j71_7  g22 _ _ ls (mFr.tr mFr.rf hp22.1 rfl) L22 (mFi.sub mFi.rf hi22 (mSub_eq 3 rfl (mSub_eq 4 rfl (mSub_eq 5 rfl (mSub_eq 6 rfl (mSub_eq 7 rfl (mSub_eq 8 rfl (mSub_eq 9 rfl (mSub_eq 10 rfl (mSub_eq 12 rfl (mSub_eq 13 rfl (mSub_eq 14 rfl (mSub_eq 15 rfl (mSub_eq 16 rfl (mSub_eq 17 rfl (mSub_eq 18 rfl (mSub_eq 22 rfl (mSub_eq 23 rfl (mSub_eq 24 rfl (mSub_eq 25 rfl mSub_nil)))))))))))))))))))) hW (lv_sub hl [1, 0] rfl)
    obtain ⟨P23, hP23, hW⟩ := wfP_ex hW
    have j54_23 : ∀ (g23 : mSt) (H23 : Heap) (k23 : List Loc) (ls : Array Slot), mFr [] g3 g23 → cL G Z A H0 X g23 H23 k23 → mFi (im_kbeginCame Z i0 p1 p2) g3 g23 → wfP (P23 g23) → lv_has ls 5 [(0, .ref (Z.ad 5 i0)), (1, .int p1), (2, .int p2), (3, .int b21_0_2)] → W p l e rm_kbeginCame s m args below meth c H23 k23 0 0 Q (F0 m 54 ls []) := by
      intro  g23 H23 k23 ls hF23 L23  hI23 hW hl
      replace hW := wfP_i (wfP_i (wfP_i (wfP_a hP23 g23) hF23) hI23) hW
      refine lv_iconst (v := 0) hx hb dX5_beginCame_54 (by decide) ?_
      exact j55_5 (0 : Int32) g23 _ _ ls (mFr.tr mFr.rf hF23 rfl) L23 (rg_w kc_0 rfl) (mFi.tr mFi.rf hI23) hW (lv_sub hl [0, 1, 2, 3] rfl)
    refine lv_if_ne (tgt := 54) hx hb dX5_beginCame_23 (by decide) (fun c23_24 => ?_) (fun c23_24 => ?_)
    · skip
      replace hW := wfP_i (wfP_l hW) (i_ne c23_24 rfl (rg_i kc_0))
      have q25 : rg (1) (1) b21_0_2 := rg_neL c23_24 rb21_0_2 kc_0
      exact j54_23  g3 _ _ ls mFr.rf L3 mFi.rf hW (lv_sub hl [1, 2, 3, 0] rfl)
    · skip
      replace hW := wfP_i (wfP_r hW) (i_eq c23_24 rfl (rg_i kc_0))
      have q26 : rg (0) (0) b21_0_2 := (rg_eq c23_24 rb21_0_2 kc_0).1
      refine lv_aload_n hx hb dX5_beginCame_26 rfl (lv_at hl 1 rfl) ?_
      refine c_geti x L3 5 i0 4 164 hal0 rfl rfl (wk_in kf_X5_26) dX5_beginCame_27 (fun v27 ev27 wv27 => ?_)
      refine m_top (((mm_fr ev1 hF3 rfl)).trans ev27.symm) ?_
      refine lv_iconst (v := 2) hx hb dX5_beginCame_30 (by decide) ?_
      obtain ⟨P28, hP28, hW⟩ := wfP_ex hW
      have j50_28 : ∀ (g28 : mSt) (H28 : Heap) (k28 : List Loc) (ls : Array Slot), mFr [] g3 g28 → cL G Z A H0 X g28 H28 k28 → mFi (im_kbeginCame Z i0 p1 p2) g3 g28 → wfP (P28 g28) → lv_has ls 5 [(0, .ref (Z.ad 5 i0)), (1, .int p1), (2, .int p2), (3, .int b21_0_2)] → W p l e rm_kbeginCame s m args below meth c H28 k28 0 0 Q (F0 m 50 ls []) := by
        intro  g28 H28 k28 ls hF28 L28  hI28 hW hl
        replace hW := wfP_i (wfP_i (wfP_i (wfP_a hP28 g28) hF28) hI28) hW
        refine lv_iconst (v := 1) hx hb dX5_beginCame_50 (by decide) ?_
        refine lv_goto (tgt := 55) hx hb dX5_beginCame_51 (by decide) ?_
        exact j55_5 (1 : Int32) g28 _ _ ls (mFr.tr mFr.rf hF28 rfl) L28 (rg_w kc_1 rfl) (mFi.tr mFi.rf hI28) hW (lv_sub hl [0, 1, 2, 3] rfl)
      refine lv_icmp_eq (tgt := 50) hx hb dX5_beginCame_31 (by decide) (fun c31_29 => ?_) (fun c31_29 => ?_)
      · skip
        replace hW := wfP_i (wfP_l hW) (i_eq c31_29 rfl (rg_i kc_2))
        have q30 : rg (2) (2) v1 := (rg_eq c31_29 rv1 kc_2).1
        exact j50_28  g3 _ _ ls mFr.rf L3 mFi.rf hW (lv_sub hl [1, 2, 3, 0] rfl)
      · skip
        replace hW := wfP_i (wfP_r hW) (i_ne c31_29 rfl (rg_i kc_2))
        refine lv_aload_n hx hb dX5_beginCame_34 rfl (lv_at hl 1 rfl) ?_
        refine c_geti x L3 5 i0 4 164 hal0 rfl rfl (wk_in kf_X5_26) dX5_beginCame_35 (fun v31 ev31 wv31 => ?_)
        refine m_top (((mm_fr ev1 hF3 rfl)).trans ev31.symm) ?_
        refine lv_iconst (v := 3) hx hb dX5_beginCame_38 (by decide) ?_
        refine lv_icmp_eq (tgt := 50) hx hb dX5_beginCame_39 (by decide) (fun c39_32 => ?_) (fun c39_32 => ?_)
        · skip
          replace hW := wfP_i (wfP_l hW) (i_eq c39_32 rfl (rg_i kc_3))
          have q33 : rg (3) (3) v1 := (rg_eq c39_32 rv1 kc_3).1
          exact j50_28  g3 _ _ ls mFr.rf L3 mFi.rf hW (lv_sub hl [1, 2, 3, 0] rfl)
        · skip
          replace hW := wfP_i (wfP_r hW) (i_ne c39_32 rfl (rg_i kc_3))
          refine lv_aload_n hx hb dX5_beginCame_42 rfl (lv_at hl 1 rfl) ?_
          refine c_geti x L3 5 i0 4 164 hal0 rfl rfl (wk_in kf_X5_26) dX5_beginCame_43 (fun v34 ev34 wv34 => ?_)
          refine m_top (((mm_fr ev1 hF3 rfl)).trans ev34.symm) ?_
          refine lv_iconst (v := 4) hx hb dX5_beginCame_46 (by decide) ?_
          refine lv_icmp_ne (tgt := 54) hx hb dX5_beginCame_47 (by decide) (fun c47_35 => ?_) (fun c47_35 => ?_)
          · skip
            replace hW := wfP_i (wfP_l hW) (i_ne c47_35 rfl (rg_i kc_4))
            have q36 : rg (0) (3) v1 := rg_neH c47_35 rv1 kc_4
            exact j54_23  g3 _ _ ls mFr.rf L3 mFi.rf hW (lv_sub hl [1, 2, 3, 0] rfl)
          · skip
            replace hW := wfP_i (wfP_r hW) (i_eq c47_35 rfl (rg_i kc_4))
            have q37 : rg (4) (4) v1 := (rg_eq c47_35 rv1 kc_4).1
            exact j50_28  g3 _ _ ls mFr.rf L3 mFi.rf hW (lv_sub hl [1, 2, 3, 0] rfl)
  obtain ⟨P38, hP38, hW⟩ := wfP_ex hW
  have j20_38 : ∀ (g38 : mSt) (H38 : Heap) (k38 : List Loc) (ls : Array Slot), mFr [] g g38 → cL G Z A H0 X g38 H38 k38 → mFi (im_kbeginCame Z i0 p1 p2) g g38 → wfP (P38 g38) → lv_has ls 5 [(0, .ref (Z.ad 5 i0)), (1, .int p1), (2, .int p2)] → W p l e rm_kbeginCame s m args below meth c H38 k38 0 0 Q (F0 m 20 ls []) := by
    intro  g38 H38 k38 ls hF38 L38  hI38 hW hl
    replace hW := wfP_i (wfP_i (wfP_i (wfP_a hP38 g38) hF38) hI38) hW
    refine lv_iconst (v := 0) hx hb dX5_beginCame_20 (by decide) ?_
    exact j21_3 (0 : Int32) g38 _ _ ls (mFr.tr mFr.rf hF38 rfl) L38 (rg_w kc_0 rfl) (mFi.tr mFi.rf hI38) hW (lv_sub hl [0, 1, 2] rfl)
  refine lv_icmp_ne (tgt := 20) hx hb dX5_beginCame_5 (by decide) (fun c5_39 => ?_) (fun c5_39 => ?_)
  · skip
    replace hW := wfP_i (wfP_l hW) (i_ne c5_39 rfl (rg_i kc_2))
    exact j20_38  g _ _ ls mFr.rf L mFi.rf hW (lv_sub hl [0, 1, 2] rfl)
  · skip
    replace hW := wfP_i (wfP_r hW) (i_eq c5_39 rfl (rg_i kc_2))
    have q40 : rg (2) (2) v1 := (rg_eq c5_39 rv1 kc_2).1
    refine lv_iload_n hx hb dX5_beginCame_8 rfl (lv_at hl 1 rfl) ?_
    refine lv_aload_n hx hb dX5_beginCame_9 rfl (lv_at hl 0 rfl) ?_
    refine c_geti x L 5 i0 14 174 hal0 rfl rfl (wk_in kf_X5_179) dX5_beginCame_10 (fun v41 ev41 wv41 => ?_)
    have rv41 : rg (-2147483648) (2147483647) v41 := rg_any v41
    replace hW := (wfP_i (wfP_i (wfP_a hW v41) ev41) rv41)
    refine lv_icmp_ne (tgt := 20) hx hb dX5_beginCame_13 (by decide) (fun c13_42 => ?_) (fun c13_42 => ?_)
    · skip
      replace hW := wfP_i (wfP_l hW) (i_ne c13_42 rfl rfl)
      exact j20_38  g _ _ ls mFr.rf L mFi.rf hW (lv_sub hl [0, 1, 2] rfl)
    · skip
      replace hW := wfP_i (wfP_r hW) (i_eq c13_42 rfl rfl)
      have q43 : rg (0) (16777215) v41 := (rg_eq c13_42 rp1 rv41).2
      refine lv_iconst (v := 1) hx hb dX5_beginCame_16 (by decide) ?_
      refine lv_goto (tgt := 21) hx hb dX5_beginCame_17 (by decide) ?_
      exact j21_3 (1 : Int32) g _ _ ls mFr.rf L (rg_w kc_1 rfl) mFi.rf hW (lv_sub hl [0, 1, 2] rfl)
theorem d_kbeginCame (l : Launch) {G : cG} {Z : cZ} (X : Int) (g : mSt) (i0 : Nat) (p1 : Int32) (p2 : Int32) (hX : 0 ≤ X ∧ X ≤ 2000000000) (hi0 : i0 < 2 * Z.n) (rp1 : rg (0) (16777215) p1) {Φ : Int32 → mSt → Prop} (hW : wfP (wp_kbeginCame Z i0 p1 p2 g Φ)) : Met l yX5_beginCame (wk (Cond.code yX5_beginCame cX5_beginCame 5 (some .int))) rm_kbeginCame (va_Pc [.ref (Z.ad 5 i0), .int p1, .int p2] (cPre G Z X g)) (cQi G Z X (fun r g1 => wfP (Φ r g1) ∧ mFi (im_kbeginCame Z i0 p1 p2) g g1 ∧ (mFr [67, 108, 111, 164, 165, 166, 167, 168, 169, 170, 171, 174, 178, 179, 180, 421, 422, 544, 576, 768, 1280, 1344] g g1 ∧ rg (0) (1) r ∧ True))) 0 0 (cAd Z) := by
  refine Met.ofW (cc := cX5_beginCame) (maxL := 5) (ret := (some .int)) (by decide) rfl ?_
  intro p e s m args below meth c s₁ B hml hv
  obtain ⟨rfl, hv⟩ := hv
  have hr := B.returns
  have hlocks := B.notSynchronized
  obtain ⟨x, L⟩ := c_start B rfl (fun w h => wk_in h) hv
  have hl := lv_entry ([.ref (Z.ad 5 i0), .int p1, .int p2]) (n := 5) (Nat.le_of_ble_eq_true rfl)
  rw [lg_entry_eq]
  generalize (lg_sl ([.ref (Z.ad 5 i0), .int p1, .int p2]) ++ List.replicate (5 - (lg_sl ([.ref (Z.ad 5 i0), .int p1, .int p2])).length) Slot.unset).toArray = ls at hl ⊢
  exact v_kbeginCame x hml L hX i0 p1 p2 hi0 rp1 hW hl (fun pc' ls' r g1 H1 locs1 hdg L hp => c_iret x L hr hlocks (Int.le_refl _) hp hdg)

def im_kendCame (Z : cZ) (i0 : Nat) : List (Nat × Nat × Nat) := [(67, (2 * (cOut Z.n i0)), 1), (108, (cOut Z.n i0), 1), (111, (cOut Z.n i0), 1), (164, i0, 1), (165, i0, 1), (166, i0, 1), (167, i0, 1), (168, i0, 1), (169, i0, 1), (170, i0, 1), (171, i0, 1), (172, i0, 1), (179, i0, 1), (197, i0, 1), (198, i0, 1), (421, (2 * i0 + 1), 1), (421, (2 * i0), 1), (422, (2 * i0 + 1), 1), (422, (2 * i0), 1), (544, (2 * (cOut Z.n i0)), 8192), (576, (2 * (cOut Z.n i0)), 8192), (768, (cOut Z.n i0), 8192), (864, i0, 8192), (928, i0, 8192), (1280, (2 * i0 + 1), 8192), (1280, (2 * i0), 8192), (1344, (2 * i0 + 1), 8192), (1344, (2 * i0), 8192)]
def po_kendCame (Z : cZ) (i0 : Nat) (g : mSt) (r : Int32) (g1 : mSt) : Prop := mFi (im_kendCame Z i0) g g1 ∧ mFr [67, 108, 111, 164, 165, 166, 167, 168, 169, 170, 171, 172, 179, 197, 198, 421, 422, 544, 576, 768, 864, 928, 1280, 1344] g g1 ∧ rg (0) (1) r ∧ True
def wp_kendCame (Z : cZ) (i0 : Nat) (g : mSt) (Φ : Int32 → mSt → Prop) : Prop :=
  ∀ (v1 : Int32), v1 = g 164 i0 → rg (0) (4) v1 → ∃ P3 : Int32 → mSt → Prop, (∀ (b12_0_2 : Int32) (g3 : mSt), mFr [] g g3 → mFi (im_kendCame Z i0) g g3 → rg (0) (1) b12_0_2 → P3 b12_0_2 g3 → ∃ P4 : mSt → Prop, (∀ (g4 : mSt), mFr [164, 165, 166, 167, 168, 169, 170, 171, 172, 179, 197, 198, 421, 422, 864, 928, 1280, 1344] g3 g4 → mFi (im_kendCame Z i0) g3 g4 → P4 g4 → wp_ksendUnit Z (cOut Z.n i0) (4 : Int32) (0 : Int32) g4 (fun (_ : Int32) (g7 : mSt) => po_ksendUnit Z (cOut Z.n i0) (4 : Int32) (0 : Int32) g4 0 g7 → ∃ P9 : Int32 → mSt → Prop, (∀ (b39_0_8 : Int32) (g9 : mSt), mFr [] g7 g9 → mFi (im_kendCame Z i0) g7 g9 → rg (0) (1) b39_0_8 → P9 b39_0_8 g9 → Φ b39_0_8 g9) ∧ ((b12_0_2.toInt = 0) → P9 (0 : Int32) g7) ∧ ((b12_0_2.toInt ≠ 0) → P9 (1 : Int32) g7))) ∧ ((b12_0_2.toInt = 0) → P4 g3) ∧ ((b12_0_2.toInt ≠ 0) → wp_kcut Z i0 g3 (fun (_ : Int32) (g16 : mSt) => po_kcut Z i0 g3 0 g16 → P4 g16))) ∧ ((v1.toInt = 0) → P3 (0 : Int32) g) ∧ ((v1.toInt ≠ 0) → P3 (1 : Int32) g)
set_option maxHeartbeats 4000000 in
set_option maxRecDepth 100000 in
theorem v_kendCame {p : Program} {l : Launch} {e : Env} {s : State} {m : MethodId} {args : Array Value} {below : List Frame} {meth : Method} {c : Code} {H : Heap} {locs : List Loc} {Q : State → Prop} {ls : Array Slot} {G : cG} {Z : cZ} {A : Nat → Prop} {g : mSt} {H0 : Heap} {X : Int} (x : cX p c cX5_endCame s args (wk (Cond.code yX5_endCame cX5_endCame 2 (some .int))) m G Z A RX5 H0) (hml : c.maxLocals = 2) (L : cL G Z A H0 X g H locs) (hX : 0 ≤ X ∧ X ≤ 2000000000) (i0 : Nat) (hi0 : i0 < 2 * Z.n) {Φ : Int32 → mSt → Prop} (hW : wfP (wp_kendCame Z i0 g Φ)) (hl : lv_has ls 2 [(0, .ref (Z.ad 5 i0))]) (hQ : ∀ (pc' : Nat) (ls' : Array Slot) (r : Int32) (g1 : mSt) (H1 : Heap) (locs1 : List Loc), decode cX5_endCame pc' = .ok (.ireturn, 1) → cL G Z A H0 X g1 H1 locs1 → (wfP (Φ r g1) ∧ mFi (im_kendCame Z i0) g g1 ∧ (mFr [67, 108, 111, 164, 165, 166, 167, 168, 169, 170, 171, 172, 179, 197, 198, 421, 422, 544, 576, 768, 864, 928, 1280, 1344] g g1 ∧ rg (0) (1) r ∧ True)) → W p l e rm_kendCame s m args below meth c H1 locs1 0 0 Q (F0 m pc' ls' [.int r])) : W p l e rm_kendCame s m args below meth c H locs 0 0 Q (F0 m 0 ls []) := by
  have hx := x.1
  have hb := x.2.1
  have hz := x.2.2.2.2.2.2.2.1
  have hzn := hz.1
  have hal0 : Z.al 5 i0 := hz.2 5 i0 (show i0 < 2 * Z.n from hi0)
  refine lv_aload_n hx hb dX5_endCame_0 rfl (lv_at hl 0 rfl) ?_
  refine c_geti x L 5 i0 4 164 hal0 rfl rfl (wk_in kf_X5_26) dX5_endCame_1 (fun v1 ev1 wv1 => ?_)
  have rv1 : rg (0) (4) v1 := clj_164 wv1
  replace hW := (wfP_i (wfP_i (wfP_a hW v1) ev1) rv1)
  obtain ⟨P3, hP3, hW⟩ := wfP_ex hW
  have j12_3 : ∀ (b12_0_2 : Int32) (g3 : mSt) (H3 : Heap) (k3 : List Loc) (ls : Array Slot), mFr [] g g3 → cL G Z A H0 X g3 H3 k3 → rg (0) (1) b12_0_2 → mFi (im_kendCame Z i0) g g3 → wfP (P3 b12_0_2 g3) → lv_has ls 2 [(0, .ref (Z.ad 5 i0))] → W p l e rm_kendCame s m args below meth c H3 k3 0 0 Q (F0 m 12 ls [.int b12_0_2]) := by
    intro b12_0_2 g3 H3 k3 ls hF3 L3 rb12_0_2 hI3 hW hl
    replace hW := wfP_i (wfP_i (wfP_i (wfP_i (wfP_a (wfP_a hP3 b12_0_2) g3) hF3) hI3) rb12_0_2) hW
    refine lv_istore_n (lv' := [(1, .int b12_0_2), (0, .ref (Z.ad 5 i0))]) hx hb dX5_endCame_12 rfl hl (by decide) rfl (fun ls hl => ?_)
    refine lv_iload_n hx hb dX5_endCame_13 rfl (lv_at hl 0 rfl) ?_
    obtain ⟨P4, hP4, hW⟩ := wfP_ex hW
    have j21_4 : ∀ (g4 : mSt) (H4 : Heap) (k4 : List Loc) (ls : Array Slot), mFr [164, 165, 166, 167, 168, 169, 170, 171, 172, 179, 197, 198, 421, 422, 864, 928, 1280, 1344] g3 g4 → cL G Z A H0 X g4 H4 k4 → mFi (im_kendCame Z i0) g3 g4 → wfP (P4 g4) → lv_has ls 2 [(0, .ref (Z.ad 5 i0)), (1, .int b12_0_2)] → W p l e rm_kendCame s m args below meth c H4 k4 0 0 Q (F0 m 21 ls []) := by
      intro  g4 H4 k4 ls hF4 L4  hI4 hW hl
      replace hW := wfP_i (wfP_i (wfP_i (wfP_a hP4 g4) hF4) hI4) hW
      refine lv_aload_n hx hb dX5_endCame_21 rfl (lv_at hl 0 rfl) ?_
      have ho5 := cOut_lt (n := Z.n) (i := i0) (by omega)
      have al6 : Z.al 3 (cOut Z.n i0) := hz.2 3 (cOut Z.n i0) (show (cOut Z.n i0) < 2 * Z.n from (by omega))
      refine c_getr (a := Z.ad 3 (cOut Z.n i0)) x L4 5 i0 0 hal0 rfl rfl (wk_in kf_X5_30) dX5_endCame_22 ?_
      refine lv_iconst (v := 4) hx hb dX5_endCame_25 (by decide) ?_
      refine lv_iconst (v := 0) hx hb dX5_endCame_26 (by decide) ?_
      refine c_cv (As := [.int (4 : Int32), .int (0 : Int32)]) (rest := []) x hml L4 3 (cOut Z.n i0) al6 rfl (d_ksendUnit l X g4 (cOut Z.n i0) (4 : Int32) (0 : Int32) hX (show (cOut Z.n i0) < 2 * Z.n from (by omega)) hW) (wk_V kd_X3_sendUnit kl_X5_96 ki_X3_sendUnit ks_X3_X3_sendUnit kn_X3) rfl ⟨rfl, rfl⟩ hd_ksendUnit ⟨Nat.le_of_ble_eq_true rfl, Nat.le_of_ble_eq_true rfl⟩ rfl hl.1 rfl (lv_room (Nat.le_of_ble_eq_true rfl)) dX5_endCame_27 (fun  g7 H7 k7 hp7 L7 => ?_)
      obtain ⟨hW, hi7, hp7⟩ := hp7
      replace hW := wfP_i hW ⟨hi7, hp7⟩
      refine lv_iload_n hx hb dX5_endCame_30 rfl (lv_at hl 1 rfl) ?_
      obtain ⟨P9, hP9, hW⟩ := wfP_ex hW
      have j39_9 : ∀ (b39_0_8 : Int32) (g9 : mSt) (H9 : Heap) (k9 : List Loc) (ls : Array Slot), mFr [] g7 g9 → cL G Z A H0 X g9 H9 k9 → rg (0) (1) b39_0_8 → mFi (im_kendCame Z i0) g7 g9 → wfP (P9 b39_0_8 g9) → lv_has ls 2 [(0, .ref (Z.ad 5 i0))] → W p l e rm_kendCame s m args below meth c H9 k9 0 0 Q (F0 m 39 ls [.int b39_0_8]) := by
        intro b39_0_8 g9 H9 k9 ls hF9 L9 rb39_0_8 hI9 hW hl
        replace hW := wfP_i (wfP_i (wfP_i (wfP_i (wfP_a (wfP_a hP9 b39_0_8) g9) hF9) hI9) rb39_0_8) hW
        exact hQ _ _ b39_0_8 _ _ _ dX5_endCame_39 L9 ⟨hW, (mFi.tr (mFi.sub (mFi.tr (mFi.tr mFi.rf hI3) hI4) hi7 (mSub_eq 0 rfl (mSub_eq 1 rfl (mSub_eq 2 rfl (mSub_eq 19 rfl (mSub_eq 20 rfl (mSub_eq 21 rfl mSub_nil))))))) hI9), (mFr.tr (mFr.tr (mFr.tr (mFr.tr mFr.rf hF3 rfl) hF4 rfl) hp7.1 rfl) hF9 rfl), rg_w rb39_0_8 rfl, trivial⟩
      refine lv_if_eq (tgt := 38) hx hb dX5_endCame_31 (by decide) (fun c31_10 => ?_) (fun c31_10 => ?_)
      · skip
        replace hW := wfP_i (wfP_l hW) (i_eq c31_10 rfl (rg_i kc_0))
        have q11 : rg (0) (0) b12_0_2 := (rg_eq c31_10 rb12_0_2 kc_0).1
        refine lv_iconst (v := 0) hx hb dX5_endCame_38 (by decide) ?_
        exact j39_9 (0 : Int32) g7 _ _ ls mFr.rf L7 (rg_w kc_0 rfl) mFi.rf hW (lv_sub hl [0] rfl)
      · skip
        replace hW := wfP_i (wfP_r hW) (i_ne c31_10 rfl (rg_i kc_0))
        have q12 : rg (1) (1) b12_0_2 := rg_neL c31_10 rb12_0_2 kc_0
        refine lv_iconst (v := 1) hx hb dX5_endCame_34 (by decide) ?_
        refine lv_goto (tgt := 39) hx hb dX5_endCame_35 (by decide) ?_
        exact j39_9 (1 : Int32) g7 _ _ ls mFr.rf L7 (rg_w kc_1 rfl) mFi.rf hW (lv_sub hl [0] rfl)
    refine lv_if_eq (tgt := 21) hx hb dX5_endCame_14 (by decide) (fun c14_13 => ?_) (fun c14_13 => ?_)
    · skip
      replace hW := wfP_i (wfP_l hW) (i_eq c14_13 rfl (rg_i kc_0))
      have q14 : rg (0) (0) b12_0_2 := (rg_eq c14_13 rb12_0_2 kc_0).1
      exact j21_4  g3 _ _ ls mFr.rf L3 mFi.rf hW (lv_sub hl [1, 0] rfl)
    · skip
      replace hW := wfP_i (wfP_r hW) (i_ne c14_13 rfl (rg_i kc_0))
      have q15 : rg (1) (1) b12_0_2 := rg_neL c14_13 rb12_0_2 kc_0
      refine lv_aload_n hx hb dX5_endCame_17 rfl (lv_at hl 1 rfl) ?_
      refine c_cv (As := []) (rest := []) x hml L3 5 i0 hal0 rfl (d_kcut l X g3 i0 hX (show i0 < 2 * Z.n from (by omega)) hW) (wk_V kd_X5_cut kl_X5_108 ki_X5_cut ks_X5_X5_cut kn_X5) rfl ⟨rfl, rfl⟩ hd_kcut ⟨Nat.le_of_ble_eq_true rfl, Nat.le_of_ble_eq_true rfl⟩ rfl hl.1 rfl (lv_room (Nat.le_of_ble_eq_true rfl)) dX5_endCame_18 (fun  g16 H16 k16 hp16 L16 => ?_)
      obtain ⟨hW, hi16, hp16⟩ := hp16
      replace hW := wfP_i hW ⟨hi16, hp16⟩
      exact j21_4  g16 _ _ ls (mFr.tr mFr.rf hp16.1 rfl) L16 (mFi.sub mFi.rf hi16 (mSub_eq 3 rfl (mSub_eq 4 rfl (mSub_eq 5 rfl (mSub_eq 6 rfl (mSub_eq 7 rfl (mSub_eq 8 rfl (mSub_eq 9 rfl (mSub_eq 10 rfl (mSub_eq 11 rfl (mSub_eq 12 rfl (mSub_eq 13 rfl (mSub_eq 14 rfl (mSub_eq 15 rfl (mSub_eq 16 rfl (mSub_eq 17 rfl (mSub_eq 18 rfl (mSub_eq 22 rfl (mSub_eq 23 rfl (mSub_eq 24 rfl (mSub_eq 25 rfl (mSub_eq 26 rfl (mSub_eq 27 rfl mSub_nil))))))))))))))))))))))) hW (lv_sub hl [1, 0] rfl)
  refine lv_if_eq (tgt := 11) hx hb dX5_endCame_4 (by decide) (fun c4_17 => ?_) (fun c4_17 => ?_)
  · skip
    replace hW := wfP_i (wfP_l hW) (i_eq c4_17 rfl (rg_i kc_0))
    have q18 : rg (0) (0) v1 := (rg_eq c4_17 rv1 kc_0).1
    refine lv_iconst (v := 0) hx hb dX5_endCame_11 (by decide) ?_
    exact j12_3 (0 : Int32) g _ _ ls mFr.rf L (rg_w kc_0 rfl) mFi.rf hW (lv_sub hl [0] rfl)
  · skip
    replace hW := wfP_i (wfP_r hW) (i_ne c4_17 rfl (rg_i kc_0))
    have q19 : rg (1) (4) v1 := rg_neL c4_17 rv1 kc_0
    refine lv_iconst (v := 1) hx hb dX5_endCame_7 (by decide) ?_
    refine lv_goto (tgt := 12) hx hb dX5_endCame_8 (by decide) ?_
    exact j12_3 (1 : Int32) g _ _ ls mFr.rf L (rg_w kc_1 rfl) mFi.rf hW (lv_sub hl [0] rfl)
theorem d_kendCame (l : Launch) {G : cG} {Z : cZ} (X : Int) (g : mSt) (i0 : Nat) (hX : 0 ≤ X ∧ X ≤ 2000000000) (hi0 : i0 < 2 * Z.n) {Φ : Int32 → mSt → Prop} (hW : wfP (wp_kendCame Z i0 g Φ)) : Met l yX5_endCame (wk (Cond.code yX5_endCame cX5_endCame 2 (some .int))) rm_kendCame (va_Pc [.ref (Z.ad 5 i0)] (cPre G Z X g)) (cQi G Z X (fun r g1 => wfP (Φ r g1) ∧ mFi (im_kendCame Z i0) g g1 ∧ (mFr [67, 108, 111, 164, 165, 166, 167, 168, 169, 170, 171, 172, 179, 197, 198, 421, 422, 544, 576, 768, 864, 928, 1280, 1344] g g1 ∧ rg (0) (1) r ∧ True))) 0 0 (cAd Z) := by
  refine Met.ofW (cc := cX5_endCame) (maxL := 2) (ret := (some .int)) (by decide) rfl ?_
  intro p e s m args below meth c s₁ B hml hv
  obtain ⟨rfl, hv⟩ := hv
  have hr := B.returns
  have hlocks := B.notSynchronized
  obtain ⟨x, L⟩ := c_start B rfl (fun w h => wk_in h) hv
  have hl := lv_entry ([.ref (Z.ad 5 i0)]) (n := 2) (Nat.le_of_ble_eq_true rfl)
  rw [lg_entry_eq]
  generalize (lg_sl ([.ref (Z.ad 5 i0)]) ++ List.replicate (2 - (lg_sl ([.ref (Z.ad 5 i0)])).length) Slot.unset).toArray = ls at hl ⊢
  exact v_kendCame x hml L hX i0 hi0 hW hl (fun pc' ls' r g1 H1 locs1 hdg L hp => c_iret x L hr hlocks (Int.le_refl _) hp hdg)

def im_kresetCame (Z : cZ) (i0 : Nat) (p1 : Int32) (p2 : Int32) (p3 : Int32) : List (Nat × Nat × Nat) := [(67, (2 * (cOut Z.n i0)), 1), (108, (cOut Z.n i0), 1), (111, (cOut Z.n i0), 1), (164, i0, 1), (165, i0, 1), (166, i0, 1), (167, i0, 1), (168, i0, 1), (169, i0, 1), (170, i0, 1), (171, i0, 1), (175, i0, 1), (178, i0, 1), (179, i0, 1), (180, i0, 1), (421, (2 * i0 + 1), 1), (421, (2 * i0), 1), (422, (2 * i0 + 1), 1), (422, (2 * i0), 1), (544, (2 * (cOut Z.n i0)), 8192), (576, (2 * (cOut Z.n i0)), 8192), (768, (cOut Z.n i0), 8192), (1280, (2 * i0 + 1), 8192), (1280, (2 * i0), 8192), (1344, (2 * i0 + 1), 8192), (1344, (2 * i0), 8192)]
def po_kresetCame (Z : cZ) (i0 : Nat) (p1 : Int32) (p2 : Int32) (p3 : Int32) (g : mSt) (r : Int32) (g1 : mSt) : Prop := mFi (im_kresetCame Z i0 p1 p2 p3) g g1 ∧ mFr [67, 108, 111, 164, 165, 166, 167, 168, 169, 170, 171, 175, 178, 179, 180, 421, 422, 544, 576, 768, 1280, 1344] g g1 ∧ True
def wp_kresetCame (Z : cZ) (i0 : Nat) (p1 : Int32) (p2 : Int32) (p3 : Int32) (g : mSt) (Φ : Int32 → mSt → Prop) : Prop :=
  ∀ (v1 : Int32), v1 = g 164 i0 → rg (0) (4) v1 → ∃ P3 : Int32 → mSt → Prop, (∀ (b21_0_2 : Int32) (g3 : mSt), mFr [] g g3 → mFi (im_kresetCame Z i0 p1 p2 p3) g g3 → rg (0) (1) b21_0_2 → P3 b21_0_2 g3 → ∀ (g4 : mSt), g4 = up2 g3 175 i0 p2 → ∃ P6 : mSt → Prop, (∀ (g6 : mSt), mFr [67, 108, 111, 544, 576, 768] g4 g6 → mFi (im_kresetCame Z i0 p1 p2 p3) g4 g6 → P6 g6 → ∃ P8 : mSt → Prop, (∀ (g8 : mSt), mFr [] g6 g8 → mFi (im_kresetCame Z i0 p1 p2 p3) g6 g8 → P8 g8 → ∃ P9 : mSt → Prop, (∀ (g9 : mSt), mFr [164, 165, 166, 167, 168, 169, 170, 171, 178, 179, 180, 421, 422, 1280, 1344] g8 g9 → mFi (im_kresetCame Z i0 p1 p2 p3) g8 g9 → P9 g9 → ∀ (v12 : Int32), v12 = g9 170 i0 → rg (0) (2000000000) v12 → ∀ (v13 : Int32), v13 = v12 + (8 : Int32) → rg (8) (2000000008) v13 → v13.toInt = v12.toInt + 8 → wp_kword Z (cOut Z.n i0) v13 g9 (fun (_ : Int32) (g14 : mSt) => po_kword Z (cOut Z.n i0) v13 g9 0 g14 → ∃ P16 : Int32 → mSt → Prop, (∀ (b101_1_15 : Int32) (g16 : mSt), mFr [] g14 g16 → mFi (im_kresetCame Z i0 p1 p2 p3) g14 g16 → rg (6) (15) b101_1_15 → P16 b101_1_15 g16 → wp_ksendUnit Z (cOut Z.n i0) b101_1_15 (0 : Int32) g16 (fun (_ : Int32) (g17 : mSt) => po_ksendUnit Z (cOut Z.n i0) b101_1_15 (0 : Int32) g16 0 g17 → Φ 0 g17)) ∧ ((p1.toInt ≠ 5) → P16 (15 : Int32) g14) ∧ ((p1.toInt = 5) → P16 (6 : Int32) g14))) ∧ ((b21_0_2.toInt ≠ 0) → P9 g8) ∧ ((b21_0_2.toInt = 0) → wp_kbecomeReady Z i0 p3 g8 (fun (_ : Int32) (g23 : mSt) => po_kbecomeReady Z i0 p3 g8 0 g23 → P9 g23))) ∧ ((v1.toInt = 2) → P8 g6) ∧ ((v1.toInt ≠ 2) → ((v1.toInt = 3) → P8 g6) ∧ ((v1.toInt ≠ 3) → Φ 0 g6))) ∧ ((v1.toInt ≠ 0) → P6 g4) ∧ ((v1.toInt = 0) → wp_ksendUnit Z (cOut Z.n i0) (3 : Int32) (1 : Int32) g4 (fun (_ : Int32) (g34 : mSt) => po_ksendUnit Z (cOut Z.n i0) (3 : Int32) (1 : Int32) g4 0 g34 → P6 g34))) ∧ ∃ P35 : mSt → Prop, (∀ (g35 : mSt), mFr [] g g35 → mFi (im_kresetCame Z i0 p1 p2 p3) g g35 → P35 g35 → P3 (0 : Int32) g35) ∧ ((v1.toInt ≠ 2) → P35 g) ∧ ((v1.toInt = 2) → ∀ (v38 : Int32), v38 = g 175 i0 → rg (-2147483648) (2147483647) v38 → ((p2.toInt ≠ v38.toInt) → P35 g) ∧ ((p2.toInt = v38.toInt) → P3 (1 : Int32) g))
set_option maxHeartbeats 4000000 in
set_option maxRecDepth 100000 in
theorem v_kresetCame {p : Program} {l : Launch} {e : Env} {s : State} {m : MethodId} {args : Array Value} {below : List Frame} {meth : Method} {c : Code} {H : Heap} {locs : List Loc} {Q : State → Prop} {ls : Array Slot} {G : cG} {Z : cZ} {A : Nat → Prop} {g : mSt} {H0 : Heap} {X : Int} (x : cX p c cX5_resetCame s args (wk (Cond.code yX5_resetCame cX5_resetCame 5 none)) m G Z A RX5 H0) (hml : c.maxLocals = 5) (L : cL G Z A H0 X g H locs) (hX : 0 ≤ X ∧ X ≤ 2000000000) (i0 : Nat) (p1 : Int32) (p2 : Int32) (p3 : Int32) (hi0 : i0 < 2 * Z.n) (rp2 : rg (0) (16777215) p2) {Φ : Int32 → mSt → Prop} (hW : wfP (wp_kresetCame Z i0 p1 p2 p3 g Φ)) (hl : lv_has ls 5 [(0, .ref (Z.ad 5 i0)), (1, .int p1), (2, .int p2), (3, .int p3)]) (hQ : ∀ (pc' : Nat) (ls' : Array Slot) (g1 : mSt) (H1 : Heap) (locs1 : List Loc), decode cX5_resetCame pc' = .ok (.return_, 1) → cL G Z A H0 X g1 H1 locs1 → (wfP (Φ 0 g1) ∧ mFi (im_kresetCame Z i0 p1 p2 p3) g g1 ∧ (mFr [67, 108, 111, 164, 165, 166, 167, 168, 169, 170, 171, 175, 178, 179, 180, 421, 422, 544, 576, 768, 1280, 1344] g g1 ∧ True)) → W p l e rm_kresetCame s m args below meth c H1 locs1 0 0 Q (F0 m pc' ls' [])) : W p l e rm_kresetCame s m args below meth c H locs 0 0 Q (F0 m 0 ls []) := by
  have hx := x.1
  have hb := x.2.1
  have hz := x.2.2.2.2.2.2.2.1
  have hzn := hz.1
  have hal0 : Z.al 5 i0 := hz.2 5 i0 (show i0 < 2 * Z.n from hi0)
  refine lv_aload_n hx hb dX5_resetCame_0 rfl (lv_at hl 0 rfl) ?_
  refine c_geti x L 5 i0 4 164 hal0 rfl rfl (wk_in kf_X5_26) dX5_resetCame_1 (fun v1 ev1 wv1 => ?_)
  have rv1 : rg (0) (4) v1 := clj_164 wv1
  replace hW := (wfP_i (wfP_i (wfP_a hW v1) ev1) rv1)
  refine lv_iconst (v := 2) hx hb dX5_resetCame_4 (by decide) ?_
  obtain ⟨P3, hP3, hW⟩ := wfP_ex hW
  have j21_3 : ∀ (b21_0_2 : Int32) (g3 : mSt) (H3 : Heap) (k3 : List Loc) (ls : Array Slot), mFr [] g g3 → cL G Z A H0 X g3 H3 k3 → rg (0) (1) b21_0_2 → mFi (im_kresetCame Z i0 p1 p2 p3) g g3 → wfP (P3 b21_0_2 g3) → lv_has ls 5 [(0, .ref (Z.ad 5 i0)), (1, .int p1), (2, .int p2), (3, .int p3)] → W p l e rm_kresetCame s m args below meth c H3 k3 0 0 Q (F0 m 21 ls [.int b21_0_2]) := by
    intro b21_0_2 g3 H3 k3 ls hF3 L3 rb21_0_2 hI3 hW hl
    replace hW := wfP_i (wfP_i (wfP_i (wfP_i (wfP_a (wfP_a hP3 b21_0_2) g3) hF3) hI3) rb21_0_2) hW
    refine lv_istore (lv' := [(4, .int b21_0_2), (0, .ref (Z.ad 5 i0)), (1, .int p1), (2, .int p2), (3, .int p3)]) hx hb dX5_resetCame_21 hl (by decide) rfl (fun ls hl => ?_)
    refine lv_aload_n hx hb dX5_resetCame_23 rfl (lv_at hl 1 rfl) ?_
    refine lv_iload_n hx hb dX5_resetCame_24 rfl (lv_at hl 3 rfl) ?_
    refine c_puti x L3 5 i0 15 175 hal0 rfl rfl ⟨rfl, by decide +kernel⟩ (wk_in kf_X5_185) dX5_resetCame_25 (rg_any p2) (fun g4 H4 k4 eg4 L4 => ?_)
    replace hW := (wfP_i (wfP_a hW g4) eg4)
    refine lv_aload_n hx hb dX5_resetCame_28 rfl (lv_at hl 1 rfl) ?_
    refine c_geti x L4 5 i0 4 164 hal0 rfl rfl (wk_in kf_X5_26) dX5_resetCame_29 (fun v5 ev5 wv5 => ?_)
    refine m_top (((mm_up (mm_fr ev1 hF3 rfl) eg4 rfl)).trans ev5.symm) ?_
    obtain ⟨P6, hP6, hW⟩ := wfP_ex hW
    have j44_6 : ∀ (g6 : mSt) (H6 : Heap) (k6 : List Loc) (ls : Array Slot), mFr [67, 108, 111, 544, 576, 768] g4 g6 → cL G Z A H0 X g6 H6 k6 → mFi (im_kresetCame Z i0 p1 p2 p3) g4 g6 → wfP (P6 g6) → lv_has ls 5 [(0, .ref (Z.ad 5 i0)), (1, .int p1), (3, .int p3), (4, .int b21_0_2)] → W p l e rm_kresetCame s m args below meth c H6 k6 0 0 Q (F0 m 44 ls []) := by
      intro  g6 H6 k6 ls hF6 L6  hI6 hW hl
      replace hW := wfP_i (wfP_i (wfP_i (wfP_a hP6 g6) hF6) hI6) hW
      refine lv_aload_n hx hb dX5_resetCame_44 rfl (lv_at hl 0 rfl) ?_
      refine c_geti x L6 5 i0 4 164 hal0 rfl rfl (wk_in kf_X5_26) dX5_resetCame_45 (fun v7 ev7 wv7 => ?_)
      refine m_top (((mm_fr (mm_up (mm_fr ev1 hF3 rfl) eg4 rfl) hF6 rfl)).trans ev7.symm) ?_
      refine lv_iconst (v := 2) hx hb dX5_resetCame_48 (by decide) ?_
      obtain ⟨P8, hP8, hW⟩ := wfP_ex hW
      have j61_8 : ∀ (g8 : mSt) (H8 : Heap) (k8 : List Loc) (ls : Array Slot), mFr [] g6 g8 → cL G Z A H0 X g8 H8 k8 → mFi (im_kresetCame Z i0 p1 p2 p3) g6 g8 → wfP (P8 g8) → lv_has ls 5 [(0, .ref (Z.ad 5 i0)), (1, .int p1), (3, .int p3), (4, .int b21_0_2)] → W p l e rm_kresetCame s m args below meth c H8 k8 0 0 Q (F0 m 61 ls []) := by
        intro  g8 H8 k8 ls hF8 L8  hI8 hW hl
        replace hW := wfP_i (wfP_i (wfP_i (wfP_a hP8 g8) hF8) hI8) hW
        refine lv_iload hx hb dX5_resetCame_61 (lv_at hl 3 rfl) ?_
        obtain ⟨P9, hP9, hW⟩ := wfP_ex hW
        have j71_9 : ∀ (g9 : mSt) (H9 : Heap) (k9 : List Loc) (ls : Array Slot), mFr [164, 165, 166, 167, 168, 169, 170, 171, 178, 179, 180, 421, 422, 1280, 1344] g8 g9 → cL G Z A H0 X g9 H9 k9 → mFi (im_kresetCame Z i0 p1 p2 p3) g8 g9 → wfP (P9 g9) → lv_has ls 5 [(0, .ref (Z.ad 5 i0)), (1, .int p1)] → W p l e rm_kresetCame s m args below meth c H9 k9 0 0 Q (F0 m 71 ls []) := by
          intro  g9 H9 k9 ls hF9 L9  hI9 hW hl
          replace hW := wfP_i (wfP_i (wfP_i (wfP_a hP9 g9) hF9) hI9) hW
          refine lv_aload_n hx hb dX5_resetCame_71 rfl (lv_at hl 0 rfl) ?_
          have ho10 := cOut_lt (n := Z.n) (i := i0) (by omega)
          have al11 : Z.al 3 (cOut Z.n i0) := hz.2 3 (cOut Z.n i0) (show (cOut Z.n i0) < 2 * Z.n from (by omega))
          refine c_getr (a := Z.ad 3 (cOut Z.n i0)) x L9 5 i0 0 hal0 rfl rfl (wk_in kf_X5_30) dX5_resetCame_72 ?_
          refine lv_aload_n hx hb dX5_resetCame_75 rfl (lv_at hl 0 rfl) ?_
          refine c_geti x L9 5 i0 10 170 hal0 rfl rfl (wk_in kf_X5_49) dX5_resetCame_76 (fun v12 ev12 wv12 => ?_)
          have rv12 : rg 0 2000000000 v12 := rg_X hX (clj_170 wv12)
          replace hW := (wfP_i (wfP_i (wfP_a hW v12) ev12) rv12)
          refine lv_bipush (v := 8) hx hb dX5_resetCame_79 (by decide) ?_
          refine lv_iadd hx hb dX5_resetCame_81 ?_
          refine lv_topi (fun v13 ev13 => ?_)
          have rv13 : rg (8) (2000000008) v13 := (rg_add ev13 rv12 kc_8 rfl).1
          replace hW := (wfP_i (wfP_i (wfP_i (wfP_a hW v13) ev13) rv13) (w_iadd ((rg_add ev13 rv12 kc_8 rfl).2) rfl (rg_i kc_8)))
          refine c_cv (As := [.int v13]) (rest := []) x hml L9 3 (cOut Z.n i0) al11 rfl (d_kword l X g9 (cOut Z.n i0) v13 hX (show (cOut Z.n i0) < 2 * Z.n from (by omega)) hW) (wk_V kd_X3_word kl_X5_102 ki_X3_word ks_X3_X3_word kn_X3) rfl ⟨rfl, rfl⟩ hd_kword ⟨Nat.le_of_ble_eq_true rfl, Nat.le_of_ble_eq_true rfl⟩ rfl hl.1 rfl (lv_room (Nat.le_of_ble_eq_true rfl)) dX5_resetCame_82 (fun  g14 H14 k14 hp14 L14 => ?_)
          obtain ⟨hW, hi14, hp14⟩ := hp14
          replace hW := wfP_i hW ⟨hi14, hp14⟩
          refine lv_aload_n hx hb dX5_resetCame_85 rfl (lv_at hl 0 rfl) ?_
          refine c_getr (a := Z.ad 3 (cOut Z.n i0)) x L14 5 i0 0 hal0 rfl rfl (wk_in kf_X5_30) dX5_resetCame_86 ?_
          refine lv_iload_n hx hb dX5_resetCame_89 rfl (lv_at hl 1 rfl) ?_
          refine lv_iconst (v := 5) hx hb dX5_resetCame_90 (by decide) ?_
          obtain ⟨P16, hP16, hW⟩ := wfP_ex hW
          have j101_16 : ∀ (b101_1_15 : Int32) (g16 : mSt) (H16 : Heap) (k16 : List Loc) (ls : Array Slot), mFr [] g14 g16 → cL G Z A H0 X g16 H16 k16 → rg (6) (15) b101_1_15 → mFi (im_kresetCame Z i0 p1 p2 p3) g14 g16 → wfP (P16 b101_1_15 g16) → lv_has ls 5 [(0, .ref (Z.ad 5 i0))] → W p l e rm_kresetCame s m args below meth c H16 k16 0 0 Q (F0 m 101 ls [.int b101_1_15, .ref (Z.ad 3 (cOut Z.n i0))]) := by
            intro b101_1_15 g16 H16 k16 ls hF16 L16 rb101_1_15 hI16 hW hl
            replace hW := wfP_i (wfP_i (wfP_i (wfP_i (wfP_a (wfP_a hP16 b101_1_15) g16) hF16) hI16) rb101_1_15) hW
            refine lv_iconst (v := 0) hx hb dX5_resetCame_101 (by decide) ?_
            refine c_cv (As := [.int b101_1_15, .int (0 : Int32)]) (rest := []) x hml L16 3 (cOut Z.n i0) al11 rfl (d_ksendUnit l X g16 (cOut Z.n i0) b101_1_15 (0 : Int32) hX (show (cOut Z.n i0) < 2 * Z.n from (by omega)) hW) (wk_V kd_X3_sendUnit kl_X5_96 ki_X3_sendUnit ks_X3_X3_sendUnit kn_X3) rfl ⟨rfl, rfl⟩ hd_ksendUnit ⟨Nat.le_of_ble_eq_true rfl, Nat.le_of_ble_eq_true rfl⟩ rfl hl.1 rfl (lv_room (Nat.le_of_ble_eq_true rfl)) dX5_resetCame_102 (fun  g17 H17 k17 hp17 L17 => ?_)
            obtain ⟨hW, hi17, hp17⟩ := hp17
            replace hW := wfP_i hW ⟨hi17, hp17⟩
            exact hQ _ _ _ _ _ dX5_resetCame_105 L17 ⟨hW, (mFi.sub (mFi.tr (mFi.sub (mFi.tr (mFi.tr (mFi.tr (mFi.up (mFi.tr mFi.rf hI3) eg4 (mIn_at 11 rfl (Or.inr (Nat.div_one _)))) hI6) hI8) hI9) hi14 (mSub_eq 2 rfl (mSub_eq 21 rfl mSub_nil))) hI16) hi17 (mSub_eq 0 rfl (mSub_eq 1 rfl (mSub_eq 2 rfl (mSub_eq 19 rfl (mSub_eq 20 rfl (mSub_eq 21 rfl mSub_nil))))))), (mFr.tr (mFr.tr (mFr.tr (mFr.tr (mFr.tr (mFr.tr (mFr.upE (mFr.tr mFr.rf hF3 rfl) eg4 rfl) hF6 rfl) hF8 rfl) hF9 rfl) hp14.1 rfl) hF16 rfl) hp17.1 rfl), trivial⟩
          refine lv_icmp_ne (tgt := 99) hx hb dX5_resetCame_91 (by decide) (fun c91_18 => ?_) (fun c91_18 => ?_)
          · skip
            replace hW := wfP_i (wfP_l hW) (i_ne c91_18 rfl (rg_i kc_5))
            refine lv_bipush (v := 15) hx hb dX5_resetCame_99 (by decide) ?_
            exact j101_16 (15 : Int32) g14 _ _ ls mFr.rf L14 (rg_w kc_15 rfl) mFi.rf hW (lv_sub hl [0] rfl)
          · skip
            replace hW := wfP_i (wfP_r hW) (i_eq c91_18 rfl (rg_i kc_5))
            have q19 : rg (5) (5) p1 := (rg_eq c91_18 (rg_any p1) kc_5).1
            refine lv_bipush (v := 6) hx hb dX5_resetCame_94 (by decide) ?_
            refine lv_goto (tgt := 101) hx hb dX5_resetCame_96 (by decide) ?_
            exact j101_16 (6 : Int32) g14 _ _ ls mFr.rf L14 (rg_w kc_6 rfl) mFi.rf hW (lv_sub hl [0] rfl)
        refine lv_if_ne (tgt := 71) hx hb dX5_resetCame_63 (by decide) (fun c63_20 => ?_) (fun c63_20 => ?_)
        · skip
          replace hW := wfP_i (wfP_l hW) (i_ne c63_20 rfl (rg_i kc_0))
          have q21 : rg (1) (1) b21_0_2 := rg_neL c63_20 rb21_0_2 kc_0
          exact j71_9  g8 _ _ ls mFr.rf L8 mFi.rf hW (lv_sub hl [0, 1] rfl)
        · skip
          replace hW := wfP_i (wfP_r hW) (i_eq c63_20 rfl (rg_i kc_0))
          have q22 : rg (0) (0) b21_0_2 := (rg_eq c63_20 rb21_0_2 kc_0).1
          refine lv_aload_n hx hb dX5_resetCame_66 rfl (lv_at hl 0 rfl) ?_
          refine lv_iload_n hx hb dX5_resetCame_67 rfl (lv_at hl 2 rfl) ?_
          refine c_cv (As := [.int p3]) (rest := []) x hml L8 5 i0 hal0 rfl (d_kbecomeReady l X g8 i0 p3 hX (show i0 < 2 * Z.n from (by omega)) hW) (wk_V kd_X5_becomeReady kl_X5_182 ki_X5_becomeReady ks_X5_X5_becomeReady kn_X5) rfl ⟨rfl, rfl⟩ hd_kbecomeReady ⟨Nat.le_of_ble_eq_true rfl, Nat.le_of_ble_eq_true rfl⟩ rfl hl.1 rfl (lv_room (Nat.le_of_ble_eq_true rfl)) dX5_resetCame_68 (fun  g23 H23 k23 hp23 L23 => ?_)
          obtain ⟨hW, hi23, hp23⟩ := hp23
          replace hW := wfP_i hW ⟨hi23, hp23⟩
          exact j71_9  g23 _ _ ls (mFr.tr mFr.rf hp23.1 rfl) L23 (mFi.sub mFi.rf hi23 (mSub_eq 3 rfl (mSub_eq 4 rfl (mSub_eq 5 rfl (mSub_eq 6 rfl (mSub_eq 7 rfl (mSub_eq 8 rfl (mSub_eq 9 rfl (mSub_eq 10 rfl (mSub_eq 12 rfl (mSub_eq 13 rfl (mSub_eq 14 rfl (mSub_eq 15 rfl (mSub_eq 16 rfl (mSub_eq 17 rfl (mSub_eq 18 rfl (mSub_eq 22 rfl (mSub_eq 23 rfl (mSub_eq 24 rfl (mSub_eq 25 rfl mSub_nil)))))))))))))))))))) hW (lv_sub hl [0, 1] rfl)
      refine lv_icmp_eq (tgt := 61) hx hb dX5_resetCame_49 (by decide) (fun c49_24 => ?_) (fun c49_24 => ?_)
      · skip
        replace hW := wfP_i (wfP_l hW) (i_eq c49_24 rfl (rg_i kc_2))
        have q25 : rg (2) (2) v1 := (rg_eq c49_24 rv1 kc_2).1
        exact j61_8  g6 _ _ ls mFr.rf L6 mFi.rf hW (lv_sub hl [0, 1, 2, 3] rfl)
      · skip
        replace hW := wfP_i (wfP_r hW) (i_ne c49_24 rfl (rg_i kc_2))
        refine lv_aload_n hx hb dX5_resetCame_52 rfl (lv_at hl 0 rfl) ?_
        refine c_geti x L6 5 i0 4 164 hal0 rfl rfl (wk_in kf_X5_26) dX5_resetCame_53 (fun v26 ev26 wv26 => ?_)
        refine m_top (((mm_fr (mm_up (mm_fr ev1 hF3 rfl) eg4 rfl) hF6 rfl)).trans ev26.symm) ?_
        refine lv_iconst (v := 3) hx hb dX5_resetCame_56 (by decide) ?_
        refine lv_icmp_eq (tgt := 61) hx hb dX5_resetCame_57 (by decide) (fun c57_27 => ?_) (fun c57_27 => ?_)
        · skip
          replace hW := wfP_i (wfP_l hW) (i_eq c57_27 rfl (rg_i kc_3))
          have q28 : rg (3) (3) v1 := (rg_eq c57_27 rv1 kc_3).1
          exact j61_8  g6 _ _ ls mFr.rf L6 mFi.rf hW (lv_sub hl [0, 1, 2, 3] rfl)
        · skip
          replace hW := wfP_i (wfP_r hW) (i_ne c57_27 rfl (rg_i kc_3))
          exact hQ _ _ _ _ _ dX5_resetCame_60 L6 ⟨hW, (mFi.tr (mFi.up (mFi.tr mFi.rf hI3) eg4 (mIn_at 11 rfl (Or.inr (Nat.div_one _)))) hI6), (mFr.tr (mFr.upE (mFr.tr mFr.rf hF3 rfl) eg4 rfl) hF6 rfl), trivial⟩
    refine lv_if_ne (tgt := 44) hx hb dX5_resetCame_32 (by decide) (fun c32_29 => ?_) (fun c32_29 => ?_)
    · skip
      replace hW := wfP_i (wfP_l hW) (i_ne c32_29 rfl (rg_i kc_0))
      have q30 : rg (1) (4) v1 := rg_neL c32_29 rv1 kc_0
      exact j44_6  g4 _ _ ls mFr.rf L4 mFi.rf hW (lv_sub hl [1, 2, 4, 0] rfl)
    · skip
      replace hW := wfP_i (wfP_r hW) (i_eq c32_29 rfl (rg_i kc_0))
      have q31 : rg (0) (0) v1 := (rg_eq c32_29 rv1 kc_0).1
      refine lv_aload_n hx hb dX5_resetCame_35 rfl (lv_at hl 1 rfl) ?_
      have ho32 := cOut_lt (n := Z.n) (i := i0) (by omega)
      have al33 : Z.al 3 (cOut Z.n i0) := hz.2 3 (cOut Z.n i0) (show (cOut Z.n i0) < 2 * Z.n from (by omega))
      refine c_getr (a := Z.ad 3 (cOut Z.n i0)) x L4 5 i0 0 hal0 rfl rfl (wk_in kf_X5_30) dX5_resetCame_36 ?_
      refine lv_iconst (v := 3) hx hb dX5_resetCame_39 (by decide) ?_
      refine lv_iconst (v := 1) hx hb dX5_resetCame_40 (by decide) ?_
      refine c_cv (As := [.int (3 : Int32), .int (1 : Int32)]) (rest := []) x hml L4 3 (cOut Z.n i0) al33 rfl (d_ksendUnit l X g4 (cOut Z.n i0) (3 : Int32) (1 : Int32) hX (show (cOut Z.n i0) < 2 * Z.n from (by omega)) hW) (wk_V kd_X3_sendUnit kl_X5_96 ki_X3_sendUnit ks_X3_X3_sendUnit kn_X3) rfl ⟨rfl, rfl⟩ hd_ksendUnit ⟨Nat.le_of_ble_eq_true rfl, Nat.le_of_ble_eq_true rfl⟩ rfl hl.1 rfl (lv_room (Nat.le_of_ble_eq_true rfl)) dX5_resetCame_41 (fun  g34 H34 k34 hp34 L34 => ?_)
      obtain ⟨hW, hi34, hp34⟩ := hp34
      replace hW := wfP_i hW ⟨hi34, hp34⟩
      exact j44_6  g34 _ _ ls (mFr.tr mFr.rf hp34.1 rfl) L34 (mFi.sub mFi.rf hi34 (mSub_eq 0 rfl (mSub_eq 1 rfl (mSub_eq 2 rfl (mSub_eq 19 rfl (mSub_eq 20 rfl (mSub_eq 21 rfl mSub_nil))))))) hW (lv_sub hl [1, 2, 4, 0] rfl)
  obtain ⟨P35, hP35, hW⟩ := wfP_ex hW
  have j20_35 : ∀ (g35 : mSt) (H35 : Heap) (k35 : List Loc) (ls : Array Slot), mFr [] g g35 → cL G Z A H0 X g35 H35 k35 → mFi (im_kresetCame Z i0 p1 p2 p3) g g35 → wfP (P35 g35) → lv_has ls 5 [(0, .ref (Z.ad 5 i0)), (1, .int p1), (2, .int p2), (3, .int p3)] → W p l e rm_kresetCame s m args below meth c H35 k35 0 0 Q (F0 m 20 ls []) := by
    intro  g35 H35 k35 ls hF35 L35  hI35 hW hl
    replace hW := wfP_i (wfP_i (wfP_i (wfP_a hP35 g35) hF35) hI35) hW
    refine lv_iconst (v := 0) hx hb dX5_resetCame_20 (by decide) ?_
    exact j21_3 (0 : Int32) g35 _ _ ls (mFr.tr mFr.rf hF35 rfl) L35 (rg_w kc_0 rfl) (mFi.tr mFi.rf hI35) hW (lv_sub hl [0, 1, 2, 3] rfl)
  refine lv_icmp_ne (tgt := 20) hx hb dX5_resetCame_5 (by decide) (fun c5_36 => ?_) (fun c5_36 => ?_)
  · skip
    replace hW := wfP_i (wfP_l hW) (i_ne c5_36 rfl (rg_i kc_2))
    exact j20_35  g _ _ ls mFr.rf L mFi.rf hW (lv_sub hl [0, 1, 2, 3] rfl)
  · skip
    replace hW := wfP_i (wfP_r hW) (i_eq c5_36 rfl (rg_i kc_2))
    have q37 : rg (2) (2) v1 := (rg_eq c5_36 rv1 kc_2).1
    refine lv_iload_n hx hb dX5_resetCame_8 rfl (lv_at hl 2 rfl) ?_
    refine lv_aload_n hx hb dX5_resetCame_9 rfl (lv_at hl 0 rfl) ?_
    refine c_geti x L 5 i0 15 175 hal0 rfl rfl (wk_in kf_X5_185) dX5_resetCame_10 (fun v38 ev38 wv38 => ?_)
    have rv38 : rg (-2147483648) (2147483647) v38 := rg_any v38
    replace hW := (wfP_i (wfP_i (wfP_a hW v38) ev38) rv38)
    refine lv_icmp_ne (tgt := 20) hx hb dX5_resetCame_13 (by decide) (fun c13_39 => ?_) (fun c13_39 => ?_)
    · skip
      replace hW := wfP_i (wfP_l hW) (i_ne c13_39 rfl rfl)
      exact j20_35  g _ _ ls mFr.rf L mFi.rf hW (lv_sub hl [0, 1, 2, 3] rfl)
    · skip
      replace hW := wfP_i (wfP_r hW) (i_eq c13_39 rfl rfl)
      have q40 : rg (0) (16777215) v38 := (rg_eq c13_39 rp2 rv38).2
      refine lv_iconst (v := 1) hx hb dX5_resetCame_16 (by decide) ?_
      refine lv_goto (tgt := 21) hx hb dX5_resetCame_17 (by decide) ?_
      exact j21_3 (1 : Int32) g _ _ ls mFr.rf L (rg_w kc_1 rfl) mFi.rf hW (lv_sub hl [0, 1, 2, 3] rfl)
theorem d_kresetCame (l : Launch) {G : cG} {Z : cZ} (X : Int) (g : mSt) (i0 : Nat) (p1 : Int32) (p2 : Int32) (p3 : Int32) (hX : 0 ≤ X ∧ X ≤ 2000000000) (hi0 : i0 < 2 * Z.n) (rp2 : rg (0) (16777215) p2) {Φ : Int32 → mSt → Prop} (hW : wfP (wp_kresetCame Z i0 p1 p2 p3 g Φ)) : Met l yX5_resetCame (wk (Cond.code yX5_resetCame cX5_resetCame 5 none)) rm_kresetCame (va_Pc [.ref (Z.ad 5 i0), .int p1, .int p2, .int p3] (cPre G Z X g)) (cQv G Z X (fun g1 => wfP (Φ 0 g1) ∧ mFi (im_kresetCame Z i0 p1 p2 p3) g g1 ∧ (mFr [67, 108, 111, 164, 165, 166, 167, 168, 169, 170, 171, 175, 178, 179, 180, 421, 422, 544, 576, 768, 1280, 1344] g g1 ∧ True))) 0 0 (cAd Z) := by
  refine Met.ofW (cc := cX5_resetCame) (maxL := 5) (ret := none) (by decide) rfl ?_
  intro p e s m args below meth c s₁ B hml hv
  obtain ⟨rfl, hv⟩ := hv
  have hr := B.returns
  have hlocks := B.notSynchronized
  obtain ⟨x, L⟩ := c_start B rfl (fun w h => wk_in h) hv
  have hl := lv_entry ([.ref (Z.ad 5 i0), .int p1, .int p2, .int p3]) (n := 5) (Nat.le_of_ble_eq_true rfl)
  rw [lg_entry_eq]
  generalize (lg_sl ([.ref (Z.ad 5 i0), .int p1, .int p2, .int p3]) ++ List.replicate (5 - (lg_sl ([.ref (Z.ad 5 i0), .int p1, .int p2, .int p3])).length) Slot.unset).toArray = ls at hl ⊢
  exact v_kresetCame x hml L hX i0 p1 p2 p3 hi0 rp2 hW hl (fun pc' ls' g1 H1 locs1 hdg L hp => c_vret x L hr hlocks (Int.le_refl _) hp hdg)

def im_kanswerCame (Z : cZ) (i0 : Nat) (p1 : Int32) (p2 : Int32) : List (Nat × Nat × Nat) := [(164, i0, 1), (165, i0, 1), (166, i0, 1), (167, i0, 1), (168, i0, 1), (169, i0, 1), (170, i0, 1), (171, i0, 1), (178, i0, 1), (179, i0, 1), (180, i0, 1), (421, (2 * i0 + 1), 1), (421, (2 * i0), 1), (422, (2 * i0 + 1), 1), (422, (2 * i0), 1), (1280, (2 * i0 + 1), 8192), (1280, (2 * i0), 8192), (1344, (2 * i0 + 1), 8192), (1344, (2 * i0), 8192)]
def po_kanswerCame (Z : cZ) (i0 : Nat) (p1 : Int32) (p2 : Int32) (g : mSt) (r : Int32) (g1 : mSt) : Prop := mFi (im_kanswerCame Z i0 p1 p2) g g1 ∧ mFr [164, 165, 166, 167, 168, 169, 170, 171, 178, 179, 180, 421, 422, 1280, 1344] g g1 ∧ True
def wp_kanswerCame (Z : cZ) (i0 : Nat) (p1 : Int32) (p2 : Int32) (g : mSt) (Φ : Int32 → mSt → Prop) : Prop :=
  ((p1.toInt ≠ 4) → ∀ (v2 : Int32), v2 = g 164 i0 → rg (0) (4) v2 → ∃ P4 : Int32 → mSt → Prop, (∀ (b87_0_3 : Int32) (g4 : mSt), mFr [] g g4 → mFi (im_kanswerCame Z i0 p1 p2) g g4 → rg (0) (1) b87_0_3 → P4 b87_0_3 g4 → ∃ P5 : mSt → Prop, (∀ (g5 : mSt), mFr [164, 165, 166, 167, 168, 169, 170, 171, 178, 179, 180, 421, 422, 1280, 1344] g4 g5 → mFi (im_kanswerCame Z i0 p1 p2) g4 g5 → P5 g5 → Φ 0 g5) ∧ ((b87_0_3.toInt = 0) → P5 g4) ∧ ((b87_0_3.toInt ≠ 0) → wp_kbecomeReady Z i0 p2 g4 (fun (_ : Int32) (g9 : mSt) => po_kbecomeReady Z i0 p2 g4 0 g9 → P5 g9))) ∧ ∃ P10 : mSt → Prop, (∀ (g10 : mSt), mFr [] g g10 → mFi (im_kanswerCame Z i0 p1 p2) g g10 → P10 g10 → P4 (1 : Int32) g10) ∧ ∃ P11 : mSt → Prop, (∀ (g11 : mSt), mFr [] g g11 → mFi (im_kanswerCame Z i0 p1 p2) g g11 → P11 g11 → ∃ P13 : mSt → Prop, (∀ (g13 : mSt), mFr [] g11 g13 → mFi (im_kanswerCame Z i0 p1 p2) g11 g13 → P13 g13 → ∃ P15 : mSt → Prop, (∀ (g15 : mSt), mFr [] g13 g15 → mFi (im_kanswerCame Z i0 p1 p2) g13 g15 → P15 g15 → P4 (0 : Int32) g15) ∧ ((v2.toInt ≠ 3) → P15 g13) ∧ ((v2.toInt = 3) → ∀ (v18 : Int32), v18 = g13 176 i0 → rg (-2147483648) (2147483647) v18 → ((v18.toInt ≠ 9) → P15 g13) ∧ ((v18.toInt = 9) → ((p1.toInt ≠ 15) → P15 g13) ∧ ((p1.toInt = 15) → P10 g13)))) ∧ ((v2.toInt ≠ 3) → P13 g11) ∧ ((v2.toInt = 3) → ∀ (v25 : Int32), v25 = g11 176 i0 → rg (-2147483648) (2147483647) v25 → ((v25.toInt ≠ 5) → P13 g11) ∧ ((v25.toInt = 5) → ((p1.toInt = 6) → P10 g11) ∧ ((p1.toInt ≠ 6) → P13 g11)))) ∧ ((v2.toInt ≠ 1) → P11 g) ∧ ((v2.toInt = 1) → ((p1.toInt = 2) → P10 g) ∧ ((p1.toInt ≠ 2) → P11 g))) ∧ ((p1.toInt = 4) → ∀ (v35 : Int32), v35 = g 164 i0 → rg (0) (4) v35 → ∃ P36 : mSt → Prop, (∀ (g36 : mSt), mFr [164, 165, 166, 167, 168, 169, 170, 171, 179, 421, 422, 1280, 1344] g g36 → mFi (im_kanswerCame Z i0 p1 p2) g g36 → P36 g36 → Φ 0 g36) ∧ ((v35.toInt ≠ 4) → P36 g) ∧ ((v35.toInt = 4) → ∀ (g40 : mSt), g40 = up2 g 164 i0 (0 : Int32) → wp_kanew Z i0 (0 : Int32) g40 (fun (_ : Int32) (g41 : mSt) => po_kanew Z i0 (0 : Int32) g40 0 g41 → P36 g41)))
set_option maxHeartbeats 4000000 in
set_option maxRecDepth 100000 in
theorem v_kanswerCame {p : Program} {l : Launch} {e : Env} {s : State} {m : MethodId} {args : Array Value} {below : List Frame} {meth : Method} {c : Code} {H : Heap} {locs : List Loc} {Q : State → Prop} {ls : Array Slot} {G : cG} {Z : cZ} {A : Nat → Prop} {g : mSt} {H0 : Heap} {X : Int} (x : cX p c cX5_answerCame s args (wk (Cond.code yX5_answerCame cX5_answerCame 4 none)) m G Z A RX5 H0) (hml : c.maxLocals = 4) (L : cL G Z A H0 X g H locs) (hX : 0 ≤ X ∧ X ≤ 2000000000) (i0 : Nat) (p1 : Int32) (p2 : Int32) (hi0 : i0 < 2 * Z.n) {Φ : Int32 → mSt → Prop} (hW : wfP (wp_kanswerCame Z i0 p1 p2 g Φ)) (hl : lv_has ls 4 [(0, .ref (Z.ad 5 i0)), (1, .int p1), (2, .int p2)]) (hQ : ∀ (pc' : Nat) (ls' : Array Slot) (g1 : mSt) (H1 : Heap) (locs1 : List Loc), decode cX5_answerCame pc' = .ok (.return_, 1) → cL G Z A H0 X g1 H1 locs1 → (wfP (Φ 0 g1) ∧ mFi (im_kanswerCame Z i0 p1 p2) g g1 ∧ (mFr [164, 165, 166, 167, 168, 169, 170, 171, 178, 179, 180, 421, 422, 1280, 1344] g g1 ∧ True)) → W p l e rm_kanswerCame s m args below meth c H1 locs1 0 0 Q (F0 m pc' ls' [])) : W p l e rm_kanswerCame s m args below meth c H locs 0 0 Q (F0 m 0 ls []) := by
  have hx := x.1
  have hb := x.2.1
  have hz := x.2.2.2.2.2.2.2.1
  have hzn := hz.1
  have hal0 : Z.al 5 i0 := hz.2 5 i0 (show i0 < 2 * Z.n from hi0)
  refine lv_iload_n hx hb dX5_answerCame_0 rfl (lv_at hl 1 rfl) ?_
  refine lv_iconst (v := 4) hx hb dX5_answerCame_1 (by decide) ?_
  refine lv_icmp_ne (tgt := 24) hx hb dX5_answerCame_2 (by decide) (fun c2_1 => ?_) (fun c2_1 => ?_)
  · skip
    replace hW := wfP_i (wfP_l hW) (i_ne c2_1 rfl (rg_i kc_4))
    refine lv_aload_n hx hb dX5_answerCame_24 rfl (lv_at hl 0 rfl) ?_
    refine c_geti x L 5 i0 4 164 hal0 rfl rfl (wk_in kf_X5_26) dX5_answerCame_25 (fun v2 ev2 wv2 => ?_)
    have rv2 : rg (0) (4) v2 := clj_164 wv2
    replace hW := (wfP_i (wfP_i (wfP_a hW v2) ev2) rv2)
    refine lv_iconst (v := 1) hx hb dX5_answerCame_28 (by decide) ?_
    obtain ⟨P4, hP4, hW⟩ := wfP_ex hW
    have j87_4 : ∀ (b87_0_3 : Int32) (g4 : mSt) (H4 : Heap) (k4 : List Loc) (ls : Array Slot), mFr [] g g4 → cL G Z A H0 X g4 H4 k4 → rg (0) (1) b87_0_3 → mFi (im_kanswerCame Z i0 p1 p2) g g4 → wfP (P4 b87_0_3 g4) → lv_has ls 4 [(0, .ref (Z.ad 5 i0)), (2, .int p2)] → W p l e rm_kanswerCame s m args below meth c H4 k4 0 0 Q (F0 m 87 ls [.int b87_0_3]) := by
      intro b87_0_3 g4 H4 k4 ls hF4 L4 rb87_0_3 hI4 hW hl
      replace hW := wfP_i (wfP_i (wfP_i (wfP_i (wfP_a (wfP_a hP4 b87_0_3) g4) hF4) hI4) rb87_0_3) hW
      refine lv_istore_n (lv' := [(3, .int b87_0_3), (0, .ref (Z.ad 5 i0)), (2, .int p2)]) hx hb dX5_answerCame_87 rfl hl (by decide) rfl (fun ls hl => ?_)
      refine lv_iload_n hx hb dX5_answerCame_88 rfl (lv_at hl 0 rfl) ?_
      obtain ⟨P5, hP5, hW⟩ := wfP_ex hW
      have j97_5 : ∀ (g5 : mSt) (H5 : Heap) (k5 : List Loc) (ls : Array Slot), mFr [164, 165, 166, 167, 168, 169, 170, 171, 178, 179, 180, 421, 422, 1280, 1344] g4 g5 → cL G Z A H0 X g5 H5 k5 → mFi (im_kanswerCame Z i0 p1 p2) g4 g5 → wfP (P5 g5) → lv_has ls 4 [(0, .ref (Z.ad 5 i0))] → W p l e rm_kanswerCame s m args below meth c H5 k5 0 0 Q (F0 m 97 ls []) := by
        intro  g5 H5 k5 ls hF5 L5  hI5 hW hl
        replace hW := wfP_i (wfP_i (wfP_i (wfP_a hP5 g5) hF5) hI5) hW
        exact hQ _ _ _ _ _ dX5_answerCame_97 L5 ⟨hW, (mFi.tr (mFi.tr mFi.rf hI4) hI5), (mFr.tr (mFr.tr mFr.rf hF4 rfl) hF5 rfl), trivial⟩
      refine lv_if_eq (tgt := 97) hx hb dX5_answerCame_89 (by decide) (fun c89_6 => ?_) (fun c89_6 => ?_)
      · skip
        replace hW := wfP_i (wfP_l hW) (i_eq c89_6 rfl (rg_i kc_0))
        have q7 : rg (0) (0) b87_0_3 := (rg_eq c89_6 rb87_0_3 kc_0).1
        exact j97_5  g4 _ _ ls mFr.rf L4 mFi.rf hW (lv_sub hl [1] rfl)
      · skip
        replace hW := wfP_i (wfP_r hW) (i_ne c89_6 rfl (rg_i kc_0))
        have q8 : rg (1) (1) b87_0_3 := rg_neL c89_6 rb87_0_3 kc_0
        refine lv_aload_n hx hb dX5_answerCame_92 rfl (lv_at hl 1 rfl) ?_
        refine lv_iload_n hx hb dX5_answerCame_93 rfl (lv_at hl 2 rfl) ?_
        refine c_cv (As := [.int p2]) (rest := []) x hml L4 5 i0 hal0 rfl (d_kbecomeReady l X g4 i0 p2 hX (show i0 < 2 * Z.n from (by omega)) hW) (wk_V kd_X5_becomeReady kl_X5_182 ki_X5_becomeReady ks_X5_X5_becomeReady kn_X5) rfl ⟨rfl, rfl⟩ hd_kbecomeReady ⟨Nat.le_of_ble_eq_true rfl, Nat.le_of_ble_eq_true rfl⟩ rfl hl.1 rfl (lv_room (Nat.le_of_ble_eq_true rfl)) dX5_answerCame_94 (fun  g9 H9 k9 hp9 L9 => ?_)
        obtain ⟨hW, hi9, hp9⟩ := hp9
        replace hW := wfP_i hW ⟨hi9, hp9⟩
        exact j97_5  g9 _ _ ls (mFr.tr mFr.rf hp9.1 rfl) L9 (mFi.sub mFi.rf hi9 (mSub_eq 0 rfl (mSub_eq 1 rfl (mSub_eq 2 rfl (mSub_eq 3 rfl (mSub_eq 4 rfl (mSub_eq 5 rfl (mSub_eq 6 rfl (mSub_eq 7 rfl (mSub_eq 8 rfl (mSub_eq 9 rfl (mSub_eq 10 rfl (mSub_eq 11 rfl (mSub_eq 12 rfl (mSub_eq 13 rfl (mSub_eq 14 rfl (mSub_eq 15 rfl (mSub_eq 16 rfl (mSub_eq 17 rfl (mSub_eq 18 rfl mSub_nil)))))))))))))))))))) hW (lv_sub hl [1] rfl)
    obtain ⟨P10, hP10, hW⟩ := wfP_ex hW
    have j82_10 : ∀ (g10 : mSt) (H10 : Heap) (k10 : List Loc) (ls : Array Slot), mFr [] g g10 → cL G Z A H0 X g10 H10 k10 → mFi (im_kanswerCame Z i0 p1 p2) g g10 → wfP (P10 g10) → lv_has ls 4 [(0, .ref (Z.ad 5 i0)), (2, .int p2)] → W p l e rm_kanswerCame s m args below meth c H10 k10 0 0 Q (F0 m 82 ls []) := by
      intro  g10 H10 k10 ls hF10 L10  hI10 hW hl
      replace hW := wfP_i (wfP_i (wfP_i (wfP_a hP10 g10) hF10) hI10) hW
      refine lv_iconst (v := 1) hx hb dX5_answerCame_82 (by decide) ?_
      refine lv_goto (tgt := 87) hx hb dX5_answerCame_83 (by decide) ?_
      exact j87_4 (1 : Int32) g10 _ _ ls (mFr.tr mFr.rf hF10 rfl) L10 (rg_w kc_1 rfl) (mFi.tr mFi.rf hI10) hW (lv_sub hl [0, 1] rfl)
    obtain ⟨P11, hP11, hW⟩ := wfP_ex hW
    have j37_11 : ∀ (g11 : mSt) (H11 : Heap) (k11 : List Loc) (ls : Array Slot), mFr [] g g11 → cL G Z A H0 X g11 H11 k11 → mFi (im_kanswerCame Z i0 p1 p2) g g11 → wfP (P11 g11) → lv_has ls 4 [(0, .ref (Z.ad 5 i0)), (1, .int p1), (2, .int p2)] → W p l e rm_kanswerCame s m args below meth c H11 k11 0 0 Q (F0 m 37 ls []) := by
      intro  g11 H11 k11 ls hF11 L11  hI11 hW hl
      replace hW := wfP_i (wfP_i (wfP_i (wfP_a hP11 g11) hF11) hI11) hW
      refine lv_aload_n hx hb dX5_answerCame_37 rfl (lv_at hl 0 rfl) ?_
      refine c_geti x L11 5 i0 4 164 hal0 rfl rfl (wk_in kf_X5_26) dX5_answerCame_38 (fun v12 ev12 wv12 => ?_)
      refine m_top (((mm_fr ev2 hF11 rfl)).trans ev12.symm) ?_
      refine lv_iconst (v := 3) hx hb dX5_answerCame_41 (by decide) ?_
      obtain ⟨P13, hP13, hW⟩ := wfP_ex hW
      have j59_13 : ∀ (g13 : mSt) (H13 : Heap) (k13 : List Loc) (ls : Array Slot), mFr [] g11 g13 → cL G Z A H0 X g13 H13 k13 → mFi (im_kanswerCame Z i0 p1 p2) g11 g13 → wfP (P13 g13) → lv_has ls 4 [(0, .ref (Z.ad 5 i0)), (1, .int p1), (2, .int p2)] → W p l e rm_kanswerCame s m args below meth c H13 k13 0 0 Q (F0 m 59 ls []) := by
        intro  g13 H13 k13 ls hF13 L13  hI13 hW hl
        replace hW := wfP_i (wfP_i (wfP_i (wfP_a hP13 g13) hF13) hI13) hW
        refine lv_aload_n hx hb dX5_answerCame_59 rfl (lv_at hl 0 rfl) ?_
        refine c_geti x L13 5 i0 4 164 hal0 rfl rfl (wk_in kf_X5_26) dX5_answerCame_60 (fun v14 ev14 wv14 => ?_)
        refine m_top (((mm_fr (mm_fr ev2 hF11 rfl) hF13 rfl)).trans ev14.symm) ?_
        refine lv_iconst (v := 3) hx hb dX5_answerCame_63 (by decide) ?_
        obtain ⟨P15, hP15, hW⟩ := wfP_ex hW
        have j86_15 : ∀ (g15 : mSt) (H15 : Heap) (k15 : List Loc) (ls : Array Slot), mFr [] g13 g15 → cL G Z A H0 X g15 H15 k15 → mFi (im_kanswerCame Z i0 p1 p2) g13 g15 → wfP (P15 g15) → lv_has ls 4 [(0, .ref (Z.ad 5 i0)), (2, .int p2)] → W p l e rm_kanswerCame s m args below meth c H15 k15 0 0 Q (F0 m 86 ls []) := by
          intro  g15 H15 k15 ls hF15 L15  hI15 hW hl
          replace hW := wfP_i (wfP_i (wfP_i (wfP_a hP15 g15) hF15) hI15) hW
          refine lv_iconst (v := 0) hx hb dX5_answerCame_86 (by decide) ?_
          exact j87_4 (0 : Int32) g15 _ _ ls (mFr.tr (mFr.tr (mFr.tr mFr.rf hF11 rfl) hF13 rfl) hF15 rfl) L15 (rg_w kc_0 rfl) (mFi.tr (mFi.tr (mFi.tr mFi.rf hI11) hI13) hI15) hW (lv_sub hl [0, 1] rfl)
        refine lv_icmp_ne (tgt := 86) hx hb dX5_answerCame_64 (by decide) (fun c64_16 => ?_) (fun c64_16 => ?_)
        · skip
          replace hW := wfP_i (wfP_l hW) (i_ne c64_16 rfl (rg_i kc_3))
          exact j86_15  g13 _ _ ls mFr.rf L13 mFi.rf hW (lv_sub hl [0, 2] rfl)
        · skip
          replace hW := wfP_i (wfP_r hW) (i_eq c64_16 rfl (rg_i kc_3))
          have q17 : rg (3) (3) v2 := (rg_eq c64_16 rv2 kc_3).1
          refine lv_aload_n hx hb dX5_answerCame_67 rfl (lv_at hl 0 rfl) ?_
          refine c_geti x L13 5 i0 16 176 hal0 rfl rfl (wk_in kf_X5_84) dX5_answerCame_68 (fun v18 ev18 wv18 => ?_)
          have rv18 : rg (-2147483648) (2147483647) v18 := rg_any v18
          replace hW := (wfP_i (wfP_i (wfP_a hW v18) ev18) rv18)
          refine lv_bipush (v := 9) hx hb dX5_answerCame_71 (by decide) ?_
          refine lv_icmp_ne (tgt := 86) hx hb dX5_answerCame_73 (by decide) (fun c73_19 => ?_) (fun c73_19 => ?_)
          · skip
            replace hW := wfP_i (wfP_l hW) (i_ne c73_19 rfl (rg_i kc_9))
            exact j86_15  g13 _ _ ls mFr.rf L13 mFi.rf hW (lv_sub hl [0, 2] rfl)
          · skip
            replace hW := wfP_i (wfP_r hW) (i_eq c73_19 rfl (rg_i kc_9))
            have q20 : rg (9) (9) v18 := (rg_eq c73_19 rv18 kc_9).1
            refine lv_iload_n hx hb dX5_answerCame_76 rfl (lv_at hl 1 rfl) ?_
            refine lv_bipush (v := 15) hx hb dX5_answerCame_77 (by decide) ?_
            refine lv_icmp_ne (tgt := 86) hx hb dX5_answerCame_79 (by decide) (fun c79_21 => ?_) (fun c79_21 => ?_)
            · skip
              replace hW := wfP_i (wfP_l hW) (i_ne c79_21 rfl (rg_i kc_15))
              exact j86_15  g13 _ _ ls mFr.rf L13 mFi.rf hW (lv_sub hl [0, 2] rfl)
            · skip
              replace hW := wfP_i (wfP_r hW) (i_eq c79_21 rfl (rg_i kc_15))
              have q22 : rg (15) (15) p1 := (rg_eq c79_21 (rg_any p1) kc_15).1
              exact j82_10  g13 _ _ ls (mFr.tr (mFr.tr mFr.rf hF11 rfl) hF13 rfl) L13 (mFi.tr (mFi.tr mFi.rf hI11) hI13) hW (lv_sub hl [0, 2] rfl)
      refine lv_icmp_ne (tgt := 59) hx hb dX5_answerCame_42 (by decide) (fun c42_23 => ?_) (fun c42_23 => ?_)
      · skip
        replace hW := wfP_i (wfP_l hW) (i_ne c42_23 rfl (rg_i kc_3))
        exact j59_13  g11 _ _ ls mFr.rf L11 mFi.rf hW (lv_sub hl [0, 1, 2] rfl)
      · skip
        replace hW := wfP_i (wfP_r hW) (i_eq c42_23 rfl (rg_i kc_3))
        have q24 : rg (3) (3) v2 := (rg_eq c42_23 rv2 kc_3).1
        refine lv_aload_n hx hb dX5_answerCame_45 rfl (lv_at hl 0 rfl) ?_
        refine c_geti x L11 5 i0 16 176 hal0 rfl rfl (wk_in kf_X5_84) dX5_answerCame_46 (fun v25 ev25 wv25 => ?_)
        have rv25 : rg (-2147483648) (2147483647) v25 := rg_any v25
        replace hW := (wfP_i (wfP_i (wfP_a hW v25) ev25) rv25)
        refine lv_iconst (v := 5) hx hb dX5_answerCame_49 (by decide) ?_
        refine lv_icmp_ne (tgt := 59) hx hb dX5_answerCame_50 (by decide) (fun c50_26 => ?_) (fun c50_26 => ?_)
        · skip
          replace hW := wfP_i (wfP_l hW) (i_ne c50_26 rfl (rg_i kc_5))
          exact j59_13  g11 _ _ ls mFr.rf L11 mFi.rf hW (lv_sub hl [0, 1, 2] rfl)
        · skip
          replace hW := wfP_i (wfP_r hW) (i_eq c50_26 rfl (rg_i kc_5))
          have q27 : rg (5) (5) v25 := (rg_eq c50_26 rv25 kc_5).1
          refine lv_iload_n hx hb dX5_answerCame_53 rfl (lv_at hl 1 rfl) ?_
          refine lv_bipush (v := 6) hx hb dX5_answerCame_54 (by decide) ?_
          refine lv_icmp_eq (tgt := 82) hx hb dX5_answerCame_56 (by decide) (fun c56_28 => ?_) (fun c56_28 => ?_)
          · skip
            replace hW := wfP_i (wfP_l hW) (i_eq c56_28 rfl (rg_i kc_6))
            have q29 : rg (6) (6) p1 := (rg_eq c56_28 (rg_any p1) kc_6).1
            exact j82_10  g11 _ _ ls (mFr.tr mFr.rf hF11 rfl) L11 (mFi.tr mFi.rf hI11) hW (lv_sub hl [0, 2] rfl)
          · skip
            replace hW := wfP_i (wfP_r hW) (i_ne c56_28 rfl (rg_i kc_6))
            exact j59_13  g11 _ _ ls mFr.rf L11 mFi.rf hW (lv_sub hl [0, 1, 2] rfl)
    refine lv_icmp_ne (tgt := 37) hx hb dX5_answerCame_29 (by decide) (fun c29_30 => ?_) (fun c29_30 => ?_)
    · skip
      replace hW := wfP_i (wfP_l hW) (i_ne c29_30 rfl (rg_i kc_1))
      exact j37_11  g _ _ ls mFr.rf L mFi.rf hW (lv_sub hl [0, 1, 2] rfl)
    · skip
      replace hW := wfP_i (wfP_r hW) (i_eq c29_30 rfl (rg_i kc_1))
      have q31 : rg (1) (1) v2 := (rg_eq c29_30 rv2 kc_1).1
      refine lv_iload_n hx hb dX5_answerCame_32 rfl (lv_at hl 1 rfl) ?_
      refine lv_iconst (v := 2) hx hb dX5_answerCame_33 (by decide) ?_
      refine lv_icmp_eq (tgt := 82) hx hb dX5_answerCame_34 (by decide) (fun c34_32 => ?_) (fun c34_32 => ?_)
      · skip
        replace hW := wfP_i (wfP_l hW) (i_eq c34_32 rfl (rg_i kc_2))
        have q33 : rg (2) (2) p1 := (rg_eq c34_32 (rg_any p1) kc_2).1
        exact j82_10  g _ _ ls mFr.rf L mFi.rf hW (lv_sub hl [0, 2] rfl)
      · skip
        replace hW := wfP_i (wfP_r hW) (i_ne c34_32 rfl (rg_i kc_2))
        exact j37_11  g _ _ ls mFr.rf L mFi.rf hW (lv_sub hl [0, 1, 2] rfl)
  · skip
    replace hW := wfP_i (wfP_r hW) (i_eq c2_1 rfl (rg_i kc_4))
    have q34 : rg (4) (4) p1 := (rg_eq c2_1 (rg_any p1) kc_4).1
    refine lv_aload_n hx hb dX5_answerCame_5 rfl (lv_at hl 0 rfl) ?_
    refine c_geti x L 5 i0 4 164 hal0 rfl rfl (wk_in kf_X5_26) dX5_answerCame_6 (fun v35 ev35 wv35 => ?_)
    have rv35 : rg (0) (4) v35 := clj_164 wv35
    replace hW := (wfP_i (wfP_i (wfP_a hW v35) ev35) rv35)
    refine lv_iconst (v := 4) hx hb dX5_answerCame_9 (by decide) ?_
    obtain ⟨P36, hP36, hW⟩ := wfP_ex hW
    have j23_36 : ∀ (g36 : mSt) (H36 : Heap) (k36 : List Loc) (ls : Array Slot), mFr [164, 165, 166, 167, 168, 169, 170, 171, 179, 421, 422, 1280, 1344] g g36 → cL G Z A H0 X g36 H36 k36 → mFi (im_kanswerCame Z i0 p1 p2) g g36 → wfP (P36 g36) → lv_has ls 4 [(0, .ref (Z.ad 5 i0))] → W p l e rm_kanswerCame s m args below meth c H36 k36 0 0 Q (F0 m 23 ls []) := by
      intro  g36 H36 k36 ls hF36 L36  hI36 hW hl
      replace hW := wfP_i (wfP_i (wfP_i (wfP_a hP36 g36) hF36) hI36) hW
      exact hQ _ _ _ _ _ dX5_answerCame_23 L36 ⟨hW, (mFi.tr mFi.rf hI36), (mFr.tr mFr.rf hF36 rfl), trivial⟩
    refine lv_icmp_ne (tgt := 23) hx hb dX5_answerCame_10 (by decide) (fun c10_37 => ?_) (fun c10_37 => ?_)
    · skip
      replace hW := wfP_i (wfP_l hW) (i_ne c10_37 rfl (rg_i kc_4))
      have q38 : rg (0) (3) v35 := rg_neH c10_37 rv35 kc_4
      exact j23_36  g _ _ ls mFr.rf L mFi.rf hW (lv_sub hl [0] rfl)
    · skip
      replace hW := wfP_i (wfP_r hW) (i_eq c10_37 rfl (rg_i kc_4))
      have q39 : rg (4) (4) v35 := (rg_eq c10_37 rv35 kc_4).1
      refine lv_aload_n hx hb dX5_answerCame_13 rfl (lv_at hl 0 rfl) ?_
      refine lv_iconst (v := 0) hx hb dX5_answerCame_14 (by decide) ?_
      refine c_puti x L 5 i0 4 164 hal0 rfl rfl ⟨rfl, by decide +kernel⟩ (wk_in kf_X5_26) dX5_answerCame_15 (crj_164 (rg_w kc_0 rfl)) (fun g40 H40 k40 eg40 L40 => ?_)
      replace hW := (wfP_i (wfP_a hW g40) eg40)
      refine lv_aload_n hx hb dX5_answerCame_18 rfl (lv_at hl 0 rfl) ?_
      refine lv_iconst (v := 0) hx hb dX5_answerCame_19 (by decide) ?_
      refine c_cv (As := [.int (0 : Int32)]) (rest := []) x hml L40 5 i0 hal0 rfl (d_kanew l X g40 i0 (0 : Int32) hX (show i0 < 2 * Z.n from (by omega)) (rg_w kc_0 rfl) hW) (wk_V kd_X5_anew kl_X5_75 ki_X5_anew ks_X5_X5_anew kn_X5) rfl ⟨rfl, rfl⟩ hd_kanew ⟨Nat.le_of_ble_eq_true rfl, Nat.le_of_ble_eq_true rfl⟩ rfl hl.1 rfl (lv_room (Nat.le_of_ble_eq_true rfl)) dX5_answerCame_20 (fun  g41 H41 k41 hp41 L41 => ?_)
      obtain ⟨hW, hi41, hp41⟩ := hp41
      replace hW := wfP_i hW ⟨hi41, hp41⟩
      exact j23_36  g41 _ _ ls (mFr.tr (mFr.upE mFr.rf eg40 rfl) hp41.1 rfl) L41 (mFi.sub (mFi.up mFi.rf eg40 (mIn_at 0 rfl (Or.inr (Nat.div_one _)))) hi41 (mSub_eq 1 rfl (mSub_eq 2 rfl (mSub_eq 3 rfl (mSub_eq 4 rfl (mSub_eq 5 rfl (mSub_eq 6 rfl (mSub_eq 7 rfl (mSub_eq 9 rfl (mSub_eq 11 rfl (mSub_eq 12 rfl (mSub_eq 13 rfl (mSub_eq 14 rfl (mSub_eq 15 rfl (mSub_eq 16 rfl (mSub_eq 17 rfl (mSub_eq 18 rfl mSub_nil))))))))))))))))) hW (lv_sub hl [0] rfl)
theorem d_kanswerCame (l : Launch) {G : cG} {Z : cZ} (X : Int) (g : mSt) (i0 : Nat) (p1 : Int32) (p2 : Int32) (hX : 0 ≤ X ∧ X ≤ 2000000000) (hi0 : i0 < 2 * Z.n) {Φ : Int32 → mSt → Prop} (hW : wfP (wp_kanswerCame Z i0 p1 p2 g Φ)) : Met l yX5_answerCame (wk (Cond.code yX5_answerCame cX5_answerCame 4 none)) rm_kanswerCame (va_Pc [.ref (Z.ad 5 i0), .int p1, .int p2] (cPre G Z X g)) (cQv G Z X (fun g1 => wfP (Φ 0 g1) ∧ mFi (im_kanswerCame Z i0 p1 p2) g g1 ∧ (mFr [164, 165, 166, 167, 168, 169, 170, 171, 178, 179, 180, 421, 422, 1280, 1344] g g1 ∧ True))) 0 0 (cAd Z) := by
  refine Met.ofW (cc := cX5_answerCame) (maxL := 4) (ret := none) (by decide) rfl ?_
  intro p e s m args below meth c s₁ B hml hv
  obtain ⟨rfl, hv⟩ := hv
  have hr := B.returns
  have hlocks := B.notSynchronized
  obtain ⟨x, L⟩ := c_start B rfl (fun w h => wk_in h) hv
  have hl := lv_entry ([.ref (Z.ad 5 i0), .int p1, .int p2]) (n := 4) (Nat.le_of_ble_eq_true rfl)
  rw [lg_entry_eq]
  generalize (lg_sl ([.ref (Z.ad 5 i0), .int p1, .int p2]) ++ List.replicate (4 - (lg_sl ([.ref (Z.ad 5 i0), .int p1, .int p2])).length) Slot.unset).toArray = ls at hl ⊢
  exact v_kanswerCame x hml L hX i0 p1 p2 hi0 hW hl (fun pc' ls' g1 H1 locs1 hdg L hp => c_vret x L hr hlocks (Int.le_refl _) hp hdg)

def im_kdataCame (Z : cZ) (i0 : Nat) (q1 : Nat) (p2 : Int32) (p3 : Int32) : List (Nat × Nat × Nat) := [(67, (2 * (cOut Z.n i0)), 1), (108, (cOut Z.n i0), 1), (111, (cOut Z.n i0), 1), (171, i0, 1), (544, (2 * (cOut Z.n i0)), 8192), (576, (2 * (cOut Z.n i0)), 8192), (768, (cOut Z.n i0), 8192), (1248, (2 * i0 + 1), 8192), (1280, (2 * i0 + 1), 8192)]
def po_kdataCame (Z : cZ) (i0 : Nat) (q1 : Nat) (p2 : Int32) (p3 : Int32) (g : mSt) (r : Int32) (g1 : mSt) : Prop := mFi (im_kdataCame Z i0 q1 p2 p3) g g1 ∧ mFr [67, 108, 111, 171, 544, 576, 768, 1248, 1280] g g1 ∧ True
def wp_kdataCame (Z : cZ) (i0 : Nat) (q1 : Nat) (p2 : Int32) (p3 : Int32) (g : mSt) (Φ : Int32 → mSt → Prop) : Prop :=
  ∀ (v1 : Int32), v1 = g 170 i0 → rg (0) (2000000000) v1 → ∃ P2 : mSt → Prop, (∀ (g2 : mSt), mFr [] g g2 → mFi (im_kdataCame Z i0 q1 p2 p3) g g2 → P2 g2 → Φ 0 g2) ∧ ((p3.toInt < v1.toInt) → P2 g) ∧ ((v1.toInt ≤ p3.toInt) → ∀ (v7 : Int32), v7 = v1 + (8 : Int32) → rg (8) (16777223) v7 → v7.toInt = v1.toInt + 8 → ((p3.toInt < v7.toInt) → ∀ (v10 : Int32), v10 = g 171 i0 → rg (-2147483648) (2147483647) v10 → ∃ P11 : mSt → Prop, (∀ (g11 : mSt), mFr [67, 108, 111, 544, 576, 768] g g11 → mFi (im_kdataCame Z i0 q1 p2 p3) g g11 → P11 g11 → ∀ (v13 : Int32), v13 = p3 + (1 : Int32) → rg (1) (16777216) v13 → v13.toInt = p3.toInt + 1 → ∀ (v15 : Int32), rg (1) (2147483647) v15 → v10.toInt ≤ v15.toInt ∧ v13.toInt ≤ v15.toInt ∧ (v15.toInt = v10.toInt ∨ v15.toInt = v13.toInt) → ∀ (g16 : mSt), g16 = up2 g11 171 i0 v15 → ∀ (v18 : Int32), v18 = p3 - p3 / (8 : Int32) * (8 : Int32) → rg (0) (7) v18 → v18.toInt = p3.toInt % 8 → wp_kput_16 Z (2 * i0 + 1) v18 q1 (0 : Int32) p2 g16 (fun (_ : Int32) (g20 : mSt) => po_kput_16 Z (2 * i0 + 1) v18 q1 (0 : Int32) p2 g16 0 g20 → Φ 0 g20)) ∧ ((p3.toInt ≤ v10.toInt) → P11 g) ∧ ((v10.toInt < p3.toInt) → wp_kword Z (cOut Z.n i0) v10 g (fun (_ : Int32) (g27 : mSt) => po_kword Z (cOut Z.n i0) v10 g 0 g27 → wp_kword Z (cOut Z.n i0) p3 g27 (fun (_ : Int32) (g28 : mSt) => po_kword Z (cOut Z.n i0) p3 g27 0 g28 → wp_kword Z (cOut Z.n i0) v7 g28 (fun (_ : Int32) (g30 : mSt) => po_kword Z (cOut Z.n i0) v7 g28 0 g30 → wp_ksendUnit Z (cOut Z.n i0) (12 : Int32) v1 g30 (fun (_ : Int32) (g32 : mSt) => po_ksendUnit Z (cOut Z.n i0) (12 : Int32) v1 g30 0 g32 → P11 g32)))))) ∧ ((v7.toInt ≤ p3.toInt) → P2 g))
set_option maxHeartbeats 4000000 in
set_option maxRecDepth 100000 in
theorem v_kdataCame {p : Program} {l : Launch} {e : Env} {s : State} {m : MethodId} {args : Array Value} {below : List Frame} {meth : Method} {c : Code} {H : Heap} {locs : List Loc} {Q : State → Prop} {ls : Array Slot} {G : cG} {Z : cZ} {A : Nat → Prop} {g : mSt} {H0 : Heap} {X : Int} (x : cX p c cX5_dataCame s args (wk (Cond.code yX5_dataCame cX5_dataCame 4 none)) m G Z A RX5 H0) (hml : c.maxLocals = 4) (L : cL G Z A H0 X g H locs) (hX : 0 ≤ X ∧ X ≤ 2000000000) (i0 : Nat) (q1 : Nat) (p2 : Int32) (p3 : Int32) (hi0 : i0 < 2 * Z.n) (hq1 : Z.al 16 q1) (rp3 : rg (0) (16777215) p3) {Φ : Int32 → mSt → Prop} (hW : wfP (wp_kdataCame Z i0 q1 p2 p3 g Φ)) (hl : lv_has ls 4 [(0, .ref (Z.ad 5 i0)), (1, .ref (Z.ad 16 q1)), (2, .int p2), (3, .int p3)]) (hQ : ∀ (pc' : Nat) (ls' : Array Slot) (g1 : mSt) (H1 : Heap) (locs1 : List Loc), decode cX5_dataCame pc' = .ok (.return_, 1) → cL G Z A H0 X g1 H1 locs1 → (wfP (Φ 0 g1) ∧ mFi (im_kdataCame Z i0 q1 p2 p3) g g1 ∧ (mFr [67, 108, 111, 171, 544, 576, 768, 1248, 1280] g g1 ∧ True)) → W p l e rm_kdataCame s m args below meth c H1 locs1 0 0 Q (F0 m pc' ls' [])) : W p l e rm_kdataCame s m args below meth c H locs 0 0 Q (F0 m 0 ls []) := by
  have hx := x.1
  have hb := x.2.1
  have hz := x.2.2.2.2.2.2.2.1
  have hzn := hz.1
  have hal0 : Z.al 5 i0 := hz.2 5 i0 (show i0 < 2 * Z.n from hi0)
  have up2 : (-2147483648 : Int) ≤ p2.toInt ∧ p2.toInt ≤ 2147483647 := (rg_any p2)
  have up3 : (0 : Int) ≤ p3.toInt ∧ p3.toInt ≤ 16777215 := rp3
  refine lv_iload_n hx hb dX5_dataCame_0 rfl (lv_at hl 3 rfl) ?_
  refine lv_aload_n hx hb dX5_dataCame_1 rfl (lv_at hl 0 rfl) ?_
  refine c_geti x L 5 i0 10 170 hal0 rfl rfl (wk_in kf_X5_49) dX5_dataCame_2 (fun v1 ev1 wv1 => ?_)
  have rv1 : rg 0 2000000000 v1 := rg_X hX (clj_170 wv1)
  replace hW := (wfP_i (wfP_i (wfP_a hW v1) ev1) rv1)
  have uv1 : (0 : Int) ≤ v1.toInt ∧ v1.toInt ≤ 2000000000 := rv1
  have sv1 : v1.toInt = (g 170 i0).toInt := congrArg Int32.toInt (ev1.trans (congrFun ((show mFr [67, 108, 111, 171, 544, 576, 768, 1248, 1280] g g from mFr.rf).at 170 rfl) _))
  obtain ⟨P2, hP2, hW⟩ := wfP_ex hW
  have j19_2 : ∀ (g2 : mSt) (H2 : Heap) (k2 : List Loc) (ls : Array Slot), mFr [] g g2 → cL G Z A H0 X g2 H2 k2 → mFi (im_kdataCame Z i0 q1 p2 p3) g g2 → wfP (P2 g2) → lv_has ls 4 [(0, .ref (Z.ad 5 i0))] → W p l e rm_kdataCame s m args below meth c H2 k2 0 0 Q (F0 m 19 ls []) := by
    intro  g2 H2 k2 ls hF2 L2  hI2 hW hl
    replace hW := wfP_i (wfP_i (wfP_i (wfP_a hP2 g2) hF2) hI2) hW
    exact hQ _ _ _ _ _ dX5_dataCame_19 L2 ⟨hW, (mFi.tr mFi.rf hI2), (mFr.tr mFr.rf hF2 rfl), trivial⟩
  refine lv_icmp_lt (tgt := 19) hx hb dX5_dataCame_5 (by decide) (fun c5_3 => ?_) (fun c5_3 => ?_)
  · skip
    replace hW := wfP_i (wfP_l hW) (i_lt c5_3 rfl rfl)
    have ic5_3 := Int32.lt_iff_toInt_lt.mp c5_3
    have q4 : rg (1) (2000000000) v1 := (rg_lt c5_3 rp3 rv1).2
    have uq4 : (1 : Int) ≤ v1.toInt ∧ v1.toInt ≤ 2000000000 := q4
    exact j19_2  g _ _ ls mFr.rf L mFi.rf hW (lv_sub hl [0] rfl)
  · skip
    replace hW := wfP_i (wfP_r hW) (i_le (rg_nlt c5_3) rfl rfl)
    have ic5_3 := Int32.le_iff_toInt_le.mp (rg_nlt c5_3)
    have q5 : rg (0) (16777215) v1 := (rg_le (rg_nlt c5_3) rv1 rp3).1
    have uq5 : (0 : Int) ≤ v1.toInt ∧ v1.toInt ≤ 16777215 := q5
    refine lv_iload_n hx hb dX5_dataCame_8 rfl (lv_at hl 3 rfl) ?_
    refine lv_aload_n hx hb dX5_dataCame_9 rfl (lv_at hl 0 rfl) ?_
    refine c_geti x L 5 i0 10 170 hal0 rfl rfl (wk_in kf_X5_49) dX5_dataCame_10 (fun v6 ev6 wv6 => ?_)
    refine m_top ((ev1).trans ev6.symm) ?_
    refine lv_bipush (v := 8) hx hb dX5_dataCame_13 (by decide) ?_
    refine lv_iadd hx hb dX5_dataCame_15 ?_
    refine lv_topi (fun v7 ev7 => ?_)
    have rv7 : rg (8) (16777223) v7 := (rg_add ev7 q5 kc_8 rfl).1
    replace hW := (wfP_i (wfP_i (wfP_i (wfP_a hW v7) ev7) rv7) (w_iadd ((rg_add ev7 q5 kc_8 rfl).2) rfl (rg_i kc_8)))
    have tv7 := (rg_add ev7 q5 kc_8 rfl).2
    have y8 : (8 : Int32).toInt = 8 := by decide
    have uv7 : (8 : Int) ≤ v7.toInt ∧ v7.toInt ≤ 16777223 := rv7
    refine lv_icmp_lt (tgt := 20) hx hb dX5_dataCame_16 (by decide) (fun c16_9 => ?_) (fun c16_9 => ?_)
    · skip
      replace hW := wfP_i (wfP_l hW) (i_lt c16_9 rfl rfl)
      have ic16_9 := Int32.lt_iff_toInt_lt.mp c16_9
      refine lv_iload_n hx hb dX5_dataCame_20 rfl (lv_at hl 3 rfl) ?_
      refine lv_aload_n hx hb dX5_dataCame_21 rfl (lv_at hl 0 rfl) ?_
      refine c_geti x L 5 i0 11 171 hal0 rfl rfl (wk_in kf_X5_52) dX5_dataCame_22 (fun v10 ev10 wv10 => ?_)
      have rv10 : rg (-2147483648) (2147483647) v10 := rg_any v10
      replace hW := (wfP_i (wfP_i (wfP_a hW v10) ev10) rv10)
      have uv10 : (-2147483648 : Int) ≤ v10.toInt ∧ v10.toInt ≤ 2147483647 := rv10
      have sv10 := congrArg Int32.toInt ev10
      obtain ⟨P11, hP11, hW⟩ := wfP_ex hW
      have j74_11 : ∀ (g11 : mSt) (H11 : Heap) (k11 : List Loc) (ls : Array Slot), mFr [67, 108, 111, 544, 576, 768] g g11 → cL G Z A H0 X g11 H11 k11 → mFi (im_kdataCame Z i0 q1 p2 p3) g g11 → wfP (P11 g11) → lv_has ls 4 [(0, .ref (Z.ad 5 i0)), (1, .ref (Z.ad 16 q1)), (2, .int p2), (3, .int p3)] → W p l e rm_kdataCame s m args below meth c H11 k11 0 0 Q (F0 m 74 ls []) := by
        intro  g11 H11 k11 ls hF11 L11  hI11 hW hl
        replace hW := wfP_i (wfP_i (wfP_i (wfP_a hP11 g11) hF11) hI11) hW
        refine lv_aload_n hx hb dX5_dataCame_74 rfl (lv_at hl 0 rfl) ?_
        refine lv_aload_n hx hb dX5_dataCame_75 rfl (lv_at hl 0 rfl) ?_
        refine c_geti x L11 5 i0 11 171 hal0 rfl rfl (wk_in kf_X5_52) dX5_dataCame_76 (fun v12 ev12 wv12 => ?_)
        refine m_top (((mm_fr ev10 hF11 rfl)).trans ev12.symm) ?_
        refine lv_iload_n hx hb dX5_dataCame_79 rfl (lv_at hl 3 rfl) ?_
        refine lv_iconst (v := 1) hx hb dX5_dataCame_80 (by decide) ?_
        refine lv_iadd hx hb dX5_dataCame_81 ?_
        refine lv_topi (fun v13 ev13 => ?_)
        have rv13 : rg (1) (16777216) v13 := (rg_add ev13 rp3 kc_1 rfl).1
        replace hW := (wfP_i (wfP_i (wfP_i (wfP_a hW v13) ev13) rv13) (w_iadd ((rg_add ev13 rp3 kc_1 rfl).2) rfl (rg_i kc_1)))
        have tv13 := (rg_add ev13 rp3 kc_1 rfl).2
        have y14 : (1 : Int32).toInt = 1 := by decide
        have uv13 : (1 : Int) ≤ v13.toInt ∧ v13.toInt ≤ 16777216 := rv13
        refine va_mmax (rest := [.ref (Z.ad 5 i0)]) hx hb (hml.trans hl.1.symm) x.2.2.2.2.1 (x.2.2.1 _ (wk_in kl_X5_188)) (x.2.2.1 _ (wk_in kw_max.1)) (x.2.2.1 _ (wk_in kw_max.2.1)) (x.2.2.1 _ (wk_in kw_max.2.2)) (Nat.le_of_ble_eq_true rfl) (Nat.le_of_ble_eq_true rfl) (Nat.zero_le _) (Nat.zero_le _) dX5_dataCame_82 ?_
        refine lv_topi (fun v15 ev15 => ?_)
        have hmv15 := rg_max ev15 rv10 rv13
        have rv15 : rg (1) (2147483647) v15 := rg_w hmv15.1 rfl
        have tv15 := hmv15.2
        have uv15 : (1 : Int) ≤ v15.toInt ∧ v15.toInt ≤ 2147483647 := rv15
        replace hW := (wfP_i (wfP_i (wfP_a hW v15) rv15) (w_max hmv15.2 rfl rfl))
        refine c_puti x L11 5 i0 11 171 hal0 rfl rfl ⟨rfl, by decide +kernel⟩ (wk_in kf_X5_52) dX5_dataCame_85 (rg_any v15) (fun g16 H16 k16 eg16 L16 => ?_)
        replace hW := (wfP_i (wfP_a hW g16) eg16)
        refine lv_aload_n hx hb dX5_dataCame_88 rfl (lv_at hl 0 rfl) ?_
        have al17 : Z.al 13 (2 * i0 + 1) := hz.2 13 (2 * i0 + 1) (show (2 * i0 + 1) < 4 * Z.n from (by omega))
        refine c_getr (a := Z.ad 13 (2 * i0 + 1)) x L16 5 i0 3 hal0 rfl rfl (wk_in kf_X5_23) dX5_dataCame_89 ?_
        refine lv_iload_n hx hb dX5_dataCame_92 rfl (lv_at hl 3 rfl) ?_
        refine lv_bipush (v := 8) hx hb dX5_dataCame_93 (by decide) ?_
        refine lv_irem hx hb dX5_dataCame_95 (by decide) ?_
        refine lv_topi (fun v18 ev18 => ?_)
        have rv18 : rg (0) (7) v18 := (rg_rem ev18 rp3 kc_8 rfl).1
        replace hW := (wfP_i (wfP_i (wfP_i (wfP_a hW v18) ev18) rv18) ((rg_rem ev18 rp3 kc_8 rfl).2))
        have tv18 := (rg_rem ev18 rp3 kc_8 rfl).2
        have y19 : (8 : Int32).toInt = 8 := by decide
        have uv18 : (0 : Int) ≤ v18.toInt ∧ v18.toInt ≤ 7 := rv18
        refine lv_aload_n hx hb dX5_dataCame_96 rfl (lv_at hl 1 rfl) ?_
        refine lv_iconst (v := 0) hx hb dX5_dataCame_97 (by decide) ?_
        refine lv_iload_n hx hb dX5_dataCame_98 rfl (lv_at hl 2 rfl) ?_
        refine c_cv (As := [.int v18, .ref (Z.ad 16 q1), .int (0 : Int32), .int p2]) (rest := []) x hml L16 13 (2 * i0 + 1) al17 rfl (d_kput_16 l X g16 (2 * i0 + 1) v18 q1 (0 : Int32) p2 hX (show (2 * i0 + 1) < 4 * Z.n from (by omega)) hq1 (rg_w kc_0 rfl) hW) (wk_V kd_X6_put kl_X5_129 ki_X6_put ks_X6_X6_put kn_X6) rfl ⟨rfl, rfl⟩ hd_kput_16 ⟨Nat.le_of_ble_eq_true rfl, Nat.le_of_ble_eq_true rfl⟩ rfl hl.1 rfl (lv_room (Nat.le_of_ble_eq_true rfl)) dX5_dataCame_99 (fun  g20 H20 k20 hp20 L20 => ?_)
        obtain ⟨hW, hi20, hp20⟩ := hp20
        replace hW := wfP_i hW ⟨hi20, hp20⟩
        exact hQ _ _ _ _ _ dX5_dataCame_102 L20 ⟨hW, (mFi.sub (mFi.up (mFi.tr mFi.rf hI11) eg16 (mIn_at 3 rfl (Or.inr (Nat.div_one _)))) hi20 (mSub_eq 7 rfl (mSub_eq 8 rfl mSub_nil))), (mFr.tr (mFr.upE (mFr.tr mFr.rf hF11 rfl) eg16 rfl) hp20.1 rfl), trivial⟩
      refine lv_icmp_le (tgt := 74) hx hb dX5_dataCame_25 (by decide) (fun c25_21 => ?_) (fun c25_21 => ?_)
      · skip
        replace hW := wfP_i (wfP_l hW) (i_le c25_21 rfl rfl)
        have ic25_21 := Int32.le_iff_toInt_le.mp c25_21
        have q22 : rg (0) (2147483647) v10 := (rg_le c25_21 rp3 rv10).2
        have uq22 : (0 : Int) ≤ v10.toInt ∧ v10.toInt ≤ 2147483647 := q22
        exact j74_11  g _ _ ls mFr.rf L mFi.rf hW (lv_sub hl [0, 1, 2, 3] rfl)
      · skip
        replace hW := wfP_i (wfP_r hW) (i_lt (rg_nle c25_21) rfl rfl)
        have ic25_21 := Int32.lt_iff_toInt_lt.mp (rg_nle c25_21)
        have q23 : rg (-2147483648) (16777214) v10 := (rg_lt (rg_nle c25_21) rv10 rp3).1
        have uq23 : (-2147483648 : Int) ≤ v10.toInt ∧ v10.toInt ≤ 16777214 := q23
        refine lv_aload_n hx hb dX5_dataCame_28 rfl (lv_at hl 0 rfl) ?_
        have ho24 := cOut_lt (n := Z.n) (i := i0) (by omega)
        have al25 : Z.al 3 (cOut Z.n i0) := hz.2 3 (cOut Z.n i0) (show (cOut Z.n i0) < 2 * Z.n from (by omega))
        refine c_getr (a := Z.ad 3 (cOut Z.n i0)) x L 5 i0 0 hal0 rfl rfl (wk_in kf_X5_30) dX5_dataCame_29 ?_
        refine lv_aload_n hx hb dX5_dataCame_32 rfl (lv_at hl 0 rfl) ?_
        refine c_geti x L 5 i0 11 171 hal0 rfl rfl (wk_in kf_X5_52) dX5_dataCame_33 (fun v26 ev26 wv26 => ?_)
        refine m_top ((ev10).trans ev26.symm) ?_
        refine c_cv (As := [.int v10]) (rest := []) x hml L 3 (cOut Z.n i0) al25 rfl (d_kword l X g (cOut Z.n i0) v10 hX (show (cOut Z.n i0) < 2 * Z.n from (by omega)) hW) (wk_V kd_X3_word kl_X5_102 ki_X3_word ks_X3_X3_word kn_X3) rfl ⟨rfl, rfl⟩ hd_kword ⟨Nat.le_of_ble_eq_true rfl, Nat.le_of_ble_eq_true rfl⟩ rfl hl.1 rfl (lv_room (Nat.le_of_ble_eq_true rfl)) dX5_dataCame_36 (fun  g27 H27 k27 hp27 L27 => ?_)
        obtain ⟨hW, hi27, hp27⟩ := hp27
        replace hW := wfP_i hW ⟨hi27, hp27⟩
        refine lv_aload_n hx hb dX5_dataCame_39 rfl (lv_at hl 0 rfl) ?_
        refine c_getr (a := Z.ad 3 (cOut Z.n i0)) x L27 5 i0 0 hal0 rfl rfl (wk_in kf_X5_30) dX5_dataCame_40 ?_
        refine lv_iload_n hx hb dX5_dataCame_43 rfl (lv_at hl 3 rfl) ?_
        refine c_cv (As := [.int p3]) (rest := []) x hml L27 3 (cOut Z.n i0) al25 rfl (d_kword l X g27 (cOut Z.n i0) p3 hX (show (cOut Z.n i0) < 2 * Z.n from (by omega)) hW) (wk_V kd_X3_word kl_X5_102 ki_X3_word ks_X3_X3_word kn_X3) rfl ⟨rfl, rfl⟩ hd_kword ⟨Nat.le_of_ble_eq_true rfl, Nat.le_of_ble_eq_true rfl⟩ rfl hl.1 rfl (lv_room (Nat.le_of_ble_eq_true rfl)) dX5_dataCame_44 (fun  g28 H28 k28 hp28 L28 => ?_)
        obtain ⟨hW, hi28, hp28⟩ := hp28
        replace hW := wfP_i hW ⟨hi28, hp28⟩
        refine lv_aload_n hx hb dX5_dataCame_47 rfl (lv_at hl 0 rfl) ?_
        refine c_getr (a := Z.ad 3 (cOut Z.n i0)) x L28 5 i0 0 hal0 rfl rfl (wk_in kf_X5_30) dX5_dataCame_48 ?_
        refine lv_aload_n hx hb dX5_dataCame_51 rfl (lv_at hl 0 rfl) ?_
        refine c_geti x L28 5 i0 10 170 hal0 rfl rfl (wk_in kf_X5_49) dX5_dataCame_52 (fun v29 ev29 wv29 => ?_)
        refine m_top (((mm_fr (mm_fr ev1 hp27.1 rfl) hp28.1 rfl)).trans ev29.symm) ?_
        refine lv_bipush (v := 8) hx hb dX5_dataCame_55 (by decide) ?_
        refine lv_iadd hx hb dX5_dataCame_57 ?_
        refine m_top ev7 ?_
        refine c_cv (As := [.int v7]) (rest := []) x hml L28 3 (cOut Z.n i0) al25 rfl (d_kword l X g28 (cOut Z.n i0) v7 hX (show (cOut Z.n i0) < 2 * Z.n from (by omega)) hW) (wk_V kd_X3_word kl_X5_102 ki_X3_word ks_X3_X3_word kn_X3) rfl ⟨rfl, rfl⟩ hd_kword ⟨Nat.le_of_ble_eq_true rfl, Nat.le_of_ble_eq_true rfl⟩ rfl hl.1 rfl (lv_room (Nat.le_of_ble_eq_true rfl)) dX5_dataCame_58 (fun  g30 H30 k30 hp30 L30 => ?_)
        obtain ⟨hW, hi30, hp30⟩ := hp30
        replace hW := wfP_i hW ⟨hi30, hp30⟩
        refine lv_aload_n hx hb dX5_dataCame_61 rfl (lv_at hl 0 rfl) ?_
        refine c_getr (a := Z.ad 3 (cOut Z.n i0)) x L30 5 i0 0 hal0 rfl rfl (wk_in kf_X5_30) dX5_dataCame_62 ?_
        refine lv_bipush (v := 12) hx hb dX5_dataCame_65 (by decide) ?_
        refine lv_aload_n hx hb dX5_dataCame_67 rfl (lv_at hl 0 rfl) ?_
        refine c_geti x L30 5 i0 10 170 hal0 rfl rfl (wk_in kf_X5_49) dX5_dataCame_68 (fun v31 ev31 wv31 => ?_)
        refine m_top (((mm_fr (mm_fr (mm_fr ev1 hp27.1 rfl) hp28.1 rfl) hp30.1 rfl)).trans ev31.symm) ?_
        refine c_cv (As := [.int (12 : Int32), .int v1]) (rest := []) x hml L30 3 (cOut Z.n i0) al25 rfl (d_ksendUnit l X g30 (cOut Z.n i0) (12 : Int32) v1 hX (show (cOut Z.n i0) < 2 * Z.n from (by omega)) hW) (wk_V kd_X3_sendUnit kl_X5_96 ki_X3_sendUnit ks_X3_X3_sendUnit kn_X3) rfl ⟨rfl, rfl⟩ hd_ksendUnit ⟨Nat.le_of_ble_eq_true rfl, Nat.le_of_ble_eq_true rfl⟩ rfl hl.1 rfl (lv_room (Nat.le_of_ble_eq_true rfl)) dX5_dataCame_71 (fun  g32 H32 k32 hp32 L32 => ?_)
        obtain ⟨hW, hi32, hp32⟩ := hp32
        replace hW := wfP_i hW ⟨hi32, hp32⟩
        exact j74_11  g32 _ _ ls (mFr.tr (mFr.tr (mFr.tr (mFr.tr mFr.rf hp27.1 rfl) hp28.1 rfl) hp30.1 rfl) hp32.1 rfl) L32 (mFi.sub (mFi.sub (mFi.sub (mFi.sub mFi.rf hi27 (mSub_eq 2 rfl (mSub_eq 6 rfl mSub_nil))) hi28 (mSub_eq 2 rfl (mSub_eq 6 rfl mSub_nil))) hi30 (mSub_eq 2 rfl (mSub_eq 6 rfl mSub_nil))) hi32 (mSub_eq 0 rfl (mSub_eq 1 rfl (mSub_eq 2 rfl (mSub_eq 4 rfl (mSub_eq 5 rfl (mSub_eq 6 rfl mSub_nil))))))) hW (lv_sub hl [0, 1, 2, 3] rfl)
    · skip
      replace hW := wfP_i (wfP_r hW) (i_le (rg_nlt c16_9) rfl rfl)
      have ic16_9 := Int32.le_iff_toInt_le.mp (rg_nlt c16_9)
      have q33 : rg (8) (16777215) v7 := (rg_le (rg_nlt c16_9) rv7 rp3).1
      have uq33 : (8 : Int) ≤ v7.toInt ∧ v7.toInt ≤ 16777215 := q33
      have q34 : rg (8) (16777215) p3 := (rg_le (rg_nlt c16_9) rv7 rp3).2
      have uq34 : (8 : Int) ≤ p3.toInt ∧ p3.toInt ≤ 16777215 := q34
      exact j19_2  g _ _ ls mFr.rf L mFi.rf hW (lv_sub hl [0] rfl)
theorem d_kdataCame (l : Launch) {G : cG} {Z : cZ} (X : Int) (g : mSt) (i0 : Nat) (q1 : Nat) (p2 : Int32) (p3 : Int32) (hX : 0 ≤ X ∧ X ≤ 2000000000) (hi0 : i0 < 2 * Z.n) (hq1 : Z.al 16 q1) (rp3 : rg (0) (16777215) p3) {Φ : Int32 → mSt → Prop} (hW : wfP (wp_kdataCame Z i0 q1 p2 p3 g Φ)) : Met l yX5_dataCame (wk (Cond.code yX5_dataCame cX5_dataCame 4 none)) rm_kdataCame (va_Pc [.ref (Z.ad 5 i0), .ref (Z.ad 16 q1), .int p2, .int p3] (cPre G Z X g)) (cQv G Z X (fun g1 => wfP (Φ 0 g1) ∧ mFi (im_kdataCame Z i0 q1 p2 p3) g g1 ∧ (mFr [67, 108, 111, 171, 544, 576, 768, 1248, 1280] g g1 ∧ True))) 0 0 (cAd Z) := by
  refine Met.ofW (cc := cX5_dataCame) (maxL := 4) (ret := none) (by decide) rfl ?_
  intro p e s m args below meth c s₁ B hml hv
  obtain ⟨rfl, hv⟩ := hv
  have hr := B.returns
  have hlocks := B.notSynchronized
  obtain ⟨x, L⟩ := c_start B rfl (fun w h => wk_in h) hv
  have hl := lv_entry ([.ref (Z.ad 5 i0), .ref (Z.ad 16 q1), .int p2, .int p3]) (n := 4) (Nat.le_of_ble_eq_true rfl)
  rw [lg_entry_eq]
  generalize (lg_sl ([.ref (Z.ad 5 i0), .ref (Z.ad 16 q1), .int p2, .int p3]) ++ List.replicate (4 - (lg_sl ([.ref (Z.ad 5 i0), .ref (Z.ad 16 q1), .int p2, .int p3])).length) Slot.unset).toArray = ls at hl ⊢
  exact v_kdataCame x hml L hX i0 q1 p2 p3 hi0 hq1 rp3 hW hl (fun pc' ls' g1 H1 locs1 hdg L hp => c_vret x L hr hlocks (Int.le_refl _) hp hdg)

def im_ktakeNext (Z : cZ) (i0 : Nat) (q1 : Nat) : List (Nat × Nat × Nat) := [(170, i0, 1), (171, i0, 1), (1088, q1, 8192), (1280, (2 * i0 + 1), 8192), (1344, (2 * i0 + 1), 8192)]
def po_ktakeNext (Z : cZ) (i0 : Nat) (q1 : Nat) (g : mSt) (r : Int32) (g1 : mSt) : Prop := mFi (im_ktakeNext Z i0 q1) g g1 ∧ mFr [170, 171, 1088, 1280, 1344] g g1 ∧ rg (0) (60) r ∧ True
def wp_ktakeNext (Z : cZ) (i0 : Nat) (q1 : Nat) (g : mSt) (Φ : Int32 → mSt → Prop) : Prop :=
  ∀ (v1 : Int32), v1 = g 170 i0 → rg (0) (2000000000) v1 → ∀ (v2 : Int32), v2 = v1 - v1 / (8 : Int32) * (8 : Int32) → rg (0) (7) v2 → v2.toInt = v1.toInt % 8 → ∀ (v6 : Int32), v6 = g 1280 (8192 * (2 * i0 + 1) + v2.toNatClampNeg) → rg (0) (60) v6 → ((v6.toInt < 1) → Φ (0 : Int32) g) ∧ ((1 ≤ v6.toInt) → ((v6.toInt ≤ 60) → ∀ (v12 : Int32), v12 = v2 * (60 : Int32) → rg (0) (420) v12 → v12.toInt = v2.toInt * 60 → ∀ (g14 : mSt), g14 = cCpy g 1248 (8192 * (2 * i0 + 1) + v12.toNatClampNeg) 1088 (8192 * q1 + (0 : Int32).toNatClampNeg) v6.toNatClampNeg → wp_kclear Z (2 * i0 + 1) v2 g14 (fun (_ : Int32) (g15 : mSt) => po_kclear Z (2 * i0 + 1) v2 g14 0 g15 → ∀ (v17 : Int32), v17 = v1 + (1 : Int32) → rg (1) (2000000001) v17 → v17.toInt = v1.toInt + 1 → ∀ (g20 : mSt), g20 = up2 g15 170 i0 v17 → ∀ (v21 : Int32), v21 = g20 171 i0 → rg (-2147483648) (2147483647) v21 → ∀ (v23 : Int32), rg (1) (2147483647) v23 → v21.toInt ≤ v23.toInt ∧ v17.toInt ≤ v23.toInt ∧ (v23.toInt = v21.toInt ∨ v23.toInt = v17.toInt) → ∀ (g24 : mSt), g24 = up2 g20 171 i0 v23 → Φ v6 g24)) ∧ ((60 < v6.toInt) → True))
set_option maxHeartbeats 4000000 in
set_option maxRecDepth 100000 in
theorem v_ktakeNext {p : Program} {l : Launch} {e : Env} {s : State} {m : MethodId} {args : Array Value} {below : List Frame} {meth : Method} {c : Code} {H : Heap} {locs : List Loc} {Q : State → Prop} {ls : Array Slot} {G : cG} {Z : cZ} {A : Nat → Prop} {g : mSt} {H0 : Heap} {X : Int} (x : cX p c cX5_takeNext s args (wk (Cond.code yX5_takeNext cX5_takeNext 4 (some .int))) m G Z A RX5 H0) (hml : c.maxLocals = 4) (L : cL G Z A H0 X g H locs) (hX : 0 ≤ X ∧ (X + 1) ≤ 2000000000) (i0 : Nat) (q1 : Nat) (hi0 : i0 < 2 * Z.n) (hq1 : Z.al 34 q1) {Φ : Int32 → mSt → Prop} (hW : wfP (wp_ktakeNext Z i0 q1 g Φ)) (hl : lv_has ls 4 [(0, .ref (Z.ad 5 i0)), (1, .ref (Z.ad 34 q1))]) (hQ : ∀ (pc' : Nat) (ls' : Array Slot) (r : Int32) (g1 : mSt) (H1 : Heap) (locs1 : List Loc), decode cX5_takeNext pc' = .ok (.ireturn, 1) → cL G Z A H0 (X + 1) g1 H1 locs1 → (wfP (Φ r g1) ∧ mFi (im_ktakeNext Z i0 q1) g g1 ∧ (mFr [170, 171, 1088, 1280, 1344] g g1 ∧ rg (0) (60) r ∧ True)) → W p l e rm_ktakeNext s m args below meth c H1 locs1 0 0 Q (F0 m pc' ls' [.int r])) : W p l e rm_ktakeNext s m args below meth c H locs 0 0 Q (F0 m 0 ls []) := by
  have hx := x.1
  have hb := x.2.1
  have hz := x.2.2.2.2.2.2.2.1
  have hzn := hz.1
  have hal0 : Z.al 5 i0 := hz.2 5 i0 (show i0 < 2 * Z.n from hi0)
  refine lv_aload_n hx hb dX5_takeNext_0 rfl (lv_at hl 0 rfl) ?_
  refine c_geti x L 5 i0 10 170 hal0 rfl rfl (wk_in kf_X5_49) dX5_takeNext_1 (fun v1 ev1 wv1 => ?_)
  have rv1 : rg 0 2000000000 v1 := rg_X ⟨by omega, by omega⟩ (clj_170 wv1)
  replace hW := (wfP_i (wfP_i (wfP_a hW v1) ev1) rv1)
  have uv1 : (0 : Int) ≤ v1.toInt ∧ v1.toInt ≤ 2000000000 := rv1
  have sv1 := congrArg Int32.toInt ev1
  refine lv_bipush (v := 8) hx hb dX5_takeNext_4 (by decide) ?_
  refine lv_irem hx hb dX5_takeNext_6 (by decide) ?_
  refine lv_topi (fun v2 ev2 => ?_)
  have rv2 : rg (0) (7) v2 := (rg_rem ev2 rv1 kc_8 rfl).1
  replace hW := (wfP_i (wfP_i (wfP_i (wfP_a hW v2) ev2) rv2) ((rg_rem ev2 rv1 kc_8 rfl).2))
  have tv2 := (rg_rem ev2 rv1 kc_8 rfl).2
  have y3 : (8 : Int32).toInt = 8 := by decide
  have uv2 : (0 : Int) ≤ v2.toInt ∧ v2.toInt ≤ 7 := rv2
  refine lv_istore_n (lv' := [(2, .int v2), (0, .ref (Z.ad 5 i0)), (1, .ref (Z.ad 34 q1))]) hx hb dX5_takeNext_7 rfl hl (by decide) rfl (fun ls hl => ?_)
  refine lv_aload_n hx hb dX5_takeNext_8 rfl (lv_at hl 1 rfl) ?_
  have al4 : Z.al 13 (2 * i0 + 1) := hz.2 13 (2 * i0 + 1) (show (2 * i0 + 1) < 4 * Z.n from (by omega))
  refine c_getr (a := Z.ad 13 (2 * i0 + 1)) x L 5 i0 3 hal0 rfl rfl (wk_in kf_X5_23) dX5_takeNext_9 ?_
  have al5 : Z.al 40 (2 * i0 + 1) := hz.2 40 (2 * i0 + 1) (show (2 * i0 + 1) < 4 * Z.n from (by omega))
  refine c_getr (a := Z.ad 40 (2 * i0 + 1)) x L 13 (2 * i0 + 1) 2 al4 rfl rfl (wk_in kf_X5_65) dX5_takeNext_12 ?_
  refine lv_iload_n hx hb dX5_takeNext_15 rfl (lv_at hl 0 rfl) ?_
  refine c_ld x L 40 (2 * i0 + 1) 1280 al5 rfl rfl rv2 rfl dX5_takeNext_16 (fun v6 ev6 wv6 => ?_)
  have rv6 : rg (0) (60) v6 := clj_1280 wv6
  replace hW := (wfP_i (wfP_i (wfP_a hW v6) ev6) rv6)
  have uv6 : (0 : Int) ≤ v6.toInt ∧ v6.toInt ≤ 60 := rv6
  have sv6 := congrArg Int32.toInt ev6
  refine lv_istore_n (lv' := [(3, .int v6), (2, .int v2), (0, .ref (Z.ad 5 i0)), (1, .ref (Z.ad 34 q1))]) hx hb dX5_takeNext_17 rfl hl (by decide) rfl (fun ls hl => ?_)
  refine lv_iload_n hx hb dX5_takeNext_18 rfl (lv_at hl 0 rfl) ?_
  refine lv_iconst (v := 1) hx hb dX5_takeNext_19 (by decide) ?_
  refine lv_icmp_lt (tgt := 29) hx hb dX5_takeNext_20 (by decide) (fun c20_7 => ?_) (fun c20_7 => ?_)
  · skip
    replace hW := wfP_i (wfP_l hW) (i_lt c20_7 rfl (rg_i kc_1))
    have ic20_7 := Int32.lt_iff_toInt_lt.mp c20_7
    have q8 : rg (0) (0) v6 := (rg_lt c20_7 rv6 kc_1).1
    have uq8 : (0 : Int) ≤ v6.toInt ∧ v6.toInt ≤ 0 := q8
    refine lv_iconst (v := 0) hx hb dX5_takeNext_29 (by decide) ?_
    exact hQ _ _ (0 : Int32) _ _ _ dX5_takeNext_30 (cL.mono L (by omega)) ⟨hW, mFi.rf, mFr.rf, rg_w kc_0 rfl, trivial⟩
  · skip
    replace hW := wfP_i (wfP_r hW) (i_le (rg_nlt c20_7) (rg_i kc_1) rfl)
    have ic20_7 := Int32.le_iff_toInt_le.mp (rg_nlt c20_7)
    have q9 : rg (1) (60) v6 := (rg_le (rg_nlt c20_7) kc_1 rv6).2
    have uq9 : (1 : Int) ≤ v6.toInt ∧ v6.toInt ≤ 60 := q9
    refine lv_iload_n hx hb dX5_takeNext_23 rfl (lv_at hl 0 rfl) ?_
    refine lv_aload_n hx hb dX5_takeNext_24 rfl (lv_at hl 3 rfl) ?_
    refine c_len (n := 60) x L 34 q1 hq1 rfl (by decide) dX5_takeNext_25 ?_
    refine lv_icmp_le (tgt := 31) hx hb dX5_takeNext_26 (by decide) (fun c26_10 => ?_) (fun c26_10 => ?_)
    · skip
      replace hW := wfP_i (wfP_l hW) (i_le c26_10 rfl (rg_i kc_60))
      have ic26_10 := Int32.le_iff_toInt_le.mp c26_10
      refine lv_aload_n hx hb dX5_takeNext_31 rfl (lv_at hl 2 rfl) ?_
      refine c_getr (a := Z.ad 13 (2 * i0 + 1)) x L 5 i0 3 hal0 rfl rfl (wk_in kf_X5_23) dX5_takeNext_32 ?_
      have al11 : Z.al 39 (2 * i0 + 1) := hz.2 39 (2 * i0 + 1) (show (2 * i0 + 1) < 4 * Z.n from (by omega))
      refine c_getr (a := Z.ad 39 (2 * i0 + 1)) x L 13 (2 * i0 + 1) 1 al4 rfl rfl (wk_in kf_X5_126) dX5_takeNext_35 ?_
      refine lv_iload_n hx hb dX5_takeNext_38 rfl (lv_at hl 1 rfl) ?_
      refine lv_bipush (v := 60) hx hb dX5_takeNext_39 (by decide) ?_
      refine lv_imul hx hb dX5_takeNext_41 ?_
      refine lv_topi (fun v12 ev12 => ?_)
      have rv12 : rg (0) (420) v12 := (rg_mul ev12 rv2 kc_60 rfl).1
      replace hW := (wfP_i (wfP_i (wfP_i (wfP_a hW v12) ev12) rv12) ((rg_mul ev12 rv2 kc_60 rfl).2))
      have tv12 := (rg_mul ev12 rv2 kc_60 rfl).2
      have y13 : (60 : Int32).toInt = 60 := by decide
      have uv12 : (0 : Int) ≤ v12.toInt ∧ v12.toInt ≤ 420 := rv12
      refine lv_aload_n hx hb dX5_takeNext_42 rfl (lv_at hl 3 rfl) ?_
      refine lv_iconst (v := 0) hx hb dX5_takeNext_43 (by decide) ?_
      refine lv_iload_n hx hb dX5_takeNext_44 rfl (lv_at hl 0 rfl) ?_
      refine c_copy (rest := []) x (hml.trans hl.1.symm) L 39 (2 * i0 + 1) 34 q1 1248 1088 al11 hq1 rfl rfl rfl rfl ⟨rfl, rfl⟩ kl_X5_193 kw_cp (Int.le_trans (by decide) rv12.1) (Int.le_trans (by decide) kc_0.1) (Int.le_trans (by decide) q9.1) (Int.le_trans (Int.add_le_add rv12.2 q9.2) (by decide)) (Int.le_trans (Int.add_le_add kc_0.2 q9.2) (by decide)) (Nat.le_of_ble_eq_true rfl) (Nat.le_of_ble_eq_true rfl) dX5_takeNext_45 (fun g14 H14 k14 ec14 L14 => ?_)
      replace hW := (wfP_i (wfP_a hW g14) ec14)
      refine lv_aload_n hx hb dX5_takeNext_48 rfl (lv_at hl 2 rfl) ?_
      refine c_getr (a := Z.ad 13 (2 * i0 + 1)) x L14 5 i0 3 hal0 rfl rfl (wk_in kf_X5_23) dX5_takeNext_49 ?_
      refine lv_iload_n hx hb dX5_takeNext_52 rfl (lv_at hl 1 rfl) ?_
      refine c_cv (As := [.int v2]) (rest := []) x hml L14 13 (2 * i0 + 1) al4 rfl (d_kclear l X g14 (2 * i0 + 1) v2 ⟨by omega, by omega⟩ (show (2 * i0 + 1) < 4 * Z.n from (by omega)) hW) (wk_V kd_X6_clear kl_X5_199 ki_X6_clear ks_X6_X6_clear kn_X6) rfl ⟨rfl, rfl⟩ hd_kclear ⟨Nat.le_of_ble_eq_true rfl, Nat.le_of_ble_eq_true rfl⟩ rfl hl.1 rfl (lv_room (Nat.le_of_ble_eq_true rfl)) dX5_takeNext_53 (fun  g15 H15 k15 hp15 L15 => ?_)
      obtain ⟨hW, hi15, hp15⟩ := hp15
      replace hW := wfP_i hW ⟨hi15, hp15⟩
      refine lv_aload_n hx hb dX5_takeNext_56 rfl (lv_at hl 2 rfl) ?_
      refine lv_dup hx hb dX5_takeNext_57 rfl ?_
      refine c_geti x L15 5 i0 10 170 hal0 rfl rfl (wk_in kf_X5_49) dX5_takeNext_58 (fun v16 ev16 wv16 => ?_)
      refine m_top (((mm_fr (mm_fr ev1 (cCpy_fr ec14) rfl) hp15.1 rfl)).trans ev16.symm) ?_
      refine lv_iconst (v := 1) hx hb dX5_takeNext_61 (by decide) ?_
      refine lv_iadd hx hb dX5_takeNext_62 ?_
      refine lv_topi (fun v17 ev17 => ?_)
      have rv17 : rg (1) (2000000001) v17 := (rg_add ev17 rv1 kc_1 rfl).1
      replace hW := (wfP_i (wfP_i (wfP_i (wfP_a hW v17) ev17) rv17) (w_iadd ((rg_add ev17 rv1 kc_1 rfl).2) rfl (rg_i kc_1)))
      have tv17 := (rg_add ev17 rv1 kc_1 rfl).2
      have y18 : (1 : Int32).toInt = 1 := by decide
      have uv17 : (1 : Int) ≤ v17.toInt ∧ v17.toInt ≤ 2000000001 := rv17
      have L19 := cL.mono L15 (show X ≤ X + 1 by omega)
      refine c_puti x L19 5 i0 10 170 hal0 rfl rfl ⟨rfl, by decide +kernel⟩ (wk_in kf_X5_49) dX5_takeNext_63 (crj_170 (rg_inc ev17 (clj_170 wv1) (by omega) (by omega))) (fun g20 H20 k20 eg20 L20 => ?_)
      replace hW := (wfP_i (wfP_a hW g20) eg20)
      refine lv_aload_n hx hb dX5_takeNext_66 rfl (lv_at hl 2 rfl) ?_
      refine lv_aload_n hx hb dX5_takeNext_67 rfl (lv_at hl 2 rfl) ?_
      refine c_geti x L20 5 i0 11 171 hal0 rfl rfl (wk_in kf_X5_52) dX5_takeNext_68 (fun v21 ev21 wv21 => ?_)
      have rv21 : rg (-2147483648) (2147483647) v21 := rg_any v21
      replace hW := (wfP_i (wfP_i (wfP_a hW v21) ev21) rv21)
      have uv21 : (-2147483648 : Int) ≤ v21.toInt ∧ v21.toInt ≤ 2147483647 := rv21
      refine lv_aload_n hx hb dX5_takeNext_71 rfl (lv_at hl 2 rfl) ?_
      refine c_geti x L20 5 i0 10 170 hal0 rfl rfl (wk_in kf_X5_49) dX5_takeNext_72 (fun v22 ev22 wv22 => ?_)
      refine m_top (((mm_st eg20)).trans ev22.symm) ?_
      refine va_mmax (rest := [.ref (Z.ad 5 i0)]) hx hb (hml.trans hl.1.symm) x.2.2.2.2.1 (x.2.2.1 _ (wk_in kl_X5_188)) (x.2.2.1 _ (wk_in kw_max.1)) (x.2.2.1 _ (wk_in kw_max.2.1)) (x.2.2.1 _ (wk_in kw_max.2.2)) (Nat.le_of_ble_eq_true rfl) (Nat.le_of_ble_eq_true rfl) (Nat.zero_le _) (Nat.zero_le _) dX5_takeNext_75 ?_
      refine lv_topi (fun v23 ev23 => ?_)
      have hmv23 := rg_max ev23 rv21 rv17
      have rv23 : rg (1) (2147483647) v23 := rg_w hmv23.1 rfl
      have tv23 := hmv23.2
      have uv23 : (1 : Int) ≤ v23.toInt ∧ v23.toInt ≤ 2147483647 := rv23
      replace hW := (wfP_i (wfP_i (wfP_a hW v23) rv23) (w_max hmv23.2 rfl rfl))
      refine c_puti x L20 5 i0 11 171 hal0 rfl rfl ⟨rfl, by decide +kernel⟩ (wk_in kf_X5_52) dX5_takeNext_78 (rg_any v23) (fun g24 H24 k24 eg24 L24 => ?_)
      replace hW := (wfP_i (wfP_a hW g24) eg24)
      refine lv_iload_n hx hb dX5_takeNext_81 rfl (lv_at hl 0 rfl) ?_
      exact hQ _ _ v6 _ _ _ dX5_takeNext_82 L24 ⟨hW, (mFi.up (mFi.up (mFi.sub (mFi.cpy (L := 60) mFi.rf ec14 2 rfl (Int.le_trans (by decide) kc_0.1) (Int.le_trans (Int.add_le_add kc_0.2 q9.2) (by decide)) (Int.le_trans (by decide) q9.1) (by decide)) hi15 (mSub_eq 3 rfl (mSub_eq 4 rfl mSub_nil))) eg20 (mIn_at 0 rfl (Or.inr (Nat.div_one _)))) eg24 (mIn_at 1 rfl (Or.inr (Nat.div_one _)))), (mFr.upE (mFr.upE (mFr.tr (mFr.tr mFr.rf (cCpy_fr ec14) rfl) hp15.1 rfl) eg20 rfl) eg24 rfl), rg_w q9 rfl, trivial⟩
    · skip
      replace hW := wfP_i (wfP_r hW) (i_lt (rg_nle c26_10) (rg_i kc_60) rfl)
      have ic26_10 := Int32.lt_iff_toInt_lt.mp (rg_nle c26_10)
      exact absurd ((rg_lt (rg_nle c26_10) kc_60 q9).1 : rg (60) (59) (60 : Int32)) (fun q => rg_dead q rfl)
theorem d_ktakeNext (l : Launch) {G : cG} {Z : cZ} (X : Int) (g : mSt) (i0 : Nat) (q1 : Nat) (hX : 0 ≤ X ∧ (X + 1) ≤ 2000000000) (hi0 : i0 < 2 * Z.n) (hq1 : Z.al 34 q1) {Φ : Int32 → mSt → Prop} (hW : wfP (wp_ktakeNext Z i0 q1 g Φ)) : Met l yX5_takeNext (wk (Cond.code yX5_takeNext cX5_takeNext 4 (some .int))) rm_ktakeNext (va_Pc [.ref (Z.ad 5 i0), .ref (Z.ad 34 q1)] (cPre G Z X g)) (cQi G Z (X + 1) (fun r g1 => wfP (Φ r g1) ∧ mFi (im_ktakeNext Z i0 q1) g g1 ∧ (mFr [170, 171, 1088, 1280, 1344] g g1 ∧ rg (0) (60) r ∧ True))) 0 0 (cAd Z) := by
  refine Met.ofW (cc := cX5_takeNext) (maxL := 4) (ret := (some .int)) (by decide) rfl ?_
  intro p e s m args below meth c s₁ B hml hv
  obtain ⟨rfl, hv⟩ := hv
  have hr := B.returns
  have hlocks := B.notSynchronized
  obtain ⟨x, L⟩ := c_start B rfl (fun w h => wk_in h) hv
  have hl := lv_entry ([.ref (Z.ad 5 i0), .ref (Z.ad 34 q1)]) (n := 4) (Nat.le_of_ble_eq_true rfl)
  rw [lg_entry_eq]
  generalize (lg_sl ([.ref (Z.ad 5 i0), .ref (Z.ad 34 q1)]) ++ List.replicate (4 - (lg_sl ([.ref (Z.ad 5 i0), .ref (Z.ad 34 q1)])).length) Slot.unset).toArray = ls at hl ⊢
  exact v_ktakeNext x hml L hX i0 q1 hi0 hq1 hW hl (fun pc' ls' r g1 H1 locs1 hdg L hp => c_iret x L hr hlocks (Int.le_refl _) hp hdg)

def im_ktellList (Z : cZ) (i0 : Nat) : List (Nat × Nat × Nat) := [(111, (cOut Z.n i0), 1), (768, (cOut Z.n i0), 8192)]
def po_ktellList (Z : cZ) (i0 : Nat) (g : mSt) (r : Int32) (g1 : mSt) : Prop := mFi (im_ktellList Z i0) g g1 ∧ mFr [111, 768] g g1 ∧ True
def wp_ktellList (Z : cZ) (i0 : Nat) (g : mSt) (Φ : Int32 → mSt → Prop) : Prop :=
  ∀ (v3 : Int32), v3 = g 170 i0 → rg (0) (2000000000) v3 → wp_kword Z (cOut Z.n i0) v3 g (fun (_ : Int32) (g4 : mSt) => po_kword Z (cOut Z.n i0) v3 g 0 g4 → ∀ (v6 : Int32), v6 = v3 + (1 : Int32) → rg (1) (2000000001) v6 → v6.toInt = v3.toInt + 1 → ∃ P10 : Int32 → Int32 → Int32 → mSt → Prop, (∀ (a22_1_7 a22_2_8 a22_3_9 : Int32) (g10 : mSt), mFr [111, 768] g4 g10 → mFi (im_ktellList Z i0) g4 g10 → rg (1) (12) a22_1_7 → rg (0) (1) a22_2_8 → rg (1) (2147483647) a22_3_9 → P10 a22_1_7 a22_2_8 a22_3_9 g10 → ∀ (v11 : Int32), v11 = g10 171 i0 → rg (-2147483648) (2147483647) v11 → ∃ P12 : mSt → Prop, (∀ (g12 : mSt), mFr [] g10 g12 → mFi (im_ktellList Z i0) g10 g12 → P12 g12 → ∃ P13 : mSt → Prop, (∀ (g13 : mSt), mFr [111, 768] g12 g13 → mFi (im_ktellList Z i0) g12 g13 → P13 g13 → Φ 0 g13) ∧ ((12 ≤ a22_1_7.toInt) → P13 g12) ∧ ((a22_1_7.toInt < 12) → wp_kword Z (cOut Z.n i0) v11 g12 (fun (_ : Int32) (g18 : mSt) => po_kword Z (cOut Z.n i0) v11 g12 0 g18 → P13 g18))) ∧ ((v11.toInt ≤ a22_3_9.toInt) → P12 g10) ∧ ((a22_3_9.toInt < v11.toInt) → ((12 ≤ a22_1_7.toInt) → P12 g10) ∧ ((a22_1_7.toInt < 12) → ∀ (v27 : Int32), v27 = a22_3_9 - a22_3_9 / (8 : Int32) * (8 : Int32) → rg (0) (7) v27 → v27.toInt = a22_3_9.toInt % 8 → ∀ (v28 : Int32), v28 = g10 1280 (8192 * (2 * i0 + 1) + v27.toNatClampNeg) → rg (0) (60) v28 → ∃ P30 : Int32 → mSt → Prop, (∀ (b56_0_29 : Int32) (g30 : mSt), mFr [] g10 g30 → mFi (im_ktellList Z i0) g10 g30 → rg (0) (1) b56_0_29 → P30 b56_0_29 g30 → ∃ P33 : Int32 → Int32 → mSt → Prop, (∀ (a78_1_31 a78_2_32 : Int32) (g33 : mSt), mFr [111, 768] g30 g33 → mFi (im_ktellList Z i0) g30 g33 → rg (1) (12) a78_1_31 → rg (0) (1) a78_2_32 → P33 a78_1_31 a78_2_32 g33 → ∀ (v34 : Int32), v34 = a22_3_9 + (1 : Int32) → rg (2) (2147483647) v34 → v34.toInt = a22_3_9.toInt + 1 → P10 a78_1_31 a78_2_32 v34 g33) ∧ ((b56_0_29.toInt = a22_2_8.toInt) → P33 a22_1_7 a22_2_8 g30) ∧ ((b56_0_29.toInt ≠ a22_2_8.toInt) → wp_kword Z (cOut Z.n i0) a22_3_9 g30 (fun (_ : Int32) (g36 : mSt) => po_kword Z (cOut Z.n i0) a22_3_9 g30 0 g36 → ∀ (v37 : Int32), v37 = a22_1_7 + (1 : Int32) → rg (2) (12) v37 → v37.toInt = a22_1_7.toInt + 1 → P33 v37 b56_0_29 g36))) ∧ ((v28.toInt ≤ 0) → P30 (0 : Int32) g10) ∧ ((0 < v28.toInt) → P30 (1 : Int32) g10)))) ∧ P10 (1 : Int32) (0 : Int32) v6 g4)
set_option maxHeartbeats 4000000 in
set_option maxRecDepth 100000 in
theorem v_ktellList {p : Program} {l : Launch} {e : Env} {s : State} {m : MethodId} {args : Array Value} {below : List Frame} {meth : Method} {c : Code} {H : Heap} {locs : List Loc} {Q : State → Prop} {ls : Array Slot} {G : cG} {Z : cZ} {A : Nat → Prop} {g : mSt} {H0 : Heap} {X : Int} (x : cX p c cX5_tellList s args (wk (Cond.code yX5_tellList cX5_tellList 5 none)) m G Z A RX5 H0) (hml : c.maxLocals = 5) (L : cL G Z A H0 X g H locs) (hX : 0 ≤ X ∧ X ≤ 2000000000) (i0 : Nat) (hi0 : i0 < 2 * Z.n) {Φ : Int32 → mSt → Prop} (hW : wfP (wp_ktellList Z i0 g Φ)) (hl : lv_has ls 5 [(0, .ref (Z.ad 5 i0))]) (hQ : ∀ (pc' : Nat) (ls' : Array Slot) (g1 : mSt) (H1 : Heap) (locs1 : List Loc), decode cX5_tellList pc' = .ok (.return_, 1) → cL G Z A H0 X g1 H1 locs1 → (wfP (Φ 0 g1) ∧ mFi (im_ktellList Z i0) g g1 ∧ (mFr [111, 768] g g1 ∧ True)) → W p l e rm_ktellList s m args below meth c H1 locs1 0 0 Q (F0 m pc' ls' [])) : W p l e rm_ktellList s m args below meth c H locs 0 0 Q (F0 m 0 ls []) := by
  have hx := x.1
  have hb := x.2.1
  have hz := x.2.2.2.2.2.2.2.1
  have hzn := hz.1
  have hal0 : Z.al 5 i0 := hz.2 5 i0 (show i0 < 2 * Z.n from hi0)
  refine lv_aload_n hx hb dX5_tellList_0 rfl (lv_at hl 0 rfl) ?_
  have ho1 := cOut_lt (n := Z.n) (i := i0) (by omega)
  have al2 : Z.al 3 (cOut Z.n i0) := hz.2 3 (cOut Z.n i0) (show (cOut Z.n i0) < 2 * Z.n from (by omega))
  refine c_getr (a := Z.ad 3 (cOut Z.n i0)) x L 5 i0 0 hal0 rfl rfl (wk_in kf_X5_30) dX5_tellList_1 ?_
  refine lv_aload_n hx hb dX5_tellList_4 rfl (lv_at hl 0 rfl) ?_
  refine c_geti x L 5 i0 10 170 hal0 rfl rfl (wk_in kf_X5_49) dX5_tellList_5 (fun v3 ev3 wv3 => ?_)
  have rv3 : rg 0 2000000000 v3 := rg_X hX (clj_170 wv3)
  replace hW := (wfP_i (wfP_i (wfP_a hW v3) ev3) rv3)
  refine c_cv (As := [.int v3]) (rest := []) x hml L 3 (cOut Z.n i0) al2 rfl (d_kword l X g (cOut Z.n i0) v3 hX (show (cOut Z.n i0) < 2 * Z.n from (by omega)) hW) (wk_V kd_X3_word kl_X5_102 ki_X3_word ks_X3_X3_word kn_X3) rfl ⟨rfl, rfl⟩ hd_kword ⟨Nat.le_of_ble_eq_true rfl, Nat.le_of_ble_eq_true rfl⟩ rfl hl.1 rfl (lv_room (Nat.le_of_ble_eq_true rfl)) dX5_tellList_8 (fun  g4 H4 k4 hp4 L4 => ?_)
  obtain ⟨hW, hi4, hp4⟩ := hp4
  replace hW := wfP_i hW ⟨hi4, hp4⟩
  refine lv_iconst (v := 1) hx hb dX5_tellList_11 (by decide) ?_
  refine lv_istore_n (lv' := [(1, .int (1 : Int32)), (0, .ref (Z.ad 5 i0))]) hx hb dX5_tellList_12 rfl hl (by decide) rfl (fun ls hl => ?_)
  refine lv_iconst (v := 0) hx hb dX5_tellList_13 (by decide) ?_
  refine lv_istore_n (lv' := [(2, .int (0 : Int32)), (1, .int (1 : Int32)), (0, .ref (Z.ad 5 i0))]) hx hb dX5_tellList_14 rfl hl (by decide) rfl (fun ls hl => ?_)
  refine lv_aload_n hx hb dX5_tellList_15 rfl (lv_at hl 2 rfl) ?_
  refine c_geti x L4 5 i0 10 170 hal0 rfl rfl (wk_in kf_X5_49) dX5_tellList_16 (fun v5 ev5 wv5 => ?_)
  refine m_top (((mm_fr ev3 hp4.1 rfl)).trans ev5.symm) ?_
  refine lv_iconst (v := 1) hx hb dX5_tellList_19 (by decide) ?_
  refine lv_iadd hx hb dX5_tellList_20 ?_
  refine lv_topi (fun v6 ev6 => ?_)
  have rv6 : rg (1) (2000000001) v6 := (rg_add ev6 rv3 kc_1 rfl).1
  replace hW := (wfP_i (wfP_i (wfP_i (wfP_a hW v6) ev6) rv6) (w_iadd ((rg_add ev6 rv3 kc_1 rfl).2) rfl (rg_i kc_1)))
  refine lv_istore_n (lv' := [(3, .int v6), (2, .int (0 : Int32)), (1, .int (1 : Int32)), (0, .ref (Z.ad 5 i0))]) hx hb dX5_tellList_21 rfl hl (by decide) rfl (fun ls hl => ?_)
  obtain ⟨P10, hP10, hW⟩ := wfP_ex hW
  have j22_10 : ∀ (n : Nat) (a22_1_7 a22_2_8 a22_3_9 : Int32) (g10 : mSt) (H10 : Heap) (k10 : List Loc) (ls : Array Slot), mFr [111, 768] g4 g10 → cL G Z A H0 X g10 H10 k10 → rg (1) (12) a22_1_7 → rg (0) (1) a22_2_8 → rg (1) (2147483647) a22_3_9 → mFi (im_ktellList Z i0) g4 g10 → wfP (P10 a22_1_7 a22_2_8 a22_3_9 g10) → lv_has ls 5 [(0, .ref (Z.ad 5 i0)), (1, .int a22_1_7), (2, .int a22_2_8), (3, .int a22_3_9)] → ((2147483647 : Int) - a22_3_9.toInt).toNat = n → W p l e rm_ktellList s m args below meth c H10 k10 0 0 Q (F0 m 22 ls []) := by
    intro n
    induction n using Nat.strongRecOn with
    | _ n ih10 =>
      intro a22_1_7 a22_2_8 a22_3_9 g10 H10 k10 ls hF10 L10 ra22_1_7 ra22_2_8 ra22_3_9 hI10 hW hl hn10
      subst hn10
      replace hW := wfP_i (wfP_i (wfP_i (wfP_i (wfP_i (wfP_i (wfP_a (wfP_a (wfP_a (wfP_a hP10 a22_1_7) a22_2_8) a22_3_9) g10) hF10) hI10) ra22_1_7) ra22_2_8) ra22_3_9) hW
      refine lv_iload_n hx hb dX5_tellList_22 rfl (lv_at hl 3 rfl) ?_
      refine lv_aload_n hx hb dX5_tellList_23 rfl (lv_at hl 0 rfl) ?_
      refine c_geti x L10 5 i0 11 171 hal0 rfl rfl (wk_in kf_X5_52) dX5_tellList_24 (fun v11 ev11 wv11 => ?_)
      have rv11 : rg (-2147483648) (2147483647) v11 := rg_any v11
      replace hW := (wfP_i (wfP_i (wfP_a hW v11) ev11) rv11)
      obtain ⟨P12, hP12, hW⟩ := wfP_ex hW
      have j84_12 : ∀ (g12 : mSt) (H12 : Heap) (k12 : List Loc) (ls : Array Slot), mFr [] g10 g12 → cL G Z A H0 X g12 H12 k12 → mFi (im_ktellList Z i0) g10 g12 → wfP (P12 g12) → lv_has ls 5 [(0, .ref (Z.ad 5 i0)), (1, .int a22_1_7)] → W p l e rm_ktellList s m args below meth c H12 k12 0 0 Q (F0 m 84 ls []) := by
        intro  g12 H12 k12 ls hF12 L12  hI12 hW hl
        replace hW := wfP_i (wfP_i (wfP_i (wfP_a hP12 g12) hF12) hI12) hW
        refine lv_iload_n hx hb dX5_tellList_84 rfl (lv_at hl 1 rfl) ?_
        refine lv_bipush (v := 12) hx hb dX5_tellList_85 (by decide) ?_
        obtain ⟨P13, hP13, hW⟩ := wfP_ex hW
        have j101_13 : ∀ (g13 : mSt) (H13 : Heap) (k13 : List Loc) (ls : Array Slot), mFr [111, 768] g12 g13 → cL G Z A H0 X g13 H13 k13 → mFi (im_ktellList Z i0) g12 g13 → wfP (P13 g13) → lv_has ls 5 [(0, .ref (Z.ad 5 i0))] → W p l e rm_ktellList s m args below meth c H13 k13 0 0 Q (F0 m 101 ls []) := by
          intro  g13 H13 k13 ls hF13 L13  hI13 hW hl
          replace hW := wfP_i (wfP_i (wfP_i (wfP_a hP13 g13) hF13) hI13) hW
          exact hQ _ _ _ _ _ dX5_tellList_101 L13 ⟨hW, (mFi.tr (mFi.tr (mFi.tr (mFi.sub mFi.rf hi4 (mSub_eq 0 rfl (mSub_eq 1 rfl mSub_nil))) hI10) hI12) hI13), (mFr.tr (mFr.tr (mFr.tr (mFr.tr mFr.rf hp4.1 rfl) hF10 rfl) hF12 rfl) hF13 rfl), trivial⟩
        refine lv_icmp_ge (tgt := 101) hx hb dX5_tellList_87 (by decide) (fun c87_14 => ?_) (fun c87_14 => ?_)
        · skip
          replace hW := wfP_i (wfP_l hW) (i_le c87_14 (rg_i kc_12) rfl)
          have q15 : rg (12) (12) a22_1_7 := (rg_le c87_14 kc_12 ra22_1_7).2
          exact j101_13  g12 _ _ ls mFr.rf L12 mFi.rf hW (lv_sub hl [0] rfl)
        · skip
          replace hW := wfP_i (wfP_r hW) (i_lt (rg_nle c87_14) rfl (rg_i kc_12))
          have q16 : rg (1) (11) a22_1_7 := (rg_lt (rg_nle c87_14) ra22_1_7 kc_12).1
          refine lv_aload_n hx hb dX5_tellList_90 rfl (lv_at hl 0 rfl) ?_
          refine c_getr (a := Z.ad 3 (cOut Z.n i0)) x L12 5 i0 0 hal0 rfl rfl (wk_in kf_X5_30) dX5_tellList_91 ?_
          refine lv_aload_n hx hb dX5_tellList_94 rfl (lv_at hl 0 rfl) ?_
          refine c_geti x L12 5 i0 11 171 hal0 rfl rfl (wk_in kf_X5_52) dX5_tellList_95 (fun v17 ev17 wv17 => ?_)
          refine m_top (((mm_fr ev11 hF12 rfl)).trans ev17.symm) ?_
          refine c_cv (As := [.int v11]) (rest := []) x hml L12 3 (cOut Z.n i0) al2 rfl (d_kword l X g12 (cOut Z.n i0) v11 hX (show (cOut Z.n i0) < 2 * Z.n from (by omega)) hW) (wk_V kd_X3_word kl_X5_102 ki_X3_word ks_X3_X3_word kn_X3) rfl ⟨rfl, rfl⟩ hd_kword ⟨Nat.le_of_ble_eq_true rfl, Nat.le_of_ble_eq_true rfl⟩ rfl hl.1 rfl (lv_room (Nat.le_of_ble_eq_true rfl)) dX5_tellList_98 (fun  g18 H18 k18 hp18 L18 => ?_)
          obtain ⟨hW, hi18, hp18⟩ := hp18
          replace hW := wfP_i hW ⟨hi18, hp18⟩
          exact j101_13  g18 _ _ ls (mFr.tr mFr.rf hp18.1 rfl) L18 (mFi.sub mFi.rf hi18 (mSub_eq 0 rfl (mSub_eq 1 rfl mSub_nil))) hW (lv_sub hl [0] rfl)
      refine lv_icmp_ge (tgt := 84) hx hb dX5_tellList_27 (by decide) (fun c27_19 => ?_) (fun c27_19 => ?_)
      · skip
        replace hW := wfP_i (wfP_l hW) (i_le c27_19 rfl rfl)
        exact j84_12  g10 _ _ ls mFr.rf L10 mFi.rf hW (lv_sub hl [0, 1] rfl)
      · skip
        replace hW := wfP_i (wfP_r hW) (i_lt (rg_nle c27_19) rfl rfl)
        have q20 : rg (1) (2147483646) a22_3_9 := (rg_lt (rg_nle c27_19) ra22_3_9 rv11).1
        have q21 : rg (2) (2147483647) v11 := (rg_lt (rg_nle c27_19) ra22_3_9 rv11).2
        refine lv_iload_n hx hb dX5_tellList_30 rfl (lv_at hl 1 rfl) ?_
        refine lv_bipush (v := 12) hx hb dX5_tellList_31 (by decide) ?_
        refine lv_icmp_ge (tgt := 84) hx hb dX5_tellList_33 (by decide) (fun c33_22 => ?_) (fun c33_22 => ?_)
        · skip
          replace hW := wfP_i (wfP_l hW) (i_le c33_22 (rg_i kc_12) rfl)
          have q23 : rg (12) (12) a22_1_7 := (rg_le c33_22 kc_12 ra22_1_7).2
          exact j84_12  g10 _ _ ls mFr.rf L10 mFi.rf hW (lv_sub hl [0, 1] rfl)
        · skip
          replace hW := wfP_i (wfP_r hW) (i_lt (rg_nle c33_22) rfl (rg_i kc_12))
          have q24 : rg (1) (11) a22_1_7 := (rg_lt (rg_nle c33_22) ra22_1_7 kc_12).1
          refine lv_aload_n hx hb dX5_tellList_36 rfl (lv_at hl 0 rfl) ?_
          have al25 : Z.al 13 (2 * i0 + 1) := hz.2 13 (2 * i0 + 1) (show (2 * i0 + 1) < 4 * Z.n from (by omega))
          refine c_getr (a := Z.ad 13 (2 * i0 + 1)) x L10 5 i0 3 hal0 rfl rfl (wk_in kf_X5_23) dX5_tellList_37 ?_
          have al26 : Z.al 40 (2 * i0 + 1) := hz.2 40 (2 * i0 + 1) (show (2 * i0 + 1) < 4 * Z.n from (by omega))
          refine c_getr (a := Z.ad 40 (2 * i0 + 1)) x L10 13 (2 * i0 + 1) 2 al25 rfl rfl (wk_in kf_X5_65) dX5_tellList_40 ?_
          refine lv_iload_n hx hb dX5_tellList_43 rfl (lv_at hl 3 rfl) ?_
          refine lv_bipush (v := 8) hx hb dX5_tellList_44 (by decide) ?_
          refine lv_irem hx hb dX5_tellList_46 (by decide) ?_
          refine lv_topi (fun v27 ev27 => ?_)
          have rv27 : rg (0) (7) v27 := (rg_rem ev27 q20 kc_8 rfl).1
          replace hW := (wfP_i (wfP_i (wfP_i (wfP_a hW v27) ev27) rv27) ((rg_rem ev27 q20 kc_8 rfl).2))
          refine c_ld x L10 40 (2 * i0 + 1) 1280 al26 rfl rfl rv27 rfl dX5_tellList_47 (fun v28 ev28 wv28 => ?_)
          have rv28 : rg (0) (60) v28 := clj_1280 wv28
          replace hW := (wfP_i (wfP_i (wfP_a hW v28) ev28) rv28)
          obtain ⟨P30, hP30, hW⟩ := wfP_ex hW
          have j56_30 : ∀ (b56_0_29 : Int32) (g30 : mSt) (H30 : Heap) (k30 : List Loc) (ls : Array Slot), mFr [] g10 g30 → cL G Z A H0 X g30 H30 k30 → rg (0) (1) b56_0_29 → mFi (im_ktellList Z i0) g10 g30 → wfP (P30 b56_0_29 g30) → lv_has ls 5 [(0, .ref (Z.ad 5 i0)), (1, .int a22_1_7), (2, .int a22_2_8), (3, .int a22_3_9)] → W p l e rm_ktellList s m args below meth c H30 k30 0 0 Q (F0 m 56 ls [.int b56_0_29]) := by
            intro b56_0_29 g30 H30 k30 ls hF30 L30 rb56_0_29 hI30 hW hl
            replace hW := wfP_i (wfP_i (wfP_i (wfP_i (wfP_a (wfP_a hP30 b56_0_29) g30) hF30) hI30) rb56_0_29) hW
            refine lv_istore (lv' := [(4, .int b56_0_29), (0, .ref (Z.ad 5 i0)), (1, .int a22_1_7), (2, .int a22_2_8), (3, .int a22_3_9)]) hx hb dX5_tellList_56 hl (by decide) rfl (fun ls hl => ?_)
            refine lv_iload hx hb dX5_tellList_58 (lv_at hl 0 rfl) ?_
            refine lv_iload_n hx hb dX5_tellList_60 rfl (lv_at hl 3 rfl) ?_
            obtain ⟨P33, hP33, hW⟩ := wfP_ex hW
            have j78_33 : ∀ (a78_1_31 a78_2_32 : Int32) (g33 : mSt) (H33 : Heap) (k33 : List Loc) (ls : Array Slot), mFr [111, 768] g30 g33 → cL G Z A H0 X g33 H33 k33 → rg (1) (12) a78_1_31 → rg (0) (1) a78_2_32 → mFi (im_ktellList Z i0) g30 g33 → wfP (P33 a78_1_31 a78_2_32 g33) → lv_has ls 5 [(0, .ref (Z.ad 5 i0)), (1, .int a78_1_31), (2, .int a78_2_32), (3, .int a22_3_9)] → W p l e rm_ktellList s m args below meth c H33 k33 0 0 Q (F0 m 78 ls []) := by
              intro a78_1_31 a78_2_32 g33 H33 k33 ls hF33 L33 ra78_1_31 ra78_2_32 hI33 hW hl
              replace hW := wfP_i (wfP_i (wfP_i (wfP_i (wfP_i (wfP_a (wfP_a (wfP_a hP33 a78_1_31) a78_2_32) g33) hF33) hI33) ra78_1_31) ra78_2_32) hW
              obtain ⟨v34, ev34, fv34⟩ := inc_ex a22_3_9 (1) (1 : Int32) (by decide)
              have rv34 : rg (2) (2147483647) v34 := (rg_add ev34 q20 kc_1 rfl).1
              have tv34 := (rg_add ev34 q20 kc_1 rfl).2
              replace hW := (wfP_i (wfP_i (wfP_i (wfP_a hW v34) ev34) rv34) (w_iadd tv34 rfl (rg_i kc_1)))
              refine lv_iinc (v := v34) (lv' := [(3, .int v34), (0, .ref (Z.ad 5 i0)), (1, .int a78_1_31), (2, .int a78_2_32)]) hx hb dX5_tellList_78 hl (k := 3) rfl fv34 (by decide) rfl (fun ls hl => ?_)
              refine lv_goto (tgt := 22) hx hb dX5_tellList_81 (by decide) ?_
              exact ih10 _ (ms_up tv34 kc_1 q20 rfl rfl) a78_1_31 a78_2_32 v34 g33 _ _ ls (mFr.tr (mFr.tr hF10 hF30 rfl) hF33 rfl) L33 (rg_w ra78_1_31 rfl) (rg_w ra78_2_32 rfl) (rg_w rv34 rfl) (mFi.tr (mFi.tr hI10 hI30) hI33) hW (lv_sub hl [1, 2, 3, 0] rfl) rfl
            refine lv_icmp_eq (tgt := 78) hx hb dX5_tellList_61 (by decide) (fun c61_35 => ?_) (fun c61_35 => ?_)
            · skip
              replace hW := wfP_i (wfP_l hW) (i_eq c61_35 rfl rfl)
              exact j78_33 a22_1_7 a22_2_8 g30 _ _ ls mFr.rf L30 (rg_w q24 rfl) (rg_w ra22_2_8 rfl) mFi.rf hW (lv_sub hl [1, 2, 3, 4] rfl)
            · skip
              replace hW := wfP_i (wfP_r hW) (i_ne c61_35 rfl rfl)
              refine lv_aload_n hx hb dX5_tellList_64 rfl (lv_at hl 1 rfl) ?_
              refine c_getr (a := Z.ad 3 (cOut Z.n i0)) x L30 5 i0 0 hal0 rfl rfl (wk_in kf_X5_30) dX5_tellList_65 ?_
              refine lv_iload_n hx hb dX5_tellList_68 rfl (lv_at hl 4 rfl) ?_
              refine c_cv (As := [.int a22_3_9]) (rest := []) x hml L30 3 (cOut Z.n i0) al2 rfl (d_kword l X g30 (cOut Z.n i0) a22_3_9 hX (show (cOut Z.n i0) < 2 * Z.n from (by omega)) hW) (wk_V kd_X3_word kl_X5_102 ki_X3_word ks_X3_X3_word kn_X3) rfl ⟨rfl, rfl⟩ hd_kword ⟨Nat.le_of_ble_eq_true rfl, Nat.le_of_ble_eq_true rfl⟩ rfl hl.1 rfl (lv_room (Nat.le_of_ble_eq_true rfl)) dX5_tellList_69 (fun  g36 H36 k36 hp36 L36 => ?_)
              obtain ⟨hW, hi36, hp36⟩ := hp36
              replace hW := wfP_i hW ⟨hi36, hp36⟩
              obtain ⟨v37, ev37, fv37⟩ := inc_ex a22_1_7 (1) (1 : Int32) (by decide)
              have rv37 : rg (2) (12) v37 := (rg_add ev37 q24 kc_1 rfl).1
              have tv37 := (rg_add ev37 q24 kc_1 rfl).2
              replace hW := (wfP_i (wfP_i (wfP_i (wfP_a hW v37) ev37) rv37) (w_iadd tv37 rfl (rg_i kc_1)))
              refine lv_iinc (v := v37) (lv' := [(1, .int v37), (4, .int b56_0_29), (0, .ref (Z.ad 5 i0)), (2, .int a22_2_8), (3, .int a22_3_9)]) hx hb dX5_tellList_72 hl (k := 2) rfl fv37 (by decide) rfl (fun ls hl => ?_)
              refine lv_iload hx hb dX5_tellList_75 (lv_at hl 1 rfl) ?_
              refine lv_istore_n (lv' := [(2, .int b56_0_29), (1, .int v37), (4, .int b56_0_29), (0, .ref (Z.ad 5 i0)), (3, .int a22_3_9)]) hx hb dX5_tellList_77 rfl hl (by decide) rfl (fun ls hl => ?_)
              exact j78_33 v37 b56_0_29 g36 _ _ ls (mFr.tr mFr.rf hp36.1 rfl) L36 (rg_w rv37 rfl) (rg_w rb56_0_29 rfl) (mFi.sub mFi.rf hi36 (mSub_eq 0 rfl (mSub_eq 1 rfl mSub_nil))) hW (lv_sub hl [3, 1, 0, 4] rfl)
          refine lv_if_le (tgt := 55) hx hb dX5_tellList_48 (by decide) (fun c48_38 => ?_) (fun c48_38 => ?_)
          · skip
            replace hW := wfP_i (wfP_l hW) (i_le c48_38 rfl (rg_i kc_0))
            have q39 : rg (0) (0) v28 := (rg_le c48_38 rv28 kc_0).1
            refine lv_iconst (v := 0) hx hb dX5_tellList_55 (by decide) ?_
            exact j56_30 (0 : Int32) g10 _ _ ls mFr.rf L10 (rg_w kc_0 rfl) mFi.rf hW (lv_sub hl [0, 1, 2, 3] rfl)
          · skip
            replace hW := wfP_i (wfP_r hW) (i_lt (rg_nle c48_38) (rg_i kc_0) rfl)
            have q40 : rg (1) (60) v28 := (rg_lt (rg_nle c48_38) kc_0 rv28).2
            refine lv_iconst (v := 1) hx hb dX5_tellList_51 (by decide) ?_
            refine lv_goto (tgt := 56) hx hb dX5_tellList_52 (by decide) ?_
            exact j56_30 (1 : Int32) g10 _ _ ls mFr.rf L10 (rg_w kc_1 rfl) mFi.rf hW (lv_sub hl [0, 1, 2, 3] rfl)
  exact j22_10 _ (1 : Int32) (0 : Int32) v6 g4 _ _ ls mFr.rf L4 (rg_w kc_1 rfl) (rg_w kc_0 rfl) (rg_w rv6 rfl) mFi.rf hW (lv_sub hl [3, 2, 1, 0] rfl) rfl
theorem d_ktellList (l : Launch) {G : cG} {Z : cZ} (X : Int) (g : mSt) (i0 : Nat) (hX : 0 ≤ X ∧ X ≤ 2000000000) (hi0 : i0 < 2 * Z.n) {Φ : Int32 → mSt → Prop} (hW : wfP (wp_ktellList Z i0 g Φ)) : Met l yX5_tellList (wk (Cond.code yX5_tellList cX5_tellList 5 none)) rm_ktellList (va_Pc [.ref (Z.ad 5 i0)] (cPre G Z X g)) (cQv G Z X (fun g1 => wfP (Φ 0 g1) ∧ mFi (im_ktellList Z i0) g g1 ∧ (mFr [111, 768] g g1 ∧ True))) 0 0 (cAd Z) := by
  refine Met.ofW (cc := cX5_tellList) (maxL := 5) (ret := none) (by decide) rfl ?_
  intro p e s m args below meth c s₁ B hml hv
  obtain ⟨rfl, hv⟩ := hv
  have hr := B.returns
  have hlocks := B.notSynchronized
  obtain ⟨x, L⟩ := c_start B rfl (fun w h => wk_in h) hv
  have hl := lv_entry ([.ref (Z.ad 5 i0)]) (n := 5) (Nat.le_of_ble_eq_true rfl)
  rw [lg_entry_eq]
  generalize (lg_sl ([.ref (Z.ad 5 i0)]) ++ List.replicate (5 - (lg_sl ([.ref (Z.ad 5 i0)])).length) Slot.unset).toArray = ls at hl ⊢
  exact v_ktellList x hml L hX i0 hi0 hW hl (fun pc' ls' g1 H1 locs1 hdg L hp => c_vret x L hr hlocks (Int.le_refl _) hp hdg)

def im_kpollCame (Z : cZ) (i0 : Nat) (p1 : Int32) (p2 : Int32) : List (Nat × Nat × Nat) := [(67, (2 * (cOut Z.n i0)), 1), (108, (cOut Z.n i0), 1), (111, (cOut Z.n i0), 1), (171, i0, 1), (544, (2 * (cOut Z.n i0)), 8192), (576, (2 * (cOut Z.n i0)), 8192), (768, (cOut Z.n i0), 8192)]
def po_kpollCame (Z : cZ) (i0 : Nat) (p1 : Int32) (p2 : Int32) (g : mSt) (r : Int32) (g1 : mSt) : Prop := mFi (im_kpollCame Z i0 p1 p2) g g1 ∧ mFr [67, 108, 111, 171, 544, 576, 768] g g1 ∧ True
def wp_kpollCame (Z : cZ) (i0 : Nat) (p1 : Int32) (p2 : Int32) (g : mSt) (Φ : Int32 → mSt → Prop) : Prop :=
  ∀ (v1 : Int32), v1 = g 171 i0 → rg (-2147483648) (2147483647) v1 → ∀ (v2 : Int32), v2 = g 170 i0 → rg (0) (2000000000) v2 → ∀ (v3 : Int32), v3 = v2 + (8 : Int32) → rg (8) (2000000008) v3 → v3.toInt = v2.toInt + 8 → ∀ (v4 : Int32), rg (0) (16777215) v4 → v4.toInt ≤ p2.toInt ∧ v4.toInt ≤ v3.toInt ∧ (v4.toInt = p2.toInt ∨ v4.toInt = v3.toInt) → ∀ (v5 : Int32), rg (0) (2147483647) v5 → v1.toInt ≤ v5.toInt ∧ v4.toInt ≤ v5.toInt ∧ (v5.toInt = v1.toInt ∨ v5.toInt = v4.toInt) → ∀ (g6 : mSt), g6 = up2 g 171 i0 v5 → ∃ P9 : mSt → Prop, (∀ (g9 : mSt), mFr [111, 768] g6 g9 → mFi (im_kpollCame Z i0 p1 p2) g6 g9 → P9 g9 → wp_kword Z (cOut Z.n i0) p1 g9 (fun (_ : Int32) (g12 : mSt) => po_kword Z (cOut Z.n i0) p1 g9 0 g12 → wp_kword Z (cOut Z.n i0) v3 g12 (fun (_ : Int32) (g14 : mSt) => po_kword Z (cOut Z.n i0) v3 g12 0 g14 → wp_ksendUnit Z (cOut Z.n i0) (11 : Int32) v2 g14 (fun (_ : Int32) (g16 : mSt) => po_ksendUnit Z (cOut Z.n i0) (11 : Int32) v2 g14 0 g16 → Φ 0 g16)))) ∧ ((v5.toInt ≤ v2.toInt) → P9 g6) ∧ ((v2.toInt < v5.toInt) → wp_ktellList Z i0 g6 (fun (_ : Int32) (g20 : mSt) => po_ktellList Z i0 g6 0 g20 → P9 g20))
set_option maxHeartbeats 4000000 in
set_option maxRecDepth 100000 in
theorem v_kpollCame {p : Program} {l : Launch} {e : Env} {s : State} {m : MethodId} {args : Array Value} {below : List Frame} {meth : Method} {c : Code} {H : Heap} {locs : List Loc} {Q : State → Prop} {ls : Array Slot} {G : cG} {Z : cZ} {A : Nat → Prop} {g : mSt} {H0 : Heap} {X : Int} (x : cX p c cX5_pollCame s args (wk (Cond.code yX5_pollCame cX5_pollCame 3 none)) m G Z A RX5 H0) (hml : c.maxLocals = 3) (L : cL G Z A H0 X g H locs) (hX : 0 ≤ X ∧ X ≤ 2000000000) (i0 : Nat) (p1 : Int32) (p2 : Int32) (hi0 : i0 < 2 * Z.n) (rp2 : rg (0) (16777215) p2) {Φ : Int32 → mSt → Prop} (hW : wfP (wp_kpollCame Z i0 p1 p2 g Φ)) (hl : lv_has ls 3 [(0, .ref (Z.ad 5 i0)), (1, .int p1), (2, .int p2)]) (hQ : ∀ (pc' : Nat) (ls' : Array Slot) (g1 : mSt) (H1 : Heap) (locs1 : List Loc), decode cX5_pollCame pc' = .ok (.return_, 1) → cL G Z A H0 X g1 H1 locs1 → (wfP (Φ 0 g1) ∧ mFi (im_kpollCame Z i0 p1 p2) g g1 ∧ (mFr [67, 108, 111, 171, 544, 576, 768] g g1 ∧ True)) → W p l e rm_kpollCame s m args below meth c H1 locs1 0 0 Q (F0 m pc' ls' [])) : W p l e rm_kpollCame s m args below meth c H locs 0 0 Q (F0 m 0 ls []) := by
  have hx := x.1
  have hb := x.2.1
  have hz := x.2.2.2.2.2.2.2.1
  have hzn := hz.1
  have hal0 : Z.al 5 i0 := hz.2 5 i0 (show i0 < 2 * Z.n from hi0)
  refine lv_aload_n hx hb dX5_pollCame_0 rfl (lv_at hl 0 rfl) ?_
  refine lv_aload_n hx hb dX5_pollCame_1 rfl (lv_at hl 0 rfl) ?_
  refine c_geti x L 5 i0 11 171 hal0 rfl rfl (wk_in kf_X5_52) dX5_pollCame_2 (fun v1 ev1 wv1 => ?_)
  have rv1 : rg (-2147483648) (2147483647) v1 := rg_any v1
  replace hW := (wfP_i (wfP_i (wfP_a hW v1) ev1) rv1)
  refine lv_iload_n hx hb dX5_pollCame_5 rfl (lv_at hl 2 rfl) ?_
  refine lv_aload_n hx hb dX5_pollCame_6 rfl (lv_at hl 0 rfl) ?_
  refine c_geti x L 5 i0 10 170 hal0 rfl rfl (wk_in kf_X5_49) dX5_pollCame_7 (fun v2 ev2 wv2 => ?_)
  have rv2 : rg 0 2000000000 v2 := rg_X hX (clj_170 wv2)
  replace hW := (wfP_i (wfP_i (wfP_a hW v2) ev2) rv2)
  refine lv_bipush (v := 8) hx hb dX5_pollCame_10 (by decide) ?_
  refine lv_iadd hx hb dX5_pollCame_12 ?_
  refine lv_topi (fun v3 ev3 => ?_)
  have rv3 : rg (8) (2000000008) v3 := (rg_add ev3 rv2 kc_8 rfl).1
  replace hW := (wfP_i (wfP_i (wfP_i (wfP_a hW v3) ev3) rv3) (w_iadd ((rg_add ev3 rv2 kc_8 rfl).2) rfl (rg_i kc_8)))
  refine va_mmin (rest := [.int v1, .ref (Z.ad 5 i0)]) hx hb (hml.trans hl.1.symm) x.2.2.2.2.1 (x.2.2.1 _ (wk_in kl_X5_202)) (x.2.2.1 _ (wk_in kw_min.1)) (x.2.2.1 _ (wk_in kw_min.2.1)) (x.2.2.1 _ (wk_in kw_min.2.2)) (Nat.le_of_ble_eq_true rfl) (Nat.le_of_ble_eq_true rfl) (Nat.zero_le _) (Nat.zero_le _) dX5_pollCame_13 ?_
  refine lv_topi (fun v4 ev4 => ?_)
  have hmv4 := rg_min ev4 rp2 rv3
  have rv4 : rg (0) (16777215) v4 := rg_w hmv4.1 rfl
  replace hW := (wfP_i (wfP_i (wfP_a hW v4) rv4) (w_min hmv4.2 rfl rfl))
  refine va_mmax (rest := [.ref (Z.ad 5 i0)]) hx hb (hml.trans hl.1.symm) x.2.2.2.2.1 (x.2.2.1 _ (wk_in kl_X5_188)) (x.2.2.1 _ (wk_in kw_max.1)) (x.2.2.1 _ (wk_in kw_max.2.1)) (x.2.2.1 _ (wk_in kw_max.2.2)) (Nat.le_of_ble_eq_true rfl) (Nat.le_of_ble_eq_true rfl) (Nat.zero_le _) (Nat.zero_le _) dX5_pollCame_16 ?_
  refine lv_topi (fun v5 ev5 => ?_)
  have hmv5 := rg_max ev5 rv1 rv4
  have rv5 : rg (0) (2147483647) v5 := rg_w hmv5.1 rfl
  replace hW := (wfP_i (wfP_i (wfP_a hW v5) rv5) (w_max hmv5.2 rfl rfl))
  refine c_puti x L 5 i0 11 171 hal0 rfl rfl ⟨rfl, by decide +kernel⟩ (wk_in kf_X5_52) dX5_pollCame_19 (rg_any v5) (fun g6 H6 k6 eg6 L6 => ?_)
  replace hW := (wfP_i (wfP_a hW g6) eg6)
  refine lv_aload_n hx hb dX5_pollCame_22 rfl (lv_at hl 0 rfl) ?_
  refine c_geti x L6 5 i0 11 171 hal0 rfl rfl (wk_in kf_X5_52) dX5_pollCame_23 (fun v7 ev7 wv7 => ?_)
  refine m_top (((mm_st eg6)).trans ev7.symm) ?_
  refine lv_aload_n hx hb dX5_pollCame_26 rfl (lv_at hl 0 rfl) ?_
  refine c_geti x L6 5 i0 10 170 hal0 rfl rfl (wk_in kf_X5_49) dX5_pollCame_27 (fun v8 ev8 wv8 => ?_)
  refine m_top (((mm_up ev2 eg6 rfl)).trans ev8.symm) ?_
  obtain ⟨P9, hP9, hW⟩ := wfP_ex hW
  have j37_9 : ∀ (g9 : mSt) (H9 : Heap) (k9 : List Loc) (ls : Array Slot), mFr [111, 768] g6 g9 → cL G Z A H0 X g9 H9 k9 → mFi (im_kpollCame Z i0 p1 p2) g6 g9 → wfP (P9 g9) → lv_has ls 3 [(0, .ref (Z.ad 5 i0)), (1, .int p1)] → W p l e rm_kpollCame s m args below meth c H9 k9 0 0 Q (F0 m 37 ls []) := by
    intro  g9 H9 k9 ls hF9 L9  hI9 hW hl
    replace hW := wfP_i (wfP_i (wfP_i (wfP_a hP9 g9) hF9) hI9) hW
    refine lv_aload_n hx hb dX5_pollCame_37 rfl (lv_at hl 0 rfl) ?_
    have ho10 := cOut_lt (n := Z.n) (i := i0) (by omega)
    have al11 : Z.al 3 (cOut Z.n i0) := hz.2 3 (cOut Z.n i0) (show (cOut Z.n i0) < 2 * Z.n from (by omega))
    refine c_getr (a := Z.ad 3 (cOut Z.n i0)) x L9 5 i0 0 hal0 rfl rfl (wk_in kf_X5_30) dX5_pollCame_38 ?_
    refine lv_iload_n hx hb dX5_pollCame_41 rfl (lv_at hl 1 rfl) ?_
    refine c_cv (As := [.int p1]) (rest := []) x hml L9 3 (cOut Z.n i0) al11 rfl (d_kword l X g9 (cOut Z.n i0) p1 hX (show (cOut Z.n i0) < 2 * Z.n from (by omega)) hW) (wk_V kd_X3_word kl_X5_102 ki_X3_word ks_X3_X3_word kn_X3) rfl ⟨rfl, rfl⟩ hd_kword ⟨Nat.le_of_ble_eq_true rfl, Nat.le_of_ble_eq_true rfl⟩ rfl hl.1 rfl (lv_room (Nat.le_of_ble_eq_true rfl)) dX5_pollCame_42 (fun  g12 H12 k12 hp12 L12 => ?_)
    obtain ⟨hW, hi12, hp12⟩ := hp12
    replace hW := wfP_i hW ⟨hi12, hp12⟩
    refine lv_aload_n hx hb dX5_pollCame_45 rfl (lv_at hl 0 rfl) ?_
    refine c_getr (a := Z.ad 3 (cOut Z.n i0)) x L12 5 i0 0 hal0 rfl rfl (wk_in kf_X5_30) dX5_pollCame_46 ?_
    refine lv_aload_n hx hb dX5_pollCame_49 rfl (lv_at hl 0 rfl) ?_
    refine c_geti x L12 5 i0 10 170 hal0 rfl rfl (wk_in kf_X5_49) dX5_pollCame_50 (fun v13 ev13 wv13 => ?_)
    refine m_top (((mm_fr (mm_fr (mm_up ev2 eg6 rfl) hF9 rfl) hp12.1 rfl)).trans ev13.symm) ?_
    refine lv_bipush (v := 8) hx hb dX5_pollCame_53 (by decide) ?_
    refine lv_iadd hx hb dX5_pollCame_55 ?_
    refine m_top ev3 ?_
    refine c_cv (As := [.int v3]) (rest := []) x hml L12 3 (cOut Z.n i0) al11 rfl (d_kword l X g12 (cOut Z.n i0) v3 hX (show (cOut Z.n i0) < 2 * Z.n from (by omega)) hW) (wk_V kd_X3_word kl_X5_102 ki_X3_word ks_X3_X3_word kn_X3) rfl ⟨rfl, rfl⟩ hd_kword ⟨Nat.le_of_ble_eq_true rfl, Nat.le_of_ble_eq_true rfl⟩ rfl hl.1 rfl (lv_room (Nat.le_of_ble_eq_true rfl)) dX5_pollCame_56 (fun  g14 H14 k14 hp14 L14 => ?_)
    obtain ⟨hW, hi14, hp14⟩ := hp14
    replace hW := wfP_i hW ⟨hi14, hp14⟩
    refine lv_aload_n hx hb dX5_pollCame_59 rfl (lv_at hl 0 rfl) ?_
    refine c_getr (a := Z.ad 3 (cOut Z.n i0)) x L14 5 i0 0 hal0 rfl rfl (wk_in kf_X5_30) dX5_pollCame_60 ?_
    refine lv_bipush (v := 11) hx hb dX5_pollCame_63 (by decide) ?_
    refine lv_aload_n hx hb dX5_pollCame_65 rfl (lv_at hl 0 rfl) ?_
    refine c_geti x L14 5 i0 10 170 hal0 rfl rfl (wk_in kf_X5_49) dX5_pollCame_66 (fun v15 ev15 wv15 => ?_)
    refine m_top (((mm_fr (mm_fr (mm_fr (mm_up ev2 eg6 rfl) hF9 rfl) hp12.1 rfl) hp14.1 rfl)).trans ev15.symm) ?_
    refine c_cv (As := [.int (11 : Int32), .int v2]) (rest := []) x hml L14 3 (cOut Z.n i0) al11 rfl (d_ksendUnit l X g14 (cOut Z.n i0) (11 : Int32) v2 hX (show (cOut Z.n i0) < 2 * Z.n from (by omega)) hW) (wk_V kd_X3_sendUnit kl_X5_96 ki_X3_sendUnit ks_X3_X3_sendUnit kn_X3) rfl ⟨rfl, rfl⟩ hd_ksendUnit ⟨Nat.le_of_ble_eq_true rfl, Nat.le_of_ble_eq_true rfl⟩ rfl hl.1 rfl (lv_room (Nat.le_of_ble_eq_true rfl)) dX5_pollCame_69 (fun  g16 H16 k16 hp16 L16 => ?_)
    obtain ⟨hW, hi16, hp16⟩ := hp16
    replace hW := wfP_i hW ⟨hi16, hp16⟩
    exact hQ _ _ _ _ _ dX5_pollCame_72 L16 ⟨hW, (mFi.sub (mFi.sub (mFi.sub (mFi.tr (mFi.up mFi.rf eg6 (mIn_at 3 rfl (Or.inr (Nat.div_one _)))) hI9) hi12 (mSub_eq 2 rfl (mSub_eq 6 rfl mSub_nil))) hi14 (mSub_eq 2 rfl (mSub_eq 6 rfl mSub_nil))) hi16 (mSub_eq 0 rfl (mSub_eq 1 rfl (mSub_eq 2 rfl (mSub_eq 4 rfl (mSub_eq 5 rfl (mSub_eq 6 rfl mSub_nil))))))), (mFr.tr (mFr.tr (mFr.tr (mFr.tr (mFr.upE mFr.rf eg6 rfl) hF9 rfl) hp12.1 rfl) hp14.1 rfl) hp16.1 rfl), trivial⟩
  refine lv_icmp_le (tgt := 37) hx hb dX5_pollCame_30 (by decide) (fun c30_17 => ?_) (fun c30_17 => ?_)
  · skip
    replace hW := wfP_i (wfP_l hW) (i_le c30_17 rfl rfl)
    have q18 : rg (0) (2000000000) v5 := (rg_le c30_17 rv5 rv2).1
    exact j37_9  g6 _ _ ls mFr.rf L6 mFi.rf hW (lv_sub hl [0, 1] rfl)
  · skip
    replace hW := wfP_i (wfP_r hW) (i_lt (rg_nle c30_17) rfl rfl)
    have q19 : rg (1) (2147483647) v5 := (rg_lt (rg_nle c30_17) rv2 rv5).2
    refine lv_aload_n hx hb dX5_pollCame_33 rfl (lv_at hl 0 rfl) ?_
    refine c_cv (As := []) (rest := []) x hml L6 5 i0 hal0 rfl (d_ktellList l X g6 i0 hX (show i0 < 2 * Z.n from (by omega)) hW) (wk_V kd_X5_tellList kl_X5_205 ki_X5_tellList ks_X5_X5_tellList kn_X5) rfl ⟨rfl, rfl⟩ hd_ktellList ⟨Nat.le_of_ble_eq_true rfl, Nat.le_of_ble_eq_true rfl⟩ rfl hl.1 rfl (lv_room (Nat.le_of_ble_eq_true rfl)) dX5_pollCame_34 (fun  g20 H20 k20 hp20 L20 => ?_)
    obtain ⟨hW, hi20, hp20⟩ := hp20
    replace hW := wfP_i hW ⟨hi20, hp20⟩
    exact j37_9  g20 _ _ ls (mFr.tr mFr.rf hp20.1 rfl) L20 (mFi.sub mFi.rf hi20 (mSub_eq 2 rfl (mSub_eq 6 rfl mSub_nil))) hW (lv_sub hl [0, 1] rfl)
theorem d_kpollCame (l : Launch) {G : cG} {Z : cZ} (X : Int) (g : mSt) (i0 : Nat) (p1 : Int32) (p2 : Int32) (hX : 0 ≤ X ∧ X ≤ 2000000000) (hi0 : i0 < 2 * Z.n) (rp2 : rg (0) (16777215) p2) {Φ : Int32 → mSt → Prop} (hW : wfP (wp_kpollCame Z i0 p1 p2 g Φ)) : Met l yX5_pollCame (wk (Cond.code yX5_pollCame cX5_pollCame 3 none)) rm_kpollCame (va_Pc [.ref (Z.ad 5 i0), .int p1, .int p2] (cPre G Z X g)) (cQv G Z X (fun g1 => wfP (Φ 0 g1) ∧ mFi (im_kpollCame Z i0 p1 p2) g g1 ∧ (mFr [67, 108, 111, 171, 544, 576, 768] g g1 ∧ True))) 0 0 (cAd Z) := by
  refine Met.ofW (cc := cX5_pollCame) (maxL := 3) (ret := none) (by decide) rfl ?_
  intro p e s m args below meth c s₁ B hml hv
  obtain ⟨rfl, hv⟩ := hv
  have hr := B.returns
  have hlocks := B.notSynchronized
  obtain ⟨x, L⟩ := c_start B rfl (fun w h => wk_in h) hv
  have hl := lv_entry ([.ref (Z.ad 5 i0), .int p1, .int p2]) (n := 3) (Nat.le_of_ble_eq_true rfl)
  rw [lg_entry_eq]
  generalize (lg_sl ([.ref (Z.ad 5 i0), .int p1, .int p2]) ++ List.replicate (3 - (lg_sl ([.ref (Z.ad 5 i0), .int p1, .int p2])).length) Slot.unset).toArray = ls at hl ⊢
  exact v_kpollCame x hml L hX i0 p1 p2 hi0 rp2 hW hl (fun pc' ls' g1 H1 locs1 hdg L hp => c_vret x L hr hlocks (Int.le_refl _) hp hdg)

def im_kacknowledge (Z : cZ) (i0 : Nat) (p1 : Int32) : List (Nat × Nat × Nat) := [(166, i0, 1), (167, i0, 1), (1280, (2 * i0), 8192), (1344, (2 * i0), 8192)]
def po_kacknowledge (Z : cZ) (i0 : Nat) (p1 : Int32) (g : mSt) (r : Int32) (g1 : mSt) : Prop := mFi (im_kacknowledge Z i0 p1) g g1 ∧ mFr [166, 167, 1280, 1344] g g1 ∧ True
def wp_kacknowledge (Z : cZ) (i0 : Nat) (p1 : Int32) (g : mSt) (Φ : Int32 → mSt → Prop) : Prop :=
  ∀ (v1 : Int32), v1 = g 166 i0 → rg (0) (16777215) v1 → ∃ P3 : Int32 → mSt → Prop, (∀ (a5_2_2 : Int32) (g3 : mSt), mFr [1280, 1344] g g3 → mFi (im_kacknowledge Z i0 p1) g g3 → rg (0) (16777215) a5_2_2 → P3 a5_2_2 g3 → ∃ P4 : mSt → Prop, (∀ (g4 : mSt), mFr [] g3 g4 → mFi (im_kacknowledge Z i0 p1) g3 g4 → P4 g4 → ∀ (g5 : mSt), g5 = up2 g4 166 i0 p1 → ∀ (v6 : Int32), v6 = p1 + (8 : Int32) → rg (8) (16777223) v6 → v6.toInt = p1.toInt + 8 → ∀ (g7 : mSt), g7 = up2 g5 167 i0 v6 → Φ 0 g7) ∧ ((p1.toInt ≤ a5_2_2.toInt) → P4 g3) ∧ ((a5_2_2.toInt < p1.toInt) → ∀ (v11 : Int32), v11 = g3 165 i0 → rg (0) (16777223) v11 → ((v11.toInt ≤ a5_2_2.toInt) → P4 g3) ∧ ((a5_2_2.toInt < v11.toInt) → ∀ (v16 : Int32), v16 = a5_2_2 - a5_2_2 / (8 : Int32) * (8 : Int32) → rg (0) (7) v16 → v16.toInt = a5_2_2.toInt % 8 → wp_kclear Z (2 * i0) v16 g3 (fun (_ : Int32) (g17 : mSt) => po_kclear Z (2 * i0) v16 g3 0 g17 → ∀ (v18 : Int32), v18 = a5_2_2 + (1 : Int32) → rg (1) (16777215) v18 → v18.toInt = a5_2_2.toInt + 1 → P3 v18 g17)))) ∧ P3 v1 g
set_option maxHeartbeats 4000000 in
set_option maxRecDepth 100000 in
theorem v_kacknowledge {p : Program} {l : Launch} {e : Env} {s : State} {m : MethodId} {args : Array Value} {below : List Frame} {meth : Method} {c : Code} {H : Heap} {locs : List Loc} {Q : State → Prop} {ls : Array Slot} {G : cG} {Z : cZ} {A : Nat → Prop} {g : mSt} {H0 : Heap} {X : Int} (x : cX p c cX5_acknowledge s args (wk (Cond.code yX5_acknowledge cX5_acknowledge 3 none)) m G Z A RX5 H0) (hml : c.maxLocals = 3) (L : cL G Z A H0 X g H locs) (hX : 0 ≤ X ∧ X ≤ 2000000000) (i0 : Nat) (p1 : Int32) (hi0 : i0 < 2 * Z.n) (rp1 : rg (0) (16777215) p1) {Φ : Int32 → mSt → Prop} (hW : wfP (wp_kacknowledge Z i0 p1 g Φ)) (hl : lv_has ls 3 [(0, .ref (Z.ad 5 i0)), (1, .int p1)]) (hQ : ∀ (pc' : Nat) (ls' : Array Slot) (g1 : mSt) (H1 : Heap) (locs1 : List Loc), decode cX5_acknowledge pc' = .ok (.return_, 1) → cL G Z A H0 X g1 H1 locs1 → (wfP (Φ 0 g1) ∧ mFi (im_kacknowledge Z i0 p1) g g1 ∧ (mFr [166, 167, 1280, 1344] g g1 ∧ True)) → W p l e rm_kacknowledge s m args below meth c H1 locs1 0 0 Q (F0 m pc' ls' [])) : W p l e rm_kacknowledge s m args below meth c H locs 0 0 Q (F0 m 0 ls []) := by
  have hx := x.1
  have hb := x.2.1
  have hz := x.2.2.2.2.2.2.2.1
  have hzn := hz.1
  have hal0 : Z.al 5 i0 := hz.2 5 i0 (show i0 < 2 * Z.n from hi0)
  refine lv_aload_n hx hb dX5_acknowledge_0 rfl (lv_at hl 0 rfl) ?_
  refine c_geti x L 5 i0 6 166 hal0 rfl rfl (wk_in kf_X5_37) dX5_acknowledge_1 (fun v1 ev1 wv1 => ?_)
  have rv1 : rg (0) (16777215) v1 := clj_166 wv1
  replace hW := (wfP_i (wfP_i (wfP_a hW v1) ev1) rv1)
  refine lv_istore_n (lv' := [(2, .int v1), (0, .ref (Z.ad 5 i0)), (1, .int p1)]) hx hb dX5_acknowledge_4 rfl hl (by decide) rfl (fun ls hl => ?_)
  obtain ⟨P3, hP3, hW⟩ := wfP_ex hW
  have j5_3 : ∀ (n : Nat) (a5_2_2 : Int32) (g3 : mSt) (H3 : Heap) (k3 : List Loc) (ls : Array Slot), mFr [1280, 1344] g g3 → cL G Z A H0 X g3 H3 k3 → rg (0) (16777215) a5_2_2 → mFi (im_kacknowledge Z i0 p1) g g3 → wfP (P3 a5_2_2 g3) → lv_has ls 3 [(0, .ref (Z.ad 5 i0)), (1, .int p1), (2, .int a5_2_2)] → ((16777215 : Int) - a5_2_2.toInt).toNat = n → W p l e rm_kacknowledge s m args below meth c H3 k3 0 0 Q (F0 m 5 ls []) := by
    intro n
    induction n using Nat.strongRecOn with
    | _ n ih3 =>
      intro a5_2_2 g3 H3 k3 ls hF3 L3 ra5_2_2 hI3 hW hl hn3
      subst hn3
      replace hW := wfP_i (wfP_i (wfP_i (wfP_i (wfP_a (wfP_a hP3 a5_2_2) g3) hF3) hI3) ra5_2_2) hW
      refine lv_iload_n hx hb dX5_acknowledge_5 rfl (lv_at hl 2 rfl) ?_
      refine lv_iload_n hx hb dX5_acknowledge_6 rfl (lv_at hl 1 rfl) ?_
      obtain ⟨P4, hP4, hW⟩ := wfP_ex hW
      have j35_4 : ∀ (g4 : mSt) (H4 : Heap) (k4 : List Loc) (ls : Array Slot), mFr [] g3 g4 → cL G Z A H0 X g4 H4 k4 → mFi (im_kacknowledge Z i0 p1) g3 g4 → wfP (P4 g4) → lv_has ls 3 [(0, .ref (Z.ad 5 i0)), (1, .int p1)] → W p l e rm_kacknowledge s m args below meth c H4 k4 0 0 Q (F0 m 35 ls []) := by
        intro  g4 H4 k4 ls hF4 L4  hI4 hW hl
        replace hW := wfP_i (wfP_i (wfP_i (wfP_a hP4 g4) hF4) hI4) hW
        refine lv_aload_n hx hb dX5_acknowledge_35 rfl (lv_at hl 0 rfl) ?_
        refine lv_iload_n hx hb dX5_acknowledge_36 rfl (lv_at hl 1 rfl) ?_
        refine c_puti x L4 5 i0 6 166 hal0 rfl rfl ⟨rfl, by decide +kernel⟩ (wk_in kf_X5_37) dX5_acknowledge_37 (crj_166 (rg_w rp1 rfl)) (fun g5 H5 k5 eg5 L5 => ?_)
        replace hW := (wfP_i (wfP_a hW g5) eg5)
        refine lv_aload_n hx hb dX5_acknowledge_40 rfl (lv_at hl 0 rfl) ?_
        refine lv_iload_n hx hb dX5_acknowledge_41 rfl (lv_at hl 1 rfl) ?_
        refine lv_bipush (v := 8) hx hb dX5_acknowledge_42 (by decide) ?_
        refine lv_iadd hx hb dX5_acknowledge_44 ?_
        refine lv_topi (fun v6 ev6 => ?_)
        have rv6 : rg (8) (16777223) v6 := (rg_add ev6 rp1 kc_8 rfl).1
        replace hW := (wfP_i (wfP_i (wfP_i (wfP_a hW v6) ev6) rv6) (w_iadd ((rg_add ev6 rp1 kc_8 rfl).2) rfl (rg_i kc_8)))
        refine c_puti x L5 5 i0 7 167 hal0 rfl rfl ⟨rfl, by decide +kernel⟩ (wk_in kf_X5_40) dX5_acknowledge_45 (crj_167 (rg_w rv6 rfl)) (fun g7 H7 k7 eg7 L7 => ?_)
        replace hW := (wfP_i (wfP_a hW g7) eg7)
        exact hQ _ _ _ _ _ dX5_acknowledge_48 L7 ⟨hW, (mFi.up (mFi.up (mFi.tr (mFi.tr mFi.rf hI3) hI4) eg5 (mIn_at 0 rfl (Or.inr (Nat.div_one _)))) eg7 (mIn_at 1 rfl (Or.inr (Nat.div_one _)))), (mFr.upE (mFr.upE (mFr.tr (mFr.tr mFr.rf hF3 rfl) hF4 rfl) eg5 rfl) eg7 rfl), trivial⟩
      refine lv_icmp_ge (tgt := 35) hx hb dX5_acknowledge_7 (by decide) (fun c7_8 => ?_) (fun c7_8 => ?_)
      · skip
        replace hW := wfP_i (wfP_l hW) (i_le c7_8 rfl rfl)
        exact j35_4  g3 _ _ ls mFr.rf L3 mFi.rf hW (lv_sub hl [0, 1] rfl)
      · skip
        replace hW := wfP_i (wfP_r hW) (i_lt (rg_nle c7_8) rfl rfl)
        have q9 : rg (0) (16777214) a5_2_2 := (rg_lt (rg_nle c7_8) ra5_2_2 rp1).1
        have q10 : rg (1) (16777215) p1 := (rg_lt (rg_nle c7_8) ra5_2_2 rp1).2
        refine lv_iload_n hx hb dX5_acknowledge_10 rfl (lv_at hl 2 rfl) ?_
        refine lv_aload_n hx hb dX5_acknowledge_11 rfl (lv_at hl 0 rfl) ?_
        refine c_geti x L3 5 i0 5 165 hal0 rfl rfl (wk_in kf_X5_34) dX5_acknowledge_12 (fun v11 ev11 wv11 => ?_)
        have rv11 : rg (0) (16777223) v11 := clj_165 wv11
        replace hW := (wfP_i (wfP_i (wfP_a hW v11) ev11) rv11)
        refine lv_icmp_ge (tgt := 35) hx hb dX5_acknowledge_15 (by decide) (fun c15_12 => ?_) (fun c15_12 => ?_)
        · skip
          replace hW := wfP_i (wfP_l hW) (i_le c15_12 rfl rfl)
          have q13 : rg (0) (16777214) v11 := (rg_le c15_12 rv11 q9).1
          exact j35_4  g3 _ _ ls mFr.rf L3 mFi.rf hW (lv_sub hl [0, 1] rfl)
        · skip
          replace hW := wfP_i (wfP_r hW) (i_lt (rg_nle c15_12) rfl rfl)
          have q14 : rg (1) (16777223) v11 := (rg_lt (rg_nle c15_12) q9 rv11).2
          refine lv_aload_n hx hb dX5_acknowledge_18 rfl (lv_at hl 0 rfl) ?_
          have al15 : Z.al 13 (2 * i0) := hz.2 13 (2 * i0) (show (2 * i0) < 4 * Z.n from (by omega))
          refine c_getr (a := Z.ad 13 (2 * i0)) x L3 5 i0 2 hal0 rfl rfl (wk_in kf_X5_20) dX5_acknowledge_19 ?_
          refine lv_iload_n hx hb dX5_acknowledge_22 rfl (lv_at hl 2 rfl) ?_
          refine lv_bipush (v := 8) hx hb dX5_acknowledge_23 (by decide) ?_
          refine lv_irem hx hb dX5_acknowledge_25 (by decide) ?_
          refine lv_topi (fun v16 ev16 => ?_)
          have rv16 : rg (0) (7) v16 := (rg_rem ev16 q9 kc_8 rfl).1
          replace hW := (wfP_i (wfP_i (wfP_i (wfP_a hW v16) ev16) rv16) ((rg_rem ev16 q9 kc_8 rfl).2))
          refine c_cv (As := [.int v16]) (rest := []) x hml L3 13 (2 * i0) al15 rfl (d_kclear l X g3 (2 * i0) v16 hX (show (2 * i0) < 4 * Z.n from (by omega)) hW) (wk_V kd_X6_clear kl_X5_199 ki_X6_clear ks_X6_X6_clear kn_X6) rfl ⟨rfl, rfl⟩ hd_kclear ⟨Nat.le_of_ble_eq_true rfl, Nat.le_of_ble_eq_true rfl⟩ rfl hl.1 rfl (lv_room (Nat.le_of_ble_eq_true rfl)) dX5_acknowledge_26 (fun  g17 H17 k17 hp17 L17 => ?_)
          obtain ⟨hW, hi17, hp17⟩ := hp17
          replace hW := wfP_i hW ⟨hi17, hp17⟩
          obtain ⟨v18, ev18, fv18⟩ := inc_ex a5_2_2 (1) (1 : Int32) (by decide)
          have rv18 : rg (1) (16777215) v18 := (rg_add ev18 q9 kc_1 rfl).1
          have tv18 := (rg_add ev18 q9 kc_1 rfl).2
          replace hW := (wfP_i (wfP_i (wfP_i (wfP_a hW v18) ev18) rv18) (w_iadd tv18 rfl (rg_i kc_1)))
          refine lv_iinc (v := v18) (lv' := [(2, .int v18), (0, .ref (Z.ad 5 i0)), (1, .int p1)]) hx hb dX5_acknowledge_29 hl (k := 2) rfl fv18 (by decide) rfl (fun ls hl => ?_)
          refine lv_goto (tgt := 5) hx hb dX5_acknowledge_32 (by decide) ?_
          exact ih3 _ (ms_up tv18 kc_1 q9 rfl rfl) v18 g17 _ _ ls (mFr.tr hF3 hp17.1 rfl) L17 (rg_w rv18 rfl) (mFi.sub hI3 hi17 (mSub_eq 2 rfl (mSub_eq 3 rfl mSub_nil))) hW (lv_sub hl [1, 2, 0] rfl) rfl
  exact j5_3 _ v1 g _ _ ls mFr.rf L (rg_w rv1 rfl) mFi.rf hW (lv_sub hl [1, 2, 0] rfl) rfl
theorem d_kacknowledge (l : Launch) {G : cG} {Z : cZ} (X : Int) (g : mSt) (i0 : Nat) (p1 : Int32) (hX : 0 ≤ X ∧ X ≤ 2000000000) (hi0 : i0 < 2 * Z.n) (rp1 : rg (0) (16777215) p1) {Φ : Int32 → mSt → Prop} (hW : wfP (wp_kacknowledge Z i0 p1 g Φ)) : Met l yX5_acknowledge (wk (Cond.code yX5_acknowledge cX5_acknowledge 3 none)) rm_kacknowledge (va_Pc [.ref (Z.ad 5 i0), .int p1] (cPre G Z X g)) (cQv G Z X (fun g1 => wfP (Φ 0 g1) ∧ mFi (im_kacknowledge Z i0 p1) g g1 ∧ (mFr [166, 167, 1280, 1344] g g1 ∧ True))) 0 0 (cAd Z) := by
  refine Met.ofW (cc := cX5_acknowledge) (maxL := 3) (ret := none) (by decide) rfl ?_
  intro p e s m args below meth c s₁ B hml hv
  obtain ⟨rfl, hv⟩ := hv
  have hr := B.returns
  have hlocks := B.notSynchronized
  obtain ⟨x, L⟩ := c_start B rfl (fun w h => wk_in h) hv
  have hl := lv_entry ([.ref (Z.ad 5 i0), .int p1]) (n := 3) (Nat.le_of_ble_eq_true rfl)
  rw [lg_entry_eq]
  generalize (lg_sl ([.ref (Z.ad 5 i0), .int p1]) ++ List.replicate (3 - (lg_sl ([.ref (Z.ad 5 i0), .int p1])).length) Slot.unset).toArray = ls at hl ⊢
  exact v_kacknowledge x hml L hX i0 p1 hi0 rp1 hW hl (fun pc' ls' g1 H1 locs1 hdg L hp => c_vret x L hr hlocks (Int.le_refl _) hp hdg)

def im_kmarkAgain (Z : cZ) (i0 : Nat) (p1 : Int32) (p2 : Int32) (p3 : Int32) : List (Nat × Nat × Nat) := [(1344, (2 * i0), 8192)]
def po_kmarkAgain (Z : cZ) (i0 : Nat) (p1 : Int32) (p2 : Int32) (p3 : Int32) (g : mSt) (r : Int32) (g1 : mSt) : Prop := mFi (im_kmarkAgain Z i0 p1 p2 p3) g g1 ∧ mFr [1344] g g1 ∧ True
def wp_kmarkAgain (Z : cZ) (i0 : Nat) (p1 : Int32) (p2 : Int32) (p3 : Int32) (g : mSt) (Φ : Int32 → mSt → Prop) : Prop :=
  ∀ (v1 : Int32), v1 = g 166 i0 → rg (0) (16777215) v1 → ∀ (v2 : Int32), rg (0) (2147483647) v2 → p1.toInt ≤ v2.toInt ∧ v1.toInt ≤ v2.toInt ∧ (v2.toInt = p1.toInt ∨ v2.toInt = v1.toInt) → ∃ P4 : Int32 → mSt → Prop, (∀ (a10_4_3 : Int32) (g4 : mSt), mFr [1344] g g4 → mFi (im_kmarkAgain Z i0 p1 p2 p3) g g4 → rg (0) (2147483647) a10_4_3 → P4 a10_4_3 g4 → ∃ P5 : mSt → Prop, (∀ (g5 : mSt), mFr [] g4 g5 → mFi (im_kmarkAgain Z i0 p1 p2 p3) g4 g5 → P5 g5 → Φ 0 g5) ∧ ((p2.toInt ≤ a10_4_3.toInt) → P5 g4) ∧ ((a10_4_3.toInt < p2.toInt) → ∀ (v9 : Int32), v9 = g4 165 i0 → rg (0) (16777223) v9 → ((v9.toInt ≤ a10_4_3.toInt) → P5 g4) ∧ ((a10_4_3.toInt < v9.toInt) → ∀ (v15 : Int32), v15 = a10_4_3 - a10_4_3 / (8 : Int32) * (8 : Int32) → rg (0) (7) v15 → v15.toInt = a10_4_3.toInt % 8 → ∀ (v16 : Int32), v16 = g4 1312 (8192 * (2 * i0) + v15.toNatClampNeg) → rg (-2147483648) (2147483647) v16 → ∃ P17 : mSt → Prop, (∀ (g17 : mSt), mFr [1344] g4 g17 → mFi (im_kmarkAgain Z i0 p1 p2 p3) g4 g17 → P17 g17 → ∀ (v18 : Int32), v18 = a10_4_3 + (1 : Int32) → rg (1) (16777223) v18 → v18.toInt = a10_4_3.toInt + 1 → P4 v18 g17) ∧ ((p3.toInt ≤ v16.toInt) → P17 g4) ∧ ((v16.toInt < p3.toInt) → ∀ (g23 : mSt), g23 = up2 g4 1344 (8192 * (2 * i0) + v15.toNatClampNeg) (1 : Int32) → P17 g23)))) ∧ P4 v2 g
set_option maxHeartbeats 4000000 in
set_option maxRecDepth 100000 in
theorem v_kmarkAgain {p : Program} {l : Launch} {e : Env} {s : State} {m : MethodId} {args : Array Value} {below : List Frame} {meth : Method} {c : Code} {H : Heap} {locs : List Loc} {Q : State → Prop} {ls : Array Slot} {G : cG} {Z : cZ} {A : Nat → Prop} {g : mSt} {H0 : Heap} {X : Int} (x : cX p c cX5_markAgain s args (wk (Cond.code yX5_markAgain cX5_markAgain 5 none)) m G Z A RX5 H0) (hml : c.maxLocals = 5) (L : cL G Z A H0 X g H locs) (hX : 0 ≤ X ∧ X ≤ 2000000000) (i0 : Nat) (p1 : Int32) (p2 : Int32) (p3 : Int32) (hi0 : i0 < 2 * Z.n) {Φ : Int32 → mSt → Prop} (hW : wfP (wp_kmarkAgain Z i0 p1 p2 p3 g Φ)) (hl : lv_has ls 5 [(0, .ref (Z.ad 5 i0)), (1, .int p1), (2, .int p2), (3, .int p3)]) (hQ : ∀ (pc' : Nat) (ls' : Array Slot) (g1 : mSt) (H1 : Heap) (locs1 : List Loc), decode cX5_markAgain pc' = .ok (.return_, 1) → cL G Z A H0 X g1 H1 locs1 → (wfP (Φ 0 g1) ∧ mFi (im_kmarkAgain Z i0 p1 p2 p3) g g1 ∧ (mFr [1344] g g1 ∧ True)) → W p l e rm_kmarkAgain s m args below meth c H1 locs1 0 0 Q (F0 m pc' ls' [])) : W p l e rm_kmarkAgain s m args below meth c H locs 0 0 Q (F0 m 0 ls []) := by
  have hx := x.1
  have hb := x.2.1
  have hz := x.2.2.2.2.2.2.2.1
  have hzn := hz.1
  have hal0 : Z.al 5 i0 := hz.2 5 i0 (show i0 < 2 * Z.n from hi0)
  refine lv_iload_n hx hb dX5_markAgain_0 rfl (lv_at hl 1 rfl) ?_
  refine lv_aload_n hx hb dX5_markAgain_1 rfl (lv_at hl 0 rfl) ?_
  refine c_geti x L 5 i0 6 166 hal0 rfl rfl (wk_in kf_X5_37) dX5_markAgain_2 (fun v1 ev1 wv1 => ?_)
  have rv1 : rg (0) (16777215) v1 := clj_166 wv1
  replace hW := (wfP_i (wfP_i (wfP_a hW v1) ev1) rv1)
  refine va_mmax (rest := []) hx hb (hml.trans hl.1.symm) x.2.2.2.2.1 (x.2.2.1 _ (wk_in kl_X5_188)) (x.2.2.1 _ (wk_in kw_max.1)) (x.2.2.1 _ (wk_in kw_max.2.1)) (x.2.2.1 _ (wk_in kw_max.2.2)) (Nat.le_of_ble_eq_true rfl) (Nat.le_of_ble_eq_true rfl) (Nat.zero_le _) (Nat.zero_le _) dX5_markAgain_5 ?_
  refine lv_topi (fun v2 ev2 => ?_)
  have hmv2 := rg_max ev2 (rg_any p1) rv1
  have rv2 : rg (0) (2147483647) v2 := rg_w hmv2.1 rfl
  replace hW := (wfP_i (wfP_i (wfP_a hW v2) rv2) (w_max hmv2.2 rfl rfl))
  refine lv_istore (lv' := [(4, .int v2), (0, .ref (Z.ad 5 i0)), (1, .int p1), (2, .int p2), (3, .int p3)]) hx hb dX5_markAgain_8 hl (by decide) rfl (fun ls hl => ?_)
  obtain ⟨P4, hP4, hW⟩ := wfP_ex hW
  have j10_4 : ∀ (n : Nat) (a10_4_3 : Int32) (g4 : mSt) (H4 : Heap) (k4 : List Loc) (ls : Array Slot), mFr [1344] g g4 → cL G Z A H0 X g4 H4 k4 → rg (0) (2147483647) a10_4_3 → mFi (im_kmarkAgain Z i0 p1 p2 p3) g g4 → wfP (P4 a10_4_3 g4) → lv_has ls 5 [(0, .ref (Z.ad 5 i0)), (2, .int p2), (3, .int p3), (4, .int a10_4_3)] → ((2147483647 : Int) - a10_4_3.toInt).toNat = n → W p l e rm_kmarkAgain s m args below meth c H4 k4 0 0 Q (F0 m 10 ls []) := by
    intro n
    induction n using Nat.strongRecOn with
    | _ n ih4 =>
      intro a10_4_3 g4 H4 k4 ls hF4 L4 ra10_4_3 hI4 hW hl hn4
      subst hn4
      replace hW := wfP_i (wfP_i (wfP_i (wfP_i (wfP_a (wfP_a hP4 a10_4_3) g4) hF4) hI4) ra10_4_3) hW
      refine lv_iload hx hb dX5_markAgain_10 (lv_at hl 3 rfl) ?_
      refine lv_iload_n hx hb dX5_markAgain_12 rfl (lv_at hl 1 rfl) ?_
      obtain ⟨P5, hP5, hW⟩ := wfP_ex hW
      have j62_5 : ∀ (g5 : mSt) (H5 : Heap) (k5 : List Loc) (ls : Array Slot), mFr [] g4 g5 → cL G Z A H0 X g5 H5 k5 → mFi (im_kmarkAgain Z i0 p1 p2 p3) g4 g5 → wfP (P5 g5) → lv_has ls 5 [(0, .ref (Z.ad 5 i0))] → W p l e rm_kmarkAgain s m args below meth c H5 k5 0 0 Q (F0 m 62 ls []) := by
        intro  g5 H5 k5 ls hF5 L5  hI5 hW hl
        replace hW := wfP_i (wfP_i (wfP_i (wfP_a hP5 g5) hF5) hI5) hW
        exact hQ _ _ _ _ _ dX5_markAgain_62 L5 ⟨hW, (mFi.tr (mFi.tr mFi.rf hI4) hI5), (mFr.tr (mFr.tr mFr.rf hF4 rfl) hF5 rfl), trivial⟩
      refine lv_icmp_ge (tgt := 62) hx hb dX5_markAgain_13 (by decide) (fun c13_6 => ?_) (fun c13_6 => ?_)
      · skip
        replace hW := wfP_i (wfP_l hW) (i_le c13_6 rfl rfl)
        exact j62_5  g4 _ _ ls mFr.rf L4 mFi.rf hW (lv_sub hl [0] rfl)
      · skip
        replace hW := wfP_i (wfP_r hW) (i_lt (rg_nle c13_6) rfl rfl)
        have q7 : rg (0) (2147483646) a10_4_3 := (rg_lt (rg_nle c13_6) ra10_4_3 (rg_any p2)).1
        have q8 : rg (1) (2147483647) p2 := (rg_lt (rg_nle c13_6) ra10_4_3 (rg_any p2)).2
        refine lv_iload hx hb dX5_markAgain_16 (lv_at hl 3 rfl) ?_
        refine lv_aload_n hx hb dX5_markAgain_18 rfl (lv_at hl 0 rfl) ?_
        refine c_geti x L4 5 i0 5 165 hal0 rfl rfl (wk_in kf_X5_34) dX5_markAgain_19 (fun v9 ev9 wv9 => ?_)
        have rv9 : rg (0) (16777223) v9 := clj_165 wv9
        replace hW := (wfP_i (wfP_i (wfP_a hW v9) ev9) rv9)
        refine lv_icmp_ge (tgt := 62) hx hb dX5_markAgain_22 (by decide) (fun c22_10 => ?_) (fun c22_10 => ?_)
        · skip
          replace hW := wfP_i (wfP_l hW) (i_le c22_10 rfl rfl)
          exact j62_5  g4 _ _ ls mFr.rf L4 mFi.rf hW (lv_sub hl [0] rfl)
        · skip
          replace hW := wfP_i (wfP_r hW) (i_lt (rg_nle c22_10) rfl rfl)
          have q11 : rg (0) (16777222) a10_4_3 := (rg_lt (rg_nle c22_10) q7 rv9).1
          have q12 : rg (1) (16777223) v9 := (rg_lt (rg_nle c22_10) q7 rv9).2
          refine lv_aload_n hx hb dX5_markAgain_25 rfl (lv_at hl 0 rfl) ?_
          have al13 : Z.al 13 (2 * i0) := hz.2 13 (2 * i0) (show (2 * i0) < 4 * Z.n from (by omega))
          refine c_getr (a := Z.ad 13 (2 * i0)) x L4 5 i0 2 hal0 rfl rfl (wk_in kf_X5_20) dX5_markAgain_26 ?_
          have al14 : Z.al 41 (2 * i0) := hz.2 41 (2 * i0) (show (2 * i0) < 4 * Z.n from (by omega))
          refine c_getr (a := Z.ad 41 (2 * i0)) x L4 13 (2 * i0) 3 al13 rfl rfl (wk_in kf_X5_136) dX5_markAgain_29 ?_
          refine lv_iload hx hb dX5_markAgain_32 (lv_at hl 3 rfl) ?_
          refine lv_bipush (v := 8) hx hb dX5_markAgain_34 (by decide) ?_
          refine lv_irem hx hb dX5_markAgain_36 (by decide) ?_
          refine lv_topi (fun v15 ev15 => ?_)
          have rv15 : rg (0) (7) v15 := (rg_rem ev15 q11 kc_8 rfl).1
          replace hW := (wfP_i (wfP_i (wfP_i (wfP_a hW v15) ev15) rv15) ((rg_rem ev15 q11 kc_8 rfl).2))
          refine c_ld x L4 41 (2 * i0) 1312 al14 rfl rfl rv15 rfl dX5_markAgain_37 (fun v16 ev16 wv16 => ?_)
          have rv16 : rg (-2147483648) (2147483647) v16 := rg_any v16
          replace hW := (wfP_i (wfP_i (wfP_a hW v16) ev16) rv16)
          refine lv_iload_n hx hb dX5_markAgain_38 rfl (lv_at hl 2 rfl) ?_
          obtain ⟨P17, hP17, hW⟩ := wfP_ex hW
          have j56_17 : ∀ (g17 : mSt) (H17 : Heap) (k17 : List Loc) (ls : Array Slot), mFr [1344] g4 g17 → cL G Z A H0 X g17 H17 k17 → mFi (im_kmarkAgain Z i0 p1 p2 p3) g4 g17 → wfP (P17 g17) → lv_has ls 5 [(0, .ref (Z.ad 5 i0)), (2, .int p2), (3, .int p3), (4, .int a10_4_3)] → W p l e rm_kmarkAgain s m args below meth c H17 k17 0 0 Q (F0 m 56 ls []) := by
            intro  g17 H17 k17 ls hF17 L17  hI17 hW hl
            replace hW := wfP_i (wfP_i (wfP_i (wfP_a hP17 g17) hF17) hI17) hW
            obtain ⟨v18, ev18, fv18⟩ := inc_ex a10_4_3 (1) (1 : Int32) (by decide)
            have rv18 : rg (1) (16777223) v18 := (rg_add ev18 q11 kc_1 rfl).1
            have tv18 := (rg_add ev18 q11 kc_1 rfl).2
            replace hW := (wfP_i (wfP_i (wfP_i (wfP_a hW v18) ev18) rv18) (w_iadd tv18 rfl (rg_i kc_1)))
            refine lv_iinc (v := v18) (lv' := [(4, .int v18), (0, .ref (Z.ad 5 i0)), (2, .int p2), (3, .int p3)]) hx hb dX5_markAgain_56 hl (k := 3) rfl fv18 (by decide) rfl (fun ls hl => ?_)
            refine lv_goto (tgt := 10) hx hb dX5_markAgain_59 (by decide) ?_
            exact ih4 _ (ms_up tv18 kc_1 q11 rfl rfl) v18 g17 _ _ ls (mFr.tr hF4 hF17 rfl) L17 (rg_w rv18 rfl) (mFi.tr hI4 hI17) hW (lv_sub hl [1, 2, 3, 0] rfl) rfl
          refine lv_icmp_ge (tgt := 56) hx hb dX5_markAgain_39 (by decide) (fun c39_19 => ?_) (fun c39_19 => ?_)
          · skip
            replace hW := wfP_i (wfP_l hW) (i_le c39_19 rfl rfl)
            exact j56_17  g4 _ _ ls mFr.rf L4 mFi.rf hW (lv_sub hl [0, 1, 2, 3] rfl)
          · skip
            replace hW := wfP_i (wfP_r hW) (i_lt (rg_nle c39_19) rfl rfl)
            have q20 : rg (-2147483648) (2147483646) v16 := (rg_lt (rg_nle c39_19) rv16 (rg_any p3)).1
            have q21 : rg (-2147483647) (2147483647) p3 := (rg_lt (rg_nle c39_19) rv16 (rg_any p3)).2
            refine lv_aload_n hx hb dX5_markAgain_42 rfl (lv_at hl 0 rfl) ?_
            refine c_getr (a := Z.ad 13 (2 * i0)) x L4 5 i0 2 hal0 rfl rfl (wk_in kf_X5_20) dX5_markAgain_43 ?_
            have al22 : Z.al 42 (2 * i0) := hz.2 42 (2 * i0) (show (2 * i0) < 4 * Z.n from (by omega))
            refine c_getr (a := Z.ad 42 (2 * i0)) x L4 13 (2 * i0) 4 al13 rfl rfl (wk_in kf_X5_115) dX5_markAgain_46 ?_
            refine lv_iload hx hb dX5_markAgain_49 (lv_at hl 3 rfl) ?_
            refine lv_bipush (v := 8) hx hb dX5_markAgain_51 (by decide) ?_
            refine lv_irem hx hb dX5_markAgain_53 (by decide) ?_
            refine m_top ev15 ?_
            refine lv_iconst (v := 1) hx hb dX5_markAgain_54 (by decide) ?_
            refine c_stz x L4 42 (2 * i0) 1344 al22 rfl rfl rv15 rfl (rg_w kc_1 rfl) (crj_1344 (rg_w kc_1 rfl)) dX5_markAgain_55 (fun g23 H23 k23 eg23 L23 => ?_)
            replace hW := (wfP_i (wfP_a hW g23) eg23)
            exact j56_17  g23 _ _ ls (mFr.upE mFr.rf eg23 rfl) L23 (mFi.up mFi.rf eg23 (mIn_at 0 rfl (Or.inr (mIx rv15 rfl)))) hW (lv_sub hl [0, 1, 2, 3] rfl)
  exact j10_4 _ v2 g _ _ ls mFr.rf L (rg_w rv2 rfl) mFi.rf hW (lv_sub hl [1, 3, 4, 0] rfl) rfl
theorem d_kmarkAgain (l : Launch) {G : cG} {Z : cZ} (X : Int) (g : mSt) (i0 : Nat) (p1 : Int32) (p2 : Int32) (p3 : Int32) (hX : 0 ≤ X ∧ X ≤ 2000000000) (hi0 : i0 < 2 * Z.n) {Φ : Int32 → mSt → Prop} (hW : wfP (wp_kmarkAgain Z i0 p1 p2 p3 g Φ)) : Met l yX5_markAgain (wk (Cond.code yX5_markAgain cX5_markAgain 5 none)) rm_kmarkAgain (va_Pc [.ref (Z.ad 5 i0), .int p1, .int p2, .int p3] (cPre G Z X g)) (cQv G Z X (fun g1 => wfP (Φ 0 g1) ∧ mFi (im_kmarkAgain Z i0 p1 p2 p3) g g1 ∧ (mFr [1344] g g1 ∧ True))) 0 0 (cAd Z) := by
  refine Met.ofW (cc := cX5_markAgain) (maxL := 5) (ret := none) (by decide) rfl ?_
  intro p e s m args below meth c s₁ B hml hv
  obtain ⟨rfl, hv⟩ := hv
  have hr := B.returns
  have hlocks := B.notSynchronized
  obtain ⟨x, L⟩ := c_start B rfl (fun w h => wk_in h) hv
  have hl := lv_entry ([.ref (Z.ad 5 i0), .int p1, .int p2, .int p3]) (n := 5) (Nat.le_of_ble_eq_true rfl)
  rw [lg_entry_eq]
  generalize (lg_sl ([.ref (Z.ad 5 i0), .int p1, .int p2, .int p3]) ++ List.replicate (5 - (lg_sl ([.ref (Z.ad 5 i0), .int p1, .int p2, .int p3])).length) Slot.unset).toArray = ls at hl ⊢
  exact v_kmarkAgain x hml L hX i0 p1 p2 p3 hi0 hW hl (fun pc' ls' g1 H1 locs1 hdg L hp => c_vret x L hr hlocks (Int.le_refl _) hp hdg)

def im_kstatusCame (Z : cZ) (i0 : Nat) (q1 : Nat) (p2 : Int32) (p3 : Int32) (p4 : Int32) : List (Nat × Nat × Nat) := [(166, i0, 1), (167, i0, 1), (169, i0, 1), (180, i0, 1), (1280, (2 * i0), 8192), (1344, (2 * i0), 8192)]
def po_kstatusCame (Z : cZ) (i0 : Nat) (q1 : Nat) (p2 : Int32) (p3 : Int32) (p4 : Int32) (g : mSt) (r : Int32) (g1 : mSt) : Prop := mFi (im_kstatusCame Z i0 q1 p2 p3 p4) g g1 ∧ mFr [166, 167, 169, 180, 1280, 1344] g g1 ∧ rg (0) (1) r ∧ True
def wp_kstatusCame (Z : cZ) (i0 : Nat) (q1 : Nat) (p2 : Int32) (p3 : Int32) (p4 : Int32) (g : mSt) (Φ : Int32 → mSt → Prop) : Prop :=
  ∀ (v1 : Int32), v1 = (4 : Int32) * p2 → rg (-8) (228) v1 → v1.toInt = p2.toInt * 4 → wp_kwordAt_16 Z q1 v1 g (fun (v4 : Int32) (g3 : mSt) => po_kwordAt_16 Z q1 v1 g v4 g3 → ∀ (v5 : Int32), v5 = g3 166 i0 → rg (0) (16777215) v5 → ((p3.toInt < v5.toInt) → Φ (0 : Int32) g3) ∧ ((v5.toInt ≤ p3.toInt) → ∀ (v9 : Int32), v9 = g3 165 i0 → rg (0) (16777223) v9 → ((v9.toInt < p3.toInt) → Φ (0 : Int32) g3) ∧ ((p3.toInt ≤ v9.toInt) → ∀ (v13 : Int32), v13 = g3 169 i0 → rg (-2147483648) (2147483647) v13 → ((v4.toInt < v13.toInt) → Φ (0 : Int32) g3) ∧ ((v13.toInt ≤ v4.toInt) → ∀ (v17 : Int32), v17 = g3 168 i0 → rg (-2147483648) (2147483647) v17 → ((v4.toInt ≤ v17.toInt) → ∃ P21 : Int32 → Int32 → mSt → Prop, (∀ (a51_6_19 a51_7_20 : Int32) (g21 : mSt), mFr [] g3 g21 → mFi (im_kstatusCame Z i0 q1 p2 p3 p4) g3 g21 → rg (0) (16777224) a51_6_19 → rg (0) (59) a51_7_20 → P21 a51_6_19 a51_7_20 g21 → ((p2.toInt ≤ a51_7_20.toInt) → wp_kacknowledge Z i0 p3 g21 (fun (_ : Int32) (g23 : mSt) => po_kacknowledge Z i0 p3 g21 0 g23 → ∀ (g24 : mSt), g24 = up2 g23 169 i0 v4 → ∀ (g25 : mSt), g25 = up2 g24 180 i0 p4 → ∃ P27 : Int32 → mSt → Prop, (∀ (a117_7_26 : Int32) (g27 : mSt), mFr [1344] g25 g27 → mFi (im_kstatusCame Z i0 q1 p2 p3 p4) g25 g27 → rg (0) (59) a117_7_26 → P27 a117_7_26 g27 → ∀ (v28 : Int32), v28 = a117_7_26 + (1 : Int32) → rg (1) (60) v28 → v28.toInt = a117_7_26.toInt + 1 → ((p2.toInt ≤ v28.toInt) → Φ (1 : Int32) g27) ∧ ((v28.toInt < p2.toInt) → ∀ (v34 : Int32), v34 = (4 : Int32) * a117_7_26 → rg (0) (220) v34 → v34.toInt = a117_7_26.toInt * 4 → wp_kwordAt_16 Z q1 v34 g27 (fun (v37 : Int32) (g36 : mSt) => po_kwordAt_16 Z q1 v34 g27 v37 g36 → ∀ (v38 : Int32), v38 = v34 + (4 : Int32) → rg (4) (224) v38 → v38.toInt = v34.toInt + 4 → wp_kwordAt_16 Z q1 v38 g36 (fun (v41 : Int32) (g40 : mSt) => po_kwordAt_16 Z q1 v38 g36 v41 g40 → wp_kmarkAgain Z i0 v37 v41 v4 g40 (fun (_ : Int32) (g42 : mSt) => po_kmarkAgain Z i0 v37 v41 v4 g40 0 g42 → ∀ (v43 : Int32), v43 = a117_7_26 + (2 : Int32) → rg (2) (57) v43 → v43.toInt = a117_7_26.toInt + 2 → P27 v43 g42))))) ∧ P27 (0 : Int32) g25)) ∧ ((a51_7_20.toInt < p2.toInt) → ∀ (v47 : Int32), v47 = (4 : Int32) * a51_7_20 → rg (0) (224) v47 → v47.toInt = a51_7_20.toInt * 4 → wp_kwordAt_16 Z q1 v47 g21 (fun (v50 : Int32) (g49 : mSt) => po_kwordAt_16 Z q1 v47 g21 v50 g49 → ((v50.toInt < a51_6_19.toInt) → Φ (0 : Int32) g49) ∧ ((a51_6_19.toInt ≤ v50.toInt) → ((v50.toInt ≤ v9.toInt) → ∀ (v57 : Int32), v57 = v50 + (1 : Int32) → rg (1) (16777224) v57 → v57.toInt = v50.toInt + 1 → ∀ (v59 : Int32), v59 = a51_7_20 + (1 : Int32) → rg (1) (57) v59 → v59.toInt = a51_7_20.toInt + 1 → P21 v57 v59 g49) ∧ ((v9.toInt < v50.toInt) → Φ (0 : Int32) g49))))) ∧ P21 p3 (0 : Int32) g3) ∧ ((v17.toInt < v4.toInt) → Φ (0 : Int32) g3)))))
set_option maxHeartbeats 4000000 in
set_option maxRecDepth 100000 in
theorem v_kstatusCame {p : Program} {l : Launch} {e : Env} {s : State} {m : MethodId} {args : Array Value} {below : List Frame} {meth : Method} {c : Code} {H : Heap} {locs : List Loc} {Q : State → Prop} {ls : Array Slot} {G : cG} {Z : cZ} {A : Nat → Prop} {g : mSt} {H0 : Heap} {X : Int} (x : cX p c cX5_statusCame s args (wk (Cond.code yX5_statusCame cX5_statusCame 9 (some .boolean))) m G Z A RX5 H0) (hml : c.maxLocals = 9) (L : cL G Z A H0 X g H locs) (hX : 0 ≤ X ∧ X ≤ 2000000000) (i0 : Nat) (q1 : Nat) (p2 : Int32) (p3 : Int32) (p4 : Int32) (hi0 : i0 < 2 * Z.n) (hq1 : Z.al 16 q1) (rp2 : rg (-2) (57) p2) (rp3 : rg (0) (16777215) p3) {Φ : Int32 → mSt → Prop} (hW : wfP (wp_kstatusCame Z i0 q1 p2 p3 p4 g Φ)) (hl : lv_has ls 9 [(0, .ref (Z.ad 5 i0)), (1, .ref (Z.ad 16 q1)), (2, .int p2), (3, .int p3), (4, .int p4)]) (hQ : ∀ (pc' : Nat) (ls' : Array Slot) (r : Int32) (g1 : mSt) (H1 : Heap) (locs1 : List Loc), decode cX5_statusCame pc' = .ok (.ireturn, 1) → cL G Z A H0 X g1 H1 locs1 → (wfP (Φ r g1) ∧ mFi (im_kstatusCame Z i0 q1 p2 p3 p4) g g1 ∧ (mFr [166, 167, 169, 180, 1280, 1344] g g1 ∧ rg (0) (1) r ∧ True)) → W p l e rm_kstatusCame s m args below meth c H1 locs1 0 0 Q (F0 m pc' ls' [.int r])) : W p l e rm_kstatusCame s m args below meth c H locs 0 0 Q (F0 m 0 ls []) := by
  have hx := x.1
  have hb := x.2.1
  have hz := x.2.2.2.2.2.2.2.1
  have hzn := hz.1
  have hal0 : Z.al 5 i0 := hz.2 5 i0 (show i0 < 2 * Z.n from hi0)
  have up2 : (-2 : Int) ≤ p2.toInt ∧ p2.toInt ≤ 57 := rp2
  have up3 : (0 : Int) ≤ p3.toInt ∧ p3.toInt ≤ 16777215 := rp3
  have up4 : (-2147483648 : Int) ≤ p4.toInt ∧ p4.toInt ≤ 2147483647 := (rg_any p4)
  refine lv_aload_n hx hb dX5_statusCame_0 rfl (lv_at hl 1 rfl) ?_
  refine lv_iconst (v := 4) hx hb dX5_statusCame_1 (by decide) ?_
  refine lv_iload_n hx hb dX5_statusCame_2 rfl (lv_at hl 2 rfl) ?_
  refine lv_imul hx hb dX5_statusCame_3 ?_
  refine lv_topi (fun v1 ev1 => ?_)
  have rv1 : rg (-8) (228) v1 := (rg_mulL ev1 kc_4 rp2 rfl).1
  replace hW := (wfP_i (wfP_i (wfP_i (wfP_a hW v1) ev1) rv1) ((rg_mulL ev1 kc_4 rp2 rfl).2))
  have tv1 := (rg_mulL ev1 kc_4 rp2 rfl).2
  have y2 : (4 : Int32).toInt = 4 := by decide
  have uv1 : (-8 : Int) ≤ v1.toInt ∧ v1.toInt ≤ 228 := rv1
  refine c_siN (As := [.ref (Z.ad 16 q1), .int v1]) (rest := []) x hml L (d_kwordAt_16 l X g q1 v1 hX hq1 (rg_w rv1 rfl) hW) (goodC (wk_all kd_X11_wordAt)) (List.mem_of_getElem? (i := 12) rfl) (wk_in kt_X11_wordAt) (wk_in kn_X11) rfl ⟨rfl, rfl⟩ hd_kwordAt_16 ⟨Nat.le_of_ble_eq_true rfl, Nat.le_of_ble_eq_true rfl⟩ rfl hl.1 rfl (lv_room (Nat.le_of_ble_eq_true rfl)) dX5_statusCame_4 (fun v4 g3 H3 k3 hp3 L3 => ?_)
  obtain ⟨hW, hi3, hp3⟩ := hp3
  replace hW := wfP_i hW ⟨hi3, hp3⟩
  have rv4 : rg (-2147483648) (2147483647) v4 := hp3.2.1
  have uv4 : (-2147483648 : Int) ≤ v4.toInt ∧ v4.toInt ≤ 2147483647 := rv4
  refine lv_istore (lv' := [(5, .int v4), (0, .ref (Z.ad 5 i0)), (1, .ref (Z.ad 16 q1)), (2, .int p2), (3, .int p3), (4, .int p4)]) hx hb dX5_statusCame_7 hl (by decide) rfl (fun ls hl => ?_)
  refine lv_iload_n hx hb dX5_statusCame_9 rfl (lv_at hl 4 rfl) ?_
  refine lv_aload_n hx hb dX5_statusCame_10 rfl (lv_at hl 1 rfl) ?_
  refine c_geti x L3 5 i0 6 166 hal0 rfl rfl (wk_in kf_X5_37) dX5_statusCame_11 (fun v5 ev5 wv5 => ?_)
  have rv5 : rg (0) (16777215) v5 := clj_166 wv5
  replace hW := (wfP_i (wfP_i (wfP_a hW v5) ev5) rv5)
  have uv5 : (0 : Int) ≤ v5.toInt ∧ v5.toInt ≤ 16777215 := rv5
  refine lv_icmp_lt (tgt := 43) hx hb dX5_statusCame_14 (by decide) (fun c14_6 => ?_) (fun c14_6 => ?_)
  · skip
    replace hW := wfP_i (wfP_l hW) (i_lt c14_6 rfl rfl)
    have ic14_6 := Int32.lt_iff_toInt_lt.mp c14_6
    have q7 : rg (0) (16777214) p3 := (rg_lt c14_6 rp3 rv5).1
    have uq7 : (0 : Int) ≤ p3.toInt ∧ p3.toInt ≤ 16777214 := q7
    have q8 : rg (1) (16777215) v5 := (rg_lt c14_6 rp3 rv5).2
    have uq8 : (1 : Int) ≤ v5.toInt ∧ v5.toInt ≤ 16777215 := q8
    refine lv_iconst (v := 0) hx hb dX5_statusCame_43 (by decide) ?_
    exact hQ _ _ (0 : Int32) _ _ _ dX5_statusCame_44 L3 ⟨hW, (mFi.sub mFi.rf hi3 mSub_nil), (mFr.tr mFr.rf hp3.1 rfl), rg_w kc_0 rfl, trivial⟩
  · skip
    replace hW := wfP_i (wfP_r hW) (i_le (rg_nlt c14_6) rfl rfl)
    have ic14_6 := Int32.le_iff_toInt_le.mp (rg_nlt c14_6)
    refine lv_iload_n hx hb dX5_statusCame_17 rfl (lv_at hl 4 rfl) ?_
    refine lv_aload_n hx hb dX5_statusCame_18 rfl (lv_at hl 1 rfl) ?_
    refine c_geti x L3 5 i0 5 165 hal0 rfl rfl (wk_in kf_X5_34) dX5_statusCame_19 (fun v9 ev9 wv9 => ?_)
    have rv9 : rg (0) (16777223) v9 := clj_165 wv9
    replace hW := (wfP_i (wfP_i (wfP_a hW v9) ev9) rv9)
    have uv9 : (0 : Int) ≤ v9.toInt ∧ v9.toInt ≤ 16777223 := rv9
    have sv9 : v9.toInt = (g 165 i0).toInt := congrArg Int32.toInt (ev9.trans (congrFun ((show mFr [166, 167, 169, 180, 1280, 1344] g g3 from (mFr.tr mFr.rf hp3.1 rfl)).at 165 rfl) _))
    refine lv_icmp_gt (tgt := 43) hx hb dX5_statusCame_22 (by decide) (fun c22_10 => ?_) (fun c22_10 => ?_)
    · skip
      replace hW := wfP_i (wfP_l hW) (i_lt c22_10 rfl rfl)
      have ic22_10 := Int32.lt_iff_toInt_lt.mp c22_10
      have q11 : rg (0) (16777214) v9 := (rg_lt c22_10 rv9 rp3).1
      have uq11 : (0 : Int) ≤ v9.toInt ∧ v9.toInt ≤ 16777214 := q11
      have q12 : rg (1) (16777215) p3 := (rg_lt c22_10 rv9 rp3).2
      have uq12 : (1 : Int) ≤ p3.toInt ∧ p3.toInt ≤ 16777215 := q12
      refine lv_iconst (v := 0) hx hb dX5_statusCame_43 (by decide) ?_
      exact hQ _ _ (0 : Int32) _ _ _ dX5_statusCame_44 L3 ⟨hW, (mFi.sub mFi.rf hi3 mSub_nil), (mFr.tr mFr.rf hp3.1 rfl), rg_w kc_0 rfl, trivial⟩
    · skip
      replace hW := wfP_i (wfP_r hW) (i_le (rg_nlt c22_10) rfl rfl)
      have ic22_10 := Int32.le_iff_toInt_le.mp (rg_nlt c22_10)
      refine lv_iload hx hb dX5_statusCame_25 (lv_at hl 0 rfl) ?_
      refine lv_aload_n hx hb dX5_statusCame_27 rfl (lv_at hl 1 rfl) ?_
      refine c_geti x L3 5 i0 9 169 hal0 rfl rfl (wk_in kf_X5_46) dX5_statusCame_28 (fun v13 ev13 wv13 => ?_)
      have rv13 : rg (-2147483648) (2147483647) v13 := rg_any v13
      replace hW := (wfP_i (wfP_i (wfP_a hW v13) ev13) rv13)
      have uv13 : (-2147483648 : Int) ≤ v13.toInt ∧ v13.toInt ≤ 2147483647 := rv13
      refine lv_icmp_lt (tgt := 43) hx hb dX5_statusCame_31 (by decide) (fun c31_14 => ?_) (fun c31_14 => ?_)
      · skip
        replace hW := wfP_i (wfP_l hW) (i_lt c31_14 rfl rfl)
        have ic31_14 := Int32.lt_iff_toInt_lt.mp c31_14
        have q15 : rg (-2147483648) (2147483646) v4 := (rg_lt c31_14 rv4 rv13).1
        have uq15 : (-2147483648 : Int) ≤ v4.toInt ∧ v4.toInt ≤ 2147483646 := q15
        have q16 : rg (-2147483647) (2147483647) v13 := (rg_lt c31_14 rv4 rv13).2
        have uq16 : (-2147483647 : Int) ≤ v13.toInt ∧ v13.toInt ≤ 2147483647 := q16
        refine lv_iconst (v := 0) hx hb dX5_statusCame_43 (by decide) ?_
        exact hQ _ _ (0 : Int32) _ _ _ dX5_statusCame_44 L3 ⟨hW, (mFi.sub mFi.rf hi3 mSub_nil), (mFr.tr mFr.rf hp3.1 rfl), rg_w kc_0 rfl, trivial⟩
      · skip
        replace hW := wfP_i (wfP_r hW) (i_le (rg_nlt c31_14) rfl rfl)
        have ic31_14 := Int32.le_iff_toInt_le.mp (rg_nlt c31_14)
        refine lv_iload hx hb dX5_statusCame_34 (lv_at hl 0 rfl) ?_
        refine lv_aload_n hx hb dX5_statusCame_36 rfl (lv_at hl 1 rfl) ?_
        refine c_geti x L3 5 i0 8 168 hal0 rfl rfl (wk_in kf_X5_43) dX5_statusCame_37 (fun v17 ev17 wv17 => ?_)
        have rv17 : rg (-2147483648) (2147483647) v17 := rg_any v17
        replace hW := (wfP_i (wfP_i (wfP_a hW v17) ev17) rv17)
        have uv17 : (-2147483648 : Int) ≤ v17.toInt ∧ v17.toInt ≤ 2147483647 := rv17
        have sv17 : v17.toInt = (g 168 i0).toInt := congrArg Int32.toInt (ev17.trans (congrFun ((show mFr [166, 167, 169, 180, 1280, 1344] g g3 from (mFr.tr mFr.rf hp3.1 rfl)).at 168 rfl) _))
        refine lv_icmp_le (tgt := 45) hx hb dX5_statusCame_40 (by decide) (fun c40_18 => ?_) (fun c40_18 => ?_)
        · skip
          replace hW := wfP_i (wfP_l hW) (i_le c40_18 rfl rfl)
          have ic40_18 := Int32.le_iff_toInt_le.mp c40_18
          refine lv_iload_n hx hb dX5_statusCame_45 rfl (lv_at hl 4 rfl) ?_
          refine lv_istore (lv' := [(6, .int p3), (5, .int v4), (0, .ref (Z.ad 5 i0)), (1, .ref (Z.ad 16 q1)), (2, .int p2), (3, .int p3), (4, .int p4)]) hx hb dX5_statusCame_46 hl (by decide) rfl (fun ls hl => ?_)
          refine lv_iconst (v := 0) hx hb dX5_statusCame_48 (by decide) ?_
          refine lv_istore (lv' := [(7, .int (0 : Int32)), (6, .int p3), (5, .int v4), (0, .ref (Z.ad 5 i0)), (1, .ref (Z.ad 16 q1)), (2, .int p2), (3, .int p3), (4, .int p4)]) hx hb dX5_statusCame_49 hl (by decide) rfl (fun ls hl => ?_)
          obtain ⟨P21, hP21, hW⟩ := wfP_ex hW
          have j51_21 : ∀ (n : Nat) (a51_6_19 a51_7_20 : Int32) (g21 : mSt) (H21 : Heap) (k21 : List Loc) (ls : Array Slot), mFr [] g3 g21 → cL G Z A H0 X g21 H21 k21 → rg (0) (16777224) a51_6_19 → rg (0) (59) a51_7_20 → mFi (im_kstatusCame Z i0 q1 p2 p3 p4) g3 g21 → wfP (P21 a51_6_19 a51_7_20 g21) → lv_has ls 9 [(0, .ref (Z.ad 5 i0)), (1, .ref (Z.ad 16 q1)), (2, .int p2), (3, .int p3), (4, .int p4), (5, .int v4), (6, .int a51_6_19), (7, .int a51_7_20)] → ((59 : Int) - a51_7_20.toInt).toNat = n → W p l e rm_kstatusCame s m args below meth c H21 k21 0 0 Q (F0 m 51 ls []) := by
            intro n
            induction n using Nat.strongRecOn with
            | _ n ih21 =>
              intro a51_6_19 a51_7_20 g21 H21 k21 ls hF21 L21 ra51_6_19 ra51_7_20 hI21 hW hl hn21
              subst hn21
              replace hW := wfP_i (wfP_i (wfP_i (wfP_i (wfP_i (wfP_a (wfP_a (wfP_a hP21 a51_6_19) a51_7_20) g21) hF21) hI21) ra51_6_19) ra51_7_20) hW
              have ua51_6_19 : (0 : Int) ≤ a51_6_19.toInt ∧ a51_6_19.toInt ≤ 16777224 := ra51_6_19
              have ua51_7_20 : (0 : Int) ≤ a51_7_20.toInt ∧ a51_7_20.toInt ≤ 59 := ra51_7_20
              refine lv_iload hx hb dX5_statusCame_51 (lv_at hl 7 rfl) ?_
              refine lv_iload_n hx hb dX5_statusCame_53 rfl (lv_at hl 2 rfl) ?_
              refine lv_icmp_ge (tgt := 97) hx hb dX5_statusCame_54 (by decide) (fun c54_22 => ?_) (fun c54_22 => ?_)
              · skip
                replace hW := wfP_i (wfP_l hW) (i_le c54_22 rfl rfl)
                have ic54_22 := Int32.le_iff_toInt_le.mp c54_22
                refine lv_aload_n hx hb dX5_statusCame_97 rfl (lv_at hl 0 rfl) ?_
                refine lv_iload_n hx hb dX5_statusCame_98 rfl (lv_at hl 3 rfl) ?_
                refine c_cv (As := [.int p3]) (rest := []) x hml L21 5 i0 hal0 rfl (d_kacknowledge l X g21 i0 p3 hX (show i0 < 2 * Z.n from (by omega)) (rg_w rp3 rfl) hW) (wk_V kd_X5_acknowledge kl_X5_208 ki_X5_acknowledge ks_X5_X5_acknowledge kn_X5) rfl ⟨rfl, rfl⟩ hd_kacknowledge ⟨Nat.le_of_ble_eq_true rfl, Nat.le_of_ble_eq_true rfl⟩ rfl hl.1 rfl (lv_room (Nat.le_of_ble_eq_true rfl)) dX5_statusCame_99 (fun  g23 H23 k23 hp23 L23 => ?_)
                obtain ⟨hW, hi23, hp23⟩ := hp23
                replace hW := wfP_i hW ⟨hi23, hp23⟩
                refine lv_aload_n hx hb dX5_statusCame_102 rfl (lv_at hl 0 rfl) ?_
                refine lv_iload hx hb dX5_statusCame_103 (lv_at hl 5 rfl) ?_
                refine c_puti x L23 5 i0 9 169 hal0 rfl rfl ⟨rfl, by decide +kernel⟩ (wk_in kf_X5_46) dX5_statusCame_105 (rg_any v4) (fun g24 H24 k24 eg24 L24 => ?_)
                replace hW := (wfP_i (wfP_a hW g24) eg24)
                refine lv_aload_n hx hb dX5_statusCame_108 rfl (lv_at hl 0 rfl) ?_
                refine lv_iload hx hb dX5_statusCame_109 (lv_at hl 4 rfl) ?_
                refine c_puti x L24 5 i0 20 180 hal0 rfl rfl ⟨rfl, by decide +kernel⟩ (wk_in kf_X5_81) dX5_statusCame_111 (rg_any p4) (fun g25 H25 k25 eg25 L25 => ?_)
                replace hW := (wfP_i (wfP_a hW g25) eg25)
                refine lv_iconst (v := 0) hx hb dX5_statusCame_114 (by decide) ?_
                refine lv_istore (lv' := [(7, .int (0 : Int32)), (0, .ref (Z.ad 5 i0)), (1, .ref (Z.ad 16 q1)), (2, .int p2), (3, .int p3), (4, .int p4), (5, .int v4), (6, .int a51_6_19)]) hx hb dX5_statusCame_115 hl (by decide) rfl (fun ls hl => ?_)
                obtain ⟨P27, hP27, hW⟩ := wfP_ex hW
                have j117_27 : ∀ (n : Nat) (a117_7_26 : Int32) (g27 : mSt) (H27 : Heap) (k27 : List Loc) (ls : Array Slot), mFr [1344] g25 g27 → cL G Z A H0 X g27 H27 k27 → rg (0) (59) a117_7_26 → mFi (im_kstatusCame Z i0 q1 p2 p3 p4) g25 g27 → wfP (P27 a117_7_26 g27) → lv_has ls 9 [(0, .ref (Z.ad 5 i0)), (1, .ref (Z.ad 16 q1)), (2, .int p2), (5, .int v4), (7, .int a117_7_26)] → ((59 : Int) - a117_7_26.toInt).toNat = n → W p l e rm_kstatusCame s m args below meth c H27 k27 0 0 Q (F0 m 117 ls []) := by
                  intro n
                  induction n using Nat.strongRecOn with
                  | _ n ih27 =>
                    intro a117_7_26 g27 H27 k27 ls hF27 L27 ra117_7_26 hI27 hW hl hn27
                    subst hn27
                    replace hW := wfP_i (wfP_i (wfP_i (wfP_i (wfP_a (wfP_a hP27 a117_7_26) g27) hF27) hI27) ra117_7_26) hW
                    have ua117_7_26 : (0 : Int) ≤ a117_7_26.toInt ∧ a117_7_26.toInt ≤ 59 := ra117_7_26
                    refine lv_iload hx hb dX5_statusCame_117 (lv_at hl 4 rfl) ?_
                    refine lv_iconst (v := 1) hx hb dX5_statusCame_119 (by decide) ?_
                    refine lv_iadd hx hb dX5_statusCame_120 ?_
                    refine lv_topi (fun v28 ev28 => ?_)
                    have rv28 : rg (1) (60) v28 := (rg_add ev28 ra117_7_26 kc_1 rfl).1
                    replace hW := (wfP_i (wfP_i (wfP_i (wfP_a hW v28) ev28) rv28) (w_iadd ((rg_add ev28 ra117_7_26 kc_1 rfl).2) rfl (rg_i kc_1)))
                    have dv28 := (rg_add ev28 ra117_7_26 kc_1 rfl).2
                    have tv28 := (rg_add ev28 ra117_7_26 kc_1 rfl).2
                    have y29 : (1 : Int32).toInt = 1 := by decide
                    have uv28 : (1 : Int) ≤ v28.toInt ∧ v28.toInt ≤ 60 := rv28
                    refine lv_iload_n hx hb dX5_statusCame_121 rfl (lv_at hl 2 rfl) ?_
                    refine lv_icmp_ge (tgt := 155) hx hb dX5_statusCame_122 (by decide) (fun c122_30 => ?_) (fun c122_30 => ?_)
                    · skip
                      replace hW := wfP_i (wfP_l hW) (i_le c122_30 rfl rfl)
                      have ic122_30 := Int32.le_iff_toInt_le.mp c122_30
                      refine lv_iconst (v := 1) hx hb dX5_statusCame_155 (by decide) ?_
                      exact hQ _ _ (1 : Int32) _ _ _ dX5_statusCame_156 L27 ⟨hW, (mFi.tr (mFi.up (mFi.up (mFi.sub (mFi.tr (mFi.sub mFi.rf hi3 mSub_nil) hI21) hi23 (mSub_eq 0 rfl (mSub_eq 1 rfl (mSub_eq 4 rfl (mSub_eq 5 rfl mSub_nil))))) eg24 (mIn_at 2 rfl (Or.inr (Nat.div_one _)))) eg25 (mIn_at 3 rfl (Or.inr (Nat.div_one _)))) hI27), (mFr.tr (mFr.upE (mFr.upE (mFr.tr (mFr.tr (mFr.tr mFr.rf hp3.1 rfl) hF21 rfl) hp23.1 rfl) eg24 rfl) eg25 rfl) hF27 rfl), rg_w kc_1 rfl, trivial⟩
                    · skip
                      replace hW := wfP_i (wfP_r hW) (i_lt (rg_nle c122_30) rfl rfl)
                      have ic122_30 := Int32.lt_iff_toInt_lt.mp (rg_nle c122_30)
                      have q31 : rg (1) (56) v28 := (rg_lt (rg_nle c122_30) rv28 rp2).1
                      have uq31 : (1 : Int) ≤ v28.toInt ∧ v28.toInt ≤ 56 := q31
                      have q32 : rg (0) (55) a117_7_26 := rg_back dv28 kc_1 q31
                      have q33 : rg (2) (57) p2 := (rg_lt (rg_nle c122_30) rv28 rp2).2
                      have uq33 : (2 : Int) ≤ p2.toInt ∧ p2.toInt ≤ 57 := q33
                      refine lv_aload_n hx hb dX5_statusCame_125 rfl (lv_at hl 0 rfl) ?_
                      refine lv_aload_n hx hb dX5_statusCame_126 rfl (lv_at hl 1 rfl) ?_
                      refine lv_iconst (v := 4) hx hb dX5_statusCame_127 (by decide) ?_
                      refine lv_iload hx hb dX5_statusCame_128 (lv_at hl 4 rfl) ?_
                      refine lv_imul hx hb dX5_statusCame_130 ?_
                      refine lv_topi (fun v34 ev34 => ?_)
                      have rv34 : rg (0) (220) v34 := (rg_mulL ev34 kc_4 q32 rfl).1
                      replace hW := (wfP_i (wfP_i (wfP_i (wfP_a hW v34) ev34) rv34) ((rg_mulL ev34 kc_4 q32 rfl).2))
                      have tv34 := (rg_mulL ev34 kc_4 q32 rfl).2
                      have y35 : (4 : Int32).toInt = 4 := by decide
                      have uv34 : (0 : Int) ≤ v34.toInt ∧ v34.toInt ≤ 220 := rv34
                      refine c_siN (As := [.ref (Z.ad 16 q1), .int v34]) (rest := [.ref (Z.ad 5 i0)]) x hml L27 (d_kwordAt_16 l X g27 q1 v34 hX hq1 (rg_w rv34 rfl) hW) (goodC (wk_all kd_X11_wordAt)) (List.mem_of_getElem? (i := 12) rfl) (wk_in kt_X11_wordAt) (wk_in kn_X11) rfl ⟨rfl, rfl⟩ hd_kwordAt_16 ⟨Nat.le_of_ble_eq_true rfl, Nat.le_of_ble_eq_true rfl⟩ rfl hl.1 rfl (lv_room (Nat.le_of_ble_eq_true rfl)) dX5_statusCame_131 (fun v37 g36 H36 k36 hp36 L36 => ?_)
                      obtain ⟨hW, hi36, hp36⟩ := hp36
                      replace hW := wfP_i hW ⟨hi36, hp36⟩
                      have rv37 : rg (-2147483648) (2147483647) v37 := hp36.2.1
                      have uv37 : (-2147483648 : Int) ≤ v37.toInt ∧ v37.toInt ≤ 2147483647 := rv37
                      refine lv_aload_n hx hb dX5_statusCame_134 rfl (lv_at hl 1 rfl) ?_
                      refine lv_iconst (v := 4) hx hb dX5_statusCame_135 (by decide) ?_
                      refine lv_iload hx hb dX5_statusCame_136 (lv_at hl 4 rfl) ?_
                      refine lv_imul hx hb dX5_statusCame_138 ?_
                      refine m_top ev34 ?_
                      refine lv_iconst (v := 4) hx hb dX5_statusCame_139 (by decide) ?_
                      refine lv_iadd hx hb dX5_statusCame_140 ?_
                      refine lv_topi (fun v38 ev38 => ?_)
                      have rv38 : rg (4) (224) v38 := (rg_add ev38 rv34 kc_4 rfl).1
                      replace hW := (wfP_i (wfP_i (wfP_i (wfP_a hW v38) ev38) rv38) (w_iadd ((rg_add ev38 rv34 kc_4 rfl).2) rfl (rg_i kc_4)))
                      have dv38 := (rg_add ev38 rv34 kc_4 rfl).2
                      have tv38 := (rg_add ev38 rv34 kc_4 rfl).2
                      have y39 : (4 : Int32).toInt = 4 := by decide
                      have uv38 : (4 : Int) ≤ v38.toInt ∧ v38.toInt ≤ 224 := rv38
                      refine c_siN (As := [.ref (Z.ad 16 q1), .int v38]) (rest := [.int v37, .ref (Z.ad 5 i0)]) x hml L36 (d_kwordAt_16 l X g36 q1 v38 hX hq1 (rg_w rv38 rfl) hW) (goodC (wk_all kd_X11_wordAt)) (List.mem_of_getElem? (i := 12) rfl) (wk_in kt_X11_wordAt) (wk_in kn_X11) rfl ⟨rfl, rfl⟩ hd_kwordAt_16 ⟨Nat.le_of_ble_eq_true rfl, Nat.le_of_ble_eq_true rfl⟩ rfl hl.1 rfl (lv_room (Nat.le_of_ble_eq_true rfl)) dX5_statusCame_141 (fun v41 g40 H40 k40 hp40 L40 => ?_)
                      obtain ⟨hW, hi40, hp40⟩ := hp40
                      replace hW := wfP_i hW ⟨hi40, hp40⟩
                      have rv41 : rg (-2147483648) (2147483647) v41 := hp40.2.1
                      have uv41 : (-2147483648 : Int) ≤ v41.toInt ∧ v41.toInt ≤ 2147483647 := rv41
                      refine lv_iload hx hb dX5_statusCame_144 (lv_at hl 3 rfl) ?_
                      refine c_cv (As := [.int v37, .int v41, .int v4]) (rest := []) x hml L40 5 i0 hal0 rfl (d_kmarkAgain l X g40 i0 v37 v41 v4 hX (show i0 < 2 * Z.n from (by omega)) hW) (wk_V kd_X5_markAgain kl_X5_211 ki_X5_markAgain ks_X5_X5_markAgain kn_X5) rfl ⟨rfl, rfl⟩ hd_kmarkAgain ⟨Nat.le_of_ble_eq_true rfl, Nat.le_of_ble_eq_true rfl⟩ rfl hl.1 rfl (lv_room (Nat.le_of_ble_eq_true rfl)) dX5_statusCame_146 (fun  g42 H42 k42 hp42 L42 => ?_)
                      obtain ⟨hW, hi42, hp42⟩ := hp42
                      replace hW := wfP_i hW ⟨hi42, hp42⟩
                      obtain ⟨v43, ev43, fv43⟩ := inc_ex a117_7_26 (2) (2 : Int32) (by decide)
                      have rv43 : rg (2) (57) v43 := (rg_add ev43 q32 kc_2 rfl).1
                      have tv43 := (rg_add ev43 q32 kc_2 rfl).2
                      have yv43 : (2 : Int32).toInt = 2 := by decide
                      replace hW := (wfP_i (wfP_i (wfP_i (wfP_a hW v43) ev43) rv43) (w_iadd tv43 rfl (rg_i kc_2)))
                      refine lv_iinc (v := v43) (lv' := [(7, .int v43), (0, .ref (Z.ad 5 i0)), (1, .ref (Z.ad 16 q1)), (2, .int p2), (5, .int v4)]) hx hb dX5_statusCame_149 hl (k := 4) rfl fv43 (by decide) rfl (fun ls hl => ?_)
                      refine lv_goto (tgt := 117) hx hb dX5_statusCame_152 (by decide) ?_
                      exact ih27 _ (ms_up tv43 kc_2 q32 rfl rfl) v43 g42 _ _ ls (mFr.tr (mFr.tr (mFr.tr hF27 hp36.1 rfl) hp40.1 rfl) hp42.1 rfl) L42 (rg_w rv43 rfl) (mFi.sub (mFi.sub (mFi.sub hI27 hi36 mSub_nil) hi40 mSub_nil) hi42 (mSub_eq 5 rfl mSub_nil)) hW (lv_sub hl [1, 2, 3, 4, 0] rfl) rfl
                have y44 : (0 : Int32).toInt = 0 := by decide
                exact j117_27 _ (0 : Int32) g25 _ _ ls mFr.rf L25 (rg_w kc_0 rfl) mFi.rf hW (lv_sub hl [1, 2, 3, 6, 0] rfl) rfl
              · skip
                replace hW := wfP_i (wfP_r hW) (i_lt (rg_nle c54_22) rfl rfl)
                have ic54_22 := Int32.lt_iff_toInt_lt.mp (rg_nle c54_22)
                have q45 : rg (0) (56) a51_7_20 := (rg_lt (rg_nle c54_22) ra51_7_20 rp2).1
                have uq45 : (0 : Int) ≤ a51_7_20.toInt ∧ a51_7_20.toInt ≤ 56 := q45
                have q46 : rg (1) (57) p2 := (rg_lt (rg_nle c54_22) ra51_7_20 rp2).2
                have uq46 : (1 : Int) ≤ p2.toInt ∧ p2.toInt ≤ 57 := q46
                refine lv_aload_n hx hb dX5_statusCame_57 rfl (lv_at hl 1 rfl) ?_
                refine lv_iconst (v := 4) hx hb dX5_statusCame_58 (by decide) ?_
                refine lv_iload hx hb dX5_statusCame_59 (lv_at hl 7 rfl) ?_
                refine lv_imul hx hb dX5_statusCame_61 ?_
                refine lv_topi (fun v47 ev47 => ?_)
                have rv47 : rg (0) (224) v47 := (rg_mulL ev47 kc_4 q45 rfl).1
                replace hW := (wfP_i (wfP_i (wfP_i (wfP_a hW v47) ev47) rv47) ((rg_mulL ev47 kc_4 q45 rfl).2))
                have tv47 := (rg_mulL ev47 kc_4 q45 rfl).2
                have y48 : (4 : Int32).toInt = 4 := by decide
                have uv47 : (0 : Int) ≤ v47.toInt ∧ v47.toInt ≤ 224 := rv47
                refine c_siN (As := [.ref (Z.ad 16 q1), .int v47]) (rest := []) x hml L21 (d_kwordAt_16 l X g21 q1 v47 hX hq1 (rg_w rv47 rfl) hW) (goodC (wk_all kd_X11_wordAt)) (List.mem_of_getElem? (i := 12) rfl) (wk_in kt_X11_wordAt) (wk_in kn_X11) rfl ⟨rfl, rfl⟩ hd_kwordAt_16 ⟨Nat.le_of_ble_eq_true rfl, Nat.le_of_ble_eq_true rfl⟩ rfl hl.1 rfl (lv_room (Nat.le_of_ble_eq_true rfl)) dX5_statusCame_62 (fun v50 g49 H49 k49 hp49 L49 => ?_)
                obtain ⟨hW, hi49, hp49⟩ := hp49
                replace hW := wfP_i hW ⟨hi49, hp49⟩
                have rv50 : rg (-2147483648) (2147483647) v50 := hp49.2.1
                have uv50 : (-2147483648 : Int) ≤ v50.toInt ∧ v50.toInt ≤ 2147483647 := rv50
                refine lv_istore (lv' := [(8, .int v50), (0, .ref (Z.ad 5 i0)), (1, .ref (Z.ad 16 q1)), (2, .int p2), (3, .int p3), (4, .int p4), (5, .int v4), (6, .int a51_6_19), (7, .int a51_7_20)]) hx hb dX5_statusCame_65 hl (by decide) rfl (fun ls hl => ?_)
                refine lv_iload hx hb dX5_statusCame_67 (lv_at hl 0 rfl) ?_
                refine lv_iload hx hb dX5_statusCame_69 (lv_at hl 7 rfl) ?_
                refine lv_icmp_lt (tgt := 83) hx hb dX5_statusCame_71 (by decide) (fun c71_51 => ?_) (fun c71_51 => ?_)
                · skip
                  replace hW := wfP_i (wfP_l hW) (i_lt c71_51 rfl rfl)
                  have ic71_51 := Int32.lt_iff_toInt_lt.mp c71_51
                  have q52 : rg (-2147483648) (16777223) v50 := (rg_lt c71_51 rv50 ra51_6_19).1
                  have uq52 : (-2147483648 : Int) ≤ v50.toInt ∧ v50.toInt ≤ 16777223 := q52
                  refine lv_iconst (v := 0) hx hb dX5_statusCame_83 (by decide) ?_
                  exact hQ _ _ (0 : Int32) _ _ _ dX5_statusCame_84 L49 ⟨hW, (mFi.sub (mFi.tr (mFi.sub mFi.rf hi3 mSub_nil) hI21) hi49 mSub_nil), (mFr.tr (mFr.tr (mFr.tr mFr.rf hp3.1 rfl) hF21 rfl) hp49.1 rfl), rg_w kc_0 rfl, trivial⟩
                · skip
                  replace hW := wfP_i (wfP_r hW) (i_le (rg_nlt c71_51) rfl rfl)
                  have ic71_51 := Int32.le_iff_toInt_le.mp (rg_nlt c71_51)
                  have q53 : rg (0) (2147483647) v50 := (rg_le (rg_nlt c71_51) ra51_6_19 rv50).2
                  have uq53 : (0 : Int) ≤ v50.toInt ∧ v50.toInt ≤ 2147483647 := q53
                  refine lv_iload hx hb dX5_statusCame_74 (lv_at hl 0 rfl) ?_
                  refine lv_aload_n hx hb dX5_statusCame_76 rfl (lv_at hl 1 rfl) ?_
                  refine c_geti x L49 5 i0 5 165 hal0 rfl rfl (wk_in kf_X5_34) dX5_statusCame_77 (fun v54 ev54 wv54 => ?_)
                  refine m_top (((mm_fr (mm_fr ev9 hF21 rfl) hp49.1 rfl)).trans ev54.symm) ?_
                  refine lv_icmp_le (tgt := 85) hx hb dX5_statusCame_80 (by decide) (fun c80_55 => ?_) (fun c80_55 => ?_)
                  · skip
                    replace hW := wfP_i (wfP_l hW) (i_le c80_55 rfl rfl)
                    have ic80_55 := Int32.le_iff_toInt_le.mp c80_55
                    have q56 : rg (0) (16777223) v50 := (rg_le c80_55 q53 rv9).1
                    have uq56 : (0 : Int) ≤ v50.toInt ∧ v50.toInt ≤ 16777223 := q56
                    refine lv_iload hx hb dX5_statusCame_85 (lv_at hl 0 rfl) ?_
                    refine lv_iconst (v := 1) hx hb dX5_statusCame_87 (by decide) ?_
                    refine lv_iadd hx hb dX5_statusCame_88 ?_
                    refine lv_topi (fun v57 ev57 => ?_)
                    have rv57 : rg (1) (16777224) v57 := (rg_add ev57 q56 kc_1 rfl).1
                    replace hW := (wfP_i (wfP_i (wfP_i (wfP_a hW v57) ev57) rv57) (w_iadd ((rg_add ev57 q56 kc_1 rfl).2) rfl (rg_i kc_1)))
                    have dv57 := (rg_add ev57 q56 kc_1 rfl).2
                    have tv57 := (rg_add ev57 q56 kc_1 rfl).2
                    have y58 : (1 : Int32).toInt = 1 := by decide
                    have uv57 : (1 : Int) ≤ v57.toInt ∧ v57.toInt ≤ 16777224 := rv57
                    refine lv_istore (lv' := [(6, .int v57), (8, .int v50), (0, .ref (Z.ad 5 i0)), (1, .ref (Z.ad 16 q1)), (2, .int p2), (3, .int p3), (4, .int p4), (5, .int v4), (7, .int a51_7_20)]) hx hb dX5_statusCame_89 hl (by decide) rfl (fun ls hl => ?_)
                    obtain ⟨v59, ev59, fv59⟩ := inc_ex a51_7_20 (1) (1 : Int32) (by decide)
                    have rv59 : rg (1) (57) v59 := (rg_add ev59 q45 kc_1 rfl).1
                    have tv59 := (rg_add ev59 q45 kc_1 rfl).2
                    have yv59 : (1 : Int32).toInt = 1 := by decide
                    replace hW := (wfP_i (wfP_i (wfP_i (wfP_a hW v59) ev59) rv59) (w_iadd tv59 rfl (rg_i kc_1)))
                    refine lv_iinc (v := v59) (lv' := [(7, .int v59), (6, .int v57), (8, .int v50), (0, .ref (Z.ad 5 i0)), (1, .ref (Z.ad 16 q1)), (2, .int p2), (3, .int p3), (4, .int p4), (5, .int v4)]) hx hb dX5_statusCame_91 hl (k := 8) rfl fv59 (by decide) rfl (fun ls hl => ?_)
                    refine lv_goto (tgt := 51) hx hb dX5_statusCame_94 (by decide) ?_
                    exact ih21 _ (ms_up tv59 kc_1 q45 rfl rfl) v57 v59 g49 _ _ ls (mFr.tr hF21 hp49.1 rfl) L49 (rg_w rv57 rfl) (rg_w rv59 rfl) (mFi.sub hI21 hi49 mSub_nil) hW (lv_sub hl [3, 4, 5, 6, 7, 8, 1, 0] rfl) rfl
                  · skip
                    replace hW := wfP_i (wfP_r hW) (i_lt (rg_nle c80_55) rfl rfl)
                    have ic80_55 := Int32.lt_iff_toInt_lt.mp (rg_nle c80_55)
                    have q60 : rg (1) (2147483647) v50 := (rg_lt (rg_nle c80_55) rv9 q53).2
                    have uq60 : (1 : Int) ≤ v50.toInt ∧ v50.toInt ≤ 2147483647 := q60
                    refine lv_iconst (v := 0) hx hb dX5_statusCame_83 (by decide) ?_
                    exact hQ _ _ (0 : Int32) _ _ _ dX5_statusCame_84 L49 ⟨hW, (mFi.sub (mFi.tr (mFi.sub mFi.rf hi3 mSub_nil) hI21) hi49 mSub_nil), (mFr.tr (mFr.tr (mFr.tr mFr.rf hp3.1 rfl) hF21 rfl) hp49.1 rfl), rg_w kc_0 rfl, trivial⟩
          have y61 : (0 : Int32).toInt = 0 := by decide
          exact j51_21 _ p3 (0 : Int32) g3 _ _ ls mFr.rf L3 (rg_w rp3 rfl) (rg_w kc_0 rfl) mFi.rf hW (lv_sub hl [3, 4, 5, 6, 7, 2, 1, 0] rfl) rfl
        · skip
          replace hW := wfP_i (wfP_r hW) (i_lt (rg_nle c40_18) rfl rfl)
          have ic40_18 := Int32.lt_iff_toInt_lt.mp (rg_nle c40_18)
          have q62 : rg (-2147483648) (2147483646) v17 := (rg_lt (rg_nle c40_18) rv17 rv4).1
          have uq62 : (-2147483648 : Int) ≤ v17.toInt ∧ v17.toInt ≤ 2147483646 := q62
          have q63 : rg (-2147483647) (2147483647) v4 := (rg_lt (rg_nle c40_18) rv17 rv4).2
          have uq63 : (-2147483647 : Int) ≤ v4.toInt ∧ v4.toInt ≤ 2147483647 := q63
          refine lv_iconst (v := 0) hx hb dX5_statusCame_43 (by decide) ?_
          exact hQ _ _ (0 : Int32) _ _ _ dX5_statusCame_44 L3 ⟨hW, (mFi.sub mFi.rf hi3 mSub_nil), (mFr.tr mFr.rf hp3.1 rfl), rg_w kc_0 rfl, trivial⟩
theorem d_kstatusCame (l : Launch) {G : cG} {Z : cZ} (X : Int) (g : mSt) (i0 : Nat) (q1 : Nat) (p2 : Int32) (p3 : Int32) (p4 : Int32) (hX : 0 ≤ X ∧ X ≤ 2000000000) (hi0 : i0 < 2 * Z.n) (hq1 : Z.al 16 q1) (rp2 : rg (-2) (57) p2) (rp3 : rg (0) (16777215) p3) {Φ : Int32 → mSt → Prop} (hW : wfP (wp_kstatusCame Z i0 q1 p2 p3 p4 g Φ)) : Met l yX5_statusCame (wk (Cond.code yX5_statusCame cX5_statusCame 9 (some .boolean))) rm_kstatusCame (va_Pc [.ref (Z.ad 5 i0), .ref (Z.ad 16 q1), .int p2, .int p3, .int p4] (cPre G Z X g)) (cQi G Z X (fun r g1 => wfP (Φ r g1) ∧ mFi (im_kstatusCame Z i0 q1 p2 p3 p4) g g1 ∧ (mFr [166, 167, 169, 180, 1280, 1344] g g1 ∧ rg (0) (1) r ∧ True))) 0 0 (cAd Z) := by
  refine Met.ofW (cc := cX5_statusCame) (maxL := 9) (ret := (some .boolean)) (by decide) rfl ?_
  intro p e s m args below meth c s₁ B hml hv
  obtain ⟨rfl, hv⟩ := hv
  have hr := B.returns
  have hlocks := B.notSynchronized
  obtain ⟨x, L⟩ := c_start B rfl (fun w h => wk_in h) hv
  have hl := lv_entry ([.ref (Z.ad 5 i0), .ref (Z.ad 16 q1), .int p2, .int p3, .int p4]) (n := 9) (Nat.le_of_ble_eq_true rfl)
  rw [lg_entry_eq]
  generalize (lg_sl ([.ref (Z.ad 5 i0), .ref (Z.ad 16 q1), .int p2, .int p3, .int p4]) ++ List.replicate (9 - (lg_sl ([.ref (Z.ad 5 i0), .ref (Z.ad 16 q1), .int p2, .int p3, .int p4])).length) Slot.unset).toArray = ls at hl ⊢
  exact v_kstatusCame x hml L hX i0 q1 p2 p3 p4 hi0 hq1 rp2 rp3 hW hl (fun pc' ls' r g1 H1 locs1 hdg L hp => c_zret x L hr hlocks (nar01 (rg_w hp.2.2.2.1 rfl)) (Int.le_refl _) hp hdg)

def im_kgapCame (Z : cZ) (i0 : Nat) (p1 : Int32) (p2 : Int32) (p3 : Int32) : List (Nat × Nat × Nat) := [(166, i0, 1), (167, i0, 1), (1280, (2 * i0), 8192), (1344, (2 * i0), 8192)]
def po_kgapCame (Z : cZ) (i0 : Nat) (p1 : Int32) (p2 : Int32) (p3 : Int32) (g : mSt) (r : Int32) (g1 : mSt) : Prop := mFi (im_kgapCame Z i0 p1 p2 p3) g g1 ∧ mFr [166, 167, 1280, 1344] g g1 ∧ rg (0) (1) r ∧ True
def wp_kgapCame (Z : cZ) (i0 : Nat) (p1 : Int32) (p2 : Int32) (p3 : Int32) (g : mSt) (Φ : Int32 → mSt → Prop) : Prop :=
  ∀ (v1 : Int32), v1 = g 166 i0 → rg (0) (16777215) v1 → ((p3.toInt < v1.toInt) → Φ (0 : Int32) g) ∧ ((v1.toInt ≤ p3.toInt) → ((p1.toInt < p3.toInt) → Φ (0 : Int32) g) ∧ ((p3.toInt ≤ p1.toInt) → ((p2.toInt ≤ p1.toInt) → Φ (0 : Int32) g) ∧ ((p1.toInt < p2.toInt) → ∀ (v11 : Int32), v11 = g 165 i0 → rg (0) (16777223) v11 → ((p2.toInt ≤ v11.toInt) → wp_kacknowledge Z i0 p3 g (fun (_ : Int32) (g15 : mSt) => po_kacknowledge Z i0 p3 g 0 g15 → ∀ (v16 : Int32), v16 = g15 168 i0 → rg (-2147483648) (2147483647) v16 → ∀ (v17 : Int32), v17 = v16 + (1 : Int32) → rg (-2147483648) (2147483647) v17 → wp_kmarkAgain Z i0 p1 p2 v17 g15 (fun (_ : Int32) (g18 : mSt) => po_kmarkAgain Z i0 p1 p2 v17 g15 0 g18 → Φ (1 : Int32) g18))) ∧ ((v11.toInt < p2.toInt) → Φ (0 : Int32) g))))
set_option maxHeartbeats 4000000 in
set_option maxRecDepth 100000 in
theorem v_kgapCame {p : Program} {l : Launch} {e : Env} {s : State} {m : MethodId} {args : Array Value} {below : List Frame} {meth : Method} {c : Code} {H : Heap} {locs : List Loc} {Q : State → Prop} {ls : Array Slot} {G : cG} {Z : cZ} {A : Nat → Prop} {g : mSt} {H0 : Heap} {X : Int} (x : cX p c cX5_gapCame s args (wk (Cond.code yX5_gapCame cX5_gapCame 4 (some .boolean))) m G Z A RX5 H0) (hml : c.maxLocals = 4) (L : cL G Z A H0 X g H locs) (hX : 0 ≤ X ∧ X ≤ 2000000000) (i0 : Nat) (p1 : Int32) (p2 : Int32) (p3 : Int32) (hi0 : i0 < 2 * Z.n) (rp3 : rg (0) (16777215) p3) {Φ : Int32 → mSt → Prop} (hW : wfP (wp_kgapCame Z i0 p1 p2 p3 g Φ)) (hl : lv_has ls 4 [(0, .ref (Z.ad 5 i0)), (1, .int p1), (2, .int p2), (3, .int p3)]) (hQ : ∀ (pc' : Nat) (ls' : Array Slot) (r : Int32) (g1 : mSt) (H1 : Heap) (locs1 : List Loc), decode cX5_gapCame pc' = .ok (.ireturn, 1) → cL G Z A H0 X g1 H1 locs1 → (wfP (Φ r g1) ∧ mFi (im_kgapCame Z i0 p1 p2 p3) g g1 ∧ (mFr [166, 167, 1280, 1344] g g1 ∧ rg (0) (1) r ∧ True)) → W p l e rm_kgapCame s m args below meth c H1 locs1 0 0 Q (F0 m pc' ls' [.int r])) : W p l e rm_kgapCame s m args below meth c H locs 0 0 Q (F0 m 0 ls []) := by
  have hx := x.1
  have hb := x.2.1
  have hz := x.2.2.2.2.2.2.2.1
  have hzn := hz.1
  have hal0 : Z.al 5 i0 := hz.2 5 i0 (show i0 < 2 * Z.n from hi0)
  refine lv_iload_n hx hb dX5_gapCame_0 rfl (lv_at hl 3 rfl) ?_
  refine lv_aload_n hx hb dX5_gapCame_1 rfl (lv_at hl 0 rfl) ?_
  refine c_geti x L 5 i0 6 166 hal0 rfl rfl (wk_in kf_X5_37) dX5_gapCame_2 (fun v1 ev1 wv1 => ?_)
  have rv1 : rg (0) (16777215) v1 := clj_166 wv1
  replace hW := (wfP_i (wfP_i (wfP_a hW v1) ev1) rv1)
  refine lv_icmp_lt (tgt := 26) hx hb dX5_gapCame_5 (by decide) (fun c5_2 => ?_) (fun c5_2 => ?_)
  · skip
    replace hW := wfP_i (wfP_l hW) (i_lt c5_2 rfl rfl)
    have q3 : rg (0) (16777214) p3 := (rg_lt c5_2 rp3 rv1).1
    have q4 : rg (1) (16777215) v1 := (rg_lt c5_2 rp3 rv1).2
    refine lv_iconst (v := 0) hx hb dX5_gapCame_26 (by decide) ?_
    exact hQ _ _ (0 : Int32) _ _ _ dX5_gapCame_27 L ⟨hW, mFi.rf, mFr.rf, rg_w kc_0 rfl, trivial⟩
  · skip
    replace hW := wfP_i (wfP_r hW) (i_le (rg_nlt c5_2) rfl rfl)
    refine lv_iload_n hx hb dX5_gapCame_8 rfl (lv_at hl 1 rfl) ?_
    refine lv_iload_n hx hb dX5_gapCame_9 rfl (lv_at hl 3 rfl) ?_
    refine lv_icmp_lt (tgt := 26) hx hb dX5_gapCame_10 (by decide) (fun c10_5 => ?_) (fun c10_5 => ?_)
    · skip
      replace hW := wfP_i (wfP_l hW) (i_lt c10_5 rfl rfl)
      have q6 : rg (-2147483648) (16777214) p1 := (rg_lt c10_5 (rg_any p1) rp3).1
      refine lv_iconst (v := 0) hx hb dX5_gapCame_26 (by decide) ?_
      exact hQ _ _ (0 : Int32) _ _ _ dX5_gapCame_27 L ⟨hW, mFi.rf, mFr.rf, rg_w kc_0 rfl, trivial⟩
    · skip
      replace hW := wfP_i (wfP_r hW) (i_le (rg_nlt c10_5) rfl rfl)
      have q7 : rg (0) (2147483647) p1 := (rg_le (rg_nlt c10_5) rp3 (rg_any p1)).2
      refine lv_iload_n hx hb dX5_gapCame_13 rfl (lv_at hl 2 rfl) ?_
      refine lv_iload_n hx hb dX5_gapCame_14 rfl (lv_at hl 1 rfl) ?_
      refine lv_icmp_le (tgt := 26) hx hb dX5_gapCame_15 (by decide) (fun c15_8 => ?_) (fun c15_8 => ?_)
      · skip
        replace hW := wfP_i (wfP_l hW) (i_le c15_8 rfl rfl)
        refine lv_iconst (v := 0) hx hb dX5_gapCame_26 (by decide) ?_
        exact hQ _ _ (0 : Int32) _ _ _ dX5_gapCame_27 L ⟨hW, mFi.rf, mFr.rf, rg_w kc_0 rfl, trivial⟩
      · skip
        replace hW := wfP_i (wfP_r hW) (i_lt (rg_nle c15_8) rfl rfl)
        have q9 : rg (0) (2147483646) p1 := (rg_lt (rg_nle c15_8) q7 (rg_any p2)).1
        have q10 : rg (1) (2147483647) p2 := (rg_lt (rg_nle c15_8) q7 (rg_any p2)).2
        refine lv_iload_n hx hb dX5_gapCame_18 rfl (lv_at hl 2 rfl) ?_
        refine lv_aload_n hx hb dX5_gapCame_19 rfl (lv_at hl 0 rfl) ?_
        refine c_geti x L 5 i0 5 165 hal0 rfl rfl (wk_in kf_X5_34) dX5_gapCame_20 (fun v11 ev11 wv11 => ?_)
        have rv11 : rg (0) (16777223) v11 := clj_165 wv11
        replace hW := (wfP_i (wfP_i (wfP_a hW v11) ev11) rv11)
        refine lv_icmp_le (tgt := 28) hx hb dX5_gapCame_23 (by decide) (fun c23_12 => ?_) (fun c23_12 => ?_)
        · skip
          replace hW := wfP_i (wfP_l hW) (i_le c23_12 rfl rfl)
          have q13 : rg (1) (16777223) p2 := (rg_le c23_12 q10 rv11).1
          have q14 : rg (1) (16777223) v11 := (rg_le c23_12 q10 rv11).2
          refine lv_aload_n hx hb dX5_gapCame_28 rfl (lv_at hl 0 rfl) ?_
          refine lv_iload_n hx hb dX5_gapCame_29 rfl (lv_at hl 3 rfl) ?_
          refine c_cv (As := [.int p3]) (rest := []) x hml L 5 i0 hal0 rfl (d_kacknowledge l X g i0 p3 hX (show i0 < 2 * Z.n from (by omega)) (rg_w rp3 rfl) hW) (wk_V kd_X5_acknowledge kl_X5_208 ki_X5_acknowledge ks_X5_X5_acknowledge kn_X5) rfl ⟨rfl, rfl⟩ hd_kacknowledge ⟨Nat.le_of_ble_eq_true rfl, Nat.le_of_ble_eq_true rfl⟩ rfl hl.1 rfl (lv_room (Nat.le_of_ble_eq_true rfl)) dX5_gapCame_30 (fun  g15 H15 k15 hp15 L15 => ?_)
          obtain ⟨hW, hi15, hp15⟩ := hp15
          replace hW := wfP_i hW ⟨hi15, hp15⟩
          refine lv_aload_n hx hb dX5_gapCame_33 rfl (lv_at hl 0 rfl) ?_
          refine lv_iload_n hx hb dX5_gapCame_34 rfl (lv_at hl 1 rfl) ?_
          refine lv_iload_n hx hb dX5_gapCame_35 rfl (lv_at hl 2 rfl) ?_
          refine lv_aload_n hx hb dX5_gapCame_36 rfl (lv_at hl 0 rfl) ?_
          refine c_geti x L15 5 i0 8 168 hal0 rfl rfl (wk_in kf_X5_43) dX5_gapCame_37 (fun v16 ev16 wv16 => ?_)
          have rv16 : rg (-2147483648) (2147483647) v16 := rg_any v16
          replace hW := (wfP_i (wfP_i (wfP_a hW v16) ev16) rv16)
          refine lv_iconst (v := 1) hx hb dX5_gapCame_40 (by decide) ?_
          refine lv_iadd hx hb dX5_gapCame_41 ?_
          refine lv_topi (fun v17 ev17 => ?_)
          have rv17 : rg (-2147483648) (2147483647) v17 := rg_any v17
          replace hW := (wfP_i (wfP_i (wfP_a hW v17) ev17) rv17)
          refine c_cv (As := [.int p1, .int p2, .int v17]) (rest := []) x hml L15 5 i0 hal0 rfl (d_kmarkAgain l X g15 i0 p1 p2 v17 hX (show i0 < 2 * Z.n from (by omega)) hW) (wk_V kd_X5_markAgain kl_X5_211 ki_X5_markAgain ks_X5_X5_markAgain kn_X5) rfl ⟨rfl, rfl⟩ hd_kmarkAgain ⟨Nat.le_of_ble_eq_true rfl, Nat.le_of_ble_eq_true rfl⟩ rfl hl.1 rfl (lv_room (Nat.le_of_ble_eq_true rfl)) dX5_gapCame_42 (fun  g18 H18 k18 hp18 L18 => ?_)
          obtain ⟨hW, hi18, hp18⟩ := hp18
          replace hW := wfP_i hW ⟨hi18, hp18⟩
          refine lv_iconst (v := 1) hx hb dX5_gapCame_45 (by decide) ?_
          exact hQ _ _ (1 : Int32) _ _ _ dX5_gapCame_46 L18 ⟨hW, (mFi.sub (mFi.sub mFi.rf hi15 (mSub_eq 0 rfl (mSub_eq 1 rfl (mSub_eq 2 rfl (mSub_eq 3 rfl mSub_nil))))) hi18 (mSub_eq 3 rfl mSub_nil)), (mFr.tr (mFr.tr mFr.rf hp15.1 rfl) hp18.1 rfl), rg_w kc_1 rfl, trivial⟩
        · skip
          replace hW := wfP_i (wfP_r hW) (i_lt (rg_nle c23_12) rfl rfl)
          refine lv_iconst (v := 0) hx hb dX5_gapCame_26 (by decide) ?_
          exact hQ _ _ (0 : Int32) _ _ _ dX5_gapCame_27 L ⟨hW, mFi.rf, mFr.rf, rg_w kc_0 rfl, trivial⟩
theorem d_kgapCame (l : Launch) {G : cG} {Z : cZ} (X : Int) (g : mSt) (i0 : Nat) (p1 : Int32) (p2 : Int32) (p3 : Int32) (hX : 0 ≤ X ∧ X ≤ 2000000000) (hi0 : i0 < 2 * Z.n) (rp3 : rg (0) (16777215) p3) {Φ : Int32 → mSt → Prop} (hW : wfP (wp_kgapCame Z i0 p1 p2 p3 g Φ)) : Met l yX5_gapCame (wk (Cond.code yX5_gapCame cX5_gapCame 4 (some .boolean))) rm_kgapCame (va_Pc [.ref (Z.ad 5 i0), .int p1, .int p2, .int p3] (cPre G Z X g)) (cQi G Z X (fun r g1 => wfP (Φ r g1) ∧ mFi (im_kgapCame Z i0 p1 p2 p3) g g1 ∧ (mFr [166, 167, 1280, 1344] g g1 ∧ rg (0) (1) r ∧ True))) 0 0 (cAd Z) := by
  refine Met.ofW (cc := cX5_gapCame) (maxL := 4) (ret := (some .boolean)) (by decide) rfl ?_
  intro p e s m args below meth c s₁ B hml hv
  obtain ⟨rfl, hv⟩ := hv
  have hr := B.returns
  have hlocks := B.notSynchronized
  obtain ⟨x, L⟩ := c_start B rfl (fun w h => wk_in h) hv
  have hl := lv_entry ([.ref (Z.ad 5 i0), .int p1, .int p2, .int p3]) (n := 4) (Nat.le_of_ble_eq_true rfl)
  rw [lg_entry_eq]
  generalize (lg_sl ([.ref (Z.ad 5 i0), .int p1, .int p2, .int p3]) ++ List.replicate (4 - (lg_sl ([.ref (Z.ad 5 i0), .int p1, .int p2, .int p3])).length) Slot.unset).toArray = ls at hl ⊢
  exact v_kgapCame x hml L hX i0 p1 p2 p3 hi0 rp3 hW hl (fun pc' ls' r g1 H1 locs1 hdg L hp => c_zret x L hr hlocks (nar01 (rg_w hp.2.2.2.1 rfl)) (Int.le_refl _) hp hdg)

def im_kunitCame (Z : cZ) (i0 : Nat) (q1 : Nat) (p2 : Int32) (p3 : Int32) : List (Nat × Nat × Nat) := [(67, (2 * (cOut Z.n i0)), 1), (108, (cOut Z.n i0), 1), (111, (cOut Z.n i0), 1), (164, i0, 1), (165, i0, 1), (166, i0, 1), (167, i0, 1), (168, i0, 1), (169, i0, 1), (170, i0, 1), (171, i0, 1), (172, i0, 1), (174, i0, 1), (175, i0, 1), (178, i0, 1), (179, i0, 1), (180, i0, 1), (197, i0, 1), (198, i0, 1), (421, (2 * i0 + 1), 1), (421, (2 * i0), 1), (422, (2 * i0 + 1), 1), (422, (2 * i0), 1), (544, (2 * (cOut Z.n i0)), 8192), (576, (2 * (cOut Z.n i0)), 8192), (768, (cOut Z.n i0), 8192), (864, i0, 8192), (928, i0, 8192), (1248, (2 * i0 + 1), 8192), (1280, (2 * i0 + 1), 8192), (1280, (2 * i0), 8192), (1344, (2 * i0 + 1), 8192), (1344, (2 * i0), 8192)]
def po_kunitCame (Z : cZ) (i0 : Nat) (q1 : Nat) (p2 : Int32) (p3 : Int32) (g : mSt) (r : Int32) (g1 : mSt) : Prop := mFi (im_kunitCame Z i0 q1 p2 p3) g g1 ∧ mFr [67, 108, 111, 164, 165, 166, 167, 168, 169, 170, 171, 172, 174, 175, 178, 179, 180, 197, 198, 421, 422, 544, 576, 768, 864, 928, 1248, 1280, 1344] g g1 ∧ rg (0) (2) r ∧ True
def wp_kunitCame (Z : cZ) (i0 : Nat) (q1 : Nat) (p2 : Int32) (p3 : Int32) (g : mSt) (Φ : Int32 → mSt → Prop) : Prop :=
  wp_kisUnit Z q1 p2 g (fun (v2 : Int32) (g1 : mSt) => po_kisUnit Z q1 p2 g v2 g1 → ((v2.toInt ≠ 0) → ∀ (v8 : Int32), v8 = p2 - (4 : Int32) → rg (0) (236) v8 → v8.toInt = p2.toInt - 4 → wp_kwordAt_16 Z q1 v8 g1 (fun (v11 : Int32) (g10 : mSt) => po_kwordAt_16 Z q1 v8 g1 v11 g10 → ∀ (v12 : Int32), v12 = (v11.toUInt32 >>> ((24 : Int32).toUInt32 &&& Int32.toUInt32 31)).toInt32 → rg (0) (255) v12 → ∀ (v13 : Int32), v13 = v11 &&& (16777215 : Int32) → rg (0) (16777215) v13 → ((v12.toInt < 1) → ∀ (v15 : Int32), v15 = g10 164 i0 → rg (0) (4) v15 → ((v15.toInt = 2) → ((v12.toInt < 8) → wp_kwordAt_16 Z q1 (0 : Int32) g10 (fun (v21 : Int32) (g20 : mSt) => po_kwordAt_16 Z q1 (0 : Int32) g10 v21 g20 → wp_kwordAt_16 Z q1 (4 : Int32) g20 (fun (v23 : Int32) (g22 : mSt) => po_kwordAt_16 Z q1 (4 : Int32) g20 v23 g22 → wp_kgapCame Z i0 v21 v23 v13 g22 (fun (v25 : Int32) (g24 : mSt) => po_kgapCame Z i0 v21 v23 v13 g22 v25 g24 → ((v25.toInt = 0) → Φ (2 : Int32) g24) ∧ ((v25.toInt ≠ 0) → Φ (0 : Int32) g24))))) ∧ ((11 < v12.toInt) → wp_kwordAt_16 Z q1 (0 : Int32) g10 (fun (v32 : Int32) (g31 : mSt) => po_kwordAt_16 Z q1 (0 : Int32) g10 v32 g31 → wp_kwordAt_16 Z q1 (4 : Int32) g31 (fun (v34 : Int32) (g33 : mSt) => po_kwordAt_16 Z q1 (4 : Int32) g31 v34 g33 → wp_kgapCame Z i0 v32 v34 v13 g33 (fun (v36 : Int32) (g35 : mSt) => po_kgapCame Z i0 v32 v34 v13 g33 v36 g35 → ((v36.toInt = 0) → Φ (2 : Int32) g35) ∧ ((v36.toInt ≠ 0) → Φ (0 : Int32) g35))))) ∧ ((v12.toInt = 8) → wp_kdataCame Z i0 q1 v8 v13 g10 (fun (_ : Int32) (g43 : mSt) => po_kdataCame Z i0 q1 v8 v13 g10 0 g43 → Φ (0 : Int32) g43)) ∧ ((v12.toInt = 9) → wp_kwordAt_16 Z q1 (0 : Int32) g10 (fun (v46 : Int32) (g45 : mSt) => po_kwordAt_16 Z q1 (0 : Int32) g10 v46 g45 → wp_kwordAt_16 Z q1 (4 : Int32) g45 (fun (v48 : Int32) (g47 : mSt) => po_kwordAt_16 Z q1 (4 : Int32) g45 v48 g47 → wp_kgapCame Z i0 v46 v48 v13 g47 (fun (v50 : Int32) (g49 : mSt) => po_kgapCame Z i0 v46 v48 v13 g47 v50 g49 → ((v50.toInt = 0) → Φ (2 : Int32) g49) ∧ ((v50.toInt ≠ 0) → Φ (0 : Int32) g49))))) ∧ ((v12.toInt = 10) → wp_kwordAt_16 Z q1 (0 : Int32) g10 (fun (v58 : Int32) (g57 : mSt) => po_kwordAt_16 Z q1 (0 : Int32) g10 v58 g57 → wp_kpollCame Z i0 v58 v13 g57 (fun (_ : Int32) (g59 : mSt) => po_kpollCame Z i0 v58 v13 g57 0 g59 → Φ (0 : Int32) g59))) ∧ ((v12.toInt = 11) → ∀ (v61 : Int32), v61 = p2 - (12 : Int32) → rg (-8) (228) v61 → v61.toInt = p2.toInt - 12 → ∀ (v63 : Int32), v63 = v61 / (4 : Int32) → rg (-2147483648) (2147483647) v63 → wp_kstatusCame Z i0 q1 v63 v13 p3 g10 (fun (v66 : Int32) (g65 : mSt) => po_kstatusCame Z i0 q1 v63 v13 p3 g10 v66 g65 → ((v66.toInt = 0) → Φ (2 : Int32) g65) ∧ ((v66.toInt ≠ 0) → Φ (0 : Int32) g65)))) ∧ ((v15.toInt ≠ 2) → Φ (0 : Int32) g10)) ∧ ((15 < v12.toInt) → ∀ (v73 : Int32), v73 = g10 164 i0 → rg (0) (4) v73 → ((v73.toInt = 2) → ((v12.toInt < 8) → wp_kwordAt_16 Z q1 (0 : Int32) g10 (fun (v79 : Int32) (g78 : mSt) => po_kwordAt_16 Z q1 (0 : Int32) g10 v79 g78 → wp_kwordAt_16 Z q1 (4 : Int32) g78 (fun (v81 : Int32) (g80 : mSt) => po_kwordAt_16 Z q1 (4 : Int32) g78 v81 g80 → wp_kgapCame Z i0 v79 v81 v13 g80 (fun (v83 : Int32) (g82 : mSt) => po_kgapCame Z i0 v79 v81 v13 g80 v83 g82 → ((v83.toInt = 0) → Φ (2 : Int32) g82) ∧ ((v83.toInt ≠ 0) → Φ (0 : Int32) g82))))) ∧ ((11 < v12.toInt) → wp_kwordAt_16 Z q1 (0 : Int32) g10 (fun (v90 : Int32) (g89 : mSt) => po_kwordAt_16 Z q1 (0 : Int32) g10 v90 g89 → wp_kwordAt_16 Z q1 (4 : Int32) g89 (fun (v92 : Int32) (g91 : mSt) => po_kwordAt_16 Z q1 (4 : Int32) g89 v92 g91 → wp_kgapCame Z i0 v90 v92 v13 g91 (fun (v94 : Int32) (g93 : mSt) => po_kgapCame Z i0 v90 v92 v13 g91 v94 g93 → ((v94.toInt = 0) → Φ (2 : Int32) g93) ∧ ((v94.toInt ≠ 0) → Φ (0 : Int32) g93))))) ∧ ((v12.toInt = 8) → wp_kdataCame Z i0 q1 v8 v13 g10 (fun (_ : Int32) (g101 : mSt) => po_kdataCame Z i0 q1 v8 v13 g10 0 g101 → Φ (0 : Int32) g101)) ∧ ((v12.toInt = 9) → wp_kwordAt_16 Z q1 (0 : Int32) g10 (fun (v104 : Int32) (g103 : mSt) => po_kwordAt_16 Z q1 (0 : Int32) g10 v104 g103 → wp_kwordAt_16 Z q1 (4 : Int32) g103 (fun (v106 : Int32) (g105 : mSt) => po_kwordAt_16 Z q1 (4 : Int32) g103 v106 g105 → wp_kgapCame Z i0 v104 v106 v13 g105 (fun (v108 : Int32) (g107 : mSt) => po_kgapCame Z i0 v104 v106 v13 g105 v108 g107 → ((v108.toInt = 0) → Φ (2 : Int32) g107) ∧ ((v108.toInt ≠ 0) → Φ (0 : Int32) g107))))) ∧ ((v12.toInt = 10) → wp_kwordAt_16 Z q1 (0 : Int32) g10 (fun (v116 : Int32) (g115 : mSt) => po_kwordAt_16 Z q1 (0 : Int32) g10 v116 g115 → wp_kpollCame Z i0 v116 v13 g115 (fun (_ : Int32) (g117 : mSt) => po_kpollCame Z i0 v116 v13 g115 0 g117 → Φ (0 : Int32) g117))) ∧ ((v12.toInt = 11) → ∀ (v119 : Int32), v119 = p2 - (12 : Int32) → rg (-8) (228) v119 → v119.toInt = p2.toInt - 12 → ∀ (v121 : Int32), v121 = v119 / (4 : Int32) → rg (-2147483648) (2147483647) v121 → wp_kstatusCame Z i0 q1 v121 v13 p3 g10 (fun (v124 : Int32) (g123 : mSt) => po_kstatusCame Z i0 q1 v121 v13 p3 g10 v124 g123 → ((v124.toInt = 0) → Φ (2 : Int32) g123) ∧ ((v124.toInt ≠ 0) → Φ (0 : Int32) g123)))) ∧ ((v73.toInt ≠ 2) → Φ (0 : Int32) g10)) ∧ ((v12.toInt = 1) → wp_kbeginCame Z i0 v13 p3 g10 (fun (v133 : Int32) (g132 : mSt) => po_kbeginCame Z i0 v13 p3 g10 v133 g132 → Φ v133 g132)) ∧ ((v12.toInt = 2) → wp_kanswerCame Z i0 v12 p3 g10 (fun (_ : Int32) (g135 : mSt) => po_kanswerCame Z i0 v12 p3 g10 0 g135 → Φ (0 : Int32) g135)) ∧ ((v12.toInt = 3) → wp_kendCame Z i0 g10 (fun (v138 : Int32) (g137 : mSt) => po_kendCame Z i0 g10 v138 g137 → Φ v138 g137)) ∧ ((v12.toInt = 4) → wp_kanswerCame Z i0 v12 p3 g10 (fun (_ : Int32) (g140 : mSt) => po_kanswerCame Z i0 v12 p3 g10 0 g140 → Φ (0 : Int32) g140)) ∧ ((v12.toInt = 5) → wp_kresetCame Z i0 v12 v13 p3 g10 (fun (_ : Int32) (g142 : mSt) => po_kresetCame Z i0 v12 v13 p3 g10 0 g142 → Φ (0 : Int32) g142)) ∧ ((v12.toInt = 6) → wp_kanswerCame Z i0 v12 p3 g10 (fun (_ : Int32) (g144 : mSt) => po_kanswerCame Z i0 v12 p3 g10 0 g144 → Φ (0 : Int32) g144)) ∧ ((v12.toInt = 7) → ∀ (v146 : Int32), v146 = g10 164 i0 → rg (0) (4) v146 → ((v146.toInt = 2) → ((v12.toInt < 8) → wp_kwordAt_16 Z q1 (0 : Int32) g10 (fun (v152 : Int32) (g151 : mSt) => po_kwordAt_16 Z q1 (0 : Int32) g10 v152 g151 → wp_kwordAt_16 Z q1 (4 : Int32) g151 (fun (v154 : Int32) (g153 : mSt) => po_kwordAt_16 Z q1 (4 : Int32) g151 v154 g153 → wp_kgapCame Z i0 v152 v154 v13 g153 (fun (v156 : Int32) (g155 : mSt) => po_kgapCame Z i0 v152 v154 v13 g153 v156 g155 → ((v156.toInt = 0) → Φ (2 : Int32) g155) ∧ ((v156.toInt ≠ 0) → Φ (0 : Int32) g155))))) ∧ ((11 < v12.toInt) → wp_kwordAt_16 Z q1 (0 : Int32) g10 (fun (v163 : Int32) (g162 : mSt) => po_kwordAt_16 Z q1 (0 : Int32) g10 v163 g162 → wp_kwordAt_16 Z q1 (4 : Int32) g162 (fun (v165 : Int32) (g164 : mSt) => po_kwordAt_16 Z q1 (4 : Int32) g162 v165 g164 → wp_kgapCame Z i0 v163 v165 v13 g164 (fun (v167 : Int32) (g166 : mSt) => po_kgapCame Z i0 v163 v165 v13 g164 v167 g166 → ((v167.toInt = 0) → Φ (2 : Int32) g166) ∧ ((v167.toInt ≠ 0) → Φ (0 : Int32) g166))))) ∧ ((v12.toInt = 8) → wp_kdataCame Z i0 q1 v8 v13 g10 (fun (_ : Int32) (g174 : mSt) => po_kdataCame Z i0 q1 v8 v13 g10 0 g174 → Φ (0 : Int32) g174)) ∧ ((v12.toInt = 9) → wp_kwordAt_16 Z q1 (0 : Int32) g10 (fun (v177 : Int32) (g176 : mSt) => po_kwordAt_16 Z q1 (0 : Int32) g10 v177 g176 → wp_kwordAt_16 Z q1 (4 : Int32) g176 (fun (v179 : Int32) (g178 : mSt) => po_kwordAt_16 Z q1 (4 : Int32) g176 v179 g178 → wp_kgapCame Z i0 v177 v179 v13 g178 (fun (v181 : Int32) (g180 : mSt) => po_kgapCame Z i0 v177 v179 v13 g178 v181 g180 → ((v181.toInt = 0) → Φ (2 : Int32) g180) ∧ ((v181.toInt ≠ 0) → Φ (0 : Int32) g180))))) ∧ ((v12.toInt = 10) → wp_kwordAt_16 Z q1 (0 : Int32) g10 (fun (v189 : Int32) (g188 : mSt) => po_kwordAt_16 Z q1 (0 : Int32) g10 v189 g188 → wp_kpollCame Z i0 v189 v13 g188 (fun (_ : Int32) (g190 : mSt) => po_kpollCame Z i0 v189 v13 g188 0 g190 → Φ (0 : Int32) g190))) ∧ ((v12.toInt = 11) → ∀ (v192 : Int32), v192 = p2 - (12 : Int32) → rg (-8) (228) v192 → v192.toInt = p2.toInt - 12 → ∀ (v194 : Int32), v194 = v192 / (4 : Int32) → rg (-2147483648) (2147483647) v194 → wp_kstatusCame Z i0 q1 v194 v13 p3 g10 (fun (v197 : Int32) (g196 : mSt) => po_kstatusCame Z i0 q1 v194 v13 p3 g10 v197 g196 → ((v197.toInt = 0) → Φ (2 : Int32) g196) ∧ ((v197.toInt ≠ 0) → Φ (0 : Int32) g196)))) ∧ ((v146.toInt ≠ 2) → Φ (0 : Int32) g10)) ∧ ((v12.toInt = 8) → ∀ (v205 : Int32), v205 = g10 164 i0 → rg (0) (4) v205 → ((v205.toInt = 2) → ((v12.toInt < 8) → wp_kwordAt_16 Z q1 (0 : Int32) g10 (fun (v211 : Int32) (g210 : mSt) => po_kwordAt_16 Z q1 (0 : Int32) g10 v211 g210 → wp_kwordAt_16 Z q1 (4 : Int32) g210 (fun (v213 : Int32) (g212 : mSt) => po_kwordAt_16 Z q1 (4 : Int32) g210 v213 g212 → wp_kgapCame Z i0 v211 v213 v13 g212 (fun (v215 : Int32) (g214 : mSt) => po_kgapCame Z i0 v211 v213 v13 g212 v215 g214 → ((v215.toInt = 0) → Φ (2 : Int32) g214) ∧ ((v215.toInt ≠ 0) → Φ (0 : Int32) g214))))) ∧ ((11 < v12.toInt) → wp_kwordAt_16 Z q1 (0 : Int32) g10 (fun (v222 : Int32) (g221 : mSt) => po_kwordAt_16 Z q1 (0 : Int32) g10 v222 g221 → wp_kwordAt_16 Z q1 (4 : Int32) g221 (fun (v224 : Int32) (g223 : mSt) => po_kwordAt_16 Z q1 (4 : Int32) g221 v224 g223 → wp_kgapCame Z i0 v222 v224 v13 g223 (fun (v226 : Int32) (g225 : mSt) => po_kgapCame Z i0 v222 v224 v13 g223 v226 g225 → ((v226.toInt = 0) → Φ (2 : Int32) g225) ∧ ((v226.toInt ≠ 0) → Φ (0 : Int32) g225))))) ∧ ((v12.toInt = 8) → wp_kdataCame Z i0 q1 v8 v13 g10 (fun (_ : Int32) (g233 : mSt) => po_kdataCame Z i0 q1 v8 v13 g10 0 g233 → Φ (0 : Int32) g233)) ∧ ((v12.toInt = 9) → wp_kwordAt_16 Z q1 (0 : Int32) g10 (fun (v236 : Int32) (g235 : mSt) => po_kwordAt_16 Z q1 (0 : Int32) g10 v236 g235 → wp_kwordAt_16 Z q1 (4 : Int32) g235 (fun (v238 : Int32) (g237 : mSt) => po_kwordAt_16 Z q1 (4 : Int32) g235 v238 g237 → wp_kgapCame Z i0 v236 v238 v13 g237 (fun (v240 : Int32) (g239 : mSt) => po_kgapCame Z i0 v236 v238 v13 g237 v240 g239 → ((v240.toInt = 0) → Φ (2 : Int32) g239) ∧ ((v240.toInt ≠ 0) → Φ (0 : Int32) g239))))) ∧ ((v12.toInt = 10) → wp_kwordAt_16 Z q1 (0 : Int32) g10 (fun (v248 : Int32) (g247 : mSt) => po_kwordAt_16 Z q1 (0 : Int32) g10 v248 g247 → wp_kpollCame Z i0 v248 v13 g247 (fun (_ : Int32) (g249 : mSt) => po_kpollCame Z i0 v248 v13 g247 0 g249 → Φ (0 : Int32) g249))) ∧ ((v12.toInt = 11) → ∀ (v251 : Int32), v251 = p2 - (12 : Int32) → rg (-8) (228) v251 → v251.toInt = p2.toInt - 12 → ∀ (v253 : Int32), v253 = v251 / (4 : Int32) → rg (-2147483648) (2147483647) v253 → wp_kstatusCame Z i0 q1 v253 v13 p3 g10 (fun (v256 : Int32) (g255 : mSt) => po_kstatusCame Z i0 q1 v253 v13 p3 g10 v256 g255 → ((v256.toInt = 0) → Φ (2 : Int32) g255) ∧ ((v256.toInt ≠ 0) → Φ (0 : Int32) g255)))) ∧ ((v205.toInt ≠ 2) → Φ (0 : Int32) g10)) ∧ ((v12.toInt = 9) → wp_kresetCame Z i0 v12 v13 p3 g10 (fun (_ : Int32) (g264 : mSt) => po_kresetCame Z i0 v12 v13 p3 g10 0 g264 → Φ (0 : Int32) g264)) ∧ ((v12.toInt = 10) → ∀ (v266 : Int32), v266 = g10 164 i0 → rg (0) (4) v266 → ((v266.toInt = 2) → ((v12.toInt < 8) → wp_kwordAt_16 Z q1 (0 : Int32) g10 (fun (v272 : Int32) (g271 : mSt) => po_kwordAt_16 Z q1 (0 : Int32) g10 v272 g271 → wp_kwordAt_16 Z q1 (4 : Int32) g271 (fun (v274 : Int32) (g273 : mSt) => po_kwordAt_16 Z q1 (4 : Int32) g271 v274 g273 → wp_kgapCame Z i0 v272 v274 v13 g273 (fun (v276 : Int32) (g275 : mSt) => po_kgapCame Z i0 v272 v274 v13 g273 v276 g275 → ((v276.toInt = 0) → Φ (2 : Int32) g275) ∧ ((v276.toInt ≠ 0) → Φ (0 : Int32) g275))))) ∧ ((11 < v12.toInt) → wp_kwordAt_16 Z q1 (0 : Int32) g10 (fun (v283 : Int32) (g282 : mSt) => po_kwordAt_16 Z q1 (0 : Int32) g10 v283 g282 → wp_kwordAt_16 Z q1 (4 : Int32) g282 (fun (v285 : Int32) (g284 : mSt) => po_kwordAt_16 Z q1 (4 : Int32) g282 v285 g284 → wp_kgapCame Z i0 v283 v285 v13 g284 (fun (v287 : Int32) (g286 : mSt) => po_kgapCame Z i0 v283 v285 v13 g284 v287 g286 → ((v287.toInt = 0) → Φ (2 : Int32) g286) ∧ ((v287.toInt ≠ 0) → Φ (0 : Int32) g286))))) ∧ ((v12.toInt = 8) → wp_kdataCame Z i0 q1 v8 v13 g10 (fun (_ : Int32) (g294 : mSt) => po_kdataCame Z i0 q1 v8 v13 g10 0 g294 → Φ (0 : Int32) g294)) ∧ ((v12.toInt = 9) → wp_kwordAt_16 Z q1 (0 : Int32) g10 (fun (v297 : Int32) (g296 : mSt) => po_kwordAt_16 Z q1 (0 : Int32) g10 v297 g296 → wp_kwordAt_16 Z q1 (4 : Int32) g296 (fun (v299 : Int32) (g298 : mSt) => po_kwordAt_16 Z q1 (4 : Int32) g296 v299 g298 → wp_kgapCame Z i0 v297 v299 v13 g298 (fun (v301 : Int32) (g300 : mSt) => po_kgapCame Z i0 v297 v299 v13 g298 v301 g300 → ((v301.toInt = 0) → Φ (2 : Int32) g300) ∧ ((v301.toInt ≠ 0) → Φ (0 : Int32) g300))))) ∧ ((v12.toInt = 10) → wp_kwordAt_16 Z q1 (0 : Int32) g10 (fun (v309 : Int32) (g308 : mSt) => po_kwordAt_16 Z q1 (0 : Int32) g10 v309 g308 → wp_kpollCame Z i0 v309 v13 g308 (fun (_ : Int32) (g310 : mSt) => po_kpollCame Z i0 v309 v13 g308 0 g310 → Φ (0 : Int32) g310))) ∧ ((v12.toInt = 11) → ∀ (v312 : Int32), v312 = p2 - (12 : Int32) → rg (-8) (228) v312 → v312.toInt = p2.toInt - 12 → ∀ (v314 : Int32), v314 = v312 / (4 : Int32) → rg (-2147483648) (2147483647) v314 → wp_kstatusCame Z i0 q1 v314 v13 p3 g10 (fun (v317 : Int32) (g316 : mSt) => po_kstatusCame Z i0 q1 v314 v13 p3 g10 v317 g316 → ((v317.toInt = 0) → Φ (2 : Int32) g316) ∧ ((v317.toInt ≠ 0) → Φ (0 : Int32) g316)))) ∧ ((v266.toInt ≠ 2) → Φ (0 : Int32) g10)) ∧ ((v12.toInt = 11) → ∀ (v325 : Int32), v325 = g10 164 i0 → rg (0) (4) v325 → ((v325.toInt = 2) → ((v12.toInt < 8) → wp_kwordAt_16 Z q1 (0 : Int32) g10 (fun (v331 : Int32) (g330 : mSt) => po_kwordAt_16 Z q1 (0 : Int32) g10 v331 g330 → wp_kwordAt_16 Z q1 (4 : Int32) g330 (fun (v333 : Int32) (g332 : mSt) => po_kwordAt_16 Z q1 (4 : Int32) g330 v333 g332 → wp_kgapCame Z i0 v331 v333 v13 g332 (fun (v335 : Int32) (g334 : mSt) => po_kgapCame Z i0 v331 v333 v13 g332 v335 g334 → ((v335.toInt = 0) → Φ (2 : Int32) g334) ∧ ((v335.toInt ≠ 0) → Φ (0 : Int32) g334))))) ∧ ((11 < v12.toInt) → wp_kwordAt_16 Z q1 (0 : Int32) g10 (fun (v342 : Int32) (g341 : mSt) => po_kwordAt_16 Z q1 (0 : Int32) g10 v342 g341 → wp_kwordAt_16 Z q1 (4 : Int32) g341 (fun (v344 : Int32) (g343 : mSt) => po_kwordAt_16 Z q1 (4 : Int32) g341 v344 g343 → wp_kgapCame Z i0 v342 v344 v13 g343 (fun (v346 : Int32) (g345 : mSt) => po_kgapCame Z i0 v342 v344 v13 g343 v346 g345 → ((v346.toInt = 0) → Φ (2 : Int32) g345) ∧ ((v346.toInt ≠ 0) → Φ (0 : Int32) g345))))) ∧ ((v12.toInt = 8) → wp_kdataCame Z i0 q1 v8 v13 g10 (fun (_ : Int32) (g353 : mSt) => po_kdataCame Z i0 q1 v8 v13 g10 0 g353 → Φ (0 : Int32) g353)) ∧ ((v12.toInt = 9) → wp_kwordAt_16 Z q1 (0 : Int32) g10 (fun (v356 : Int32) (g355 : mSt) => po_kwordAt_16 Z q1 (0 : Int32) g10 v356 g355 → wp_kwordAt_16 Z q1 (4 : Int32) g355 (fun (v358 : Int32) (g357 : mSt) => po_kwordAt_16 Z q1 (4 : Int32) g355 v358 g357 → wp_kgapCame Z i0 v356 v358 v13 g357 (fun (v360 : Int32) (g359 : mSt) => po_kgapCame Z i0 v356 v358 v13 g357 v360 g359 → ((v360.toInt = 0) → Φ (2 : Int32) g359) ∧ ((v360.toInt ≠ 0) → Φ (0 : Int32) g359))))) ∧ ((v12.toInt = 10) → wp_kwordAt_16 Z q1 (0 : Int32) g10 (fun (v368 : Int32) (g367 : mSt) => po_kwordAt_16 Z q1 (0 : Int32) g10 v368 g367 → wp_kpollCame Z i0 v368 v13 g367 (fun (_ : Int32) (g369 : mSt) => po_kpollCame Z i0 v368 v13 g367 0 g369 → Φ (0 : Int32) g369))) ∧ ((v12.toInt = 11) → ∀ (v371 : Int32), v371 = p2 - (12 : Int32) → rg (-8) (228) v371 → v371.toInt = p2.toInt - 12 → ∀ (v373 : Int32), v373 = v371 / (4 : Int32) → rg (-2147483648) (2147483647) v373 → wp_kstatusCame Z i0 q1 v373 v13 p3 g10 (fun (v376 : Int32) (g375 : mSt) => po_kstatusCame Z i0 q1 v373 v13 p3 g10 v376 g375 → ((v376.toInt = 0) → Φ (2 : Int32) g375) ∧ ((v376.toInt ≠ 0) → Φ (0 : Int32) g375)))) ∧ ((v325.toInt ≠ 2) → Φ (0 : Int32) g10)) ∧ ((v12.toInt = 12) → ∀ (v384 : Int32), v384 = g10 164 i0 → rg (0) (4) v384 → ((v384.toInt = 2) → ((v12.toInt < 8) → wp_kwordAt_16 Z q1 (0 : Int32) g10 (fun (v390 : Int32) (g389 : mSt) => po_kwordAt_16 Z q1 (0 : Int32) g10 v390 g389 → wp_kwordAt_16 Z q1 (4 : Int32) g389 (fun (v392 : Int32) (g391 : mSt) => po_kwordAt_16 Z q1 (4 : Int32) g389 v392 g391 → wp_kgapCame Z i0 v390 v392 v13 g391 (fun (v394 : Int32) (g393 : mSt) => po_kgapCame Z i0 v390 v392 v13 g391 v394 g393 → ((v394.toInt = 0) → Φ (2 : Int32) g393) ∧ ((v394.toInt ≠ 0) → Φ (0 : Int32) g393))))) ∧ ((11 < v12.toInt) → wp_kwordAt_16 Z q1 (0 : Int32) g10 (fun (v401 : Int32) (g400 : mSt) => po_kwordAt_16 Z q1 (0 : Int32) g10 v401 g400 → wp_kwordAt_16 Z q1 (4 : Int32) g400 (fun (v403 : Int32) (g402 : mSt) => po_kwordAt_16 Z q1 (4 : Int32) g400 v403 g402 → wp_kgapCame Z i0 v401 v403 v13 g402 (fun (v405 : Int32) (g404 : mSt) => po_kgapCame Z i0 v401 v403 v13 g402 v405 g404 → ((v405.toInt = 0) → Φ (2 : Int32) g404) ∧ ((v405.toInt ≠ 0) → Φ (0 : Int32) g404))))) ∧ ((v12.toInt = 8) → wp_kdataCame Z i0 q1 v8 v13 g10 (fun (_ : Int32) (g412 : mSt) => po_kdataCame Z i0 q1 v8 v13 g10 0 g412 → Φ (0 : Int32) g412)) ∧ ((v12.toInt = 9) → wp_kwordAt_16 Z q1 (0 : Int32) g10 (fun (v415 : Int32) (g414 : mSt) => po_kwordAt_16 Z q1 (0 : Int32) g10 v415 g414 → wp_kwordAt_16 Z q1 (4 : Int32) g414 (fun (v417 : Int32) (g416 : mSt) => po_kwordAt_16 Z q1 (4 : Int32) g414 v417 g416 → wp_kgapCame Z i0 v415 v417 v13 g416 (fun (v419 : Int32) (g418 : mSt) => po_kgapCame Z i0 v415 v417 v13 g416 v419 g418 → ((v419.toInt = 0) → Φ (2 : Int32) g418) ∧ ((v419.toInt ≠ 0) → Φ (0 : Int32) g418))))) ∧ ((v12.toInt = 10) → wp_kwordAt_16 Z q1 (0 : Int32) g10 (fun (v427 : Int32) (g426 : mSt) => po_kwordAt_16 Z q1 (0 : Int32) g10 v427 g426 → wp_kpollCame Z i0 v427 v13 g426 (fun (_ : Int32) (g428 : mSt) => po_kpollCame Z i0 v427 v13 g426 0 g428 → Φ (0 : Int32) g428))) ∧ ((v12.toInt = 11) → ∀ (v430 : Int32), v430 = p2 - (12 : Int32) → rg (-8) (228) v430 → v430.toInt = p2.toInt - 12 → ∀ (v432 : Int32), v432 = v430 / (4 : Int32) → rg (-2147483648) (2147483647) v432 → wp_kstatusCame Z i0 q1 v432 v13 p3 g10 (fun (v435 : Int32) (g434 : mSt) => po_kstatusCame Z i0 q1 v432 v13 p3 g10 v435 g434 → ((v435.toInt = 0) → Φ (2 : Int32) g434) ∧ ((v435.toInt ≠ 0) → Φ (0 : Int32) g434)))) ∧ ((v384.toInt ≠ 2) → Φ (0 : Int32) g10)) ∧ ((v12.toInt = 13) → ∀ (v443 : Int32), v443 = g10 164 i0 → rg (0) (4) v443 → ((v443.toInt = 2) → ((v12.toInt < 8) → wp_kwordAt_16 Z q1 (0 : Int32) g10 (fun (v449 : Int32) (g448 : mSt) => po_kwordAt_16 Z q1 (0 : Int32) g10 v449 g448 → wp_kwordAt_16 Z q1 (4 : Int32) g448 (fun (v451 : Int32) (g450 : mSt) => po_kwordAt_16 Z q1 (4 : Int32) g448 v451 g450 → wp_kgapCame Z i0 v449 v451 v13 g450 (fun (v453 : Int32) (g452 : mSt) => po_kgapCame Z i0 v449 v451 v13 g450 v453 g452 → ((v453.toInt = 0) → Φ (2 : Int32) g452) ∧ ((v453.toInt ≠ 0) → Φ (0 : Int32) g452))))) ∧ ((11 < v12.toInt) → wp_kwordAt_16 Z q1 (0 : Int32) g10 (fun (v460 : Int32) (g459 : mSt) => po_kwordAt_16 Z q1 (0 : Int32) g10 v460 g459 → wp_kwordAt_16 Z q1 (4 : Int32) g459 (fun (v462 : Int32) (g461 : mSt) => po_kwordAt_16 Z q1 (4 : Int32) g459 v462 g461 → wp_kgapCame Z i0 v460 v462 v13 g461 (fun (v464 : Int32) (g463 : mSt) => po_kgapCame Z i0 v460 v462 v13 g461 v464 g463 → ((v464.toInt = 0) → Φ (2 : Int32) g463) ∧ ((v464.toInt ≠ 0) → Φ (0 : Int32) g463))))) ∧ ((v12.toInt = 8) → wp_kdataCame Z i0 q1 v8 v13 g10 (fun (_ : Int32) (g471 : mSt) => po_kdataCame Z i0 q1 v8 v13 g10 0 g471 → Φ (0 : Int32) g471)) ∧ ((v12.toInt = 9) → wp_kwordAt_16 Z q1 (0 : Int32) g10 (fun (v474 : Int32) (g473 : mSt) => po_kwordAt_16 Z q1 (0 : Int32) g10 v474 g473 → wp_kwordAt_16 Z q1 (4 : Int32) g473 (fun (v476 : Int32) (g475 : mSt) => po_kwordAt_16 Z q1 (4 : Int32) g473 v476 g475 → wp_kgapCame Z i0 v474 v476 v13 g475 (fun (v478 : Int32) (g477 : mSt) => po_kgapCame Z i0 v474 v476 v13 g475 v478 g477 → ((v478.toInt = 0) → Φ (2 : Int32) g477) ∧ ((v478.toInt ≠ 0) → Φ (0 : Int32) g477))))) ∧ ((v12.toInt = 10) → wp_kwordAt_16 Z q1 (0 : Int32) g10 (fun (v486 : Int32) (g485 : mSt) => po_kwordAt_16 Z q1 (0 : Int32) g10 v486 g485 → wp_kpollCame Z i0 v486 v13 g485 (fun (_ : Int32) (g487 : mSt) => po_kpollCame Z i0 v486 v13 g485 0 g487 → Φ (0 : Int32) g487))) ∧ ((v12.toInt = 11) → ∀ (v489 : Int32), v489 = p2 - (12 : Int32) → rg (-8) (228) v489 → v489.toInt = p2.toInt - 12 → ∀ (v491 : Int32), v491 = v489 / (4 : Int32) → rg (-2147483648) (2147483647) v491 → wp_kstatusCame Z i0 q1 v491 v13 p3 g10 (fun (v494 : Int32) (g493 : mSt) => po_kstatusCame Z i0 q1 v491 v13 p3 g10 v494 g493 → ((v494.toInt = 0) → Φ (2 : Int32) g493) ∧ ((v494.toInt ≠ 0) → Φ (0 : Int32) g493)))) ∧ ((v443.toInt ≠ 2) → Φ (0 : Int32) g10)) ∧ ((v12.toInt = 14) → ∀ (v502 : Int32), v502 = g10 164 i0 → rg (0) (4) v502 → ((v502.toInt = 2) → ((v12.toInt < 8) → wp_kwordAt_16 Z q1 (0 : Int32) g10 (fun (v508 : Int32) (g507 : mSt) => po_kwordAt_16 Z q1 (0 : Int32) g10 v508 g507 → wp_kwordAt_16 Z q1 (4 : Int32) g507 (fun (v510 : Int32) (g509 : mSt) => po_kwordAt_16 Z q1 (4 : Int32) g507 v510 g509 → wp_kgapCame Z i0 v508 v510 v13 g509 (fun (v512 : Int32) (g511 : mSt) => po_kgapCame Z i0 v508 v510 v13 g509 v512 g511 → ((v512.toInt = 0) → Φ (2 : Int32) g511) ∧ ((v512.toInt ≠ 0) → Φ (0 : Int32) g511))))) ∧ ((11 < v12.toInt) → wp_kwordAt_16 Z q1 (0 : Int32) g10 (fun (v519 : Int32) (g518 : mSt) => po_kwordAt_16 Z q1 (0 : Int32) g10 v519 g518 → wp_kwordAt_16 Z q1 (4 : Int32) g518 (fun (v521 : Int32) (g520 : mSt) => po_kwordAt_16 Z q1 (4 : Int32) g518 v521 g520 → wp_kgapCame Z i0 v519 v521 v13 g520 (fun (v523 : Int32) (g522 : mSt) => po_kgapCame Z i0 v519 v521 v13 g520 v523 g522 → ((v523.toInt = 0) → Φ (2 : Int32) g522) ∧ ((v523.toInt ≠ 0) → Φ (0 : Int32) g522))))) ∧ ((v12.toInt = 8) → wp_kdataCame Z i0 q1 v8 v13 g10 (fun (_ : Int32) (g530 : mSt) => po_kdataCame Z i0 q1 v8 v13 g10 0 g530 → Φ (0 : Int32) g530)) ∧ ((v12.toInt = 9) → wp_kwordAt_16 Z q1 (0 : Int32) g10 (fun (v533 : Int32) (g532 : mSt) => po_kwordAt_16 Z q1 (0 : Int32) g10 v533 g532 → wp_kwordAt_16 Z q1 (4 : Int32) g532 (fun (v535 : Int32) (g534 : mSt) => po_kwordAt_16 Z q1 (4 : Int32) g532 v535 g534 → wp_kgapCame Z i0 v533 v535 v13 g534 (fun (v537 : Int32) (g536 : mSt) => po_kgapCame Z i0 v533 v535 v13 g534 v537 g536 → ((v537.toInt = 0) → Φ (2 : Int32) g536) ∧ ((v537.toInt ≠ 0) → Φ (0 : Int32) g536))))) ∧ ((v12.toInt = 10) → wp_kwordAt_16 Z q1 (0 : Int32) g10 (fun (v545 : Int32) (g544 : mSt) => po_kwordAt_16 Z q1 (0 : Int32) g10 v545 g544 → wp_kpollCame Z i0 v545 v13 g544 (fun (_ : Int32) (g546 : mSt) => po_kpollCame Z i0 v545 v13 g544 0 g546 → Φ (0 : Int32) g546))) ∧ ((v12.toInt = 11) → ∀ (v548 : Int32), v548 = p2 - (12 : Int32) → rg (-8) (228) v548 → v548.toInt = p2.toInt - 12 → ∀ (v550 : Int32), v550 = v548 / (4 : Int32) → rg (-2147483648) (2147483647) v550 → wp_kstatusCame Z i0 q1 v550 v13 p3 g10 (fun (v553 : Int32) (g552 : mSt) => po_kstatusCame Z i0 q1 v550 v13 p3 g10 v553 g552 → ((v553.toInt = 0) → Φ (2 : Int32) g552) ∧ ((v553.toInt ≠ 0) → Φ (0 : Int32) g552)))) ∧ ((v502.toInt ≠ 2) → Φ (0 : Int32) g10)) ∧ ((v12.toInt = 15) → wp_kanswerCame Z i0 v12 p3 g10 (fun (_ : Int32) (g561 : mSt) => po_kanswerCame Z i0 v12 p3 g10 0 g561 → Φ (0 : Int32) g561)))) ∧ ((v2.toInt = 0) → Φ (0 : Int32) g1))
set_option maxHeartbeats 4000000 in
set_option maxRecDepth 100000 in
theorem v_kunitCame {p : Program} {l : Launch} {e : Env} {s : State} {m : MethodId} {args : Array Value} {below : List Frame} {meth : Method} {c : Code} {H : Heap} {locs : List Loc} {Q : State → Prop} {ls : Array Slot} {G : cG} {Z : cZ} {A : Nat → Prop} {g : mSt} {H0 : Heap} {X : Int} (x : cX p c cX5_unitCame s args (wk (Cond.code yX5_unitCame cX5_unitCame 7 (some .int))) m G Z A RX5 H0) (hml : c.maxLocals = 7) (L : cL G Z A H0 X g H locs) (hX : 0 ≤ X ∧ X ≤ 2000000000) (i0 : Nat) (q1 : Nat) (p2 : Int32) (p3 : Int32) (hi0 : i0 < 2 * Z.n) (hq1 : Z.al 16 q1) {Φ : Int32 → mSt → Prop} (hW : wfP (wp_kunitCame Z i0 q1 p2 p3 g Φ)) (hl : lv_has ls 7 [(0, .ref (Z.ad 5 i0)), (1, .ref (Z.ad 16 q1)), (2, .int p2), (3, .int p3)]) (hQ : ∀ (pc' : Nat) (ls' : Array Slot) (r : Int32) (g1 : mSt) (H1 : Heap) (locs1 : List Loc), decode cX5_unitCame pc' = .ok (.ireturn, 1) → cL G Z A H0 X g1 H1 locs1 → (wfP (Φ r g1) ∧ mFi (im_kunitCame Z i0 q1 p2 p3) g g1 ∧ (mFr [67, 108, 111, 164, 165, 166, 167, 168, 169, 170, 171, 172, 174, 175, 178, 179, 180, 197, 198, 421, 422, 544, 576, 768, 864, 928, 1248, 1280, 1344] g g1 ∧ rg (0) (2) r ∧ True)) → W p l e rm_kunitCame s m args below meth c H1 locs1 0 0 Q (F0 m pc' ls' [.int r])) : W p l e rm_kunitCame s m args below meth c H locs 0 0 Q (F0 m 0 ls []) := by
  have hx := x.1
  have hb := x.2.1
  have hz := x.2.2.2.2.2.2.2.1
  have hzn := hz.1
  have hal0 : Z.al 5 i0 := hz.2 5 i0 (show i0 < 2 * Z.n from hi0)
  have up2 : (-2147483648 : Int) ≤ p2.toInt ∧ p2.toInt ≤ 2147483647 := (rg_any p2)
  have up3 : (-2147483648 : Int) ≤ p3.toInt ∧ p3.toInt ≤ 2147483647 := (rg_any p3)
  refine lv_aload_n hx hb dX5_unitCame_0 rfl (lv_at hl 1 rfl) ?_
  refine lv_iload_n hx hb dX5_unitCame_1 rfl (lv_at hl 2 rfl) ?_
  refine c_si (As := [.ref (Z.ad 16 q1), .int p2]) (rest := []) x hml L (d_kisUnit l X g q1 p2 hX hq1 hW) (wk_T kt_X5_isUnit kl_X5_143 kn_X5 (wk_all kd_X5_isUnit)) rfl ⟨rfl, rfl⟩ hd_kisUnit ⟨Nat.le_of_ble_eq_true rfl, Nat.le_of_ble_eq_true rfl⟩ rfl hl.1 rfl (lv_room (Nat.le_of_ble_eq_true rfl)) dX5_unitCame_2 (fun v2 g1 H1 k1 hp1 L1 => ?_)
  obtain ⟨hW, hi1, hp1⟩ := hp1
  replace hW := wfP_i hW ⟨hi1, hp1⟩
  have rv2 : rg (0) (1) v2 := hp1.2.1
  have uv2 : (0 : Int) ≤ v2.toInt ∧ v2.toInt ≤ 1 := rv2
  have hw3 := hp1.2.2
  refine lv_if_ne (tgt := 10) hx hb dX5_unitCame_5 (by decide) (fun c5_4 => ?_) (fun c5_4 => ?_)
  · skip
    replace hW := wfP_i (wfP_l hW) (i_ne c5_4 rfl (rg_i kc_0))
    have ic5_4 : v2.toInt ≠ (0 : Int32).toInt := fun z => c5_4 (Int32.toInt_inj.mp z)
    have y5 : (0 : Int32).toInt = 0 := by decide
    have q6 : rg (1) (1) v2 := rg_neL c5_4 rv2 kc_0
    have uq6 : (1 : Int) ≤ v2.toInt ∧ v2.toInt ≤ 1 := q6
    have q7 : rg (4) (240) p2 := ⟨by omega, by omega⟩
    refine lv_aload_n hx hb dX5_unitCame_10 rfl (lv_at hl 1 rfl) ?_
    refine lv_iload_n hx hb dX5_unitCame_11 rfl (lv_at hl 2 rfl) ?_
    refine lv_iconst (v := 4) hx hb dX5_unitCame_12 (by decide) ?_
    refine lv_isub hx hb dX5_unitCame_13 ?_
    refine lv_topi (fun v8 ev8 => ?_)
    have rv8 : rg (0) (236) v8 := (rg_sub ev8 q7 kc_4 rfl).1
    replace hW := (wfP_i (wfP_i (wfP_i (wfP_a hW v8) ev8) rv8) (w_isub ((rg_sub ev8 q7 kc_4 rfl).2) rfl (rg_i kc_4)))
    have tv8 := (rg_sub ev8 q7 kc_4 rfl).2
    have y9 : (4 : Int32).toInt = 4 := by decide
    have uv8 : (0 : Int) ≤ v8.toInt ∧ v8.toInt ≤ 236 := rv8
    refine c_siN (As := [.ref (Z.ad 16 q1), .int v8]) (rest := []) x hml L1 (d_kwordAt_16 l X g1 q1 v8 hX hq1 (rg_w rv8 rfl) hW) (goodC (wk_all kd_X11_wordAt)) (List.mem_of_getElem? (i := 12) rfl) (wk_in kt_X11_wordAt) (wk_in kn_X11) rfl ⟨rfl, rfl⟩ hd_kwordAt_16 ⟨Nat.le_of_ble_eq_true rfl, Nat.le_of_ble_eq_true rfl⟩ rfl hl.1 rfl (lv_room (Nat.le_of_ble_eq_true rfl)) dX5_unitCame_14 (fun v11 g10 H10 k10 hp10 L10 => ?_)
    obtain ⟨hW, hi10, hp10⟩ := hp10
    replace hW := wfP_i hW ⟨hi10, hp10⟩
    have rv11 : rg (-2147483648) (2147483647) v11 := hp10.2.1
    have uv11 : (-2147483648 : Int) ≤ v11.toInt ∧ v11.toInt ≤ 2147483647 := rv11
    refine lv_istore (lv' := [(4, .int v11), (0, .ref (Z.ad 5 i0)), (1, .ref (Z.ad 16 q1)), (2, .int p2), (3, .int p3)]) hx hb dX5_unitCame_17 hl (by decide) rfl (fun ls hl => ?_)
    refine lv_iload hx hb dX5_unitCame_19 (lv_at hl 0 rfl) ?_
    refine lv_bipush (v := 24) hx hb dX5_unitCame_21 (by decide) ?_
    refine lv_iushr hx hb dX5_unitCame_23 rfl ?_
    refine lv_topi (fun v12 ev12 => ?_)
    have rv12 : rg (0) (255) v12 := rg_ush ev12 24 rfl
    replace hW := (wfP_i (wfP_i (wfP_a hW v12) ev12) rv12)
    have uv12 : (0 : Int) ≤ v12.toInt ∧ v12.toInt ≤ 255 := rv12
    refine lv_istore (lv' := [(5, .int v12), (4, .int v11), (0, .ref (Z.ad 5 i0)), (1, .ref (Z.ad 16 q1)), (2, .int p2), (3, .int p3)]) hx hb dX5_unitCame_24 hl (by decide) rfl (fun ls hl => ?_)
    refine lv_iload hx hb dX5_unitCame_26 (lv_at hl 1 rfl) ?_
    refine lv_ldc (own := RX5) (v := 16777215) hx hb x.2.2.2.2.1 (x.2.2.1 _ (wk_in kk_X5_151)) dX5_unitCame_28 ?_
    refine lv_iand hx hb dX5_unitCame_30 ?_
    refine lv_topi (fun v13 ev13 => ?_)
    have rv13 : rg (0) (16777215) v13 := rg_and ev13 24 16777215 (by decide) rfl
    replace hW := (wfP_i (wfP_i (wfP_a hW v13) ev13) rv13)
    have uv13 : (0 : Int) ≤ v13.toInt ∧ v13.toInt ≤ 16777215 := rv13
    refine lv_istore (lv' := [(6, .int v13), (5, .int v12), (4, .int v11), (0, .ref (Z.ad 5 i0)), (1, .ref (Z.ad 16 q1)), (2, .int p2), (3, .int p3)]) hx hb dX5_unitCame_31 hl (by decide) rfl (fun ls hl => ?_)
    refine lv_iload hx hb dX5_unitCame_33 (lv_at hl 1 rfl) ?_
    rcases (show v12.toInt < 1 ∨ 15 < v12.toInt ∨ v12.toInt = 1 ∨ v12.toInt = 2 ∨ v12.toInt = 3 ∨ v12.toInt = 4 ∨ v12.toInt = 5 ∨ v12.toInt = 6 ∨ v12.toInt = 7 ∨ v12.toInt = 8 ∨ v12.toInt = 9 ∨ v12.toInt = 10 ∨ v12.toInt = 11 ∨ v12.toInt = 12 ∨ v12.toInt = 13 ∨ v12.toInt = 14 ∨ v12.toInt = 15 by omega) with c35_14 | c35_14 | c35_14 | c35_14 | c35_14 | c35_14 | c35_14 | c35_14 | c35_14 | c35_14 | c35_14 | c35_14 | c35_14 | c35_14 | c35_14 | c35_14 | c35_14
    · skip
      replace hW := wfP_i (wfP_l hW) c35_14
      refine lv_tableOut (tgt := 141) hx hb dX5_unitCame_35 (Or.inl c35_14) (by decide) ?_
      refine lv_aload_n hx hb dX5_unitCame_141 rfl (lv_at hl 3 rfl) ?_
      refine c_geti x L10 5 i0 4 164 hal0 rfl rfl (wk_in kf_X5_26) dX5_unitCame_142 (fun v15 ev15 wv15 => ?_)
      have rv15 : rg (0) (4) v15 := clj_164 wv15
      replace hW := (wfP_i (wfP_i (wfP_a hW v15) ev15) rv15)
      have uv15 : (0 : Int) ≤ v15.toInt ∧ v15.toInt ≤ 4 := rv15
      refine lv_iconst (v := 2) hx hb dX5_unitCame_145 (by decide) ?_
      refine lv_icmp_eq (tgt := 151) hx hb dX5_unitCame_146 (by decide) (fun c146_16 => ?_) (fun c146_16 => ?_)
      · skip
        replace hW := wfP_i (wfP_l hW) (i_eq c146_16 rfl (rg_i kc_2))
        have ic146_16 := congrArg Int32.toInt c146_16
        have y17 : (2 : Int32).toInt = 2 := by decide
        have q18 : rg (2) (2) v15 := (rg_eq c146_16 rv15 kc_2).1
        have uq18 : (2 : Int) ≤ v15.toInt ∧ v15.toInt ≤ 2 := q18
        refine lv_iload hx hb dX5_unitCame_151 (lv_at hl 1 rfl) ?_
        rcases (show v12.toInt < 8 ∨ 11 < v12.toInt ∨ v12.toInt = 8 ∨ v12.toInt = 9 ∨ v12.toInt = 10 ∨ v12.toInt = 11 by omega) with c153_19 | c153_19 | c153_19 | c153_19 | c153_19 | c153_19
        · skip
          replace hW := wfP_i (wfP_l hW) c153_19
          refine lv_tableOut (tgt := 232) hx hb dX5_unitCame_153 (Or.inl c153_19) (by decide) ?_
          refine lv_aload_n hx hb dX5_unitCame_232 rfl (lv_at hl 3 rfl) ?_
          refine lv_aload_n hx hb dX5_unitCame_233 rfl (lv_at hl 4 rfl) ?_
          refine lv_iconst (v := 0) hx hb dX5_unitCame_234 (by decide) ?_
          refine c_siN (As := [.ref (Z.ad 16 q1), .int (0 : Int32)]) (rest := [.ref (Z.ad 5 i0)]) x hml L10 (d_kwordAt_16 l X g10 q1 (0 : Int32) hX hq1 (rg_w kc_0 rfl) hW) (goodC (wk_all kd_X11_wordAt)) (List.mem_of_getElem? (i := 12) rfl) (wk_in kt_X11_wordAt) (wk_in kn_X11) rfl ⟨rfl, rfl⟩ hd_kwordAt_16 ⟨Nat.le_of_ble_eq_true rfl, Nat.le_of_ble_eq_true rfl⟩ rfl hl.1 rfl (lv_room (Nat.le_of_ble_eq_true rfl)) dX5_unitCame_235 (fun v21 g20 H20 k20 hp20 L20 => ?_)
          obtain ⟨hW, hi20, hp20⟩ := hp20
          replace hW := wfP_i hW ⟨hi20, hp20⟩
          have rv21 : rg (-2147483648) (2147483647) v21 := hp20.2.1
          have uv21 : (-2147483648 : Int) ≤ v21.toInt ∧ v21.toInt ≤ 2147483647 := rv21
          refine lv_aload_n hx hb dX5_unitCame_238 rfl (lv_at hl 4 rfl) ?_
          refine lv_iconst (v := 4) hx hb dX5_unitCame_239 (by decide) ?_
          refine c_siN (As := [.ref (Z.ad 16 q1), .int (4 : Int32)]) (rest := [.int v21, .ref (Z.ad 5 i0)]) x hml L20 (d_kwordAt_16 l X g20 q1 (4 : Int32) hX hq1 (rg_w kc_4 rfl) hW) (goodC (wk_all kd_X11_wordAt)) (List.mem_of_getElem? (i := 12) rfl) (wk_in kt_X11_wordAt) (wk_in kn_X11) rfl ⟨rfl, rfl⟩ hd_kwordAt_16 ⟨Nat.le_of_ble_eq_true rfl, Nat.le_of_ble_eq_true rfl⟩ rfl hl.1 rfl (lv_room (Nat.le_of_ble_eq_true rfl)) dX5_unitCame_240 (fun v23 g22 H22 k22 hp22 L22 => ?_)
          obtain ⟨hW, hi22, hp22⟩ := hp22
          replace hW := wfP_i hW ⟨hi22, hp22⟩
          have rv23 : rg (-2147483648) (2147483647) v23 := hp22.2.1
          have uv23 : (-2147483648 : Int) ≤ v23.toInt ∧ v23.toInt ≤ 2147483647 := rv23
          refine lv_iload hx hb dX5_unitCame_243 (lv_at hl 0 rfl) ?_
          refine c_ci (As := [.int v21, .int v23, .int v13]) (rest := []) x hml L22 5 i0 hal0 rfl (d_kgapCame l X g22 i0 v21 v23 v13 hX (show i0 < 2 * Z.n from (by omega)) (rg_w rv13 rfl) hW) (wk_V kd_X5_gapCame kl_X5_175 ki_X5_gapCame ks_X5_X5_gapCame kn_X5) rfl ⟨rfl, rfl⟩ hd_kgapCame ⟨Nat.le_of_ble_eq_true rfl, Nat.le_of_ble_eq_true rfl⟩ rfl hl.1 rfl (lv_room (Nat.le_of_ble_eq_true rfl)) dX5_unitCame_245 (fun v25 g24 H24 k24 hp24 L24 => ?_)
          obtain ⟨hW, hi24, hp24⟩ := hp24
          replace hW := wfP_i hW ⟨hi24, hp24⟩
          have rv25 : rg (0) (1) v25 := hp24.2.1
          have uv25 : (0 : Int) ≤ v25.toInt ∧ v25.toInt ≤ 1 := rv25
          refine lv_if_eq (tgt := 255) hx hb dX5_unitCame_248 (by decide) (fun c248_26 => ?_) (fun c248_26 => ?_)
          · skip
            replace hW := wfP_i (wfP_l hW) (i_eq c248_26 rfl (rg_i kc_0))
            have ic248_26 := congrArg Int32.toInt c248_26
            have y27 : (0 : Int32).toInt = 0 := by decide
            have q28 : rg (0) (0) v25 := (rg_eq c248_26 rv25 kc_0).1
            have uq28 : (0 : Int) ≤ v25.toInt ∧ v25.toInt ≤ 0 := q28
            refine lv_iconst (v := 2) hx hb dX5_unitCame_255 (by decide) ?_
            exact hQ _ _ (2 : Int32) _ _ _ dX5_unitCame_256 L24 ⟨hW, (mFi.sub (mFi.sub (mFi.sub (mFi.sub (mFi.sub mFi.rf hi1 mSub_nil) hi10 mSub_nil) hi20 mSub_nil) hi22 mSub_nil) hi24 (mSub_eq 5 rfl (mSub_eq 6 rfl (mSub_eq 30 rfl (mSub_eq 32 rfl mSub_nil))))), (mFr.tr (mFr.tr (mFr.tr (mFr.tr (mFr.tr mFr.rf hp1.1 rfl) hp10.1 rfl) hp20.1 rfl) hp22.1 rfl) hp24.1 rfl), rg_w kc_2 rfl, trivial⟩
          · skip
            replace hW := wfP_i (wfP_r hW) (i_ne c248_26 rfl (rg_i kc_0))
            have ic248_26 : v25.toInt ≠ (0 : Int32).toInt := fun z => c248_26 (Int32.toInt_inj.mp z)
            have y29 : (0 : Int32).toInt = 0 := by decide
            have q30 : rg (1) (1) v25 := rg_neL c248_26 rv25 kc_0
            have uq30 : (1 : Int) ≤ v25.toInt ∧ v25.toInt ≤ 1 := q30
            refine lv_iconst (v := 0) hx hb dX5_unitCame_251 (by decide) ?_
            refine lv_goto (tgt := 256) hx hb dX5_unitCame_252 (by decide) ?_
            exact hQ _ _ (0 : Int32) _ _ _ dX5_unitCame_256 L24 ⟨hW, (mFi.sub (mFi.sub (mFi.sub (mFi.sub (mFi.sub mFi.rf hi1 mSub_nil) hi10 mSub_nil) hi20 mSub_nil) hi22 mSub_nil) hi24 (mSub_eq 5 rfl (mSub_eq 6 rfl (mSub_eq 30 rfl (mSub_eq 32 rfl mSub_nil))))), (mFr.tr (mFr.tr (mFr.tr (mFr.tr (mFr.tr mFr.rf hp1.1 rfl) hp10.1 rfl) hp20.1 rfl) hp22.1 rfl) hp24.1 rfl), rg_w kc_0 rfl, trivial⟩
        · skip
          replace hW := wfP_i (wfP_l (wfP_r hW)) c153_19
          refine lv_tableOut (tgt := 232) hx hb dX5_unitCame_153 (Or.inr c153_19) (by decide) ?_
          refine lv_aload_n hx hb dX5_unitCame_232 rfl (lv_at hl 3 rfl) ?_
          refine lv_aload_n hx hb dX5_unitCame_233 rfl (lv_at hl 4 rfl) ?_
          refine lv_iconst (v := 0) hx hb dX5_unitCame_234 (by decide) ?_
          refine c_siN (As := [.ref (Z.ad 16 q1), .int (0 : Int32)]) (rest := [.ref (Z.ad 5 i0)]) x hml L10 (d_kwordAt_16 l X g10 q1 (0 : Int32) hX hq1 (rg_w kc_0 rfl) hW) (goodC (wk_all kd_X11_wordAt)) (List.mem_of_getElem? (i := 12) rfl) (wk_in kt_X11_wordAt) (wk_in kn_X11) rfl ⟨rfl, rfl⟩ hd_kwordAt_16 ⟨Nat.le_of_ble_eq_true rfl, Nat.le_of_ble_eq_true rfl⟩ rfl hl.1 rfl (lv_room (Nat.le_of_ble_eq_true rfl)) dX5_unitCame_235 (fun v32 g31 H31 k31 hp31 L31 => ?_)
          obtain ⟨hW, hi31, hp31⟩ := hp31
          replace hW := wfP_i hW ⟨hi31, hp31⟩
          have rv32 : rg (-2147483648) (2147483647) v32 := hp31.2.1
          have uv32 : (-2147483648 : Int) ≤ v32.toInt ∧ v32.toInt ≤ 2147483647 := rv32
          refine lv_aload_n hx hb dX5_unitCame_238 rfl (lv_at hl 4 rfl) ?_
          refine lv_iconst (v := 4) hx hb dX5_unitCame_239 (by decide) ?_
          refine c_siN (As := [.ref (Z.ad 16 q1), .int (4 : Int32)]) (rest := [.int v32, .ref (Z.ad 5 i0)]) x hml L31 (d_kwordAt_16 l X g31 q1 (4 : Int32) hX hq1 (rg_w kc_4 rfl) hW) (goodC (wk_all kd_X11_wordAt)) (List.mem_of_getElem? (i := 12) rfl) (wk_in kt_X11_wordAt) (wk_in kn_X11) rfl ⟨rfl, rfl⟩ hd_kwordAt_16 ⟨Nat.le_of_ble_eq_true rfl, Nat.le_of_ble_eq_true rfl⟩ rfl hl.1 rfl (lv_room (Nat.le_of_ble_eq_true rfl)) dX5_unitCame_240 (fun v34 g33 H33 k33 hp33 L33 => ?_)
          obtain ⟨hW, hi33, hp33⟩ := hp33
          replace hW := wfP_i hW ⟨hi33, hp33⟩
          have rv34 : rg (-2147483648) (2147483647) v34 := hp33.2.1
          have uv34 : (-2147483648 : Int) ≤ v34.toInt ∧ v34.toInt ≤ 2147483647 := rv34
          refine lv_iload hx hb dX5_unitCame_243 (lv_at hl 0 rfl) ?_
          refine c_ci (As := [.int v32, .int v34, .int v13]) (rest := []) x hml L33 5 i0 hal0 rfl (d_kgapCame l X g33 i0 v32 v34 v13 hX (show i0 < 2 * Z.n from (by omega)) (rg_w rv13 rfl) hW) (wk_V kd_X5_gapCame kl_X5_175 ki_X5_gapCame ks_X5_X5_gapCame kn_X5) rfl ⟨rfl, rfl⟩ hd_kgapCame ⟨Nat.le_of_ble_eq_true rfl, Nat.le_of_ble_eq_true rfl⟩ rfl hl.1 rfl (lv_room (Nat.le_of_ble_eq_true rfl)) dX5_unitCame_245 (fun v36 g35 H35 k35 hp35 L35 => ?_)
          obtain ⟨hW, hi35, hp35⟩ := hp35
          replace hW := wfP_i hW ⟨hi35, hp35⟩
          have rv36 : rg (0) (1) v36 := hp35.2.1
          have uv36 : (0 : Int) ≤ v36.toInt ∧ v36.toInt ≤ 1 := rv36
          refine lv_if_eq (tgt := 255) hx hb dX5_unitCame_248 (by decide) (fun c248_37 => ?_) (fun c248_37 => ?_)
          · skip
            replace hW := wfP_i (wfP_l hW) (i_eq c248_37 rfl (rg_i kc_0))
            have ic248_37 := congrArg Int32.toInt c248_37
            have y38 : (0 : Int32).toInt = 0 := by decide
            have q39 : rg (0) (0) v36 := (rg_eq c248_37 rv36 kc_0).1
            have uq39 : (0 : Int) ≤ v36.toInt ∧ v36.toInt ≤ 0 := q39
            refine lv_iconst (v := 2) hx hb dX5_unitCame_255 (by decide) ?_
            exact hQ _ _ (2 : Int32) _ _ _ dX5_unitCame_256 L35 ⟨hW, (mFi.sub (mFi.sub (mFi.sub (mFi.sub (mFi.sub mFi.rf hi1 mSub_nil) hi10 mSub_nil) hi31 mSub_nil) hi33 mSub_nil) hi35 (mSub_eq 5 rfl (mSub_eq 6 rfl (mSub_eq 30 rfl (mSub_eq 32 rfl mSub_nil))))), (mFr.tr (mFr.tr (mFr.tr (mFr.tr (mFr.tr mFr.rf hp1.1 rfl) hp10.1 rfl) hp31.1 rfl) hp33.1 rfl) hp35.1 rfl), rg_w kc_2 rfl, trivial⟩
          · skip
            replace hW := wfP_i (wfP_r hW) (i_ne c248_37 rfl (rg_i kc_0))
            have ic248_37 : v36.toInt ≠ (0 : Int32).toInt := fun z => c248_37 (Int32.toInt_inj.mp z)
            have y40 : (0 : Int32).toInt = 0 := by decide
            have q41 : rg (1) (1) v36 := rg_neL c248_37 rv36 kc_0
            have uq41 : (1 : Int) ≤ v36.toInt ∧ v36.toInt ≤ 1 := q41
            refine lv_iconst (v := 0) hx hb dX5_unitCame_251 (by decide) ?_
            refine lv_goto (tgt := 256) hx hb dX5_unitCame_252 (by decide) ?_
            exact hQ _ _ (0 : Int32) _ _ _ dX5_unitCame_256 L35 ⟨hW, (mFi.sub (mFi.sub (mFi.sub (mFi.sub (mFi.sub mFi.rf hi1 mSub_nil) hi10 mSub_nil) hi31 mSub_nil) hi33 mSub_nil) hi35 (mSub_eq 5 rfl (mSub_eq 6 rfl (mSub_eq 30 rfl (mSub_eq 32 rfl mSub_nil))))), (mFr.tr (mFr.tr (mFr.tr (mFr.tr (mFr.tr mFr.rf hp1.1 rfl) hp10.1 rfl) hp31.1 rfl) hp33.1 rfl) hp35.1 rfl), rg_w kc_0 rfl, trivial⟩
        · skip
          replace hW := wfP_i (wfP_l (wfP_r (wfP_r hW))) c153_19
          have q42 : rg (8) (8) v12 := ⟨by omega, by omega⟩
          refine lv_tableIn (off := 31) (tgt := 184) hx hb dX5_unitCame_153 (by omega) (by omega) (by rw [c153_19]; rfl) (by decide) ?_
          refine lv_aload_n hx hb dX5_unitCame_184 rfl (lv_at hl 3 rfl) ?_
          refine lv_aload_n hx hb dX5_unitCame_185 rfl (lv_at hl 4 rfl) ?_
          refine lv_iload_n hx hb dX5_unitCame_186 rfl (lv_at hl 5 rfl) ?_
          refine lv_iconst (v := 4) hx hb dX5_unitCame_187 (by decide) ?_
          refine lv_isub hx hb dX5_unitCame_188 ?_
          refine m_top ev8 ?_
          refine lv_iload hx hb dX5_unitCame_189 (lv_at hl 0 rfl) ?_
          refine c_cv (As := [.ref (Z.ad 16 q1), .int v8, .int v13]) (rest := []) x hml L10 5 i0 hal0 rfl (d_kdataCame l X g10 i0 q1 v8 v13 hX (show i0 < 2 * Z.n from (by omega)) hq1 (rg_w rv13 rfl) hW) (wk_V kd_X5_dataCame kl_X5_165 ki_X5_dataCame ks_X5_X5_dataCame kn_X5) rfl ⟨rfl, rfl⟩ hd_kdataCame ⟨Nat.le_of_ble_eq_true rfl, Nat.le_of_ble_eq_true rfl⟩ rfl hl.1 rfl (lv_room (Nat.le_of_ble_eq_true rfl)) dX5_unitCame_191 (fun  g43 H43 k43 hp43 L43 => ?_)
          obtain ⟨hW, hi43, hp43⟩ := hp43
          replace hW := wfP_i hW ⟨hi43, hp43⟩
          refine lv_iconst (v := 0) hx hb dX5_unitCame_194 (by decide) ?_
          exact hQ _ _ (0 : Int32) _ _ _ dX5_unitCame_195 L43 ⟨hW, (mFi.sub (mFi.sub (mFi.sub mFi.rf hi1 mSub_nil) hi10 mSub_nil) hi43 (mSub_eq 0 rfl (mSub_eq 1 rfl (mSub_eq 2 rfl (mSub_eq 10 rfl (mSub_eq 23 rfl (mSub_eq 24 rfl (mSub_eq 25 rfl (mSub_eq 28 rfl (mSub_eq 29 rfl mSub_nil)))))))))), (mFr.tr (mFr.tr (mFr.tr mFr.rf hp1.1 rfl) hp10.1 rfl) hp43.1 rfl), rg_w kc_0 rfl, trivial⟩
        · skip
          replace hW := wfP_i (wfP_l (wfP_r (wfP_r (wfP_r hW)))) c153_19
          have q44 : rg (9) (9) v12 := ⟨by omega, by omega⟩
          refine lv_tableIn (off := 79) (tgt := 232) hx hb dX5_unitCame_153 (by omega) (by omega) (by rw [c153_19]; rfl) (by decide) ?_
          refine lv_aload_n hx hb dX5_unitCame_232 rfl (lv_at hl 3 rfl) ?_
          refine lv_aload_n hx hb dX5_unitCame_233 rfl (lv_at hl 4 rfl) ?_
          refine lv_iconst (v := 0) hx hb dX5_unitCame_234 (by decide) ?_
          refine c_siN (As := [.ref (Z.ad 16 q1), .int (0 : Int32)]) (rest := [.ref (Z.ad 5 i0)]) x hml L10 (d_kwordAt_16 l X g10 q1 (0 : Int32) hX hq1 (rg_w kc_0 rfl) hW) (goodC (wk_all kd_X11_wordAt)) (List.mem_of_getElem? (i := 12) rfl) (wk_in kt_X11_wordAt) (wk_in kn_X11) rfl ⟨rfl, rfl⟩ hd_kwordAt_16 ⟨Nat.le_of_ble_eq_true rfl, Nat.le_of_ble_eq_true rfl⟩ rfl hl.1 rfl (lv_room (Nat.le_of_ble_eq_true rfl)) dX5_unitCame_235 (fun v46 g45 H45 k45 hp45 L45 => ?_)
          obtain ⟨hW, hi45, hp45⟩ := hp45
          replace hW := wfP_i hW ⟨hi45, hp45⟩
          have rv46 : rg (-2147483648) (2147483647) v46 := hp45.2.1
          have uv46 : (-2147483648 : Int) ≤ v46.toInt ∧ v46.toInt ≤ 2147483647 := rv46
          refine lv_aload_n hx hb dX5_unitCame_238 rfl (lv_at hl 4 rfl) ?_
          refine lv_iconst (v := 4) hx hb dX5_unitCame_239 (by decide) ?_
          refine c_siN (As := [.ref (Z.ad 16 q1), .int (4 : Int32)]) (rest := [.int v46, .ref (Z.ad 5 i0)]) x hml L45 (d_kwordAt_16 l X g45 q1 (4 : Int32) hX hq1 (rg_w kc_4 rfl) hW) (goodC (wk_all kd_X11_wordAt)) (List.mem_of_getElem? (i := 12) rfl) (wk_in kt_X11_wordAt) (wk_in kn_X11) rfl ⟨rfl, rfl⟩ hd_kwordAt_16 ⟨Nat.le_of_ble_eq_true rfl, Nat.le_of_ble_eq_true rfl⟩ rfl hl.1 rfl (lv_room (Nat.le_of_ble_eq_true rfl)) dX5_unitCame_240 (fun v48 g47 H47 k47 hp47 L47 => ?_)
          obtain ⟨hW, hi47, hp47⟩ := hp47
          replace hW := wfP_i hW ⟨hi47, hp47⟩
          have rv48 : rg (-2147483648) (2147483647) v48 := hp47.2.1
          have uv48 : (-2147483648 : Int) ≤ v48.toInt ∧ v48.toInt ≤ 2147483647 := rv48
          refine lv_iload hx hb dX5_unitCame_243 (lv_at hl 0 rfl) ?_
          refine c_ci (As := [.int v46, .int v48, .int v13]) (rest := []) x hml L47 5 i0 hal0 rfl (d_kgapCame l X g47 i0 v46 v48 v13 hX (show i0 < 2 * Z.n from (by omega)) (rg_w rv13 rfl) hW) (wk_V kd_X5_gapCame kl_X5_175 ki_X5_gapCame ks_X5_X5_gapCame kn_X5) rfl ⟨rfl, rfl⟩ hd_kgapCame ⟨Nat.le_of_ble_eq_true rfl, Nat.le_of_ble_eq_true rfl⟩ rfl hl.1 rfl (lv_room (Nat.le_of_ble_eq_true rfl)) dX5_unitCame_245 (fun v50 g49 H49 k49 hp49 L49 => ?_)
          obtain ⟨hW, hi49, hp49⟩ := hp49
          replace hW := wfP_i hW ⟨hi49, hp49⟩
          have rv50 : rg (0) (1) v50 := hp49.2.1
          have uv50 : (0 : Int) ≤ v50.toInt ∧ v50.toInt ≤ 1 := rv50
          refine lv_if_eq (tgt := 255) hx hb dX5_unitCame_248 (by decide) (fun c248_51 => ?_) (fun c248_51 => ?_)
          · skip
            replace hW := wfP_i (wfP_l hW) (i_eq c248_51 rfl (rg_i kc_0))
            have ic248_51 := congrArg Int32.toInt c248_51
            have y52 : (0 : Int32).toInt = 0 := by decide
            have q53 : rg (0) (0) v50 := (rg_eq c248_51 rv50 kc_0).1
            have uq53 : (0 : Int) ≤ v50.toInt ∧ v50.toInt ≤ 0 := q53
            refine lv_iconst (v := 2) hx hb dX5_unitCame_255 (by decide) ?_
            exact hQ _ _ (2 : Int32) _ _ _ dX5_unitCame_256 L49 ⟨hW, (mFi.sub (mFi.sub (mFi.sub (mFi.sub (mFi.sub mFi.rf hi1 mSub_nil) hi10 mSub_nil) hi45 mSub_nil) hi47 mSub_nil) hi49 (mSub_eq 5 rfl (mSub_eq 6 rfl (mSub_eq 30 rfl (mSub_eq 32 rfl mSub_nil))))), (mFr.tr (mFr.tr (mFr.tr (mFr.tr (mFr.tr mFr.rf hp1.1 rfl) hp10.1 rfl) hp45.1 rfl) hp47.1 rfl) hp49.1 rfl), rg_w kc_2 rfl, trivial⟩
          · skip
            replace hW := wfP_i (wfP_r hW) (i_ne c248_51 rfl (rg_i kc_0))
            have ic248_51 : v50.toInt ≠ (0 : Int32).toInt := fun z => c248_51 (Int32.toInt_inj.mp z)
            have y54 : (0 : Int32).toInt = 0 := by decide
            have q55 : rg (1) (1) v50 := rg_neL c248_51 rv50 kc_0
            have uq55 : (1 : Int) ≤ v50.toInt ∧ v50.toInt ≤ 1 := q55
            refine lv_iconst (v := 0) hx hb dX5_unitCame_251 (by decide) ?_
            refine lv_goto (tgt := 256) hx hb dX5_unitCame_252 (by decide) ?_
            exact hQ _ _ (0 : Int32) _ _ _ dX5_unitCame_256 L49 ⟨hW, (mFi.sub (mFi.sub (mFi.sub (mFi.sub (mFi.sub mFi.rf hi1 mSub_nil) hi10 mSub_nil) hi45 mSub_nil) hi47 mSub_nil) hi49 (mSub_eq 5 rfl (mSub_eq 6 rfl (mSub_eq 30 rfl (mSub_eq 32 rfl mSub_nil))))), (mFr.tr (mFr.tr (mFr.tr (mFr.tr (mFr.tr mFr.rf hp1.1 rfl) hp10.1 rfl) hp45.1 rfl) hp47.1 rfl) hp49.1 rfl), rg_w kc_0 rfl, trivial⟩
        · skip
          replace hW := wfP_i (wfP_l (wfP_r (wfP_r (wfP_r (wfP_r hW))))) c153_19
          have q56 : rg (10) (10) v12 := ⟨by omega, by omega⟩
          refine lv_tableIn (off := 43) (tgt := 196) hx hb dX5_unitCame_153 (by omega) (by omega) (by rw [c153_19]; rfl) (by decide) ?_
          refine lv_aload_n hx hb dX5_unitCame_196 rfl (lv_at hl 3 rfl) ?_
          refine lv_aload_n hx hb dX5_unitCame_197 rfl (lv_at hl 4 rfl) ?_
          refine lv_iconst (v := 0) hx hb dX5_unitCame_198 (by decide) ?_
          refine c_siN (As := [.ref (Z.ad 16 q1), .int (0 : Int32)]) (rest := [.ref (Z.ad 5 i0)]) x hml L10 (d_kwordAt_16 l X g10 q1 (0 : Int32) hX hq1 (rg_w kc_0 rfl) hW) (goodC (wk_all kd_X11_wordAt)) (List.mem_of_getElem? (i := 12) rfl) (wk_in kt_X11_wordAt) (wk_in kn_X11) rfl ⟨rfl, rfl⟩ hd_kwordAt_16 ⟨Nat.le_of_ble_eq_true rfl, Nat.le_of_ble_eq_true rfl⟩ rfl hl.1 rfl (lv_room (Nat.le_of_ble_eq_true rfl)) dX5_unitCame_199 (fun v58 g57 H57 k57 hp57 L57 => ?_)
          obtain ⟨hW, hi57, hp57⟩ := hp57
          replace hW := wfP_i hW ⟨hi57, hp57⟩
          have rv58 : rg (-2147483648) (2147483647) v58 := hp57.2.1
          have uv58 : (-2147483648 : Int) ≤ v58.toInt ∧ v58.toInt ≤ 2147483647 := rv58
          refine lv_iload hx hb dX5_unitCame_202 (lv_at hl 0 rfl) ?_
          refine c_cv (As := [.int v58, .int v13]) (rest := []) x hml L57 5 i0 hal0 rfl (d_kpollCame l X g57 i0 v58 v13 hX (show i0 < 2 * Z.n from (by omega)) (rg_w rv13 rfl) hW) (wk_V kd_X5_pollCame kl_X5_168 ki_X5_pollCame ks_X5_X5_pollCame kn_X5) rfl ⟨rfl, rfl⟩ hd_kpollCame ⟨Nat.le_of_ble_eq_true rfl, Nat.le_of_ble_eq_true rfl⟩ rfl hl.1 rfl (lv_room (Nat.le_of_ble_eq_true rfl)) dX5_unitCame_204 (fun  g59 H59 k59 hp59 L59 => ?_)
          obtain ⟨hW, hi59, hp59⟩ := hp59
          replace hW := wfP_i hW ⟨hi59, hp59⟩
          refine lv_iconst (v := 0) hx hb dX5_unitCame_207 (by decide) ?_
          exact hQ _ _ (0 : Int32) _ _ _ dX5_unitCame_208 L59 ⟨hW, (mFi.sub (mFi.sub (mFi.sub (mFi.sub mFi.rf hi1 mSub_nil) hi10 mSub_nil) hi57 mSub_nil) hi59 (mSub_eq 0 rfl (mSub_eq 1 rfl (mSub_eq 2 rfl (mSub_eq 10 rfl (mSub_eq 23 rfl (mSub_eq 24 rfl (mSub_eq 25 rfl mSub_nil)))))))), (mFr.tr (mFr.tr (mFr.tr (mFr.tr mFr.rf hp1.1 rfl) hp10.1 rfl) hp57.1 rfl) hp59.1 rfl), rg_w kc_0 rfl, trivial⟩
        · skip
          replace hW := wfP_i (wfP_r (wfP_r (wfP_r (wfP_r (wfP_r hW))))) c153_19
          have q60 : rg (11) (11) v12 := ⟨by omega, by omega⟩
          refine lv_tableIn (off := 56) (tgt := 209) hx hb dX5_unitCame_153 (by omega) (by omega) (by rw [c153_19]; rfl) (by decide) ?_
          refine lv_aload_n hx hb dX5_unitCame_209 rfl (lv_at hl 3 rfl) ?_
          refine lv_aload_n hx hb dX5_unitCame_210 rfl (lv_at hl 4 rfl) ?_
          refine lv_iload_n hx hb dX5_unitCame_211 rfl (lv_at hl 5 rfl) ?_
          refine lv_bipush (v := 12) hx hb dX5_unitCame_212 (by decide) ?_
          refine lv_isub hx hb dX5_unitCame_214 ?_
          refine lv_topi (fun v61 ev61 => ?_)
          have rv61 : rg (-8) (228) v61 := (rg_sub ev61 q7 kc_12 rfl).1
          replace hW := (wfP_i (wfP_i (wfP_i (wfP_a hW v61) ev61) rv61) (w_isub ((rg_sub ev61 q7 kc_12 rfl).2) rfl (rg_i kc_12)))
          have tv61 := (rg_sub ev61 q7 kc_12 rfl).2
          have y62 : (12 : Int32).toInt = 12 := by decide
          have uv61 : (-8 : Int) ≤ v61.toInt ∧ v61.toInt ≤ 228 := rv61
          refine lv_iconst (v := 4) hx hb dX5_unitCame_215 (by decide) ?_
          refine lv_idiv hx hb dX5_unitCame_216 (by decide) ?_
          refine lv_topi (fun v63 ev63 => ?_)
          have rv63 : rg (-2147483648) (2147483647) v63 := rg_any v63
          replace hW := (wfP_i (wfP_i (wfP_a hW v63) ev63) rv63)
          have q64 : rg (-2) (57) v63 := div4 ev63 rv61
          have uv63 : (-2 : Int) ≤ v63.toInt ∧ v63.toInt ≤ 57 := q64
          refine lv_iload hx hb dX5_unitCame_217 (lv_at hl 0 rfl) ?_
          refine lv_iload_n hx hb dX5_unitCame_219 rfl (lv_at hl 6 rfl) ?_
          refine c_ci (As := [.ref (Z.ad 16 q1), .int v63, .int v13, .int p3]) (rest := []) x hml L10 5 i0 hal0 rfl (d_kstatusCame l X g10 i0 q1 v63 v13 p3 hX (show i0 < 2 * Z.n from (by omega)) hq1 (rg_w q64 rfl) (rg_w rv13 rfl) hW) (wk_V kd_X5_statusCame kl_X5_171 ki_X5_statusCame ks_X5_X5_statusCame kn_X5) rfl ⟨rfl, rfl⟩ hd_kstatusCame ⟨Nat.le_of_ble_eq_true rfl, Nat.le_of_ble_eq_true rfl⟩ rfl hl.1 rfl (lv_room (Nat.le_of_ble_eq_true rfl)) dX5_unitCame_220 (fun v66 g65 H65 k65 hp65 L65 => ?_)
          obtain ⟨hW, hi65, hp65⟩ := hp65
          replace hW := wfP_i hW ⟨hi65, hp65⟩
          have rv66 : rg (0) (1) v66 := hp65.2.1
          have uv66 : (0 : Int) ≤ v66.toInt ∧ v66.toInt ≤ 1 := rv66
          refine lv_if_eq (tgt := 230) hx hb dX5_unitCame_223 (by decide) (fun c223_67 => ?_) (fun c223_67 => ?_)
          · skip
            replace hW := wfP_i (wfP_l hW) (i_eq c223_67 rfl (rg_i kc_0))
            have ic223_67 := congrArg Int32.toInt c223_67
            have y68 : (0 : Int32).toInt = 0 := by decide
            have q69 : rg (0) (0) v66 := (rg_eq c223_67 rv66 kc_0).1
            have uq69 : (0 : Int) ≤ v66.toInt ∧ v66.toInt ≤ 0 := q69
            refine lv_iconst (v := 2) hx hb dX5_unitCame_230 (by decide) ?_
            exact hQ _ _ (2 : Int32) _ _ _ dX5_unitCame_231 L65 ⟨hW, (mFi.sub (mFi.sub (mFi.sub mFi.rf hi1 mSub_nil) hi10 mSub_nil) hi65 (mSub_eq 5 rfl (mSub_eq 6 rfl (mSub_eq 8 rfl (mSub_eq 16 rfl (mSub_eq 30 rfl (mSub_eq 32 rfl mSub_nil))))))), (mFr.tr (mFr.tr (mFr.tr mFr.rf hp1.1 rfl) hp10.1 rfl) hp65.1 rfl), rg_w kc_2 rfl, trivial⟩
          · skip
            replace hW := wfP_i (wfP_r hW) (i_ne c223_67 rfl (rg_i kc_0))
            have ic223_67 : v66.toInt ≠ (0 : Int32).toInt := fun z => c223_67 (Int32.toInt_inj.mp z)
            have y70 : (0 : Int32).toInt = 0 := by decide
            have q71 : rg (1) (1) v66 := rg_neL c223_67 rv66 kc_0
            have uq71 : (1 : Int) ≤ v66.toInt ∧ v66.toInt ≤ 1 := q71
            refine lv_iconst (v := 0) hx hb dX5_unitCame_226 (by decide) ?_
            refine lv_goto (tgt := 231) hx hb dX5_unitCame_227 (by decide) ?_
            exact hQ _ _ (0 : Int32) _ _ _ dX5_unitCame_231 L65 ⟨hW, (mFi.sub (mFi.sub (mFi.sub mFi.rf hi1 mSub_nil) hi10 mSub_nil) hi65 (mSub_eq 5 rfl (mSub_eq 6 rfl (mSub_eq 8 rfl (mSub_eq 16 rfl (mSub_eq 30 rfl (mSub_eq 32 rfl mSub_nil))))))), (mFr.tr (mFr.tr (mFr.tr mFr.rf hp1.1 rfl) hp10.1 rfl) hp65.1 rfl), rg_w kc_0 rfl, trivial⟩
      · skip
        replace hW := wfP_i (wfP_r hW) (i_ne c146_16 rfl (rg_i kc_2))
        have ic146_16 : v15.toInt ≠ (2 : Int32).toInt := fun z => c146_16 (Int32.toInt_inj.mp z)
        have y72 : (2 : Int32).toInt = 2 := by decide
        refine lv_iconst (v := 0) hx hb dX5_unitCame_149 (by decide) ?_
        exact hQ _ _ (0 : Int32) _ _ _ dX5_unitCame_150 L10 ⟨hW, (mFi.sub (mFi.sub mFi.rf hi1 mSub_nil) hi10 mSub_nil), (mFr.tr (mFr.tr mFr.rf hp1.1 rfl) hp10.1 rfl), rg_w kc_0 rfl, trivial⟩
    · skip
      replace hW := wfP_i (wfP_l (wfP_r hW)) c35_14
      refine lv_tableOut (tgt := 141) hx hb dX5_unitCame_35 (Or.inr c35_14) (by decide) ?_
      refine lv_aload_n hx hb dX5_unitCame_141 rfl (lv_at hl 3 rfl) ?_
      refine c_geti x L10 5 i0 4 164 hal0 rfl rfl (wk_in kf_X5_26) dX5_unitCame_142 (fun v73 ev73 wv73 => ?_)
      have rv73 : rg (0) (4) v73 := clj_164 wv73
      replace hW := (wfP_i (wfP_i (wfP_a hW v73) ev73) rv73)
      have uv73 : (0 : Int) ≤ v73.toInt ∧ v73.toInt ≤ 4 := rv73
      refine lv_iconst (v := 2) hx hb dX5_unitCame_145 (by decide) ?_
      refine lv_icmp_eq (tgt := 151) hx hb dX5_unitCame_146 (by decide) (fun c146_74 => ?_) (fun c146_74 => ?_)
      · skip
        replace hW := wfP_i (wfP_l hW) (i_eq c146_74 rfl (rg_i kc_2))
        have ic146_74 := congrArg Int32.toInt c146_74
        have y75 : (2 : Int32).toInt = 2 := by decide
        have q76 : rg (2) (2) v73 := (rg_eq c146_74 rv73 kc_2).1
        have uq76 : (2 : Int) ≤ v73.toInt ∧ v73.toInt ≤ 2 := q76
        refine lv_iload hx hb dX5_unitCame_151 (lv_at hl 1 rfl) ?_
        rcases (show v12.toInt < 8 ∨ 11 < v12.toInt ∨ v12.toInt = 8 ∨ v12.toInt = 9 ∨ v12.toInt = 10 ∨ v12.toInt = 11 by omega) with c153_77 | c153_77 | c153_77 | c153_77 | c153_77 | c153_77
        · skip
          replace hW := wfP_i (wfP_l hW) c153_77
          refine lv_tableOut (tgt := 232) hx hb dX5_unitCame_153 (Or.inl c153_77) (by decide) ?_
          refine lv_aload_n hx hb dX5_unitCame_232 rfl (lv_at hl 3 rfl) ?_
          refine lv_aload_n hx hb dX5_unitCame_233 rfl (lv_at hl 4 rfl) ?_
          refine lv_iconst (v := 0) hx hb dX5_unitCame_234 (by decide) ?_
          refine c_siN (As := [.ref (Z.ad 16 q1), .int (0 : Int32)]) (rest := [.ref (Z.ad 5 i0)]) x hml L10 (d_kwordAt_16 l X g10 q1 (0 : Int32) hX hq1 (rg_w kc_0 rfl) hW) (goodC (wk_all kd_X11_wordAt)) (List.mem_of_getElem? (i := 12) rfl) (wk_in kt_X11_wordAt) (wk_in kn_X11) rfl ⟨rfl, rfl⟩ hd_kwordAt_16 ⟨Nat.le_of_ble_eq_true rfl, Nat.le_of_ble_eq_true rfl⟩ rfl hl.1 rfl (lv_room (Nat.le_of_ble_eq_true rfl)) dX5_unitCame_235 (fun v79 g78 H78 k78 hp78 L78 => ?_)
          obtain ⟨hW, hi78, hp78⟩ := hp78
          replace hW := wfP_i hW ⟨hi78, hp78⟩
          have rv79 : rg (-2147483648) (2147483647) v79 := hp78.2.1
          have uv79 : (-2147483648 : Int) ≤ v79.toInt ∧ v79.toInt ≤ 2147483647 := rv79
          refine lv_aload_n hx hb dX5_unitCame_238 rfl (lv_at hl 4 rfl) ?_
          refine lv_iconst (v := 4) hx hb dX5_unitCame_239 (by decide) ?_
          refine c_siN (As := [.ref (Z.ad 16 q1), .int (4 : Int32)]) (rest := [.int v79, .ref (Z.ad 5 i0)]) x hml L78 (d_kwordAt_16 l X g78 q1 (4 : Int32) hX hq1 (rg_w kc_4 rfl) hW) (goodC (wk_all kd_X11_wordAt)) (List.mem_of_getElem? (i := 12) rfl) (wk_in kt_X11_wordAt) (wk_in kn_X11) rfl ⟨rfl, rfl⟩ hd_kwordAt_16 ⟨Nat.le_of_ble_eq_true rfl, Nat.le_of_ble_eq_true rfl⟩ rfl hl.1 rfl (lv_room (Nat.le_of_ble_eq_true rfl)) dX5_unitCame_240 (fun v81 g80 H80 k80 hp80 L80 => ?_)
          obtain ⟨hW, hi80, hp80⟩ := hp80
          replace hW := wfP_i hW ⟨hi80, hp80⟩
          have rv81 : rg (-2147483648) (2147483647) v81 := hp80.2.1
          have uv81 : (-2147483648 : Int) ≤ v81.toInt ∧ v81.toInt ≤ 2147483647 := rv81
          refine lv_iload hx hb dX5_unitCame_243 (lv_at hl 0 rfl) ?_
          refine c_ci (As := [.int v79, .int v81, .int v13]) (rest := []) x hml L80 5 i0 hal0 rfl (d_kgapCame l X g80 i0 v79 v81 v13 hX (show i0 < 2 * Z.n from (by omega)) (rg_w rv13 rfl) hW) (wk_V kd_X5_gapCame kl_X5_175 ki_X5_gapCame ks_X5_X5_gapCame kn_X5) rfl ⟨rfl, rfl⟩ hd_kgapCame ⟨Nat.le_of_ble_eq_true rfl, Nat.le_of_ble_eq_true rfl⟩ rfl hl.1 rfl (lv_room (Nat.le_of_ble_eq_true rfl)) dX5_unitCame_245 (fun v83 g82 H82 k82 hp82 L82 => ?_)
          obtain ⟨hW, hi82, hp82⟩ := hp82
          replace hW := wfP_i hW ⟨hi82, hp82⟩
          have rv83 : rg (0) (1) v83 := hp82.2.1
          have uv83 : (0 : Int) ≤ v83.toInt ∧ v83.toInt ≤ 1 := rv83
          refine lv_if_eq (tgt := 255) hx hb dX5_unitCame_248 (by decide) (fun c248_84 => ?_) (fun c248_84 => ?_)
          · skip
            replace hW := wfP_i (wfP_l hW) (i_eq c248_84 rfl (rg_i kc_0))
            have ic248_84 := congrArg Int32.toInt c248_84
            have y85 : (0 : Int32).toInt = 0 := by decide
            have q86 : rg (0) (0) v83 := (rg_eq c248_84 rv83 kc_0).1
            have uq86 : (0 : Int) ≤ v83.toInt ∧ v83.toInt ≤ 0 := q86
            refine lv_iconst (v := 2) hx hb dX5_unitCame_255 (by decide) ?_
            exact hQ _ _ (2 : Int32) _ _ _ dX5_unitCame_256 L82 ⟨hW, (mFi.sub (mFi.sub (mFi.sub (mFi.sub (mFi.sub mFi.rf hi1 mSub_nil) hi10 mSub_nil) hi78 mSub_nil) hi80 mSub_nil) hi82 (mSub_eq 5 rfl (mSub_eq 6 rfl (mSub_eq 30 rfl (mSub_eq 32 rfl mSub_nil))))), (mFr.tr (mFr.tr (mFr.tr (mFr.tr (mFr.tr mFr.rf hp1.1 rfl) hp10.1 rfl) hp78.1 rfl) hp80.1 rfl) hp82.1 rfl), rg_w kc_2 rfl, trivial⟩
          · skip
            replace hW := wfP_i (wfP_r hW) (i_ne c248_84 rfl (rg_i kc_0))
            have ic248_84 : v83.toInt ≠ (0 : Int32).toInt := fun z => c248_84 (Int32.toInt_inj.mp z)
            have y87 : (0 : Int32).toInt = 0 := by decide
            have q88 : rg (1) (1) v83 := rg_neL c248_84 rv83 kc_0
            have uq88 : (1 : Int) ≤ v83.toInt ∧ v83.toInt ≤ 1 := q88
            refine lv_iconst (v := 0) hx hb dX5_unitCame_251 (by decide) ?_
            refine lv_goto (tgt := 256) hx hb dX5_unitCame_252 (by decide) ?_
            exact hQ _ _ (0 : Int32) _ _ _ dX5_unitCame_256 L82 ⟨hW, (mFi.sub (mFi.sub (mFi.sub (mFi.sub (mFi.sub mFi.rf hi1 mSub_nil) hi10 mSub_nil) hi78 mSub_nil) hi80 mSub_nil) hi82 (mSub_eq 5 rfl (mSub_eq 6 rfl (mSub_eq 30 rfl (mSub_eq 32 rfl mSub_nil))))), (mFr.tr (mFr.tr (mFr.tr (mFr.tr (mFr.tr mFr.rf hp1.1 rfl) hp10.1 rfl) hp78.1 rfl) hp80.1 rfl) hp82.1 rfl), rg_w kc_0 rfl, trivial⟩
        · skip
          replace hW := wfP_i (wfP_l (wfP_r hW)) c153_77
          refine lv_tableOut (tgt := 232) hx hb dX5_unitCame_153 (Or.inr c153_77) (by decide) ?_
          refine lv_aload_n hx hb dX5_unitCame_232 rfl (lv_at hl 3 rfl) ?_
          refine lv_aload_n hx hb dX5_unitCame_233 rfl (lv_at hl 4 rfl) ?_
          refine lv_iconst (v := 0) hx hb dX5_unitCame_234 (by decide) ?_
          refine c_siN (As := [.ref (Z.ad 16 q1), .int (0 : Int32)]) (rest := [.ref (Z.ad 5 i0)]) x hml L10 (d_kwordAt_16 l X g10 q1 (0 : Int32) hX hq1 (rg_w kc_0 rfl) hW) (goodC (wk_all kd_X11_wordAt)) (List.mem_of_getElem? (i := 12) rfl) (wk_in kt_X11_wordAt) (wk_in kn_X11) rfl ⟨rfl, rfl⟩ hd_kwordAt_16 ⟨Nat.le_of_ble_eq_true rfl, Nat.le_of_ble_eq_true rfl⟩ rfl hl.1 rfl (lv_room (Nat.le_of_ble_eq_true rfl)) dX5_unitCame_235 (fun v90 g89 H89 k89 hp89 L89 => ?_)
          obtain ⟨hW, hi89, hp89⟩ := hp89
          replace hW := wfP_i hW ⟨hi89, hp89⟩
          have rv90 : rg (-2147483648) (2147483647) v90 := hp89.2.1
          have uv90 : (-2147483648 : Int) ≤ v90.toInt ∧ v90.toInt ≤ 2147483647 := rv90
          refine lv_aload_n hx hb dX5_unitCame_238 rfl (lv_at hl 4 rfl) ?_
          refine lv_iconst (v := 4) hx hb dX5_unitCame_239 (by decide) ?_
          refine c_siN (As := [.ref (Z.ad 16 q1), .int (4 : Int32)]) (rest := [.int v90, .ref (Z.ad 5 i0)]) x hml L89 (d_kwordAt_16 l X g89 q1 (4 : Int32) hX hq1 (rg_w kc_4 rfl) hW) (goodC (wk_all kd_X11_wordAt)) (List.mem_of_getElem? (i := 12) rfl) (wk_in kt_X11_wordAt) (wk_in kn_X11) rfl ⟨rfl, rfl⟩ hd_kwordAt_16 ⟨Nat.le_of_ble_eq_true rfl, Nat.le_of_ble_eq_true rfl⟩ rfl hl.1 rfl (lv_room (Nat.le_of_ble_eq_true rfl)) dX5_unitCame_240 (fun v92 g91 H91 k91 hp91 L91 => ?_)
          obtain ⟨hW, hi91, hp91⟩ := hp91
          replace hW := wfP_i hW ⟨hi91, hp91⟩
          have rv92 : rg (-2147483648) (2147483647) v92 := hp91.2.1
          have uv92 : (-2147483648 : Int) ≤ v92.toInt ∧ v92.toInt ≤ 2147483647 := rv92
          refine lv_iload hx hb dX5_unitCame_243 (lv_at hl 0 rfl) ?_
          refine c_ci (As := [.int v90, .int v92, .int v13]) (rest := []) x hml L91 5 i0 hal0 rfl (d_kgapCame l X g91 i0 v90 v92 v13 hX (show i0 < 2 * Z.n from (by omega)) (rg_w rv13 rfl) hW) (wk_V kd_X5_gapCame kl_X5_175 ki_X5_gapCame ks_X5_X5_gapCame kn_X5) rfl ⟨rfl, rfl⟩ hd_kgapCame ⟨Nat.le_of_ble_eq_true rfl, Nat.le_of_ble_eq_true rfl⟩ rfl hl.1 rfl (lv_room (Nat.le_of_ble_eq_true rfl)) dX5_unitCame_245 (fun v94 g93 H93 k93 hp93 L93 => ?_)
          obtain ⟨hW, hi93, hp93⟩ := hp93
          replace hW := wfP_i hW ⟨hi93, hp93⟩
          have rv94 : rg (0) (1) v94 := hp93.2.1
          have uv94 : (0 : Int) ≤ v94.toInt ∧ v94.toInt ≤ 1 := rv94
          refine lv_if_eq (tgt := 255) hx hb dX5_unitCame_248 (by decide) (fun c248_95 => ?_) (fun c248_95 => ?_)
          · skip
            replace hW := wfP_i (wfP_l hW) (i_eq c248_95 rfl (rg_i kc_0))
            have ic248_95 := congrArg Int32.toInt c248_95
            have y96 : (0 : Int32).toInt = 0 := by decide
            have q97 : rg (0) (0) v94 := (rg_eq c248_95 rv94 kc_0).1
            have uq97 : (0 : Int) ≤ v94.toInt ∧ v94.toInt ≤ 0 := q97
            refine lv_iconst (v := 2) hx hb dX5_unitCame_255 (by decide) ?_
            exact hQ _ _ (2 : Int32) _ _ _ dX5_unitCame_256 L93 ⟨hW, (mFi.sub (mFi.sub (mFi.sub (mFi.sub (mFi.sub mFi.rf hi1 mSub_nil) hi10 mSub_nil) hi89 mSub_nil) hi91 mSub_nil) hi93 (mSub_eq 5 rfl (mSub_eq 6 rfl (mSub_eq 30 rfl (mSub_eq 32 rfl mSub_nil))))), (mFr.tr (mFr.tr (mFr.tr (mFr.tr (mFr.tr mFr.rf hp1.1 rfl) hp10.1 rfl) hp89.1 rfl) hp91.1 rfl) hp93.1 rfl), rg_w kc_2 rfl, trivial⟩
          · skip
            replace hW := wfP_i (wfP_r hW) (i_ne c248_95 rfl (rg_i kc_0))
            have ic248_95 : v94.toInt ≠ (0 : Int32).toInt := fun z => c248_95 (Int32.toInt_inj.mp z)
            have y98 : (0 : Int32).toInt = 0 := by decide
            have q99 : rg (1) (1) v94 := rg_neL c248_95 rv94 kc_0
            have uq99 : (1 : Int) ≤ v94.toInt ∧ v94.toInt ≤ 1 := q99
            refine lv_iconst (v := 0) hx hb dX5_unitCame_251 (by decide) ?_
            refine lv_goto (tgt := 256) hx hb dX5_unitCame_252 (by decide) ?_
            exact hQ _ _ (0 : Int32) _ _ _ dX5_unitCame_256 L93 ⟨hW, (mFi.sub (mFi.sub (mFi.sub (mFi.sub (mFi.sub mFi.rf hi1 mSub_nil) hi10 mSub_nil) hi89 mSub_nil) hi91 mSub_nil) hi93 (mSub_eq 5 rfl (mSub_eq 6 rfl (mSub_eq 30 rfl (mSub_eq 32 rfl mSub_nil))))), (mFr.tr (mFr.tr (mFr.tr (mFr.tr (mFr.tr mFr.rf hp1.1 rfl) hp10.1 rfl) hp89.1 rfl) hp91.1 rfl) hp93.1 rfl), rg_w kc_0 rfl, trivial⟩
        · skip
          replace hW := wfP_i (wfP_l (wfP_r (wfP_r hW))) c153_77
          have q100 : rg (8) (8) v12 := ⟨by omega, by omega⟩
          refine lv_tableIn (off := 31) (tgt := 184) hx hb dX5_unitCame_153 (by omega) (by omega) (by rw [c153_77]; rfl) (by decide) ?_
          refine lv_aload_n hx hb dX5_unitCame_184 rfl (lv_at hl 3 rfl) ?_
          refine lv_aload_n hx hb dX5_unitCame_185 rfl (lv_at hl 4 rfl) ?_
          refine lv_iload_n hx hb dX5_unitCame_186 rfl (lv_at hl 5 rfl) ?_
          refine lv_iconst (v := 4) hx hb dX5_unitCame_187 (by decide) ?_
          refine lv_isub hx hb dX5_unitCame_188 ?_
          refine m_top ev8 ?_
          refine lv_iload hx hb dX5_unitCame_189 (lv_at hl 0 rfl) ?_
          refine c_cv (As := [.ref (Z.ad 16 q1), .int v8, .int v13]) (rest := []) x hml L10 5 i0 hal0 rfl (d_kdataCame l X g10 i0 q1 v8 v13 hX (show i0 < 2 * Z.n from (by omega)) hq1 (rg_w rv13 rfl) hW) (wk_V kd_X5_dataCame kl_X5_165 ki_X5_dataCame ks_X5_X5_dataCame kn_X5) rfl ⟨rfl, rfl⟩ hd_kdataCame ⟨Nat.le_of_ble_eq_true rfl, Nat.le_of_ble_eq_true rfl⟩ rfl hl.1 rfl (lv_room (Nat.le_of_ble_eq_true rfl)) dX5_unitCame_191 (fun  g101 H101 k101 hp101 L101 => ?_)
          obtain ⟨hW, hi101, hp101⟩ := hp101
          replace hW := wfP_i hW ⟨hi101, hp101⟩
          refine lv_iconst (v := 0) hx hb dX5_unitCame_194 (by decide) ?_
          exact hQ _ _ (0 : Int32) _ _ _ dX5_unitCame_195 L101 ⟨hW, (mFi.sub (mFi.sub (mFi.sub mFi.rf hi1 mSub_nil) hi10 mSub_nil) hi101 (mSub_eq 0 rfl (mSub_eq 1 rfl (mSub_eq 2 rfl (mSub_eq 10 rfl (mSub_eq 23 rfl (mSub_eq 24 rfl (mSub_eq 25 rfl (mSub_eq 28 rfl (mSub_eq 29 rfl mSub_nil)))))))))), (mFr.tr (mFr.tr (mFr.tr mFr.rf hp1.1 rfl) hp10.1 rfl) hp101.1 rfl), rg_w kc_0 rfl, trivial⟩
        · skip
          replace hW := wfP_i (wfP_l (wfP_r (wfP_r (wfP_r hW)))) c153_77
          have q102 : rg (9) (9) v12 := ⟨by omega, by omega⟩
          refine lv_tableIn (off := 79) (tgt := 232) hx hb dX5_unitCame_153 (by omega) (by omega) (by rw [c153_77]; rfl) (by decide) ?_
          refine lv_aload_n hx hb dX5_unitCame_232 rfl (lv_at hl 3 rfl) ?_
          refine lv_aload_n hx hb dX5_unitCame_233 rfl (lv_at hl 4 rfl) ?_
          refine lv_iconst (v := 0) hx hb dX5_unitCame_234 (by decide) ?_
          refine c_siN (As := [.ref (Z.ad 16 q1), .int (0 : Int32)]) (rest := [.ref (Z.ad 5 i0)]) x hml L10 (d_kwordAt_16 l X g10 q1 (0 : Int32) hX hq1 (rg_w kc_0 rfl) hW) (goodC (wk_all kd_X11_wordAt)) (List.mem_of_getElem? (i := 12) rfl) (wk_in kt_X11_wordAt) (wk_in kn_X11) rfl ⟨rfl, rfl⟩ hd_kwordAt_16 ⟨Nat.le_of_ble_eq_true rfl, Nat.le_of_ble_eq_true rfl⟩ rfl hl.1 rfl (lv_room (Nat.le_of_ble_eq_true rfl)) dX5_unitCame_235 (fun v104 g103 H103 k103 hp103 L103 => ?_)
          obtain ⟨hW, hi103, hp103⟩ := hp103
          replace hW := wfP_i hW ⟨hi103, hp103⟩
          have rv104 : rg (-2147483648) (2147483647) v104 := hp103.2.1
          have uv104 : (-2147483648 : Int) ≤ v104.toInt ∧ v104.toInt ≤ 2147483647 := rv104
          refine lv_aload_n hx hb dX5_unitCame_238 rfl (lv_at hl 4 rfl) ?_
          refine lv_iconst (v := 4) hx hb dX5_unitCame_239 (by decide) ?_
          refine c_siN (As := [.ref (Z.ad 16 q1), .int (4 : Int32)]) (rest := [.int v104, .ref (Z.ad 5 i0)]) x hml L103 (d_kwordAt_16 l X g103 q1 (4 : Int32) hX hq1 (rg_w kc_4 rfl) hW) (goodC (wk_all kd_X11_wordAt)) (List.mem_of_getElem? (i := 12) rfl) (wk_in kt_X11_wordAt) (wk_in kn_X11) rfl ⟨rfl, rfl⟩ hd_kwordAt_16 ⟨Nat.le_of_ble_eq_true rfl, Nat.le_of_ble_eq_true rfl⟩ rfl hl.1 rfl (lv_room (Nat.le_of_ble_eq_true rfl)) dX5_unitCame_240 (fun v106 g105 H105 k105 hp105 L105 => ?_)
          obtain ⟨hW, hi105, hp105⟩ := hp105
          replace hW := wfP_i hW ⟨hi105, hp105⟩
          have rv106 : rg (-2147483648) (2147483647) v106 := hp105.2.1
          have uv106 : (-2147483648 : Int) ≤ v106.toInt ∧ v106.toInt ≤ 2147483647 := rv106
          refine lv_iload hx hb dX5_unitCame_243 (lv_at hl 0 rfl) ?_
          refine c_ci (As := [.int v104, .int v106, .int v13]) (rest := []) x hml L105 5 i0 hal0 rfl (d_kgapCame l X g105 i0 v104 v106 v13 hX (show i0 < 2 * Z.n from (by omega)) (rg_w rv13 rfl) hW) (wk_V kd_X5_gapCame kl_X5_175 ki_X5_gapCame ks_X5_X5_gapCame kn_X5) rfl ⟨rfl, rfl⟩ hd_kgapCame ⟨Nat.le_of_ble_eq_true rfl, Nat.le_of_ble_eq_true rfl⟩ rfl hl.1 rfl (lv_room (Nat.le_of_ble_eq_true rfl)) dX5_unitCame_245 (fun v108 g107 H107 k107 hp107 L107 => ?_)
          obtain ⟨hW, hi107, hp107⟩ := hp107
          replace hW := wfP_i hW ⟨hi107, hp107⟩
          have rv108 : rg (0) (1) v108 := hp107.2.1
          have uv108 : (0 : Int) ≤ v108.toInt ∧ v108.toInt ≤ 1 := rv108
          refine lv_if_eq (tgt := 255) hx hb dX5_unitCame_248 (by decide) (fun c248_109 => ?_) (fun c248_109 => ?_)
          · skip
            replace hW := wfP_i (wfP_l hW) (i_eq c248_109 rfl (rg_i kc_0))
            have ic248_109 := congrArg Int32.toInt c248_109
            have y110 : (0 : Int32).toInt = 0 := by decide
            have q111 : rg (0) (0) v108 := (rg_eq c248_109 rv108 kc_0).1
            have uq111 : (0 : Int) ≤ v108.toInt ∧ v108.toInt ≤ 0 := q111
            refine lv_iconst (v := 2) hx hb dX5_unitCame_255 (by decide) ?_
            exact hQ _ _ (2 : Int32) _ _ _ dX5_unitCame_256 L107 ⟨hW, (mFi.sub (mFi.sub (mFi.sub (mFi.sub (mFi.sub mFi.rf hi1 mSub_nil) hi10 mSub_nil) hi103 mSub_nil) hi105 mSub_nil) hi107 (mSub_eq 5 rfl (mSub_eq 6 rfl (mSub_eq 30 rfl (mSub_eq 32 rfl mSub_nil))))), (mFr.tr (mFr.tr (mFr.tr (mFr.tr (mFr.tr mFr.rf hp1.1 rfl) hp10.1 rfl) hp103.1 rfl) hp105.1 rfl) hp107.1 rfl), rg_w kc_2 rfl, trivial⟩
          · skip
            replace hW := wfP_i (wfP_r hW) (i_ne c248_109 rfl (rg_i kc_0))
            have ic248_109 : v108.toInt ≠ (0 : Int32).toInt := fun z => c248_109 (Int32.toInt_inj.mp z)
            have y112 : (0 : Int32).toInt = 0 := by decide
            have q113 : rg (1) (1) v108 := rg_neL c248_109 rv108 kc_0
            have uq113 : (1 : Int) ≤ v108.toInt ∧ v108.toInt ≤ 1 := q113
            refine lv_iconst (v := 0) hx hb dX5_unitCame_251 (by decide) ?_
            refine lv_goto (tgt := 256) hx hb dX5_unitCame_252 (by decide) ?_
            exact hQ _ _ (0 : Int32) _ _ _ dX5_unitCame_256 L107 ⟨hW, (mFi.sub (mFi.sub (mFi.sub (mFi.sub (mFi.sub mFi.rf hi1 mSub_nil) hi10 mSub_nil) hi103 mSub_nil) hi105 mSub_nil) hi107 (mSub_eq 5 rfl (mSub_eq 6 rfl (mSub_eq 30 rfl (mSub_eq 32 rfl mSub_nil))))), (mFr.tr (mFr.tr (mFr.tr (mFr.tr (mFr.tr mFr.rf hp1.1 rfl) hp10.1 rfl) hp103.1 rfl) hp105.1 rfl) hp107.1 rfl), rg_w kc_0 rfl, trivial⟩
        · skip
          replace hW := wfP_i (wfP_l (wfP_r (wfP_r (wfP_r (wfP_r hW))))) c153_77
          have q114 : rg (10) (10) v12 := ⟨by omega, by omega⟩
          refine lv_tableIn (off := 43) (tgt := 196) hx hb dX5_unitCame_153 (by omega) (by omega) (by rw [c153_77]; rfl) (by decide) ?_
          refine lv_aload_n hx hb dX5_unitCame_196 rfl (lv_at hl 3 rfl) ?_
          refine lv_aload_n hx hb dX5_unitCame_197 rfl (lv_at hl 4 rfl) ?_
          refine lv_iconst (v := 0) hx hb dX5_unitCame_198 (by decide) ?_
          refine c_siN (As := [.ref (Z.ad 16 q1), .int (0 : Int32)]) (rest := [.ref (Z.ad 5 i0)]) x hml L10 (d_kwordAt_16 l X g10 q1 (0 : Int32) hX hq1 (rg_w kc_0 rfl) hW) (goodC (wk_all kd_X11_wordAt)) (List.mem_of_getElem? (i := 12) rfl) (wk_in kt_X11_wordAt) (wk_in kn_X11) rfl ⟨rfl, rfl⟩ hd_kwordAt_16 ⟨Nat.le_of_ble_eq_true rfl, Nat.le_of_ble_eq_true rfl⟩ rfl hl.1 rfl (lv_room (Nat.le_of_ble_eq_true rfl)) dX5_unitCame_199 (fun v116 g115 H115 k115 hp115 L115 => ?_)
          obtain ⟨hW, hi115, hp115⟩ := hp115
          replace hW := wfP_i hW ⟨hi115, hp115⟩
          have rv116 : rg (-2147483648) (2147483647) v116 := hp115.2.1
          have uv116 : (-2147483648 : Int) ≤ v116.toInt ∧ v116.toInt ≤ 2147483647 := rv116
          refine lv_iload hx hb dX5_unitCame_202 (lv_at hl 0 rfl) ?_
          refine c_cv (As := [.int v116, .int v13]) (rest := []) x hml L115 5 i0 hal0 rfl (d_kpollCame l X g115 i0 v116 v13 hX (show i0 < 2 * Z.n from (by omega)) (rg_w rv13 rfl) hW) (wk_V kd_X5_pollCame kl_X5_168 ki_X5_pollCame ks_X5_X5_pollCame kn_X5) rfl ⟨rfl, rfl⟩ hd_kpollCame ⟨Nat.le_of_ble_eq_true rfl, Nat.le_of_ble_eq_true rfl⟩ rfl hl.1 rfl (lv_room (Nat.le_of_ble_eq_true rfl)) dX5_unitCame_204 (fun  g117 H117 k117 hp117 L117 => ?_)
          obtain ⟨hW, hi117, hp117⟩ := hp117
          replace hW := wfP_i hW ⟨hi117, hp117⟩
          refine lv_iconst (v := 0) hx hb dX5_unitCame_207 (by decide) ?_
          exact hQ _ _ (0 : Int32) _ _ _ dX5_unitCame_208 L117 ⟨hW, (mFi.sub (mFi.sub (mFi.sub (mFi.sub mFi.rf hi1 mSub_nil) hi10 mSub_nil) hi115 mSub_nil) hi117 (mSub_eq 0 rfl (mSub_eq 1 rfl (mSub_eq 2 rfl (mSub_eq 10 rfl (mSub_eq 23 rfl (mSub_eq 24 rfl (mSub_eq 25 rfl mSub_nil)))))))), (mFr.tr (mFr.tr (mFr.tr (mFr.tr mFr.rf hp1.1 rfl) hp10.1 rfl) hp115.1 rfl) hp117.1 rfl), rg_w kc_0 rfl, trivial⟩
        · skip
          replace hW := wfP_i (wfP_r (wfP_r (wfP_r (wfP_r (wfP_r hW))))) c153_77
          have q118 : rg (11) (11) v12 := ⟨by omega, by omega⟩
          refine lv_tableIn (off := 56) (tgt := 209) hx hb dX5_unitCame_153 (by omega) (by omega) (by rw [c153_77]; rfl) (by decide) ?_
          refine lv_aload_n hx hb dX5_unitCame_209 rfl (lv_at hl 3 rfl) ?_
          refine lv_aload_n hx hb dX5_unitCame_210 rfl (lv_at hl 4 rfl) ?_
          refine lv_iload_n hx hb dX5_unitCame_211 rfl (lv_at hl 5 rfl) ?_
          refine lv_bipush (v := 12) hx hb dX5_unitCame_212 (by decide) ?_
          refine lv_isub hx hb dX5_unitCame_214 ?_
          refine lv_topi (fun v119 ev119 => ?_)
          have rv119 : rg (-8) (228) v119 := (rg_sub ev119 q7 kc_12 rfl).1
          replace hW := (wfP_i (wfP_i (wfP_i (wfP_a hW v119) ev119) rv119) (w_isub ((rg_sub ev119 q7 kc_12 rfl).2) rfl (rg_i kc_12)))
          have tv119 := (rg_sub ev119 q7 kc_12 rfl).2
          have y120 : (12 : Int32).toInt = 12 := by decide
          have uv119 : (-8 : Int) ≤ v119.toInt ∧ v119.toInt ≤ 228 := rv119
          refine lv_iconst (v := 4) hx hb dX5_unitCame_215 (by decide) ?_
          refine lv_idiv hx hb dX5_unitCame_216 (by decide) ?_
          refine lv_topi (fun v121 ev121 => ?_)
          have rv121 : rg (-2147483648) (2147483647) v121 := rg_any v121
          replace hW := (wfP_i (wfP_i (wfP_a hW v121) ev121) rv121)
          have q122 : rg (-2) (57) v121 := div4 ev121 rv119
          have uv121 : (-2 : Int) ≤ v121.toInt ∧ v121.toInt ≤ 57 := q122
          refine lv_iload hx hb dX5_unitCame_217 (lv_at hl 0 rfl) ?_
          refine lv_iload_n hx hb dX5_unitCame_219 rfl (lv_at hl 6 rfl) ?_
          refine c_ci (As := [.ref (Z.ad 16 q1), .int v121, .int v13, .int p3]) (rest := []) x hml L10 5 i0 hal0 rfl (d_kstatusCame l X g10 i0 q1 v121 v13 p3 hX (show i0 < 2 * Z.n from (by omega)) hq1 (rg_w q122 rfl) (rg_w rv13 rfl) hW) (wk_V kd_X5_statusCame kl_X5_171 ki_X5_statusCame ks_X5_X5_statusCame kn_X5) rfl ⟨rfl, rfl⟩ hd_kstatusCame ⟨Nat.le_of_ble_eq_true rfl, Nat.le_of_ble_eq_true rfl⟩ rfl hl.1 rfl (lv_room (Nat.le_of_ble_eq_true rfl)) dX5_unitCame_220 (fun v124 g123 H123 k123 hp123 L123 => ?_)
          obtain ⟨hW, hi123, hp123⟩ := hp123
          replace hW := wfP_i hW ⟨hi123, hp123⟩
          have rv124 : rg (0) (1) v124 := hp123.2.1
          have uv124 : (0 : Int) ≤ v124.toInt ∧ v124.toInt ≤ 1 := rv124
          refine lv_if_eq (tgt := 230) hx hb dX5_unitCame_223 (by decide) (fun c223_125 => ?_) (fun c223_125 => ?_)
          · skip
            replace hW := wfP_i (wfP_l hW) (i_eq c223_125 rfl (rg_i kc_0))
            have ic223_125 := congrArg Int32.toInt c223_125
            have y126 : (0 : Int32).toInt = 0 := by decide
            have q127 : rg (0) (0) v124 := (rg_eq c223_125 rv124 kc_0).1
            have uq127 : (0 : Int) ≤ v124.toInt ∧ v124.toInt ≤ 0 := q127
            refine lv_iconst (v := 2) hx hb dX5_unitCame_230 (by decide) ?_
            exact hQ _ _ (2 : Int32) _ _ _ dX5_unitCame_231 L123 ⟨hW, (mFi.sub (mFi.sub (mFi.sub mFi.rf hi1 mSub_nil) hi10 mSub_nil) hi123 (mSub_eq 5 rfl (mSub_eq 6 rfl (mSub_eq 8 rfl (mSub_eq 16 rfl (mSub_eq 30 rfl (mSub_eq 32 rfl mSub_nil))))))), (mFr.tr (mFr.tr (mFr.tr mFr.rf hp1.1 rfl) hp10.1 rfl) hp123.1 rfl), rg_w kc_2 rfl, trivial⟩
          · skip
            replace hW := wfP_i (wfP_r hW) (i_ne c223_125 rfl (rg_i kc_0))
            have ic223_125 : v124.toInt ≠ (0 : Int32).toInt := fun z => c223_125 (Int32.toInt_inj.mp z)
            have y128 : (0 : Int32).toInt = 0 := by decide
            have q129 : rg (1) (1) v124 := rg_neL c223_125 rv124 kc_0
            have uq129 : (1 : Int) ≤ v124.toInt ∧ v124.toInt ≤ 1 := q129
            refine lv_iconst (v := 0) hx hb dX5_unitCame_226 (by decide) ?_
            refine lv_goto (tgt := 231) hx hb dX5_unitCame_227 (by decide) ?_
            exact hQ _ _ (0 : Int32) _ _ _ dX5_unitCame_231 L123 ⟨hW, (mFi.sub (mFi.sub (mFi.sub mFi.rf hi1 mSub_nil) hi10 mSub_nil) hi123 (mSub_eq 5 rfl (mSub_eq 6 rfl (mSub_eq 8 rfl (mSub_eq 16 rfl (mSub_eq 30 rfl (mSub_eq 32 rfl mSub_nil))))))), (mFr.tr (mFr.tr (mFr.tr mFr.rf hp1.1 rfl) hp10.1 rfl) hp123.1 rfl), rg_w kc_0 rfl, trivial⟩
      · skip
        replace hW := wfP_i (wfP_r hW) (i_ne c146_74 rfl (rg_i kc_2))
        have ic146_74 : v73.toInt ≠ (2 : Int32).toInt := fun z => c146_74 (Int32.toInt_inj.mp z)
        have y130 : (2 : Int32).toInt = 2 := by decide
        refine lv_iconst (v := 0) hx hb dX5_unitCame_149 (by decide) ?_
        exact hQ _ _ (0 : Int32) _ _ _ dX5_unitCame_150 L10 ⟨hW, (mFi.sub (mFi.sub mFi.rf hi1 mSub_nil) hi10 mSub_nil), (mFr.tr (mFr.tr mFr.rf hp1.1 rfl) hp10.1 rfl), rg_w kc_0 rfl, trivial⟩
    · skip
      replace hW := wfP_i (wfP_l (wfP_r (wfP_r hW))) c35_14
      have q131 : rg (1) (1) v12 := ⟨by omega, by omega⟩
      refine lv_tableIn (off := 73) (tgt := 108) hx hb dX5_unitCame_35 (by omega) (by omega) (by rw [c35_14]; rfl) (by decide) ?_
      refine lv_aload_n hx hb dX5_unitCame_108 rfl (lv_at hl 3 rfl) ?_
      refine lv_iload hx hb dX5_unitCame_109 (lv_at hl 0 rfl) ?_
      refine lv_iload_n hx hb dX5_unitCame_111 rfl (lv_at hl 6 rfl) ?_
      refine c_ci (As := [.int v13, .int p3]) (rest := []) x hml L10 5 i0 hal0 rfl (d_kbeginCame l X g10 i0 v13 p3 hX (show i0 < 2 * Z.n from (by omega)) (rg_w rv13 rfl) hW) (wk_V kd_X5_beginCame kl_X5_152 ki_X5_beginCame ks_X5_X5_beginCame kn_X5) rfl ⟨rfl, rfl⟩ hd_kbeginCame ⟨Nat.le_of_ble_eq_true rfl, Nat.le_of_ble_eq_true rfl⟩ rfl hl.1 rfl (lv_room (Nat.le_of_ble_eq_true rfl)) dX5_unitCame_112 (fun v133 g132 H132 k132 hp132 L132 => ?_)
      obtain ⟨hW, hi132, hp132⟩ := hp132
      replace hW := wfP_i hW ⟨hi132, hp132⟩
      have rv133 : rg (0) (1) v133 := hp132.2.1
      have uv133 : (0 : Int) ≤ v133.toInt ∧ v133.toInt ≤ 1 := rv133
      exact hQ _ _ v133 _ _ _ dX5_unitCame_115 L132 ⟨hW, (mFi.sub (mFi.sub (mFi.sub mFi.rf hi1 mSub_nil) hi10 mSub_nil) hi132 (mSub_eq 0 rfl (mSub_eq 1 rfl (mSub_eq 2 rfl (mSub_eq 3 rfl (mSub_eq 4 rfl (mSub_eq 5 rfl (mSub_eq 6 rfl (mSub_eq 7 rfl (mSub_eq 8 rfl (mSub_eq 9 rfl (mSub_eq 10 rfl (mSub_eq 12 rfl (mSub_eq 14 rfl (mSub_eq 15 rfl (mSub_eq 16 rfl (mSub_eq 19 rfl (mSub_eq 20 rfl (mSub_eq 21 rfl (mSub_eq 22 rfl (mSub_eq 23 rfl (mSub_eq 24 rfl (mSub_eq 25 rfl (mSub_eq 29 rfl (mSub_eq 30 rfl (mSub_eq 31 rfl (mSub_eq 32 rfl mSub_nil))))))))))))))))))))))))))), (mFr.tr (mFr.tr (mFr.tr mFr.rf hp1.1 rfl) hp10.1 rfl) hp132.1 rfl), rg_w rv133 rfl, trivial⟩
    · skip
      replace hW := wfP_i (wfP_l (wfP_r (wfP_r (wfP_r hW)))) c35_14
      have q134 : rg (2) (2) v12 := ⟨by omega, by omega⟩
      refine lv_tableIn (off := 97) (tgt := 132) hx hb dX5_unitCame_35 (by omega) (by omega) (by rw [c35_14]; rfl) (by decide) ?_
      refine lv_aload_n hx hb dX5_unitCame_132 rfl (lv_at hl 3 rfl) ?_
      refine lv_iload hx hb dX5_unitCame_133 (lv_at hl 1 rfl) ?_
      refine lv_iload_n hx hb dX5_unitCame_135 rfl (lv_at hl 6 rfl) ?_
      refine c_cv (As := [.int v12, .int p3]) (rest := []) x hml L10 5 i0 hal0 rfl (d_kanswerCame l X g10 i0 v12 p3 hX (show i0 < 2 * Z.n from (by omega)) hW) (wk_V kd_X5_answerCame kl_X5_162 ki_X5_answerCame ks_X5_X5_answerCame kn_X5) rfl ⟨rfl, rfl⟩ hd_kanswerCame ⟨Nat.le_of_ble_eq_true rfl, Nat.le_of_ble_eq_true rfl⟩ rfl hl.1 rfl (lv_room (Nat.le_of_ble_eq_true rfl)) dX5_unitCame_136 (fun  g135 H135 k135 hp135 L135 => ?_)
      obtain ⟨hW, hi135, hp135⟩ := hp135
      replace hW := wfP_i hW ⟨hi135, hp135⟩
      refine lv_iconst (v := 0) hx hb dX5_unitCame_139 (by decide) ?_
      exact hQ _ _ (0 : Int32) _ _ _ dX5_unitCame_140 L135 ⟨hW, (mFi.sub (mFi.sub (mFi.sub mFi.rf hi1 mSub_nil) hi10 mSub_nil) hi135 (mSub_eq 3 rfl (mSub_eq 4 rfl (mSub_eq 5 rfl (mSub_eq 6 rfl (mSub_eq 7 rfl (mSub_eq 8 rfl (mSub_eq 9 rfl (mSub_eq 10 rfl (mSub_eq 14 rfl (mSub_eq 15 rfl (mSub_eq 16 rfl (mSub_eq 19 rfl (mSub_eq 20 rfl (mSub_eq 21 rfl (mSub_eq 22 rfl (mSub_eq 29 rfl (mSub_eq 30 rfl (mSub_eq 31 rfl (mSub_eq 32 rfl mSub_nil)))))))))))))))))))), (mFr.tr (mFr.tr (mFr.tr mFr.rf hp1.1 rfl) hp10.1 rfl) hp135.1 rfl), rg_w kc_0 rfl, trivial⟩
    · skip
      replace hW := wfP_i (wfP_l (wfP_r (wfP_r (wfP_r (wfP_r hW))))) c35_14
      have q136 : rg (3) (3) v12 := ⟨by omega, by omega⟩
      refine lv_tableIn (off := 81) (tgt := 116) hx hb dX5_unitCame_35 (by omega) (by omega) (by rw [c35_14]; rfl) (by decide) ?_
      refine lv_aload_n hx hb dX5_unitCame_116 rfl (lv_at hl 3 rfl) ?_
      refine c_ci (As := []) (rest := []) x hml L10 5 i0 hal0 rfl (d_kendCame l X g10 i0 hX (show i0 < 2 * Z.n from (by omega)) hW) (wk_V kd_X5_endCame kl_X5_156 ki_X5_endCame ks_X5_X5_endCame kn_X5) rfl ⟨rfl, rfl⟩ hd_kendCame ⟨Nat.le_of_ble_eq_true rfl, Nat.le_of_ble_eq_true rfl⟩ rfl hl.1 rfl (lv_room (Nat.le_of_ble_eq_true rfl)) dX5_unitCame_117 (fun v138 g137 H137 k137 hp137 L137 => ?_)
      obtain ⟨hW, hi137, hp137⟩ := hp137
      replace hW := wfP_i hW ⟨hi137, hp137⟩
      have rv138 : rg (0) (1) v138 := hp137.2.1
      have uv138 : (0 : Int) ≤ v138.toInt ∧ v138.toInt ≤ 1 := rv138
      exact hQ _ _ v138 _ _ _ dX5_unitCame_120 L137 ⟨hW, (mFi.sub (mFi.sub (mFi.sub mFi.rf hi1 mSub_nil) hi10 mSub_nil) hi137 (mSub_eq 0 rfl (mSub_eq 1 rfl (mSub_eq 2 rfl (mSub_eq 3 rfl (mSub_eq 4 rfl (mSub_eq 5 rfl (mSub_eq 6 rfl (mSub_eq 7 rfl (mSub_eq 8 rfl (mSub_eq 9 rfl (mSub_eq 10 rfl (mSub_eq 11 rfl (mSub_eq 15 rfl (mSub_eq 17 rfl (mSub_eq 18 rfl (mSub_eq 19 rfl (mSub_eq 20 rfl (mSub_eq 21 rfl (mSub_eq 22 rfl (mSub_eq 23 rfl (mSub_eq 24 rfl (mSub_eq 25 rfl (mSub_eq 26 rfl (mSub_eq 27 rfl (mSub_eq 29 rfl (mSub_eq 30 rfl (mSub_eq 31 rfl (mSub_eq 32 rfl mSub_nil))))))))))))))))))))))))))))), (mFr.tr (mFr.tr (mFr.tr mFr.rf hp1.1 rfl) hp10.1 rfl) hp137.1 rfl), rg_w rv138 rfl, trivial⟩
    · skip
      replace hW := wfP_i (wfP_l (wfP_r (wfP_r (wfP_r (wfP_r (wfP_r hW)))))) c35_14
      have q139 : rg (4) (4) v12 := ⟨by omega, by omega⟩
      refine lv_tableIn (off := 97) (tgt := 132) hx hb dX5_unitCame_35 (by omega) (by omega) (by rw [c35_14]; rfl) (by decide) ?_
      refine lv_aload_n hx hb dX5_unitCame_132 rfl (lv_at hl 3 rfl) ?_
      refine lv_iload hx hb dX5_unitCame_133 (lv_at hl 1 rfl) ?_
      refine lv_iload_n hx hb dX5_unitCame_135 rfl (lv_at hl 6 rfl) ?_
      refine c_cv (As := [.int v12, .int p3]) (rest := []) x hml L10 5 i0 hal0 rfl (d_kanswerCame l X g10 i0 v12 p3 hX (show i0 < 2 * Z.n from (by omega)) hW) (wk_V kd_X5_answerCame kl_X5_162 ki_X5_answerCame ks_X5_X5_answerCame kn_X5) rfl ⟨rfl, rfl⟩ hd_kanswerCame ⟨Nat.le_of_ble_eq_true rfl, Nat.le_of_ble_eq_true rfl⟩ rfl hl.1 rfl (lv_room (Nat.le_of_ble_eq_true rfl)) dX5_unitCame_136 (fun  g140 H140 k140 hp140 L140 => ?_)
      obtain ⟨hW, hi140, hp140⟩ := hp140
      replace hW := wfP_i hW ⟨hi140, hp140⟩
      refine lv_iconst (v := 0) hx hb dX5_unitCame_139 (by decide) ?_
      exact hQ _ _ (0 : Int32) _ _ _ dX5_unitCame_140 L140 ⟨hW, (mFi.sub (mFi.sub (mFi.sub mFi.rf hi1 mSub_nil) hi10 mSub_nil) hi140 (mSub_eq 3 rfl (mSub_eq 4 rfl (mSub_eq 5 rfl (mSub_eq 6 rfl (mSub_eq 7 rfl (mSub_eq 8 rfl (mSub_eq 9 rfl (mSub_eq 10 rfl (mSub_eq 14 rfl (mSub_eq 15 rfl (mSub_eq 16 rfl (mSub_eq 19 rfl (mSub_eq 20 rfl (mSub_eq 21 rfl (mSub_eq 22 rfl (mSub_eq 29 rfl (mSub_eq 30 rfl (mSub_eq 31 rfl (mSub_eq 32 rfl mSub_nil)))))))))))))))))))), (mFr.tr (mFr.tr (mFr.tr mFr.rf hp1.1 rfl) hp10.1 rfl) hp140.1 rfl), rg_w kc_0 rfl, trivial⟩
    · skip
      replace hW := wfP_i (wfP_l (wfP_r (wfP_r (wfP_r (wfP_r (wfP_r (wfP_r hW))))))) c35_14
      have q141 : rg (5) (5) v12 := ⟨by omega, by omega⟩
      refine lv_tableIn (off := 86) (tgt := 121) hx hb dX5_unitCame_35 (by omega) (by omega) (by rw [c35_14]; rfl) (by decide) ?_
      refine lv_aload_n hx hb dX5_unitCame_121 rfl (lv_at hl 3 rfl) ?_
      refine lv_iload hx hb dX5_unitCame_122 (lv_at hl 1 rfl) ?_
      refine lv_iload hx hb dX5_unitCame_124 (lv_at hl 0 rfl) ?_
      refine lv_iload_n hx hb dX5_unitCame_126 rfl (lv_at hl 6 rfl) ?_
      refine c_cv (As := [.int v12, .int v13, .int p3]) (rest := []) x hml L10 5 i0 hal0 rfl (d_kresetCame l X g10 i0 v12 v13 p3 hX (show i0 < 2 * Z.n from (by omega)) (rg_w rv13 rfl) hW) (wk_V kd_X5_resetCame kl_X5_159 ki_X5_resetCame ks_X5_X5_resetCame kn_X5) rfl ⟨rfl, rfl⟩ hd_kresetCame ⟨Nat.le_of_ble_eq_true rfl, Nat.le_of_ble_eq_true rfl⟩ rfl hl.1 rfl (lv_room (Nat.le_of_ble_eq_true rfl)) dX5_unitCame_127 (fun  g142 H142 k142 hp142 L142 => ?_)
      obtain ⟨hW, hi142, hp142⟩ := hp142
      replace hW := wfP_i hW ⟨hi142, hp142⟩
      refine lv_iconst (v := 0) hx hb dX5_unitCame_130 (by decide) ?_
      exact hQ _ _ (0 : Int32) _ _ _ dX5_unitCame_131 L142 ⟨hW, (mFi.sub (mFi.sub (mFi.sub mFi.rf hi1 mSub_nil) hi10 mSub_nil) hi142 (mSub_eq 0 rfl (mSub_eq 1 rfl (mSub_eq 2 rfl (mSub_eq 3 rfl (mSub_eq 4 rfl (mSub_eq 5 rfl (mSub_eq 6 rfl (mSub_eq 7 rfl (mSub_eq 8 rfl (mSub_eq 9 rfl (mSub_eq 10 rfl (mSub_eq 13 rfl (mSub_eq 14 rfl (mSub_eq 15 rfl (mSub_eq 16 rfl (mSub_eq 19 rfl (mSub_eq 20 rfl (mSub_eq 21 rfl (mSub_eq 22 rfl (mSub_eq 23 rfl (mSub_eq 24 rfl (mSub_eq 25 rfl (mSub_eq 29 rfl (mSub_eq 30 rfl (mSub_eq 31 rfl (mSub_eq 32 rfl mSub_nil))))))))))))))))))))))))))), (mFr.tr (mFr.tr (mFr.tr mFr.rf hp1.1 rfl) hp10.1 rfl) hp142.1 rfl), rg_w kc_0 rfl, trivial⟩
    · skip
      replace hW := wfP_i (wfP_l (wfP_r (wfP_r (wfP_r (wfP_r (wfP_r (wfP_r (wfP_r hW)))))))) c35_14
      have q143 : rg (6) (6) v12 := ⟨by omega, by omega⟩
      refine lv_tableIn (off := 97) (tgt := 132) hx hb dX5_unitCame_35 (by omega) (by omega) (by rw [c35_14]; rfl) (by decide) ?_
      refine lv_aload_n hx hb dX5_unitCame_132 rfl (lv_at hl 3 rfl) ?_
      refine lv_iload hx hb dX5_unitCame_133 (lv_at hl 1 rfl) ?_
      refine lv_iload_n hx hb dX5_unitCame_135 rfl (lv_at hl 6 rfl) ?_
      refine c_cv (As := [.int v12, .int p3]) (rest := []) x hml L10 5 i0 hal0 rfl (d_kanswerCame l X g10 i0 v12 p3 hX (show i0 < 2 * Z.n from (by omega)) hW) (wk_V kd_X5_answerCame kl_X5_162 ki_X5_answerCame ks_X5_X5_answerCame kn_X5) rfl ⟨rfl, rfl⟩ hd_kanswerCame ⟨Nat.le_of_ble_eq_true rfl, Nat.le_of_ble_eq_true rfl⟩ rfl hl.1 rfl (lv_room (Nat.le_of_ble_eq_true rfl)) dX5_unitCame_136 (fun  g144 H144 k144 hp144 L144 => ?_)
      obtain ⟨hW, hi144, hp144⟩ := hp144
      replace hW := wfP_i hW ⟨hi144, hp144⟩
      refine lv_iconst (v := 0) hx hb dX5_unitCame_139 (by decide) ?_
      exact hQ _ _ (0 : Int32) _ _ _ dX5_unitCame_140 L144 ⟨hW, (mFi.sub (mFi.sub (mFi.sub mFi.rf hi1 mSub_nil) hi10 mSub_nil) hi144 (mSub_eq 3 rfl (mSub_eq 4 rfl (mSub_eq 5 rfl (mSub_eq 6 rfl (mSub_eq 7 rfl (mSub_eq 8 rfl (mSub_eq 9 rfl (mSub_eq 10 rfl (mSub_eq 14 rfl (mSub_eq 15 rfl (mSub_eq 16 rfl (mSub_eq 19 rfl (mSub_eq 20 rfl (mSub_eq 21 rfl (mSub_eq 22 rfl (mSub_eq 29 rfl (mSub_eq 30 rfl (mSub_eq 31 rfl (mSub_eq 32 rfl mSub_nil)))))))))))))))))))), (mFr.tr (mFr.tr (mFr.tr mFr.rf hp1.1 rfl) hp10.1 rfl) hp144.1 rfl), rg_w kc_0 rfl, trivial⟩
    · skip
      replace hW := wfP_i (wfP_l (wfP_r (wfP_r (wfP_r (wfP_r (wfP_r (wfP_r (wfP_r (wfP_r hW))))))))) c35_14
      have q145 : rg (7) (7) v12 := ⟨by omega, by omega⟩
      refine lv_tableIn (off := 106) (tgt := 141) hx hb dX5_unitCame_35 (by omega) (by omega) (by rw [c35_14]; rfl) (by decide) ?_
      refine lv_aload_n hx hb dX5_unitCame_141 rfl (lv_at hl 3 rfl) ?_
      refine c_geti x L10 5 i0 4 164 hal0 rfl rfl (wk_in kf_X5_26) dX5_unitCame_142 (fun v146 ev146 wv146 => ?_)
      have rv146 : rg (0) (4) v146 := clj_164 wv146
      replace hW := (wfP_i (wfP_i (wfP_a hW v146) ev146) rv146)
      have uv146 : (0 : Int) ≤ v146.toInt ∧ v146.toInt ≤ 4 := rv146
      refine lv_iconst (v := 2) hx hb dX5_unitCame_145 (by decide) ?_
      refine lv_icmp_eq (tgt := 151) hx hb dX5_unitCame_146 (by decide) (fun c146_147 => ?_) (fun c146_147 => ?_)
      · skip
        replace hW := wfP_i (wfP_l hW) (i_eq c146_147 rfl (rg_i kc_2))
        have ic146_147 := congrArg Int32.toInt c146_147
        have y148 : (2 : Int32).toInt = 2 := by decide
        have q149 : rg (2) (2) v146 := (rg_eq c146_147 rv146 kc_2).1
        have uq149 : (2 : Int) ≤ v146.toInt ∧ v146.toInt ≤ 2 := q149
        refine lv_iload hx hb dX5_unitCame_151 (lv_at hl 1 rfl) ?_
        rcases (show v12.toInt < 8 ∨ 11 < v12.toInt ∨ v12.toInt = 8 ∨ v12.toInt = 9 ∨ v12.toInt = 10 ∨ v12.toInt = 11 by omega) with c153_150 | c153_150 | c153_150 | c153_150 | c153_150 | c153_150
        · skip
          replace hW := wfP_i (wfP_l hW) c153_150
          refine lv_tableOut (tgt := 232) hx hb dX5_unitCame_153 (Or.inl c153_150) (by decide) ?_
          refine lv_aload_n hx hb dX5_unitCame_232 rfl (lv_at hl 3 rfl) ?_
          refine lv_aload_n hx hb dX5_unitCame_233 rfl (lv_at hl 4 rfl) ?_
          refine lv_iconst (v := 0) hx hb dX5_unitCame_234 (by decide) ?_
          refine c_siN (As := [.ref (Z.ad 16 q1), .int (0 : Int32)]) (rest := [.ref (Z.ad 5 i0)]) x hml L10 (d_kwordAt_16 l X g10 q1 (0 : Int32) hX hq1 (rg_w kc_0 rfl) hW) (goodC (wk_all kd_X11_wordAt)) (List.mem_of_getElem? (i := 12) rfl) (wk_in kt_X11_wordAt) (wk_in kn_X11) rfl ⟨rfl, rfl⟩ hd_kwordAt_16 ⟨Nat.le_of_ble_eq_true rfl, Nat.le_of_ble_eq_true rfl⟩ rfl hl.1 rfl (lv_room (Nat.le_of_ble_eq_true rfl)) dX5_unitCame_235 (fun v152 g151 H151 k151 hp151 L151 => ?_)
          obtain ⟨hW, hi151, hp151⟩ := hp151
          replace hW := wfP_i hW ⟨hi151, hp151⟩
          have rv152 : rg (-2147483648) (2147483647) v152 := hp151.2.1
          have uv152 : (-2147483648 : Int) ≤ v152.toInt ∧ v152.toInt ≤ 2147483647 := rv152
          refine lv_aload_n hx hb dX5_unitCame_238 rfl (lv_at hl 4 rfl) ?_
          refine lv_iconst (v := 4) hx hb dX5_unitCame_239 (by decide) ?_
          refine c_siN (As := [.ref (Z.ad 16 q1), .int (4 : Int32)]) (rest := [.int v152, .ref (Z.ad 5 i0)]) x hml L151 (d_kwordAt_16 l X g151 q1 (4 : Int32) hX hq1 (rg_w kc_4 rfl) hW) (goodC (wk_all kd_X11_wordAt)) (List.mem_of_getElem? (i := 12) rfl) (wk_in kt_X11_wordAt) (wk_in kn_X11) rfl ⟨rfl, rfl⟩ hd_kwordAt_16 ⟨Nat.le_of_ble_eq_true rfl, Nat.le_of_ble_eq_true rfl⟩ rfl hl.1 rfl (lv_room (Nat.le_of_ble_eq_true rfl)) dX5_unitCame_240 (fun v154 g153 H153 k153 hp153 L153 => ?_)
          obtain ⟨hW, hi153, hp153⟩ := hp153
          replace hW := wfP_i hW ⟨hi153, hp153⟩
          have rv154 : rg (-2147483648) (2147483647) v154 := hp153.2.1
          have uv154 : (-2147483648 : Int) ≤ v154.toInt ∧ v154.toInt ≤ 2147483647 := rv154
          refine lv_iload hx hb dX5_unitCame_243 (lv_at hl 0 rfl) ?_
          refine c_ci (As := [.int v152, .int v154, .int v13]) (rest := []) x hml L153 5 i0 hal0 rfl (d_kgapCame l X g153 i0 v152 v154 v13 hX (show i0 < 2 * Z.n from (by omega)) (rg_w rv13 rfl) hW) (wk_V kd_X5_gapCame kl_X5_175 ki_X5_gapCame ks_X5_X5_gapCame kn_X5) rfl ⟨rfl, rfl⟩ hd_kgapCame ⟨Nat.le_of_ble_eq_true rfl, Nat.le_of_ble_eq_true rfl⟩ rfl hl.1 rfl (lv_room (Nat.le_of_ble_eq_true rfl)) dX5_unitCame_245 (fun v156 g155 H155 k155 hp155 L155 => ?_)
          obtain ⟨hW, hi155, hp155⟩ := hp155
          replace hW := wfP_i hW ⟨hi155, hp155⟩
          have rv156 : rg (0) (1) v156 := hp155.2.1
          have uv156 : (0 : Int) ≤ v156.toInt ∧ v156.toInt ≤ 1 := rv156
          refine lv_if_eq (tgt := 255) hx hb dX5_unitCame_248 (by decide) (fun c248_157 => ?_) (fun c248_157 => ?_)
          · skip
            replace hW := wfP_i (wfP_l hW) (i_eq c248_157 rfl (rg_i kc_0))
            have ic248_157 := congrArg Int32.toInt c248_157
            have y158 : (0 : Int32).toInt = 0 := by decide
            have q159 : rg (0) (0) v156 := (rg_eq c248_157 rv156 kc_0).1
            have uq159 : (0 : Int) ≤ v156.toInt ∧ v156.toInt ≤ 0 := q159
            refine lv_iconst (v := 2) hx hb dX5_unitCame_255 (by decide) ?_
            exact hQ _ _ (2 : Int32) _ _ _ dX5_unitCame_256 L155 ⟨hW, (mFi.sub (mFi.sub (mFi.sub (mFi.sub (mFi.sub mFi.rf hi1 mSub_nil) hi10 mSub_nil) hi151 mSub_nil) hi153 mSub_nil) hi155 (mSub_eq 5 rfl (mSub_eq 6 rfl (mSub_eq 30 rfl (mSub_eq 32 rfl mSub_nil))))), (mFr.tr (mFr.tr (mFr.tr (mFr.tr (mFr.tr mFr.rf hp1.1 rfl) hp10.1 rfl) hp151.1 rfl) hp153.1 rfl) hp155.1 rfl), rg_w kc_2 rfl, trivial⟩
          · skip
            replace hW := wfP_i (wfP_r hW) (i_ne c248_157 rfl (rg_i kc_0))
            have ic248_157 : v156.toInt ≠ (0 : Int32).toInt := fun z => c248_157 (Int32.toInt_inj.mp z)
            have y160 : (0 : Int32).toInt = 0 := by decide
            have q161 : rg (1) (1) v156 := rg_neL c248_157 rv156 kc_0
            have uq161 : (1 : Int) ≤ v156.toInt ∧ v156.toInt ≤ 1 := q161
            refine lv_iconst (v := 0) hx hb dX5_unitCame_251 (by decide) ?_
            refine lv_goto (tgt := 256) hx hb dX5_unitCame_252 (by decide) ?_
            exact hQ _ _ (0 : Int32) _ _ _ dX5_unitCame_256 L155 ⟨hW, (mFi.sub (mFi.sub (mFi.sub (mFi.sub (mFi.sub mFi.rf hi1 mSub_nil) hi10 mSub_nil) hi151 mSub_nil) hi153 mSub_nil) hi155 (mSub_eq 5 rfl (mSub_eq 6 rfl (mSub_eq 30 rfl (mSub_eq 32 rfl mSub_nil))))), (mFr.tr (mFr.tr (mFr.tr (mFr.tr (mFr.tr mFr.rf hp1.1 rfl) hp10.1 rfl) hp151.1 rfl) hp153.1 rfl) hp155.1 rfl), rg_w kc_0 rfl, trivial⟩
        · skip
          replace hW := wfP_i (wfP_l (wfP_r hW)) c153_150
          refine lv_tableOut (tgt := 232) hx hb dX5_unitCame_153 (Or.inr c153_150) (by decide) ?_
          refine lv_aload_n hx hb dX5_unitCame_232 rfl (lv_at hl 3 rfl) ?_
          refine lv_aload_n hx hb dX5_unitCame_233 rfl (lv_at hl 4 rfl) ?_
          refine lv_iconst (v := 0) hx hb dX5_unitCame_234 (by decide) ?_
          refine c_siN (As := [.ref (Z.ad 16 q1), .int (0 : Int32)]) (rest := [.ref (Z.ad 5 i0)]) x hml L10 (d_kwordAt_16 l X g10 q1 (0 : Int32) hX hq1 (rg_w kc_0 rfl) hW) (goodC (wk_all kd_X11_wordAt)) (List.mem_of_getElem? (i := 12) rfl) (wk_in kt_X11_wordAt) (wk_in kn_X11) rfl ⟨rfl, rfl⟩ hd_kwordAt_16 ⟨Nat.le_of_ble_eq_true rfl, Nat.le_of_ble_eq_true rfl⟩ rfl hl.1 rfl (lv_room (Nat.le_of_ble_eq_true rfl)) dX5_unitCame_235 (fun v163 g162 H162 k162 hp162 L162 => ?_)
          obtain ⟨hW, hi162, hp162⟩ := hp162
          replace hW := wfP_i hW ⟨hi162, hp162⟩
          have rv163 : rg (-2147483648) (2147483647) v163 := hp162.2.1
          have uv163 : (-2147483648 : Int) ≤ v163.toInt ∧ v163.toInt ≤ 2147483647 := rv163
          refine lv_aload_n hx hb dX5_unitCame_238 rfl (lv_at hl 4 rfl) ?_
          refine lv_iconst (v := 4) hx hb dX5_unitCame_239 (by decide) ?_
          refine c_siN (As := [.ref (Z.ad 16 q1), .int (4 : Int32)]) (rest := [.int v163, .ref (Z.ad 5 i0)]) x hml L162 (d_kwordAt_16 l X g162 q1 (4 : Int32) hX hq1 (rg_w kc_4 rfl) hW) (goodC (wk_all kd_X11_wordAt)) (List.mem_of_getElem? (i := 12) rfl) (wk_in kt_X11_wordAt) (wk_in kn_X11) rfl ⟨rfl, rfl⟩ hd_kwordAt_16 ⟨Nat.le_of_ble_eq_true rfl, Nat.le_of_ble_eq_true rfl⟩ rfl hl.1 rfl (lv_room (Nat.le_of_ble_eq_true rfl)) dX5_unitCame_240 (fun v165 g164 H164 k164 hp164 L164 => ?_)
          obtain ⟨hW, hi164, hp164⟩ := hp164
          replace hW := wfP_i hW ⟨hi164, hp164⟩
          have rv165 : rg (-2147483648) (2147483647) v165 := hp164.2.1
          have uv165 : (-2147483648 : Int) ≤ v165.toInt ∧ v165.toInt ≤ 2147483647 := rv165
          refine lv_iload hx hb dX5_unitCame_243 (lv_at hl 0 rfl) ?_
          refine c_ci (As := [.int v163, .int v165, .int v13]) (rest := []) x hml L164 5 i0 hal0 rfl (d_kgapCame l X g164 i0 v163 v165 v13 hX (show i0 < 2 * Z.n from (by omega)) (rg_w rv13 rfl) hW) (wk_V kd_X5_gapCame kl_X5_175 ki_X5_gapCame ks_X5_X5_gapCame kn_X5) rfl ⟨rfl, rfl⟩ hd_kgapCame ⟨Nat.le_of_ble_eq_true rfl, Nat.le_of_ble_eq_true rfl⟩ rfl hl.1 rfl (lv_room (Nat.le_of_ble_eq_true rfl)) dX5_unitCame_245 (fun v167 g166 H166 k166 hp166 L166 => ?_)
          obtain ⟨hW, hi166, hp166⟩ := hp166
          replace hW := wfP_i hW ⟨hi166, hp166⟩
          have rv167 : rg (0) (1) v167 := hp166.2.1
          have uv167 : (0 : Int) ≤ v167.toInt ∧ v167.toInt ≤ 1 := rv167
          refine lv_if_eq (tgt := 255) hx hb dX5_unitCame_248 (by decide) (fun c248_168 => ?_) (fun c248_168 => ?_)
          · skip
            replace hW := wfP_i (wfP_l hW) (i_eq c248_168 rfl (rg_i kc_0))
            have ic248_168 := congrArg Int32.toInt c248_168
            have y169 : (0 : Int32).toInt = 0 := by decide
            have q170 : rg (0) (0) v167 := (rg_eq c248_168 rv167 kc_0).1
            have uq170 : (0 : Int) ≤ v167.toInt ∧ v167.toInt ≤ 0 := q170
            refine lv_iconst (v := 2) hx hb dX5_unitCame_255 (by decide) ?_
            exact hQ _ _ (2 : Int32) _ _ _ dX5_unitCame_256 L166 ⟨hW, (mFi.sub (mFi.sub (mFi.sub (mFi.sub (mFi.sub mFi.rf hi1 mSub_nil) hi10 mSub_nil) hi162 mSub_nil) hi164 mSub_nil) hi166 (mSub_eq 5 rfl (mSub_eq 6 rfl (mSub_eq 30 rfl (mSub_eq 32 rfl mSub_nil))))), (mFr.tr (mFr.tr (mFr.tr (mFr.tr (mFr.tr mFr.rf hp1.1 rfl) hp10.1 rfl) hp162.1 rfl) hp164.1 rfl) hp166.1 rfl), rg_w kc_2 rfl, trivial⟩
          · skip
            replace hW := wfP_i (wfP_r hW) (i_ne c248_168 rfl (rg_i kc_0))
            have ic248_168 : v167.toInt ≠ (0 : Int32).toInt := fun z => c248_168 (Int32.toInt_inj.mp z)
            have y171 : (0 : Int32).toInt = 0 := by decide
            have q172 : rg (1) (1) v167 := rg_neL c248_168 rv167 kc_0
            have uq172 : (1 : Int) ≤ v167.toInt ∧ v167.toInt ≤ 1 := q172
            refine lv_iconst (v := 0) hx hb dX5_unitCame_251 (by decide) ?_
            refine lv_goto (tgt := 256) hx hb dX5_unitCame_252 (by decide) ?_
            exact hQ _ _ (0 : Int32) _ _ _ dX5_unitCame_256 L166 ⟨hW, (mFi.sub (mFi.sub (mFi.sub (mFi.sub (mFi.sub mFi.rf hi1 mSub_nil) hi10 mSub_nil) hi162 mSub_nil) hi164 mSub_nil) hi166 (mSub_eq 5 rfl (mSub_eq 6 rfl (mSub_eq 30 rfl (mSub_eq 32 rfl mSub_nil))))), (mFr.tr (mFr.tr (mFr.tr (mFr.tr (mFr.tr mFr.rf hp1.1 rfl) hp10.1 rfl) hp162.1 rfl) hp164.1 rfl) hp166.1 rfl), rg_w kc_0 rfl, trivial⟩
        · skip
          replace hW := wfP_i (wfP_l (wfP_r (wfP_r hW))) c153_150
          have q173 : rg (8) (8) v12 := ⟨by omega, by omega⟩
          refine lv_tableIn (off := 31) (tgt := 184) hx hb dX5_unitCame_153 (by omega) (by omega) (by rw [c153_150]; rfl) (by decide) ?_
          refine lv_aload_n hx hb dX5_unitCame_184 rfl (lv_at hl 3 rfl) ?_
          refine lv_aload_n hx hb dX5_unitCame_185 rfl (lv_at hl 4 rfl) ?_
          refine lv_iload_n hx hb dX5_unitCame_186 rfl (lv_at hl 5 rfl) ?_
          refine lv_iconst (v := 4) hx hb dX5_unitCame_187 (by decide) ?_
          refine lv_isub hx hb dX5_unitCame_188 ?_
          refine m_top ev8 ?_
          refine lv_iload hx hb dX5_unitCame_189 (lv_at hl 0 rfl) ?_
          refine c_cv (As := [.ref (Z.ad 16 q1), .int v8, .int v13]) (rest := []) x hml L10 5 i0 hal0 rfl (d_kdataCame l X g10 i0 q1 v8 v13 hX (show i0 < 2 * Z.n from (by omega)) hq1 (rg_w rv13 rfl) hW) (wk_V kd_X5_dataCame kl_X5_165 ki_X5_dataCame ks_X5_X5_dataCame kn_X5) rfl ⟨rfl, rfl⟩ hd_kdataCame ⟨Nat.le_of_ble_eq_true rfl, Nat.le_of_ble_eq_true rfl⟩ rfl hl.1 rfl (lv_room (Nat.le_of_ble_eq_true rfl)) dX5_unitCame_191 (fun  g174 H174 k174 hp174 L174 => ?_)
          obtain ⟨hW, hi174, hp174⟩ := hp174
          replace hW := wfP_i hW ⟨hi174, hp174⟩
          refine lv_iconst (v := 0) hx hb dX5_unitCame_194 (by decide) ?_
          exact hQ _ _ (0 : Int32) _ _ _ dX5_unitCame_195 L174 ⟨hW, (mFi.sub (mFi.sub (mFi.sub mFi.rf hi1 mSub_nil) hi10 mSub_nil) hi174 (mSub_eq 0 rfl (mSub_eq 1 rfl (mSub_eq 2 rfl (mSub_eq 10 rfl (mSub_eq 23 rfl (mSub_eq 24 rfl (mSub_eq 25 rfl (mSub_eq 28 rfl (mSub_eq 29 rfl mSub_nil)))))))))), (mFr.tr (mFr.tr (mFr.tr mFr.rf hp1.1 rfl) hp10.1 rfl) hp174.1 rfl), rg_w kc_0 rfl, trivial⟩
        · skip
          replace hW := wfP_i (wfP_l (wfP_r (wfP_r (wfP_r hW)))) c153_150
          have q175 : rg (9) (9) v12 := ⟨by omega, by omega⟩
          refine lv_tableIn (off := 79) (tgt := 232) hx hb dX5_unitCame_153 (by omega) (by omega) (by rw [c153_150]; rfl) (by decide) ?_
          refine lv_aload_n hx hb dX5_unitCame_232 rfl (lv_at hl 3 rfl) ?_
          refine lv_aload_n hx hb dX5_unitCame_233 rfl (lv_at hl 4 rfl) ?_
          refine lv_iconst (v := 0) hx hb dX5_unitCame_234 (by decide) ?_
          refine c_siN (As := [.ref (Z.ad 16 q1), .int (0 : Int32)]) (rest := [.ref (Z.ad 5 i0)]) x hml L10 (d_kwordAt_16 l X g10 q1 (0 : Int32) hX hq1 (rg_w kc_0 rfl) hW) (goodC (wk_all kd_X11_wordAt)) (List.mem_of_getElem? (i := 12) rfl) (wk_in kt_X11_wordAt) (wk_in kn_X11) rfl ⟨rfl, rfl⟩ hd_kwordAt_16 ⟨Nat.le_of_ble_eq_true rfl, Nat.le_of_ble_eq_true rfl⟩ rfl hl.1 rfl (lv_room (Nat.le_of_ble_eq_true rfl)) dX5_unitCame_235 (fun v177 g176 H176 k176 hp176 L176 => ?_)
          obtain ⟨hW, hi176, hp176⟩ := hp176
          replace hW := wfP_i hW ⟨hi176, hp176⟩
          have rv177 : rg (-2147483648) (2147483647) v177 := hp176.2.1
          have uv177 : (-2147483648 : Int) ≤ v177.toInt ∧ v177.toInt ≤ 2147483647 := rv177
          refine lv_aload_n hx hb dX5_unitCame_238 rfl (lv_at hl 4 rfl) ?_
          refine lv_iconst (v := 4) hx hb dX5_unitCame_239 (by decide) ?_
          refine c_siN (As := [.ref (Z.ad 16 q1), .int (4 : Int32)]) (rest := [.int v177, .ref (Z.ad 5 i0)]) x hml L176 (d_kwordAt_16 l X g176 q1 (4 : Int32) hX hq1 (rg_w kc_4 rfl) hW) (goodC (wk_all kd_X11_wordAt)) (List.mem_of_getElem? (i := 12) rfl) (wk_in kt_X11_wordAt) (wk_in kn_X11) rfl ⟨rfl, rfl⟩ hd_kwordAt_16 ⟨Nat.le_of_ble_eq_true rfl, Nat.le_of_ble_eq_true rfl⟩ rfl hl.1 rfl (lv_room (Nat.le_of_ble_eq_true rfl)) dX5_unitCame_240 (fun v179 g178 H178 k178 hp178 L178 => ?_)
          obtain ⟨hW, hi178, hp178⟩ := hp178
          replace hW := wfP_i hW ⟨hi178, hp178⟩
          have rv179 : rg (-2147483648) (2147483647) v179 := hp178.2.1
          have uv179 : (-2147483648 : Int) ≤ v179.toInt ∧ v179.toInt ≤ 2147483647 := rv179
          refine lv_iload hx hb dX5_unitCame_243 (lv_at hl 0 rfl) ?_
          refine c_ci (As := [.int v177, .int v179, .int v13]) (rest := []) x hml L178 5 i0 hal0 rfl (d_kgapCame l X g178 i0 v177 v179 v13 hX (show i0 < 2 * Z.n from (by omega)) (rg_w rv13 rfl) hW) (wk_V kd_X5_gapCame kl_X5_175 ki_X5_gapCame ks_X5_X5_gapCame kn_X5) rfl ⟨rfl, rfl⟩ hd_kgapCame ⟨Nat.le_of_ble_eq_true rfl, Nat.le_of_ble_eq_true rfl⟩ rfl hl.1 rfl (lv_room (Nat.le_of_ble_eq_true rfl)) dX5_unitCame_245 (fun v181 g180 H180 k180 hp180 L180 => ?_)
          obtain ⟨hW, hi180, hp180⟩ := hp180
          replace hW := wfP_i hW ⟨hi180, hp180⟩
          have rv181 : rg (0) (1) v181 := hp180.2.1
          have uv181 : (0 : Int) ≤ v181.toInt ∧ v181.toInt ≤ 1 := rv181
          refine lv_if_eq (tgt := 255) hx hb dX5_unitCame_248 (by decide) (fun c248_182 => ?_) (fun c248_182 => ?_)
          · skip
            replace hW := wfP_i (wfP_l hW) (i_eq c248_182 rfl (rg_i kc_0))
            have ic248_182 := congrArg Int32.toInt c248_182
            have y183 : (0 : Int32).toInt = 0 := by decide
            have q184 : rg (0) (0) v181 := (rg_eq c248_182 rv181 kc_0).1
            have uq184 : (0 : Int) ≤ v181.toInt ∧ v181.toInt ≤ 0 := q184
            refine lv_iconst (v := 2) hx hb dX5_unitCame_255 (by decide) ?_
            exact hQ _ _ (2 : Int32) _ _ _ dX5_unitCame_256 L180 ⟨hW, (mFi.sub (mFi.sub (mFi.sub (mFi.sub (mFi.sub mFi.rf hi1 mSub_nil) hi10 mSub_nil) hi176 mSub_nil) hi178 mSub_nil) hi180 (mSub_eq 5 rfl (mSub_eq 6 rfl (mSub_eq 30 rfl (mSub_eq 32 rfl mSub_nil))))), (mFr.tr (mFr.tr (mFr.tr (mFr.tr (mFr.tr mFr.rf hp1.1 rfl) hp10.1 rfl) hp176.1 rfl) hp178.1 rfl) hp180.1 rfl), rg_w kc_2 rfl, trivial⟩
          · skip
            replace hW := wfP_i (wfP_r hW) (i_ne c248_182 rfl (rg_i kc_0))
            have ic248_182 : v181.toInt ≠ (0 : Int32).toInt := fun z => c248_182 (Int32.toInt_inj.mp z)
            have y185 : (0 : Int32).toInt = 0 := by decide
            have q186 : rg (1) (1) v181 := rg_neL c248_182 rv181 kc_0
            have uq186 : (1 : Int) ≤ v181.toInt ∧ v181.toInt ≤ 1 := q186
            refine lv_iconst (v := 0) hx hb dX5_unitCame_251 (by decide) ?_
            refine lv_goto (tgt := 256) hx hb dX5_unitCame_252 (by decide) ?_
            exact hQ _ _ (0 : Int32) _ _ _ dX5_unitCame_256 L180 ⟨hW, (mFi.sub (mFi.sub (mFi.sub (mFi.sub (mFi.sub mFi.rf hi1 mSub_nil) hi10 mSub_nil) hi176 mSub_nil) hi178 mSub_nil) hi180 (mSub_eq 5 rfl (mSub_eq 6 rfl (mSub_eq 30 rfl (mSub_eq 32 rfl mSub_nil))))), (mFr.tr (mFr.tr (mFr.tr (mFr.tr (mFr.tr mFr.rf hp1.1 rfl) hp10.1 rfl) hp176.1 rfl) hp178.1 rfl) hp180.1 rfl), rg_w kc_0 rfl, trivial⟩
        · skip
          replace hW := wfP_i (wfP_l (wfP_r (wfP_r (wfP_r (wfP_r hW))))) c153_150
          have q187 : rg (10) (10) v12 := ⟨by omega, by omega⟩
          refine lv_tableIn (off := 43) (tgt := 196) hx hb dX5_unitCame_153 (by omega) (by omega) (by rw [c153_150]; rfl) (by decide) ?_
          refine lv_aload_n hx hb dX5_unitCame_196 rfl (lv_at hl 3 rfl) ?_
          refine lv_aload_n hx hb dX5_unitCame_197 rfl (lv_at hl 4 rfl) ?_
          refine lv_iconst (v := 0) hx hb dX5_unitCame_198 (by decide) ?_
          refine c_siN (As := [.ref (Z.ad 16 q1), .int (0 : Int32)]) (rest := [.ref (Z.ad 5 i0)]) x hml L10 (d_kwordAt_16 l X g10 q1 (0 : Int32) hX hq1 (rg_w kc_0 rfl) hW) (goodC (wk_all kd_X11_wordAt)) (List.mem_of_getElem? (i := 12) rfl) (wk_in kt_X11_wordAt) (wk_in kn_X11) rfl ⟨rfl, rfl⟩ hd_kwordAt_16 ⟨Nat.le_of_ble_eq_true rfl, Nat.le_of_ble_eq_true rfl⟩ rfl hl.1 rfl (lv_room (Nat.le_of_ble_eq_true rfl)) dX5_unitCame_199 (fun v189 g188 H188 k188 hp188 L188 => ?_)
          obtain ⟨hW, hi188, hp188⟩ := hp188
          replace hW := wfP_i hW ⟨hi188, hp188⟩
          have rv189 : rg (-2147483648) (2147483647) v189 := hp188.2.1
          have uv189 : (-2147483648 : Int) ≤ v189.toInt ∧ v189.toInt ≤ 2147483647 := rv189
          refine lv_iload hx hb dX5_unitCame_202 (lv_at hl 0 rfl) ?_
          refine c_cv (As := [.int v189, .int v13]) (rest := []) x hml L188 5 i0 hal0 rfl (d_kpollCame l X g188 i0 v189 v13 hX (show i0 < 2 * Z.n from (by omega)) (rg_w rv13 rfl) hW) (wk_V kd_X5_pollCame kl_X5_168 ki_X5_pollCame ks_X5_X5_pollCame kn_X5) rfl ⟨rfl, rfl⟩ hd_kpollCame ⟨Nat.le_of_ble_eq_true rfl, Nat.le_of_ble_eq_true rfl⟩ rfl hl.1 rfl (lv_room (Nat.le_of_ble_eq_true rfl)) dX5_unitCame_204 (fun  g190 H190 k190 hp190 L190 => ?_)
          obtain ⟨hW, hi190, hp190⟩ := hp190
          replace hW := wfP_i hW ⟨hi190, hp190⟩
          refine lv_iconst (v := 0) hx hb dX5_unitCame_207 (by decide) ?_
          exact hQ _ _ (0 : Int32) _ _ _ dX5_unitCame_208 L190 ⟨hW, (mFi.sub (mFi.sub (mFi.sub (mFi.sub mFi.rf hi1 mSub_nil) hi10 mSub_nil) hi188 mSub_nil) hi190 (mSub_eq 0 rfl (mSub_eq 1 rfl (mSub_eq 2 rfl (mSub_eq 10 rfl (mSub_eq 23 rfl (mSub_eq 24 rfl (mSub_eq 25 rfl mSub_nil)))))))), (mFr.tr (mFr.tr (mFr.tr (mFr.tr mFr.rf hp1.1 rfl) hp10.1 rfl) hp188.1 rfl) hp190.1 rfl), rg_w kc_0 rfl, trivial⟩
        · skip
          replace hW := wfP_i (wfP_r (wfP_r (wfP_r (wfP_r (wfP_r hW))))) c153_150
          have q191 : rg (11) (11) v12 := ⟨by omega, by omega⟩
          refine lv_tableIn (off := 56) (tgt := 209) hx hb dX5_unitCame_153 (by omega) (by omega) (by rw [c153_150]; rfl) (by decide) ?_
          refine lv_aload_n hx hb dX5_unitCame_209 rfl (lv_at hl 3 rfl) ?_
          refine lv_aload_n hx hb dX5_unitCame_210 rfl (lv_at hl 4 rfl) ?_
          refine lv_iload_n hx hb dX5_unitCame_211 rfl (lv_at hl 5 rfl) ?_
          refine lv_bipush (v := 12) hx hb dX5_unitCame_212 (by decide) ?_
          refine lv_isub hx hb dX5_unitCame_214 ?_
          refine lv_topi (fun v192 ev192 => ?_)
          have rv192 : rg (-8) (228) v192 := (rg_sub ev192 q7 kc_12 rfl).1
          replace hW := (wfP_i (wfP_i (wfP_i (wfP_a hW v192) ev192) rv192) (w_isub ((rg_sub ev192 q7 kc_12 rfl).2) rfl (rg_i kc_12)))
          have tv192 := (rg_sub ev192 q7 kc_12 rfl).2
          have y193 : (12 : Int32).toInt = 12 := by decide
          have uv192 : (-8 : Int) ≤ v192.toInt ∧ v192.toInt ≤ 228 := rv192
          refine lv_iconst (v := 4) hx hb dX5_unitCame_215 (by decide) ?_
          refine lv_idiv hx hb dX5_unitCame_216 (by decide) ?_
          refine lv_topi (fun v194 ev194 => ?_)
          have rv194 : rg (-2147483648) (2147483647) v194 := rg_any v194
          replace hW := (wfP_i (wfP_i (wfP_a hW v194) ev194) rv194)
          have q195 : rg (-2) (57) v194 := div4 ev194 rv192
          have uv194 : (-2 : Int) ≤ v194.toInt ∧ v194.toInt ≤ 57 := q195
          refine lv_iload hx hb dX5_unitCame_217 (lv_at hl 0 rfl) ?_
          refine lv_iload_n hx hb dX5_unitCame_219 rfl (lv_at hl 6 rfl) ?_
          refine c_ci (As := [.ref (Z.ad 16 q1), .int v194, .int v13, .int p3]) (rest := []) x hml L10 5 i0 hal0 rfl (d_kstatusCame l X g10 i0 q1 v194 v13 p3 hX (show i0 < 2 * Z.n from (by omega)) hq1 (rg_w q195 rfl) (rg_w rv13 rfl) hW) (wk_V kd_X5_statusCame kl_X5_171 ki_X5_statusCame ks_X5_X5_statusCame kn_X5) rfl ⟨rfl, rfl⟩ hd_kstatusCame ⟨Nat.le_of_ble_eq_true rfl, Nat.le_of_ble_eq_true rfl⟩ rfl hl.1 rfl (lv_room (Nat.le_of_ble_eq_true rfl)) dX5_unitCame_220 (fun v197 g196 H196 k196 hp196 L196 => ?_)
          obtain ⟨hW, hi196, hp196⟩ := hp196
          replace hW := wfP_i hW ⟨hi196, hp196⟩
          have rv197 : rg (0) (1) v197 := hp196.2.1
          have uv197 : (0 : Int) ≤ v197.toInt ∧ v197.toInt ≤ 1 := rv197
          refine lv_if_eq (tgt := 230) hx hb dX5_unitCame_223 (by decide) (fun c223_198 => ?_) (fun c223_198 => ?_)
          · skip
            replace hW := wfP_i (wfP_l hW) (i_eq c223_198 rfl (rg_i kc_0))
            have ic223_198 := congrArg Int32.toInt c223_198
            have y199 : (0 : Int32).toInt = 0 := by decide
            have q200 : rg (0) (0) v197 := (rg_eq c223_198 rv197 kc_0).1
            have uq200 : (0 : Int) ≤ v197.toInt ∧ v197.toInt ≤ 0 := q200
            refine lv_iconst (v := 2) hx hb dX5_unitCame_230 (by decide) ?_
            exact hQ _ _ (2 : Int32) _ _ _ dX5_unitCame_231 L196 ⟨hW, (mFi.sub (mFi.sub (mFi.sub mFi.rf hi1 mSub_nil) hi10 mSub_nil) hi196 (mSub_eq 5 rfl (mSub_eq 6 rfl (mSub_eq 8 rfl (mSub_eq 16 rfl (mSub_eq 30 rfl (mSub_eq 32 rfl mSub_nil))))))), (mFr.tr (mFr.tr (mFr.tr mFr.rf hp1.1 rfl) hp10.1 rfl) hp196.1 rfl), rg_w kc_2 rfl, trivial⟩
          · skip
            replace hW := wfP_i (wfP_r hW) (i_ne c223_198 rfl (rg_i kc_0))
            have ic223_198 : v197.toInt ≠ (0 : Int32).toInt := fun z => c223_198 (Int32.toInt_inj.mp z)
            have y201 : (0 : Int32).toInt = 0 := by decide
            have q202 : rg (1) (1) v197 := rg_neL c223_198 rv197 kc_0
            have uq202 : (1 : Int) ≤ v197.toInt ∧ v197.toInt ≤ 1 := q202
            refine lv_iconst (v := 0) hx hb dX5_unitCame_226 (by decide) ?_
            refine lv_goto (tgt := 231) hx hb dX5_unitCame_227 (by decide) ?_
            exact hQ _ _ (0 : Int32) _ _ _ dX5_unitCame_231 L196 ⟨hW, (mFi.sub (mFi.sub (mFi.sub mFi.rf hi1 mSub_nil) hi10 mSub_nil) hi196 (mSub_eq 5 rfl (mSub_eq 6 rfl (mSub_eq 8 rfl (mSub_eq 16 rfl (mSub_eq 30 rfl (mSub_eq 32 rfl mSub_nil))))))), (mFr.tr (mFr.tr (mFr.tr mFr.rf hp1.1 rfl) hp10.1 rfl) hp196.1 rfl), rg_w kc_0 rfl, trivial⟩
      · skip
        replace hW := wfP_i (wfP_r hW) (i_ne c146_147 rfl (rg_i kc_2))
        have ic146_147 : v146.toInt ≠ (2 : Int32).toInt := fun z => c146_147 (Int32.toInt_inj.mp z)
        have y203 : (2 : Int32).toInt = 2 := by decide
        refine lv_iconst (v := 0) hx hb dX5_unitCame_149 (by decide) ?_
        exact hQ _ _ (0 : Int32) _ _ _ dX5_unitCame_150 L10 ⟨hW, (mFi.sub (mFi.sub mFi.rf hi1 mSub_nil) hi10 mSub_nil), (mFr.tr (mFr.tr mFr.rf hp1.1 rfl) hp10.1 rfl), rg_w kc_0 rfl, trivial⟩
    · skip
      replace hW := wfP_i (wfP_l (wfP_r (wfP_r (wfP_r (wfP_r (wfP_r (wfP_r (wfP_r (wfP_r (wfP_r hW)))))))))) c35_14
      have q204 : rg (8) (8) v12 := ⟨by omega, by omega⟩
      refine lv_tableIn (off := 106) (tgt := 141) hx hb dX5_unitCame_35 (by omega) (by omega) (by rw [c35_14]; rfl) (by decide) ?_
      refine lv_aload_n hx hb dX5_unitCame_141 rfl (lv_at hl 3 rfl) ?_
      refine c_geti x L10 5 i0 4 164 hal0 rfl rfl (wk_in kf_X5_26) dX5_unitCame_142 (fun v205 ev205 wv205 => ?_)
      have rv205 : rg (0) (4) v205 := clj_164 wv205
      replace hW := (wfP_i (wfP_i (wfP_a hW v205) ev205) rv205)
      have uv205 : (0 : Int) ≤ v205.toInt ∧ v205.toInt ≤ 4 := rv205
      refine lv_iconst (v := 2) hx hb dX5_unitCame_145 (by decide) ?_
      refine lv_icmp_eq (tgt := 151) hx hb dX5_unitCame_146 (by decide) (fun c146_206 => ?_) (fun c146_206 => ?_)
      · skip
        replace hW := wfP_i (wfP_l hW) (i_eq c146_206 rfl (rg_i kc_2))
        have ic146_206 := congrArg Int32.toInt c146_206
        have y207 : (2 : Int32).toInt = 2 := by decide
        have q208 : rg (2) (2) v205 := (rg_eq c146_206 rv205 kc_2).1
        have uq208 : (2 : Int) ≤ v205.toInt ∧ v205.toInt ≤ 2 := q208
        refine lv_iload hx hb dX5_unitCame_151 (lv_at hl 1 rfl) ?_
        rcases (show v12.toInt < 8 ∨ 11 < v12.toInt ∨ v12.toInt = 8 ∨ v12.toInt = 9 ∨ v12.toInt = 10 ∨ v12.toInt = 11 by omega) with c153_209 | c153_209 | c153_209 | c153_209 | c153_209 | c153_209
        · skip
          replace hW := wfP_i (wfP_l hW) c153_209
          refine lv_tableOut (tgt := 232) hx hb dX5_unitCame_153 (Or.inl c153_209) (by decide) ?_
          refine lv_aload_n hx hb dX5_unitCame_232 rfl (lv_at hl 3 rfl) ?_
          refine lv_aload_n hx hb dX5_unitCame_233 rfl (lv_at hl 4 rfl) ?_
          refine lv_iconst (v := 0) hx hb dX5_unitCame_234 (by decide) ?_
          refine c_siN (As := [.ref (Z.ad 16 q1), .int (0 : Int32)]) (rest := [.ref (Z.ad 5 i0)]) x hml L10 (d_kwordAt_16 l X g10 q1 (0 : Int32) hX hq1 (rg_w kc_0 rfl) hW) (goodC (wk_all kd_X11_wordAt)) (List.mem_of_getElem? (i := 12) rfl) (wk_in kt_X11_wordAt) (wk_in kn_X11) rfl ⟨rfl, rfl⟩ hd_kwordAt_16 ⟨Nat.le_of_ble_eq_true rfl, Nat.le_of_ble_eq_true rfl⟩ rfl hl.1 rfl (lv_room (Nat.le_of_ble_eq_true rfl)) dX5_unitCame_235 (fun v211 g210 H210 k210 hp210 L210 => ?_)
          obtain ⟨hW, hi210, hp210⟩ := hp210
          replace hW := wfP_i hW ⟨hi210, hp210⟩
          have rv211 : rg (-2147483648) (2147483647) v211 := hp210.2.1
          have uv211 : (-2147483648 : Int) ≤ v211.toInt ∧ v211.toInt ≤ 2147483647 := rv211
          refine lv_aload_n hx hb dX5_unitCame_238 rfl (lv_at hl 4 rfl) ?_
          refine lv_iconst (v := 4) hx hb dX5_unitCame_239 (by decide) ?_
          refine c_siN (As := [.ref (Z.ad 16 q1), .int (4 : Int32)]) (rest := [.int v211, .ref (Z.ad 5 i0)]) x hml L210 (d_kwordAt_16 l X g210 q1 (4 : Int32) hX hq1 (rg_w kc_4 rfl) hW) (goodC (wk_all kd_X11_wordAt)) (List.mem_of_getElem? (i := 12) rfl) (wk_in kt_X11_wordAt) (wk_in kn_X11) rfl ⟨rfl, rfl⟩ hd_kwordAt_16 ⟨Nat.le_of_ble_eq_true rfl, Nat.le_of_ble_eq_true rfl⟩ rfl hl.1 rfl (lv_room (Nat.le_of_ble_eq_true rfl)) dX5_unitCame_240 (fun v213 g212 H212 k212 hp212 L212 => ?_)
          obtain ⟨hW, hi212, hp212⟩ := hp212
          replace hW := wfP_i hW ⟨hi212, hp212⟩
          have rv213 : rg (-2147483648) (2147483647) v213 := hp212.2.1
          have uv213 : (-2147483648 : Int) ≤ v213.toInt ∧ v213.toInt ≤ 2147483647 := rv213
          refine lv_iload hx hb dX5_unitCame_243 (lv_at hl 0 rfl) ?_
          refine c_ci (As := [.int v211, .int v213, .int v13]) (rest := []) x hml L212 5 i0 hal0 rfl (d_kgapCame l X g212 i0 v211 v213 v13 hX (show i0 < 2 * Z.n from (by omega)) (rg_w rv13 rfl) hW) (wk_V kd_X5_gapCame kl_X5_175 ki_X5_gapCame ks_X5_X5_gapCame kn_X5) rfl ⟨rfl, rfl⟩ hd_kgapCame ⟨Nat.le_of_ble_eq_true rfl, Nat.le_of_ble_eq_true rfl⟩ rfl hl.1 rfl (lv_room (Nat.le_of_ble_eq_true rfl)) dX5_unitCame_245 (fun v215 g214 H214 k214 hp214 L214 => ?_)
          obtain ⟨hW, hi214, hp214⟩ := hp214
          replace hW := wfP_i hW ⟨hi214, hp214⟩
          have rv215 : rg (0) (1) v215 := hp214.2.1
          have uv215 : (0 : Int) ≤ v215.toInt ∧ v215.toInt ≤ 1 := rv215
          refine lv_if_eq (tgt := 255) hx hb dX5_unitCame_248 (by decide) (fun c248_216 => ?_) (fun c248_216 => ?_)
          · skip
            replace hW := wfP_i (wfP_l hW) (i_eq c248_216 rfl (rg_i kc_0))
            have ic248_216 := congrArg Int32.toInt c248_216
            have y217 : (0 : Int32).toInt = 0 := by decide
            have q218 : rg (0) (0) v215 := (rg_eq c248_216 rv215 kc_0).1
            have uq218 : (0 : Int) ≤ v215.toInt ∧ v215.toInt ≤ 0 := q218
            refine lv_iconst (v := 2) hx hb dX5_unitCame_255 (by decide) ?_
            exact hQ _ _ (2 : Int32) _ _ _ dX5_unitCame_256 L214 ⟨hW, (mFi.sub (mFi.sub (mFi.sub (mFi.sub (mFi.sub mFi.rf hi1 mSub_nil) hi10 mSub_nil) hi210 mSub_nil) hi212 mSub_nil) hi214 (mSub_eq 5 rfl (mSub_eq 6 rfl (mSub_eq 30 rfl (mSub_eq 32 rfl mSub_nil))))), (mFr.tr (mFr.tr (mFr.tr (mFr.tr (mFr.tr mFr.rf hp1.1 rfl) hp10.1 rfl) hp210.1 rfl) hp212.1 rfl) hp214.1 rfl), rg_w kc_2 rfl, trivial⟩
          · skip
            replace hW := wfP_i (wfP_r hW) (i_ne c248_216 rfl (rg_i kc_0))
            have ic248_216 : v215.toInt ≠ (0 : Int32).toInt := fun z => c248_216 (Int32.toInt_inj.mp z)
            have y219 : (0 : Int32).toInt = 0 := by decide
            have q220 : rg (1) (1) v215 := rg_neL c248_216 rv215 kc_0
            have uq220 : (1 : Int) ≤ v215.toInt ∧ v215.toInt ≤ 1 := q220
            refine lv_iconst (v := 0) hx hb dX5_unitCame_251 (by decide) ?_
            refine lv_goto (tgt := 256) hx hb dX5_unitCame_252 (by decide) ?_
            exact hQ _ _ (0 : Int32) _ _ _ dX5_unitCame_256 L214 ⟨hW, (mFi.sub (mFi.sub (mFi.sub (mFi.sub (mFi.sub mFi.rf hi1 mSub_nil) hi10 mSub_nil) hi210 mSub_nil) hi212 mSub_nil) hi214 (mSub_eq 5 rfl (mSub_eq 6 rfl (mSub_eq 30 rfl (mSub_eq 32 rfl mSub_nil))))), (mFr.tr (mFr.tr (mFr.tr (mFr.tr (mFr.tr mFr.rf hp1.1 rfl) hp10.1 rfl) hp210.1 rfl) hp212.1 rfl) hp214.1 rfl), rg_w kc_0 rfl, trivial⟩
        · skip
          replace hW := wfP_i (wfP_l (wfP_r hW)) c153_209
          refine lv_tableOut (tgt := 232) hx hb dX5_unitCame_153 (Or.inr c153_209) (by decide) ?_
          refine lv_aload_n hx hb dX5_unitCame_232 rfl (lv_at hl 3 rfl) ?_
          refine lv_aload_n hx hb dX5_unitCame_233 rfl (lv_at hl 4 rfl) ?_
          refine lv_iconst (v := 0) hx hb dX5_unitCame_234 (by decide) ?_
          refine c_siN (As := [.ref (Z.ad 16 q1), .int (0 : Int32)]) (rest := [.ref (Z.ad 5 i0)]) x hml L10 (d_kwordAt_16 l X g10 q1 (0 : Int32) hX hq1 (rg_w kc_0 rfl) hW) (goodC (wk_all kd_X11_wordAt)) (List.mem_of_getElem? (i := 12) rfl) (wk_in kt_X11_wordAt) (wk_in kn_X11) rfl ⟨rfl, rfl⟩ hd_kwordAt_16 ⟨Nat.le_of_ble_eq_true rfl, Nat.le_of_ble_eq_true rfl⟩ rfl hl.1 rfl (lv_room (Nat.le_of_ble_eq_true rfl)) dX5_unitCame_235 (fun v222 g221 H221 k221 hp221 L221 => ?_)
          obtain ⟨hW, hi221, hp221⟩ := hp221
          replace hW := wfP_i hW ⟨hi221, hp221⟩
          have rv222 : rg (-2147483648) (2147483647) v222 := hp221.2.1
          have uv222 : (-2147483648 : Int) ≤ v222.toInt ∧ v222.toInt ≤ 2147483647 := rv222
          refine lv_aload_n hx hb dX5_unitCame_238 rfl (lv_at hl 4 rfl) ?_
          refine lv_iconst (v := 4) hx hb dX5_unitCame_239 (by decide) ?_
          refine c_siN (As := [.ref (Z.ad 16 q1), .int (4 : Int32)]) (rest := [.int v222, .ref (Z.ad 5 i0)]) x hml L221 (d_kwordAt_16 l X g221 q1 (4 : Int32) hX hq1 (rg_w kc_4 rfl) hW) (goodC (wk_all kd_X11_wordAt)) (List.mem_of_getElem? (i := 12) rfl) (wk_in kt_X11_wordAt) (wk_in kn_X11) rfl ⟨rfl, rfl⟩ hd_kwordAt_16 ⟨Nat.le_of_ble_eq_true rfl, Nat.le_of_ble_eq_true rfl⟩ rfl hl.1 rfl (lv_room (Nat.le_of_ble_eq_true rfl)) dX5_unitCame_240 (fun v224 g223 H223 k223 hp223 L223 => ?_)
          obtain ⟨hW, hi223, hp223⟩ := hp223
          replace hW := wfP_i hW ⟨hi223, hp223⟩
          have rv224 : rg (-2147483648) (2147483647) v224 := hp223.2.1
          have uv224 : (-2147483648 : Int) ≤ v224.toInt ∧ v224.toInt ≤ 2147483647 := rv224
          refine lv_iload hx hb dX5_unitCame_243 (lv_at hl 0 rfl) ?_
          refine c_ci (As := [.int v222, .int v224, .int v13]) (rest := []) x hml L223 5 i0 hal0 rfl (d_kgapCame l X g223 i0 v222 v224 v13 hX (show i0 < 2 * Z.n from (by omega)) (rg_w rv13 rfl) hW) (wk_V kd_X5_gapCame kl_X5_175 ki_X5_gapCame ks_X5_X5_gapCame kn_X5) rfl ⟨rfl, rfl⟩ hd_kgapCame ⟨Nat.le_of_ble_eq_true rfl, Nat.le_of_ble_eq_true rfl⟩ rfl hl.1 rfl (lv_room (Nat.le_of_ble_eq_true rfl)) dX5_unitCame_245 (fun v226 g225 H225 k225 hp225 L225 => ?_)
          obtain ⟨hW, hi225, hp225⟩ := hp225
          replace hW := wfP_i hW ⟨hi225, hp225⟩
          have rv226 : rg (0) (1) v226 := hp225.2.1
          have uv226 : (0 : Int) ≤ v226.toInt ∧ v226.toInt ≤ 1 := rv226
          refine lv_if_eq (tgt := 255) hx hb dX5_unitCame_248 (by decide) (fun c248_227 => ?_) (fun c248_227 => ?_)
          · skip
            replace hW := wfP_i (wfP_l hW) (i_eq c248_227 rfl (rg_i kc_0))
            have ic248_227 := congrArg Int32.toInt c248_227
            have y228 : (0 : Int32).toInt = 0 := by decide
            have q229 : rg (0) (0) v226 := (rg_eq c248_227 rv226 kc_0).1
            have uq229 : (0 : Int) ≤ v226.toInt ∧ v226.toInt ≤ 0 := q229
            refine lv_iconst (v := 2) hx hb dX5_unitCame_255 (by decide) ?_
            exact hQ _ _ (2 : Int32) _ _ _ dX5_unitCame_256 L225 ⟨hW, (mFi.sub (mFi.sub (mFi.sub (mFi.sub (mFi.sub mFi.rf hi1 mSub_nil) hi10 mSub_nil) hi221 mSub_nil) hi223 mSub_nil) hi225 (mSub_eq 5 rfl (mSub_eq 6 rfl (mSub_eq 30 rfl (mSub_eq 32 rfl mSub_nil))))), (mFr.tr (mFr.tr (mFr.tr (mFr.tr (mFr.tr mFr.rf hp1.1 rfl) hp10.1 rfl) hp221.1 rfl) hp223.1 rfl) hp225.1 rfl), rg_w kc_2 rfl, trivial⟩
          · skip
            replace hW := wfP_i (wfP_r hW) (i_ne c248_227 rfl (rg_i kc_0))
            have ic248_227 : v226.toInt ≠ (0 : Int32).toInt := fun z => c248_227 (Int32.toInt_inj.mp z)
            have y230 : (0 : Int32).toInt = 0 := by decide
            have q231 : rg (1) (1) v226 := rg_neL c248_227 rv226 kc_0
            have uq231 : (1 : Int) ≤ v226.toInt ∧ v226.toInt ≤ 1 := q231
            refine lv_iconst (v := 0) hx hb dX5_unitCame_251 (by decide) ?_
            refine lv_goto (tgt := 256) hx hb dX5_unitCame_252 (by decide) ?_
            exact hQ _ _ (0 : Int32) _ _ _ dX5_unitCame_256 L225 ⟨hW, (mFi.sub (mFi.sub (mFi.sub (mFi.sub (mFi.sub mFi.rf hi1 mSub_nil) hi10 mSub_nil) hi221 mSub_nil) hi223 mSub_nil) hi225 (mSub_eq 5 rfl (mSub_eq 6 rfl (mSub_eq 30 rfl (mSub_eq 32 rfl mSub_nil))))), (mFr.tr (mFr.tr (mFr.tr (mFr.tr (mFr.tr mFr.rf hp1.1 rfl) hp10.1 rfl) hp221.1 rfl) hp223.1 rfl) hp225.1 rfl), rg_w kc_0 rfl, trivial⟩
        · skip
          replace hW := wfP_i (wfP_l (wfP_r (wfP_r hW))) c153_209
          have q232 : rg (8) (8) v12 := ⟨by omega, by omega⟩
          refine lv_tableIn (off := 31) (tgt := 184) hx hb dX5_unitCame_153 (by omega) (by omega) (by rw [c153_209]; rfl) (by decide) ?_
          refine lv_aload_n hx hb dX5_unitCame_184 rfl (lv_at hl 3 rfl) ?_
          refine lv_aload_n hx hb dX5_unitCame_185 rfl (lv_at hl 4 rfl) ?_
          refine lv_iload_n hx hb dX5_unitCame_186 rfl (lv_at hl 5 rfl) ?_
          refine lv_iconst (v := 4) hx hb dX5_unitCame_187 (by decide) ?_
          refine lv_isub hx hb dX5_unitCame_188 ?_
          refine m_top ev8 ?_
          refine lv_iload hx hb dX5_unitCame_189 (lv_at hl 0 rfl) ?_
          refine c_cv (As := [.ref (Z.ad 16 q1), .int v8, .int v13]) (rest := []) x hml L10 5 i0 hal0 rfl (d_kdataCame l X g10 i0 q1 v8 v13 hX (show i0 < 2 * Z.n from (by omega)) hq1 (rg_w rv13 rfl) hW) (wk_V kd_X5_dataCame kl_X5_165 ki_X5_dataCame ks_X5_X5_dataCame kn_X5) rfl ⟨rfl, rfl⟩ hd_kdataCame ⟨Nat.le_of_ble_eq_true rfl, Nat.le_of_ble_eq_true rfl⟩ rfl hl.1 rfl (lv_room (Nat.le_of_ble_eq_true rfl)) dX5_unitCame_191 (fun  g233 H233 k233 hp233 L233 => ?_)
          obtain ⟨hW, hi233, hp233⟩ := hp233
          replace hW := wfP_i hW ⟨hi233, hp233⟩
          refine lv_iconst (v := 0) hx hb dX5_unitCame_194 (by decide) ?_
          exact hQ _ _ (0 : Int32) _ _ _ dX5_unitCame_195 L233 ⟨hW, (mFi.sub (mFi.sub (mFi.sub mFi.rf hi1 mSub_nil) hi10 mSub_nil) hi233 (mSub_eq 0 rfl (mSub_eq 1 rfl (mSub_eq 2 rfl (mSub_eq 10 rfl (mSub_eq 23 rfl (mSub_eq 24 rfl (mSub_eq 25 rfl (mSub_eq 28 rfl (mSub_eq 29 rfl mSub_nil)))))))))), (mFr.tr (mFr.tr (mFr.tr mFr.rf hp1.1 rfl) hp10.1 rfl) hp233.1 rfl), rg_w kc_0 rfl, trivial⟩
        · skip
          replace hW := wfP_i (wfP_l (wfP_r (wfP_r (wfP_r hW)))) c153_209
          have q234 : rg (9) (9) v12 := ⟨by omega, by omega⟩
          refine lv_tableIn (off := 79) (tgt := 232) hx hb dX5_unitCame_153 (by omega) (by omega) (by rw [c153_209]; rfl) (by decide) ?_
          refine lv_aload_n hx hb dX5_unitCame_232 rfl (lv_at hl 3 rfl) ?_
          refine lv_aload_n hx hb dX5_unitCame_233 rfl (lv_at hl 4 rfl) ?_
          refine lv_iconst (v := 0) hx hb dX5_unitCame_234 (by decide) ?_
          refine c_siN (As := [.ref (Z.ad 16 q1), .int (0 : Int32)]) (rest := [.ref (Z.ad 5 i0)]) x hml L10 (d_kwordAt_16 l X g10 q1 (0 : Int32) hX hq1 (rg_w kc_0 rfl) hW) (goodC (wk_all kd_X11_wordAt)) (List.mem_of_getElem? (i := 12) rfl) (wk_in kt_X11_wordAt) (wk_in kn_X11) rfl ⟨rfl, rfl⟩ hd_kwordAt_16 ⟨Nat.le_of_ble_eq_true rfl, Nat.le_of_ble_eq_true rfl⟩ rfl hl.1 rfl (lv_room (Nat.le_of_ble_eq_true rfl)) dX5_unitCame_235 (fun v236 g235 H235 k235 hp235 L235 => ?_)
          obtain ⟨hW, hi235, hp235⟩ := hp235
          replace hW := wfP_i hW ⟨hi235, hp235⟩
          have rv236 : rg (-2147483648) (2147483647) v236 := hp235.2.1
          have uv236 : (-2147483648 : Int) ≤ v236.toInt ∧ v236.toInt ≤ 2147483647 := rv236
          refine lv_aload_n hx hb dX5_unitCame_238 rfl (lv_at hl 4 rfl) ?_
          refine lv_iconst (v := 4) hx hb dX5_unitCame_239 (by decide) ?_
          refine c_siN (As := [.ref (Z.ad 16 q1), .int (4 : Int32)]) (rest := [.int v236, .ref (Z.ad 5 i0)]) x hml L235 (d_kwordAt_16 l X g235 q1 (4 : Int32) hX hq1 (rg_w kc_4 rfl) hW) (goodC (wk_all kd_X11_wordAt)) (List.mem_of_getElem? (i := 12) rfl) (wk_in kt_X11_wordAt) (wk_in kn_X11) rfl ⟨rfl, rfl⟩ hd_kwordAt_16 ⟨Nat.le_of_ble_eq_true rfl, Nat.le_of_ble_eq_true rfl⟩ rfl hl.1 rfl (lv_room (Nat.le_of_ble_eq_true rfl)) dX5_unitCame_240 (fun v238 g237 H237 k237 hp237 L237 => ?_)
          obtain ⟨hW, hi237, hp237⟩ := hp237
          replace hW := wfP_i hW ⟨hi237, hp237⟩
          have rv238 : rg (-2147483648) (2147483647) v238 := hp237.2.1
          have uv238 : (-2147483648 : Int) ≤ v238.toInt ∧ v238.toInt ≤ 2147483647 := rv238
          refine lv_iload hx hb dX5_unitCame_243 (lv_at hl 0 rfl) ?_
          refine c_ci (As := [.int v236, .int v238, .int v13]) (rest := []) x hml L237 5 i0 hal0 rfl (d_kgapCame l X g237 i0 v236 v238 v13 hX (show i0 < 2 * Z.n from (by omega)) (rg_w rv13 rfl) hW) (wk_V kd_X5_gapCame kl_X5_175 ki_X5_gapCame ks_X5_X5_gapCame kn_X5) rfl ⟨rfl, rfl⟩ hd_kgapCame ⟨Nat.le_of_ble_eq_true rfl, Nat.le_of_ble_eq_true rfl⟩ rfl hl.1 rfl (lv_room (Nat.le_of_ble_eq_true rfl)) dX5_unitCame_245 (fun v240 g239 H239 k239 hp239 L239 => ?_)
          obtain ⟨hW, hi239, hp239⟩ := hp239
          replace hW := wfP_i hW ⟨hi239, hp239⟩
          have rv240 : rg (0) (1) v240 := hp239.2.1
          have uv240 : (0 : Int) ≤ v240.toInt ∧ v240.toInt ≤ 1 := rv240
          refine lv_if_eq (tgt := 255) hx hb dX5_unitCame_248 (by decide) (fun c248_241 => ?_) (fun c248_241 => ?_)
          · skip
            replace hW := wfP_i (wfP_l hW) (i_eq c248_241 rfl (rg_i kc_0))
            have ic248_241 := congrArg Int32.toInt c248_241
            have y242 : (0 : Int32).toInt = 0 := by decide
            have q243 : rg (0) (0) v240 := (rg_eq c248_241 rv240 kc_0).1
            have uq243 : (0 : Int) ≤ v240.toInt ∧ v240.toInt ≤ 0 := q243
            refine lv_iconst (v := 2) hx hb dX5_unitCame_255 (by decide) ?_
            exact hQ _ _ (2 : Int32) _ _ _ dX5_unitCame_256 L239 ⟨hW, (mFi.sub (mFi.sub (mFi.sub (mFi.sub (mFi.sub mFi.rf hi1 mSub_nil) hi10 mSub_nil) hi235 mSub_nil) hi237 mSub_nil) hi239 (mSub_eq 5 rfl (mSub_eq 6 rfl (mSub_eq 30 rfl (mSub_eq 32 rfl mSub_nil))))), (mFr.tr (mFr.tr (mFr.tr (mFr.tr (mFr.tr mFr.rf hp1.1 rfl) hp10.1 rfl) hp235.1 rfl) hp237.1 rfl) hp239.1 rfl), rg_w kc_2 rfl, trivial⟩
          · skip
            replace hW := wfP_i (wfP_r hW) (i_ne c248_241 rfl (rg_i kc_0))
            have ic248_241 : v240.toInt ≠ (0 : Int32).toInt := fun z => c248_241 (Int32.toInt_inj.mp z)
            have y244 : (0 : Int32).toInt = 0 := by decide
            have q245 : rg (1) (1) v240 := rg_neL c248_241 rv240 kc_0
            have uq245 : (1 : Int) ≤ v240.toInt ∧ v240.toInt ≤ 1 := q245
            refine lv_iconst (v := 0) hx hb dX5_unitCame_251 (by decide) ?_
            refine lv_goto (tgt := 256) hx hb dX5_unitCame_252 (by decide) ?_
            exact hQ _ _ (0 : Int32) _ _ _ dX5_unitCame_256 L239 ⟨hW, (mFi.sub (mFi.sub (mFi.sub (mFi.sub (mFi.sub mFi.rf hi1 mSub_nil) hi10 mSub_nil) hi235 mSub_nil) hi237 mSub_nil) hi239 (mSub_eq 5 rfl (mSub_eq 6 rfl (mSub_eq 30 rfl (mSub_eq 32 rfl mSub_nil))))), (mFr.tr (mFr.tr (mFr.tr (mFr.tr (mFr.tr mFr.rf hp1.1 rfl) hp10.1 rfl) hp235.1 rfl) hp237.1 rfl) hp239.1 rfl), rg_w kc_0 rfl, trivial⟩
        · skip
          replace hW := wfP_i (wfP_l (wfP_r (wfP_r (wfP_r (wfP_r hW))))) c153_209
          have q246 : rg (10) (10) v12 := ⟨by omega, by omega⟩
          refine lv_tableIn (off := 43) (tgt := 196) hx hb dX5_unitCame_153 (by omega) (by omega) (by rw [c153_209]; rfl) (by decide) ?_
          refine lv_aload_n hx hb dX5_unitCame_196 rfl (lv_at hl 3 rfl) ?_
          refine lv_aload_n hx hb dX5_unitCame_197 rfl (lv_at hl 4 rfl) ?_
          refine lv_iconst (v := 0) hx hb dX5_unitCame_198 (by decide) ?_
          refine c_siN (As := [.ref (Z.ad 16 q1), .int (0 : Int32)]) (rest := [.ref (Z.ad 5 i0)]) x hml L10 (d_kwordAt_16 l X g10 q1 (0 : Int32) hX hq1 (rg_w kc_0 rfl) hW) (goodC (wk_all kd_X11_wordAt)) (List.mem_of_getElem? (i := 12) rfl) (wk_in kt_X11_wordAt) (wk_in kn_X11) rfl ⟨rfl, rfl⟩ hd_kwordAt_16 ⟨Nat.le_of_ble_eq_true rfl, Nat.le_of_ble_eq_true rfl⟩ rfl hl.1 rfl (lv_room (Nat.le_of_ble_eq_true rfl)) dX5_unitCame_199 (fun v248 g247 H247 k247 hp247 L247 => ?_)
          obtain ⟨hW, hi247, hp247⟩ := hp247
          replace hW := wfP_i hW ⟨hi247, hp247⟩
          have rv248 : rg (-2147483648) (2147483647) v248 := hp247.2.1
          have uv248 : (-2147483648 : Int) ≤ v248.toInt ∧ v248.toInt ≤ 2147483647 := rv248
          refine lv_iload hx hb dX5_unitCame_202 (lv_at hl 0 rfl) ?_
          refine c_cv (As := [.int v248, .int v13]) (rest := []) x hml L247 5 i0 hal0 rfl (d_kpollCame l X g247 i0 v248 v13 hX (show i0 < 2 * Z.n from (by omega)) (rg_w rv13 rfl) hW) (wk_V kd_X5_pollCame kl_X5_168 ki_X5_pollCame ks_X5_X5_pollCame kn_X5) rfl ⟨rfl, rfl⟩ hd_kpollCame ⟨Nat.le_of_ble_eq_true rfl, Nat.le_of_ble_eq_true rfl⟩ rfl hl.1 rfl (lv_room (Nat.le_of_ble_eq_true rfl)) dX5_unitCame_204 (fun  g249 H249 k249 hp249 L249 => ?_)
          obtain ⟨hW, hi249, hp249⟩ := hp249
          replace hW := wfP_i hW ⟨hi249, hp249⟩
          refine lv_iconst (v := 0) hx hb dX5_unitCame_207 (by decide) ?_
          exact hQ _ _ (0 : Int32) _ _ _ dX5_unitCame_208 L249 ⟨hW, (mFi.sub (mFi.sub (mFi.sub (mFi.sub mFi.rf hi1 mSub_nil) hi10 mSub_nil) hi247 mSub_nil) hi249 (mSub_eq 0 rfl (mSub_eq 1 rfl (mSub_eq 2 rfl (mSub_eq 10 rfl (mSub_eq 23 rfl (mSub_eq 24 rfl (mSub_eq 25 rfl mSub_nil)))))))), (mFr.tr (mFr.tr (mFr.tr (mFr.tr mFr.rf hp1.1 rfl) hp10.1 rfl) hp247.1 rfl) hp249.1 rfl), rg_w kc_0 rfl, trivial⟩
        · skip
          replace hW := wfP_i (wfP_r (wfP_r (wfP_r (wfP_r (wfP_r hW))))) c153_209
          have q250 : rg (11) (11) v12 := ⟨by omega, by omega⟩
          refine lv_tableIn (off := 56) (tgt := 209) hx hb dX5_unitCame_153 (by omega) (by omega) (by rw [c153_209]; rfl) (by decide) ?_
          refine lv_aload_n hx hb dX5_unitCame_209 rfl (lv_at hl 3 rfl) ?_
          refine lv_aload_n hx hb dX5_unitCame_210 rfl (lv_at hl 4 rfl) ?_
          refine lv_iload_n hx hb dX5_unitCame_211 rfl (lv_at hl 5 rfl) ?_
          refine lv_bipush (v := 12) hx hb dX5_unitCame_212 (by decide) ?_
          refine lv_isub hx hb dX5_unitCame_214 ?_
          refine lv_topi (fun v251 ev251 => ?_)
          have rv251 : rg (-8) (228) v251 := (rg_sub ev251 q7 kc_12 rfl).1
          replace hW := (wfP_i (wfP_i (wfP_i (wfP_a hW v251) ev251) rv251) (w_isub ((rg_sub ev251 q7 kc_12 rfl).2) rfl (rg_i kc_12)))
          have tv251 := (rg_sub ev251 q7 kc_12 rfl).2
          have y252 : (12 : Int32).toInt = 12 := by decide
          have uv251 : (-8 : Int) ≤ v251.toInt ∧ v251.toInt ≤ 228 := rv251
          refine lv_iconst (v := 4) hx hb dX5_unitCame_215 (by decide) ?_
          refine lv_idiv hx hb dX5_unitCame_216 (by decide) ?_
          refine lv_topi (fun v253 ev253 => ?_)
          have rv253 : rg (-2147483648) (2147483647) v253 := rg_any v253
          replace hW := (wfP_i (wfP_i (wfP_a hW v253) ev253) rv253)
          have q254 : rg (-2) (57) v253 := div4 ev253 rv251
          have uv253 : (-2 : Int) ≤ v253.toInt ∧ v253.toInt ≤ 57 := q254
          refine lv_iload hx hb dX5_unitCame_217 (lv_at hl 0 rfl) ?_
          refine lv_iload_n hx hb dX5_unitCame_219 rfl (lv_at hl 6 rfl) ?_
          refine c_ci (As := [.ref (Z.ad 16 q1), .int v253, .int v13, .int p3]) (rest := []) x hml L10 5 i0 hal0 rfl (d_kstatusCame l X g10 i0 q1 v253 v13 p3 hX (show i0 < 2 * Z.n from (by omega)) hq1 (rg_w q254 rfl) (rg_w rv13 rfl) hW) (wk_V kd_X5_statusCame kl_X5_171 ki_X5_statusCame ks_X5_X5_statusCame kn_X5) rfl ⟨rfl, rfl⟩ hd_kstatusCame ⟨Nat.le_of_ble_eq_true rfl, Nat.le_of_ble_eq_true rfl⟩ rfl hl.1 rfl (lv_room (Nat.le_of_ble_eq_true rfl)) dX5_unitCame_220 (fun v256 g255 H255 k255 hp255 L255 => ?_)
          obtain ⟨hW, hi255, hp255⟩ := hp255
          replace hW := wfP_i hW ⟨hi255, hp255⟩
          have rv256 : rg (0) (1) v256 := hp255.2.1
          have uv256 : (0 : Int) ≤ v256.toInt ∧ v256.toInt ≤ 1 := rv256
          refine lv_if_eq (tgt := 230) hx hb dX5_unitCame_223 (by decide) (fun c223_257 => ?_) (fun c223_257 => ?_)
          · skip
            replace hW := wfP_i (wfP_l hW) (i_eq c223_257 rfl (rg_i kc_0))
            have ic223_257 := congrArg Int32.toInt c223_257
            have y258 : (0 : Int32).toInt = 0 := by decide
            have q259 : rg (0) (0) v256 := (rg_eq c223_257 rv256 kc_0).1
            have uq259 : (0 : Int) ≤ v256.toInt ∧ v256.toInt ≤ 0 := q259
            refine lv_iconst (v := 2) hx hb dX5_unitCame_230 (by decide) ?_
            exact hQ _ _ (2 : Int32) _ _ _ dX5_unitCame_231 L255 ⟨hW, (mFi.sub (mFi.sub (mFi.sub mFi.rf hi1 mSub_nil) hi10 mSub_nil) hi255 (mSub_eq 5 rfl (mSub_eq 6 rfl (mSub_eq 8 rfl (mSub_eq 16 rfl (mSub_eq 30 rfl (mSub_eq 32 rfl mSub_nil))))))), (mFr.tr (mFr.tr (mFr.tr mFr.rf hp1.1 rfl) hp10.1 rfl) hp255.1 rfl), rg_w kc_2 rfl, trivial⟩
          · skip
            replace hW := wfP_i (wfP_r hW) (i_ne c223_257 rfl (rg_i kc_0))
            have ic223_257 : v256.toInt ≠ (0 : Int32).toInt := fun z => c223_257 (Int32.toInt_inj.mp z)
            have y260 : (0 : Int32).toInt = 0 := by decide
            have q261 : rg (1) (1) v256 := rg_neL c223_257 rv256 kc_0
            have uq261 : (1 : Int) ≤ v256.toInt ∧ v256.toInt ≤ 1 := q261
            refine lv_iconst (v := 0) hx hb dX5_unitCame_226 (by decide) ?_
            refine lv_goto (tgt := 231) hx hb dX5_unitCame_227 (by decide) ?_
            exact hQ _ _ (0 : Int32) _ _ _ dX5_unitCame_231 L255 ⟨hW, (mFi.sub (mFi.sub (mFi.sub mFi.rf hi1 mSub_nil) hi10 mSub_nil) hi255 (mSub_eq 5 rfl (mSub_eq 6 rfl (mSub_eq 8 rfl (mSub_eq 16 rfl (mSub_eq 30 rfl (mSub_eq 32 rfl mSub_nil))))))), (mFr.tr (mFr.tr (mFr.tr mFr.rf hp1.1 rfl) hp10.1 rfl) hp255.1 rfl), rg_w kc_0 rfl, trivial⟩
      · skip
        replace hW := wfP_i (wfP_r hW) (i_ne c146_206 rfl (rg_i kc_2))
        have ic146_206 : v205.toInt ≠ (2 : Int32).toInt := fun z => c146_206 (Int32.toInt_inj.mp z)
        have y262 : (2 : Int32).toInt = 2 := by decide
        refine lv_iconst (v := 0) hx hb dX5_unitCame_149 (by decide) ?_
        exact hQ _ _ (0 : Int32) _ _ _ dX5_unitCame_150 L10 ⟨hW, (mFi.sub (mFi.sub mFi.rf hi1 mSub_nil) hi10 mSub_nil), (mFr.tr (mFr.tr mFr.rf hp1.1 rfl) hp10.1 rfl), rg_w kc_0 rfl, trivial⟩
    · skip
      replace hW := wfP_i (wfP_l (wfP_r (wfP_r (wfP_r (wfP_r (wfP_r (wfP_r (wfP_r (wfP_r (wfP_r (wfP_r hW))))))))))) c35_14
      have q263 : rg (9) (9) v12 := ⟨by omega, by omega⟩
      refine lv_tableIn (off := 86) (tgt := 121) hx hb dX5_unitCame_35 (by omega) (by omega) (by rw [c35_14]; rfl) (by decide) ?_
      refine lv_aload_n hx hb dX5_unitCame_121 rfl (lv_at hl 3 rfl) ?_
      refine lv_iload hx hb dX5_unitCame_122 (lv_at hl 1 rfl) ?_
      refine lv_iload hx hb dX5_unitCame_124 (lv_at hl 0 rfl) ?_
      refine lv_iload_n hx hb dX5_unitCame_126 rfl (lv_at hl 6 rfl) ?_
      refine c_cv (As := [.int v12, .int v13, .int p3]) (rest := []) x hml L10 5 i0 hal0 rfl (d_kresetCame l X g10 i0 v12 v13 p3 hX (show i0 < 2 * Z.n from (by omega)) (rg_w rv13 rfl) hW) (wk_V kd_X5_resetCame kl_X5_159 ki_X5_resetCame ks_X5_X5_resetCame kn_X5) rfl ⟨rfl, rfl⟩ hd_kresetCame ⟨Nat.le_of_ble_eq_true rfl, Nat.le_of_ble_eq_true rfl⟩ rfl hl.1 rfl (lv_room (Nat.le_of_ble_eq_true rfl)) dX5_unitCame_127 (fun  g264 H264 k264 hp264 L264 => ?_)
      obtain ⟨hW, hi264, hp264⟩ := hp264
      replace hW := wfP_i hW ⟨hi264, hp264⟩
      refine lv_iconst (v := 0) hx hb dX5_unitCame_130 (by decide) ?_
      exact hQ _ _ (0 : Int32) _ _ _ dX5_unitCame_131 L264 ⟨hW, (mFi.sub (mFi.sub (mFi.sub mFi.rf hi1 mSub_nil) hi10 mSub_nil) hi264 (mSub_eq 0 rfl (mSub_eq 1 rfl (mSub_eq 2 rfl (mSub_eq 3 rfl (mSub_eq 4 rfl (mSub_eq 5 rfl (mSub_eq 6 rfl (mSub_eq 7 rfl (mSub_eq 8 rfl (mSub_eq 9 rfl (mSub_eq 10 rfl (mSub_eq 13 rfl (mSub_eq 14 rfl (mSub_eq 15 rfl (mSub_eq 16 rfl (mSub_eq 19 rfl (mSub_eq 20 rfl (mSub_eq 21 rfl (mSub_eq 22 rfl (mSub_eq 23 rfl (mSub_eq 24 rfl (mSub_eq 25 rfl (mSub_eq 29 rfl (mSub_eq 30 rfl (mSub_eq 31 rfl (mSub_eq 32 rfl mSub_nil))))))))))))))))))))))))))), (mFr.tr (mFr.tr (mFr.tr mFr.rf hp1.1 rfl) hp10.1 rfl) hp264.1 rfl), rg_w kc_0 rfl, trivial⟩
    · skip
      replace hW := wfP_i (wfP_l (wfP_r (wfP_r (wfP_r (wfP_r (wfP_r (wfP_r (wfP_r (wfP_r (wfP_r (wfP_r (wfP_r hW)))))))))))) c35_14
      have q265 : rg (10) (10) v12 := ⟨by omega, by omega⟩
      refine lv_tableIn (off := 106) (tgt := 141) hx hb dX5_unitCame_35 (by omega) (by omega) (by rw [c35_14]; rfl) (by decide) ?_
      refine lv_aload_n hx hb dX5_unitCame_141 rfl (lv_at hl 3 rfl) ?_
      refine c_geti x L10 5 i0 4 164 hal0 rfl rfl (wk_in kf_X5_26) dX5_unitCame_142 (fun v266 ev266 wv266 => ?_)
      have rv266 : rg (0) (4) v266 := clj_164 wv266
      replace hW := (wfP_i (wfP_i (wfP_a hW v266) ev266) rv266)
      have uv266 : (0 : Int) ≤ v266.toInt ∧ v266.toInt ≤ 4 := rv266
      refine lv_iconst (v := 2) hx hb dX5_unitCame_145 (by decide) ?_
      refine lv_icmp_eq (tgt := 151) hx hb dX5_unitCame_146 (by decide) (fun c146_267 => ?_) (fun c146_267 => ?_)
      · skip
        replace hW := wfP_i (wfP_l hW) (i_eq c146_267 rfl (rg_i kc_2))
        have ic146_267 := congrArg Int32.toInt c146_267
        have y268 : (2 : Int32).toInt = 2 := by decide
        have q269 : rg (2) (2) v266 := (rg_eq c146_267 rv266 kc_2).1
        have uq269 : (2 : Int) ≤ v266.toInt ∧ v266.toInt ≤ 2 := q269
        refine lv_iload hx hb dX5_unitCame_151 (lv_at hl 1 rfl) ?_
        rcases (show v12.toInt < 8 ∨ 11 < v12.toInt ∨ v12.toInt = 8 ∨ v12.toInt = 9 ∨ v12.toInt = 10 ∨ v12.toInt = 11 by omega) with c153_270 | c153_270 | c153_270 | c153_270 | c153_270 | c153_270
        · skip
          replace hW := wfP_i (wfP_l hW) c153_270
          refine lv_tableOut (tgt := 232) hx hb dX5_unitCame_153 (Or.inl c153_270) (by decide) ?_
          refine lv_aload_n hx hb dX5_unitCame_232 rfl (lv_at hl 3 rfl) ?_
          refine lv_aload_n hx hb dX5_unitCame_233 rfl (lv_at hl 4 rfl) ?_
          refine lv_iconst (v := 0) hx hb dX5_unitCame_234 (by decide) ?_
          refine c_siN (As := [.ref (Z.ad 16 q1), .int (0 : Int32)]) (rest := [.ref (Z.ad 5 i0)]) x hml L10 (d_kwordAt_16 l X g10 q1 (0 : Int32) hX hq1 (rg_w kc_0 rfl) hW) (goodC (wk_all kd_X11_wordAt)) (List.mem_of_getElem? (i := 12) rfl) (wk_in kt_X11_wordAt) (wk_in kn_X11) rfl ⟨rfl, rfl⟩ hd_kwordAt_16 ⟨Nat.le_of_ble_eq_true rfl, Nat.le_of_ble_eq_true rfl⟩ rfl hl.1 rfl (lv_room (Nat.le_of_ble_eq_true rfl)) dX5_unitCame_235 (fun v272 g271 H271 k271 hp271 L271 => ?_)
          obtain ⟨hW, hi271, hp271⟩ := hp271
          replace hW := wfP_i hW ⟨hi271, hp271⟩
          have rv272 : rg (-2147483648) (2147483647) v272 := hp271.2.1
          have uv272 : (-2147483648 : Int) ≤ v272.toInt ∧ v272.toInt ≤ 2147483647 := rv272
          refine lv_aload_n hx hb dX5_unitCame_238 rfl (lv_at hl 4 rfl) ?_
          refine lv_iconst (v := 4) hx hb dX5_unitCame_239 (by decide) ?_
          refine c_siN (As := [.ref (Z.ad 16 q1), .int (4 : Int32)]) (rest := [.int v272, .ref (Z.ad 5 i0)]) x hml L271 (d_kwordAt_16 l X g271 q1 (4 : Int32) hX hq1 (rg_w kc_4 rfl) hW) (goodC (wk_all kd_X11_wordAt)) (List.mem_of_getElem? (i := 12) rfl) (wk_in kt_X11_wordAt) (wk_in kn_X11) rfl ⟨rfl, rfl⟩ hd_kwordAt_16 ⟨Nat.le_of_ble_eq_true rfl, Nat.le_of_ble_eq_true rfl⟩ rfl hl.1 rfl (lv_room (Nat.le_of_ble_eq_true rfl)) dX5_unitCame_240 (fun v274 g273 H273 k273 hp273 L273 => ?_)
          obtain ⟨hW, hi273, hp273⟩ := hp273
          replace hW := wfP_i hW ⟨hi273, hp273⟩
          have rv274 : rg (-2147483648) (2147483647) v274 := hp273.2.1
          have uv274 : (-2147483648 : Int) ≤ v274.toInt ∧ v274.toInt ≤ 2147483647 := rv274
          refine lv_iload hx hb dX5_unitCame_243 (lv_at hl 0 rfl) ?_
          refine c_ci (As := [.int v272, .int v274, .int v13]) (rest := []) x hml L273 5 i0 hal0 rfl (d_kgapCame l X g273 i0 v272 v274 v13 hX (show i0 < 2 * Z.n from (by omega)) (rg_w rv13 rfl) hW) (wk_V kd_X5_gapCame kl_X5_175 ki_X5_gapCame ks_X5_X5_gapCame kn_X5) rfl ⟨rfl, rfl⟩ hd_kgapCame ⟨Nat.le_of_ble_eq_true rfl, Nat.le_of_ble_eq_true rfl⟩ rfl hl.1 rfl (lv_room (Nat.le_of_ble_eq_true rfl)) dX5_unitCame_245 (fun v276 g275 H275 k275 hp275 L275 => ?_)
          obtain ⟨hW, hi275, hp275⟩ := hp275
          replace hW := wfP_i hW ⟨hi275, hp275⟩
          have rv276 : rg (0) (1) v276 := hp275.2.1
          have uv276 : (0 : Int) ≤ v276.toInt ∧ v276.toInt ≤ 1 := rv276
          refine lv_if_eq (tgt := 255) hx hb dX5_unitCame_248 (by decide) (fun c248_277 => ?_) (fun c248_277 => ?_)
          · skip
            replace hW := wfP_i (wfP_l hW) (i_eq c248_277 rfl (rg_i kc_0))
            have ic248_277 := congrArg Int32.toInt c248_277
            have y278 : (0 : Int32).toInt = 0 := by decide
            have q279 : rg (0) (0) v276 := (rg_eq c248_277 rv276 kc_0).1
            have uq279 : (0 : Int) ≤ v276.toInt ∧ v276.toInt ≤ 0 := q279
            refine lv_iconst (v := 2) hx hb dX5_unitCame_255 (by decide) ?_
            exact hQ _ _ (2 : Int32) _ _ _ dX5_unitCame_256 L275 ⟨hW, (mFi.sub (mFi.sub (mFi.sub (mFi.sub (mFi.sub mFi.rf hi1 mSub_nil) hi10 mSub_nil) hi271 mSub_nil) hi273 mSub_nil) hi275 (mSub_eq 5 rfl (mSub_eq 6 rfl (mSub_eq 30 rfl (mSub_eq 32 rfl mSub_nil))))), (mFr.tr (mFr.tr (mFr.tr (mFr.tr (mFr.tr mFr.rf hp1.1 rfl) hp10.1 rfl) hp271.1 rfl) hp273.1 rfl) hp275.1 rfl), rg_w kc_2 rfl, trivial⟩
          · skip
            replace hW := wfP_i (wfP_r hW) (i_ne c248_277 rfl (rg_i kc_0))
            have ic248_277 : v276.toInt ≠ (0 : Int32).toInt := fun z => c248_277 (Int32.toInt_inj.mp z)
            have y280 : (0 : Int32).toInt = 0 := by decide
            have q281 : rg (1) (1) v276 := rg_neL c248_277 rv276 kc_0
            have uq281 : (1 : Int) ≤ v276.toInt ∧ v276.toInt ≤ 1 := q281
            refine lv_iconst (v := 0) hx hb dX5_unitCame_251 (by decide) ?_
            refine lv_goto (tgt := 256) hx hb dX5_unitCame_252 (by decide) ?_
            exact hQ _ _ (0 : Int32) _ _ _ dX5_unitCame_256 L275 ⟨hW, (mFi.sub (mFi.sub (mFi.sub (mFi.sub (mFi.sub mFi.rf hi1 mSub_nil) hi10 mSub_nil) hi271 mSub_nil) hi273 mSub_nil) hi275 (mSub_eq 5 rfl (mSub_eq 6 rfl (mSub_eq 30 rfl (mSub_eq 32 rfl mSub_nil))))), (mFr.tr (mFr.tr (mFr.tr (mFr.tr (mFr.tr mFr.rf hp1.1 rfl) hp10.1 rfl) hp271.1 rfl) hp273.1 rfl) hp275.1 rfl), rg_w kc_0 rfl, trivial⟩
        · skip
          replace hW := wfP_i (wfP_l (wfP_r hW)) c153_270
          refine lv_tableOut (tgt := 232) hx hb dX5_unitCame_153 (Or.inr c153_270) (by decide) ?_
          refine lv_aload_n hx hb dX5_unitCame_232 rfl (lv_at hl 3 rfl) ?_
          refine lv_aload_n hx hb dX5_unitCame_233 rfl (lv_at hl 4 rfl) ?_
          refine lv_iconst (v := 0) hx hb dX5_unitCame_234 (by decide) ?_
          refine c_siN (As := [.ref (Z.ad 16 q1), .int (0 : Int32)]) (rest := [.ref (Z.ad 5 i0)]) x hml L10 (d_kwordAt_16 l X g10 q1 (0 : Int32) hX hq1 (rg_w kc_0 rfl) hW) (goodC (wk_all kd_X11_wordAt)) (List.mem_of_getElem? (i := 12) rfl) (wk_in kt_X11_wordAt) (wk_in kn_X11) rfl ⟨rfl, rfl⟩ hd_kwordAt_16 ⟨Nat.le_of_ble_eq_true rfl, Nat.le_of_ble_eq_true rfl⟩ rfl hl.1 rfl (lv_room (Nat.le_of_ble_eq_true rfl)) dX5_unitCame_235 (fun v283 g282 H282 k282 hp282 L282 => ?_)
          obtain ⟨hW, hi282, hp282⟩ := hp282
          replace hW := wfP_i hW ⟨hi282, hp282⟩
          have rv283 : rg (-2147483648) (2147483647) v283 := hp282.2.1
          have uv283 : (-2147483648 : Int) ≤ v283.toInt ∧ v283.toInt ≤ 2147483647 := rv283
          refine lv_aload_n hx hb dX5_unitCame_238 rfl (lv_at hl 4 rfl) ?_
          refine lv_iconst (v := 4) hx hb dX5_unitCame_239 (by decide) ?_
          refine c_siN (As := [.ref (Z.ad 16 q1), .int (4 : Int32)]) (rest := [.int v283, .ref (Z.ad 5 i0)]) x hml L282 (d_kwordAt_16 l X g282 q1 (4 : Int32) hX hq1 (rg_w kc_4 rfl) hW) (goodC (wk_all kd_X11_wordAt)) (List.mem_of_getElem? (i := 12) rfl) (wk_in kt_X11_wordAt) (wk_in kn_X11) rfl ⟨rfl, rfl⟩ hd_kwordAt_16 ⟨Nat.le_of_ble_eq_true rfl, Nat.le_of_ble_eq_true rfl⟩ rfl hl.1 rfl (lv_room (Nat.le_of_ble_eq_true rfl)) dX5_unitCame_240 (fun v285 g284 H284 k284 hp284 L284 => ?_)
          obtain ⟨hW, hi284, hp284⟩ := hp284
          replace hW := wfP_i hW ⟨hi284, hp284⟩
          have rv285 : rg (-2147483648) (2147483647) v285 := hp284.2.1
          have uv285 : (-2147483648 : Int) ≤ v285.toInt ∧ v285.toInt ≤ 2147483647 := rv285
          refine lv_iload hx hb dX5_unitCame_243 (lv_at hl 0 rfl) ?_
          refine c_ci (As := [.int v283, .int v285, .int v13]) (rest := []) x hml L284 5 i0 hal0 rfl (d_kgapCame l X g284 i0 v283 v285 v13 hX (show i0 < 2 * Z.n from (by omega)) (rg_w rv13 rfl) hW) (wk_V kd_X5_gapCame kl_X5_175 ki_X5_gapCame ks_X5_X5_gapCame kn_X5) rfl ⟨rfl, rfl⟩ hd_kgapCame ⟨Nat.le_of_ble_eq_true rfl, Nat.le_of_ble_eq_true rfl⟩ rfl hl.1 rfl (lv_room (Nat.le_of_ble_eq_true rfl)) dX5_unitCame_245 (fun v287 g286 H286 k286 hp286 L286 => ?_)
          obtain ⟨hW, hi286, hp286⟩ := hp286
          replace hW := wfP_i hW ⟨hi286, hp286⟩
          have rv287 : rg (0) (1) v287 := hp286.2.1
          have uv287 : (0 : Int) ≤ v287.toInt ∧ v287.toInt ≤ 1 := rv287
          refine lv_if_eq (tgt := 255) hx hb dX5_unitCame_248 (by decide) (fun c248_288 => ?_) (fun c248_288 => ?_)
          · skip
            replace hW := wfP_i (wfP_l hW) (i_eq c248_288 rfl (rg_i kc_0))
            have ic248_288 := congrArg Int32.toInt c248_288
            have y289 : (0 : Int32).toInt = 0 := by decide
            have q290 : rg (0) (0) v287 := (rg_eq c248_288 rv287 kc_0).1
            have uq290 : (0 : Int) ≤ v287.toInt ∧ v287.toInt ≤ 0 := q290
            refine lv_iconst (v := 2) hx hb dX5_unitCame_255 (by decide) ?_
            exact hQ _ _ (2 : Int32) _ _ _ dX5_unitCame_256 L286 ⟨hW, (mFi.sub (mFi.sub (mFi.sub (mFi.sub (mFi.sub mFi.rf hi1 mSub_nil) hi10 mSub_nil) hi282 mSub_nil) hi284 mSub_nil) hi286 (mSub_eq 5 rfl (mSub_eq 6 rfl (mSub_eq 30 rfl (mSub_eq 32 rfl mSub_nil))))), (mFr.tr (mFr.tr (mFr.tr (mFr.tr (mFr.tr mFr.rf hp1.1 rfl) hp10.1 rfl) hp282.1 rfl) hp284.1 rfl) hp286.1 rfl), rg_w kc_2 rfl, trivial⟩
          · skip
            replace hW := wfP_i (wfP_r hW) (i_ne c248_288 rfl (rg_i kc_0))
            have ic248_288 : v287.toInt ≠ (0 : Int32).toInt := fun z => c248_288 (Int32.toInt_inj.mp z)
            have y291 : (0 : Int32).toInt = 0 := by decide
            have q292 : rg (1) (1) v287 := rg_neL c248_288 rv287 kc_0
            have uq292 : (1 : Int) ≤ v287.toInt ∧ v287.toInt ≤ 1 := q292
            refine lv_iconst (v := 0) hx hb dX5_unitCame_251 (by decide) ?_
            refine lv_goto (tgt := 256) hx hb dX5_unitCame_252 (by decide) ?_
            exact hQ _ _ (0 : Int32) _ _ _ dX5_unitCame_256 L286 ⟨hW, (mFi.sub (mFi.sub (mFi.sub (mFi.sub (mFi.sub mFi.rf hi1 mSub_nil) hi10 mSub_nil) hi282 mSub_nil) hi284 mSub_nil) hi286 (mSub_eq 5 rfl (mSub_eq 6 rfl (mSub_eq 30 rfl (mSub_eq 32 rfl mSub_nil))))), (mFr.tr (mFr.tr (mFr.tr (mFr.tr (mFr.tr mFr.rf hp1.1 rfl) hp10.1 rfl) hp282.1 rfl) hp284.1 rfl) hp286.1 rfl), rg_w kc_0 rfl, trivial⟩
        · skip
          replace hW := wfP_i (wfP_l (wfP_r (wfP_r hW))) c153_270
          have q293 : rg (8) (8) v12 := ⟨by omega, by omega⟩
          refine lv_tableIn (off := 31) (tgt := 184) hx hb dX5_unitCame_153 (by omega) (by omega) (by rw [c153_270]; rfl) (by decide) ?_
          refine lv_aload_n hx hb dX5_unitCame_184 rfl (lv_at hl 3 rfl) ?_
          refine lv_aload_n hx hb dX5_unitCame_185 rfl (lv_at hl 4 rfl) ?_
          refine lv_iload_n hx hb dX5_unitCame_186 rfl (lv_at hl 5 rfl) ?_
          refine lv_iconst (v := 4) hx hb dX5_unitCame_187 (by decide) ?_
          refine lv_isub hx hb dX5_unitCame_188 ?_
          refine m_top ev8 ?_
          refine lv_iload hx hb dX5_unitCame_189 (lv_at hl 0 rfl) ?_
          refine c_cv (As := [.ref (Z.ad 16 q1), .int v8, .int v13]) (rest := []) x hml L10 5 i0 hal0 rfl (d_kdataCame l X g10 i0 q1 v8 v13 hX (show i0 < 2 * Z.n from (by omega)) hq1 (rg_w rv13 rfl) hW) (wk_V kd_X5_dataCame kl_X5_165 ki_X5_dataCame ks_X5_X5_dataCame kn_X5) rfl ⟨rfl, rfl⟩ hd_kdataCame ⟨Nat.le_of_ble_eq_true rfl, Nat.le_of_ble_eq_true rfl⟩ rfl hl.1 rfl (lv_room (Nat.le_of_ble_eq_true rfl)) dX5_unitCame_191 (fun  g294 H294 k294 hp294 L294 => ?_)
          obtain ⟨hW, hi294, hp294⟩ := hp294
          replace hW := wfP_i hW ⟨hi294, hp294⟩
          refine lv_iconst (v := 0) hx hb dX5_unitCame_194 (by decide) ?_
          exact hQ _ _ (0 : Int32) _ _ _ dX5_unitCame_195 L294 ⟨hW, (mFi.sub (mFi.sub (mFi.sub mFi.rf hi1 mSub_nil) hi10 mSub_nil) hi294 (mSub_eq 0 rfl (mSub_eq 1 rfl (mSub_eq 2 rfl (mSub_eq 10 rfl (mSub_eq 23 rfl (mSub_eq 24 rfl (mSub_eq 25 rfl (mSub_eq 28 rfl (mSub_eq 29 rfl mSub_nil)))))))))), (mFr.tr (mFr.tr (mFr.tr mFr.rf hp1.1 rfl) hp10.1 rfl) hp294.1 rfl), rg_w kc_0 rfl, trivial⟩
        · skip
          replace hW := wfP_i (wfP_l (wfP_r (wfP_r (wfP_r hW)))) c153_270
          have q295 : rg (9) (9) v12 := ⟨by omega, by omega⟩
          refine lv_tableIn (off := 79) (tgt := 232) hx hb dX5_unitCame_153 (by omega) (by omega) (by rw [c153_270]; rfl) (by decide) ?_
          refine lv_aload_n hx hb dX5_unitCame_232 rfl (lv_at hl 3 rfl) ?_
          refine lv_aload_n hx hb dX5_unitCame_233 rfl (lv_at hl 4 rfl) ?_
          refine lv_iconst (v := 0) hx hb dX5_unitCame_234 (by decide) ?_
          refine c_siN (As := [.ref (Z.ad 16 q1), .int (0 : Int32)]) (rest := [.ref (Z.ad 5 i0)]) x hml L10 (d_kwordAt_16 l X g10 q1 (0 : Int32) hX hq1 (rg_w kc_0 rfl) hW) (goodC (wk_all kd_X11_wordAt)) (List.mem_of_getElem? (i := 12) rfl) (wk_in kt_X11_wordAt) (wk_in kn_X11) rfl ⟨rfl, rfl⟩ hd_kwordAt_16 ⟨Nat.le_of_ble_eq_true rfl, Nat.le_of_ble_eq_true rfl⟩ rfl hl.1 rfl (lv_room (Nat.le_of_ble_eq_true rfl)) dX5_unitCame_235 (fun v297 g296 H296 k296 hp296 L296 => ?_)
          obtain ⟨hW, hi296, hp296⟩ := hp296
          replace hW := wfP_i hW ⟨hi296, hp296⟩
          have rv297 : rg (-2147483648) (2147483647) v297 := hp296.2.1
          have uv297 : (-2147483648 : Int) ≤ v297.toInt ∧ v297.toInt ≤ 2147483647 := rv297
          refine lv_aload_n hx hb dX5_unitCame_238 rfl (lv_at hl 4 rfl) ?_
          refine lv_iconst (v := 4) hx hb dX5_unitCame_239 (by decide) ?_
          refine c_siN (As := [.ref (Z.ad 16 q1), .int (4 : Int32)]) (rest := [.int v297, .ref (Z.ad 5 i0)]) x hml L296 (d_kwordAt_16 l X g296 q1 (4 : Int32) hX hq1 (rg_w kc_4 rfl) hW) (goodC (wk_all kd_X11_wordAt)) (List.mem_of_getElem? (i := 12) rfl) (wk_in kt_X11_wordAt) (wk_in kn_X11) rfl ⟨rfl, rfl⟩ hd_kwordAt_16 ⟨Nat.le_of_ble_eq_true rfl, Nat.le_of_ble_eq_true rfl⟩ rfl hl.1 rfl (lv_room (Nat.le_of_ble_eq_true rfl)) dX5_unitCame_240 (fun v299 g298 H298 k298 hp298 L298 => ?_)
          obtain ⟨hW, hi298, hp298⟩ := hp298
          replace hW := wfP_i hW ⟨hi298, hp298⟩
          have rv299 : rg (-2147483648) (2147483647) v299 := hp298.2.1
          have uv299 : (-2147483648 : Int) ≤ v299.toInt ∧ v299.toInt ≤ 2147483647 := rv299
          refine lv_iload hx hb dX5_unitCame_243 (lv_at hl 0 rfl) ?_
          refine c_ci (As := [.int v297, .int v299, .int v13]) (rest := []) x hml L298 5 i0 hal0 rfl (d_kgapCame l X g298 i0 v297 v299 v13 hX (show i0 < 2 * Z.n from (by omega)) (rg_w rv13 rfl) hW) (wk_V kd_X5_gapCame kl_X5_175 ki_X5_gapCame ks_X5_X5_gapCame kn_X5) rfl ⟨rfl, rfl⟩ hd_kgapCame ⟨Nat.le_of_ble_eq_true rfl, Nat.le_of_ble_eq_true rfl⟩ rfl hl.1 rfl (lv_room (Nat.le_of_ble_eq_true rfl)) dX5_unitCame_245 (fun v301 g300 H300 k300 hp300 L300 => ?_)
          obtain ⟨hW, hi300, hp300⟩ := hp300
          replace hW := wfP_i hW ⟨hi300, hp300⟩
          have rv301 : rg (0) (1) v301 := hp300.2.1
          have uv301 : (0 : Int) ≤ v301.toInt ∧ v301.toInt ≤ 1 := rv301
          refine lv_if_eq (tgt := 255) hx hb dX5_unitCame_248 (by decide) (fun c248_302 => ?_) (fun c248_302 => ?_)
          · skip
            replace hW := wfP_i (wfP_l hW) (i_eq c248_302 rfl (rg_i kc_0))
            have ic248_302 := congrArg Int32.toInt c248_302
            have y303 : (0 : Int32).toInt = 0 := by decide
            have q304 : rg (0) (0) v301 := (rg_eq c248_302 rv301 kc_0).1
            have uq304 : (0 : Int) ≤ v301.toInt ∧ v301.toInt ≤ 0 := q304
            refine lv_iconst (v := 2) hx hb dX5_unitCame_255 (by decide) ?_
            exact hQ _ _ (2 : Int32) _ _ _ dX5_unitCame_256 L300 ⟨hW, (mFi.sub (mFi.sub (mFi.sub (mFi.sub (mFi.sub mFi.rf hi1 mSub_nil) hi10 mSub_nil) hi296 mSub_nil) hi298 mSub_nil) hi300 (mSub_eq 5 rfl (mSub_eq 6 rfl (mSub_eq 30 rfl (mSub_eq 32 rfl mSub_nil))))), (mFr.tr (mFr.tr (mFr.tr (mFr.tr (mFr.tr mFr.rf hp1.1 rfl) hp10.1 rfl) hp296.1 rfl) hp298.1 rfl) hp300.1 rfl), rg_w kc_2 rfl, trivial⟩
          · skip
            replace hW := wfP_i (wfP_r hW) (i_ne c248_302 rfl (rg_i kc_0))
            have ic248_302 : v301.toInt ≠ (0 : Int32).toInt := fun z => c248_302 (Int32.toInt_inj.mp z)
            have y305 : (0 : Int32).toInt = 0 := by decide
            have q306 : rg (1) (1) v301 := rg_neL c248_302 rv301 kc_0
            have uq306 : (1 : Int) ≤ v301.toInt ∧ v301.toInt ≤ 1 := q306
            refine lv_iconst (v := 0) hx hb dX5_unitCame_251 (by decide) ?_
            refine lv_goto (tgt := 256) hx hb dX5_unitCame_252 (by decide) ?_
            exact hQ _ _ (0 : Int32) _ _ _ dX5_unitCame_256 L300 ⟨hW, (mFi.sub (mFi.sub (mFi.sub (mFi.sub (mFi.sub mFi.rf hi1 mSub_nil) hi10 mSub_nil) hi296 mSub_nil) hi298 mSub_nil) hi300 (mSub_eq 5 rfl (mSub_eq 6 rfl (mSub_eq 30 rfl (mSub_eq 32 rfl mSub_nil))))), (mFr.tr (mFr.tr (mFr.tr (mFr.tr (mFr.tr mFr.rf hp1.1 rfl) hp10.1 rfl) hp296.1 rfl) hp298.1 rfl) hp300.1 rfl), rg_w kc_0 rfl, trivial⟩
        · skip
          replace hW := wfP_i (wfP_l (wfP_r (wfP_r (wfP_r (wfP_r hW))))) c153_270
          have q307 : rg (10) (10) v12 := ⟨by omega, by omega⟩
          refine lv_tableIn (off := 43) (tgt := 196) hx hb dX5_unitCame_153 (by omega) (by omega) (by rw [c153_270]; rfl) (by decide) ?_
          refine lv_aload_n hx hb dX5_unitCame_196 rfl (lv_at hl 3 rfl) ?_
          refine lv_aload_n hx hb dX5_unitCame_197 rfl (lv_at hl 4 rfl) ?_
          refine lv_iconst (v := 0) hx hb dX5_unitCame_198 (by decide) ?_
          refine c_siN (As := [.ref (Z.ad 16 q1), .int (0 : Int32)]) (rest := [.ref (Z.ad 5 i0)]) x hml L10 (d_kwordAt_16 l X g10 q1 (0 : Int32) hX hq1 (rg_w kc_0 rfl) hW) (goodC (wk_all kd_X11_wordAt)) (List.mem_of_getElem? (i := 12) rfl) (wk_in kt_X11_wordAt) (wk_in kn_X11) rfl ⟨rfl, rfl⟩ hd_kwordAt_16 ⟨Nat.le_of_ble_eq_true rfl, Nat.le_of_ble_eq_true rfl⟩ rfl hl.1 rfl (lv_room (Nat.le_of_ble_eq_true rfl)) dX5_unitCame_199 (fun v309 g308 H308 k308 hp308 L308 => ?_)
          obtain ⟨hW, hi308, hp308⟩ := hp308
          replace hW := wfP_i hW ⟨hi308, hp308⟩
          have rv309 : rg (-2147483648) (2147483647) v309 := hp308.2.1
          have uv309 : (-2147483648 : Int) ≤ v309.toInt ∧ v309.toInt ≤ 2147483647 := rv309
          refine lv_iload hx hb dX5_unitCame_202 (lv_at hl 0 rfl) ?_
          refine c_cv (As := [.int v309, .int v13]) (rest := []) x hml L308 5 i0 hal0 rfl (d_kpollCame l X g308 i0 v309 v13 hX (show i0 < 2 * Z.n from (by omega)) (rg_w rv13 rfl) hW) (wk_V kd_X5_pollCame kl_X5_168 ki_X5_pollCame ks_X5_X5_pollCame kn_X5) rfl ⟨rfl, rfl⟩ hd_kpollCame ⟨Nat.le_of_ble_eq_true rfl, Nat.le_of_ble_eq_true rfl⟩ rfl hl.1 rfl (lv_room (Nat.le_of_ble_eq_true rfl)) dX5_unitCame_204 (fun  g310 H310 k310 hp310 L310 => ?_)
          obtain ⟨hW, hi310, hp310⟩ := hp310
          replace hW := wfP_i hW ⟨hi310, hp310⟩
          refine lv_iconst (v := 0) hx hb dX5_unitCame_207 (by decide) ?_
          exact hQ _ _ (0 : Int32) _ _ _ dX5_unitCame_208 L310 ⟨hW, (mFi.sub (mFi.sub (mFi.sub (mFi.sub mFi.rf hi1 mSub_nil) hi10 mSub_nil) hi308 mSub_nil) hi310 (mSub_eq 0 rfl (mSub_eq 1 rfl (mSub_eq 2 rfl (mSub_eq 10 rfl (mSub_eq 23 rfl (mSub_eq 24 rfl (mSub_eq 25 rfl mSub_nil)))))))), (mFr.tr (mFr.tr (mFr.tr (mFr.tr mFr.rf hp1.1 rfl) hp10.1 rfl) hp308.1 rfl) hp310.1 rfl), rg_w kc_0 rfl, trivial⟩
        · skip
          replace hW := wfP_i (wfP_r (wfP_r (wfP_r (wfP_r (wfP_r hW))))) c153_270
          have q311 : rg (11) (11) v12 := ⟨by omega, by omega⟩
          refine lv_tableIn (off := 56) (tgt := 209) hx hb dX5_unitCame_153 (by omega) (by omega) (by rw [c153_270]; rfl) (by decide) ?_
          refine lv_aload_n hx hb dX5_unitCame_209 rfl (lv_at hl 3 rfl) ?_
          refine lv_aload_n hx hb dX5_unitCame_210 rfl (lv_at hl 4 rfl) ?_
          refine lv_iload_n hx hb dX5_unitCame_211 rfl (lv_at hl 5 rfl) ?_
          refine lv_bipush (v := 12) hx hb dX5_unitCame_212 (by decide) ?_
          refine lv_isub hx hb dX5_unitCame_214 ?_
          refine lv_topi (fun v312 ev312 => ?_)
          have rv312 : rg (-8) (228) v312 := (rg_sub ev312 q7 kc_12 rfl).1
          replace hW := (wfP_i (wfP_i (wfP_i (wfP_a hW v312) ev312) rv312) (w_isub ((rg_sub ev312 q7 kc_12 rfl).2) rfl (rg_i kc_12)))
          have tv312 := (rg_sub ev312 q7 kc_12 rfl).2
          have y313 : (12 : Int32).toInt = 12 := by decide
          have uv312 : (-8 : Int) ≤ v312.toInt ∧ v312.toInt ≤ 228 := rv312
          refine lv_iconst (v := 4) hx hb dX5_unitCame_215 (by decide) ?_
          refine lv_idiv hx hb dX5_unitCame_216 (by decide) ?_
          refine lv_topi (fun v314 ev314 => ?_)
          have rv314 : rg (-2147483648) (2147483647) v314 := rg_any v314
          replace hW := (wfP_i (wfP_i (wfP_a hW v314) ev314) rv314)
          have q315 : rg (-2) (57) v314 := div4 ev314 rv312
          have uv314 : (-2 : Int) ≤ v314.toInt ∧ v314.toInt ≤ 57 := q315
          refine lv_iload hx hb dX5_unitCame_217 (lv_at hl 0 rfl) ?_
          refine lv_iload_n hx hb dX5_unitCame_219 rfl (lv_at hl 6 rfl) ?_
          refine c_ci (As := [.ref (Z.ad 16 q1), .int v314, .int v13, .int p3]) (rest := []) x hml L10 5 i0 hal0 rfl (d_kstatusCame l X g10 i0 q1 v314 v13 p3 hX (show i0 < 2 * Z.n from (by omega)) hq1 (rg_w q315 rfl) (rg_w rv13 rfl) hW) (wk_V kd_X5_statusCame kl_X5_171 ki_X5_statusCame ks_X5_X5_statusCame kn_X5) rfl ⟨rfl, rfl⟩ hd_kstatusCame ⟨Nat.le_of_ble_eq_true rfl, Nat.le_of_ble_eq_true rfl⟩ rfl hl.1 rfl (lv_room (Nat.le_of_ble_eq_true rfl)) dX5_unitCame_220 (fun v317 g316 H316 k316 hp316 L316 => ?_)
          obtain ⟨hW, hi316, hp316⟩ := hp316
          replace hW := wfP_i hW ⟨hi316, hp316⟩
          have rv317 : rg (0) (1) v317 := hp316.2.1
          have uv317 : (0 : Int) ≤ v317.toInt ∧ v317.toInt ≤ 1 := rv317
          refine lv_if_eq (tgt := 230) hx hb dX5_unitCame_223 (by decide) (fun c223_318 => ?_) (fun c223_318 => ?_)
          · skip
            replace hW := wfP_i (wfP_l hW) (i_eq c223_318 rfl (rg_i kc_0))
            have ic223_318 := congrArg Int32.toInt c223_318
            have y319 : (0 : Int32).toInt = 0 := by decide
            have q320 : rg (0) (0) v317 := (rg_eq c223_318 rv317 kc_0).1
            have uq320 : (0 : Int) ≤ v317.toInt ∧ v317.toInt ≤ 0 := q320
            refine lv_iconst (v := 2) hx hb dX5_unitCame_230 (by decide) ?_
            exact hQ _ _ (2 : Int32) _ _ _ dX5_unitCame_231 L316 ⟨hW, (mFi.sub (mFi.sub (mFi.sub mFi.rf hi1 mSub_nil) hi10 mSub_nil) hi316 (mSub_eq 5 rfl (mSub_eq 6 rfl (mSub_eq 8 rfl (mSub_eq 16 rfl (mSub_eq 30 rfl (mSub_eq 32 rfl mSub_nil))))))), (mFr.tr (mFr.tr (mFr.tr mFr.rf hp1.1 rfl) hp10.1 rfl) hp316.1 rfl), rg_w kc_2 rfl, trivial⟩
          · skip
            replace hW := wfP_i (wfP_r hW) (i_ne c223_318 rfl (rg_i kc_0))
            have ic223_318 : v317.toInt ≠ (0 : Int32).toInt := fun z => c223_318 (Int32.toInt_inj.mp z)
            have y321 : (0 : Int32).toInt = 0 := by decide
            have q322 : rg (1) (1) v317 := rg_neL c223_318 rv317 kc_0
            have uq322 : (1 : Int) ≤ v317.toInt ∧ v317.toInt ≤ 1 := q322
            refine lv_iconst (v := 0) hx hb dX5_unitCame_226 (by decide) ?_
            refine lv_goto (tgt := 231) hx hb dX5_unitCame_227 (by decide) ?_
            exact hQ _ _ (0 : Int32) _ _ _ dX5_unitCame_231 L316 ⟨hW, (mFi.sub (mFi.sub (mFi.sub mFi.rf hi1 mSub_nil) hi10 mSub_nil) hi316 (mSub_eq 5 rfl (mSub_eq 6 rfl (mSub_eq 8 rfl (mSub_eq 16 rfl (mSub_eq 30 rfl (mSub_eq 32 rfl mSub_nil))))))), (mFr.tr (mFr.tr (mFr.tr mFr.rf hp1.1 rfl) hp10.1 rfl) hp316.1 rfl), rg_w kc_0 rfl, trivial⟩
      · skip
        replace hW := wfP_i (wfP_r hW) (i_ne c146_267 rfl (rg_i kc_2))
        have ic146_267 : v266.toInt ≠ (2 : Int32).toInt := fun z => c146_267 (Int32.toInt_inj.mp z)
        have y323 : (2 : Int32).toInt = 2 := by decide
        refine lv_iconst (v := 0) hx hb dX5_unitCame_149 (by decide) ?_
        exact hQ _ _ (0 : Int32) _ _ _ dX5_unitCame_150 L10 ⟨hW, (mFi.sub (mFi.sub mFi.rf hi1 mSub_nil) hi10 mSub_nil), (mFr.tr (mFr.tr mFr.rf hp1.1 rfl) hp10.1 rfl), rg_w kc_0 rfl, trivial⟩
    · skip
      replace hW := wfP_i (wfP_l (wfP_r (wfP_r (wfP_r (wfP_r (wfP_r (wfP_r (wfP_r (wfP_r (wfP_r (wfP_r (wfP_r (wfP_r hW))))))))))))) c35_14
      have q324 : rg (11) (11) v12 := ⟨by omega, by omega⟩
      refine lv_tableIn (off := 106) (tgt := 141) hx hb dX5_unitCame_35 (by omega) (by omega) (by rw [c35_14]; rfl) (by decide) ?_
      refine lv_aload_n hx hb dX5_unitCame_141 rfl (lv_at hl 3 rfl) ?_
      refine c_geti x L10 5 i0 4 164 hal0 rfl rfl (wk_in kf_X5_26) dX5_unitCame_142 (fun v325 ev325 wv325 => ?_)
      have rv325 : rg (0) (4) v325 := clj_164 wv325
      replace hW := (wfP_i (wfP_i (wfP_a hW v325) ev325) rv325)
      have uv325 : (0 : Int) ≤ v325.toInt ∧ v325.toInt ≤ 4 := rv325
      refine lv_iconst (v := 2) hx hb dX5_unitCame_145 (by decide) ?_
      refine lv_icmp_eq (tgt := 151) hx hb dX5_unitCame_146 (by decide) (fun c146_326 => ?_) (fun c146_326 => ?_)
      · skip
        replace hW := wfP_i (wfP_l hW) (i_eq c146_326 rfl (rg_i kc_2))
        have ic146_326 := congrArg Int32.toInt c146_326
        have y327 : (2 : Int32).toInt = 2 := by decide
        have q328 : rg (2) (2) v325 := (rg_eq c146_326 rv325 kc_2).1
        have uq328 : (2 : Int) ≤ v325.toInt ∧ v325.toInt ≤ 2 := q328
        refine lv_iload hx hb dX5_unitCame_151 (lv_at hl 1 rfl) ?_
        rcases (show v12.toInt < 8 ∨ 11 < v12.toInt ∨ v12.toInt = 8 ∨ v12.toInt = 9 ∨ v12.toInt = 10 ∨ v12.toInt = 11 by omega) with c153_329 | c153_329 | c153_329 | c153_329 | c153_329 | c153_329
        · skip
          replace hW := wfP_i (wfP_l hW) c153_329
          refine lv_tableOut (tgt := 232) hx hb dX5_unitCame_153 (Or.inl c153_329) (by decide) ?_
          refine lv_aload_n hx hb dX5_unitCame_232 rfl (lv_at hl 3 rfl) ?_
          refine lv_aload_n hx hb dX5_unitCame_233 rfl (lv_at hl 4 rfl) ?_
          refine lv_iconst (v := 0) hx hb dX5_unitCame_234 (by decide) ?_
          refine c_siN (As := [.ref (Z.ad 16 q1), .int (0 : Int32)]) (rest := [.ref (Z.ad 5 i0)]) x hml L10 (d_kwordAt_16 l X g10 q1 (0 : Int32) hX hq1 (rg_w kc_0 rfl) hW) (goodC (wk_all kd_X11_wordAt)) (List.mem_of_getElem? (i := 12) rfl) (wk_in kt_X11_wordAt) (wk_in kn_X11) rfl ⟨rfl, rfl⟩ hd_kwordAt_16 ⟨Nat.le_of_ble_eq_true rfl, Nat.le_of_ble_eq_true rfl⟩ rfl hl.1 rfl (lv_room (Nat.le_of_ble_eq_true rfl)) dX5_unitCame_235 (fun v331 g330 H330 k330 hp330 L330 => ?_)
          obtain ⟨hW, hi330, hp330⟩ := hp330
          replace hW := wfP_i hW ⟨hi330, hp330⟩
          have rv331 : rg (-2147483648) (2147483647) v331 := hp330.2.1
          have uv331 : (-2147483648 : Int) ≤ v331.toInt ∧ v331.toInt ≤ 2147483647 := rv331
          refine lv_aload_n hx hb dX5_unitCame_238 rfl (lv_at hl 4 rfl) ?_
          refine lv_iconst (v := 4) hx hb dX5_unitCame_239 (by decide) ?_
          refine c_siN (As := [.ref (Z.ad 16 q1), .int (4 : Int32)]) (rest := [.int v331, .ref (Z.ad 5 i0)]) x hml L330 (d_kwordAt_16 l X g330 q1 (4 : Int32) hX hq1 (rg_w kc_4 rfl) hW) (goodC (wk_all kd_X11_wordAt)) (List.mem_of_getElem? (i := 12) rfl) (wk_in kt_X11_wordAt) (wk_in kn_X11) rfl ⟨rfl, rfl⟩ hd_kwordAt_16 ⟨Nat.le_of_ble_eq_true rfl, Nat.le_of_ble_eq_true rfl⟩ rfl hl.1 rfl (lv_room (Nat.le_of_ble_eq_true rfl)) dX5_unitCame_240 (fun v333 g332 H332 k332 hp332 L332 => ?_)
          obtain ⟨hW, hi332, hp332⟩ := hp332
          replace hW := wfP_i hW ⟨hi332, hp332⟩
          have rv333 : rg (-2147483648) (2147483647) v333 := hp332.2.1
          have uv333 : (-2147483648 : Int) ≤ v333.toInt ∧ v333.toInt ≤ 2147483647 := rv333
          refine lv_iload hx hb dX5_unitCame_243 (lv_at hl 0 rfl) ?_
          refine c_ci (As := [.int v331, .int v333, .int v13]) (rest := []) x hml L332 5 i0 hal0 rfl (d_kgapCame l X g332 i0 v331 v333 v13 hX (show i0 < 2 * Z.n from (by omega)) (rg_w rv13 rfl) hW) (wk_V kd_X5_gapCame kl_X5_175 ki_X5_gapCame ks_X5_X5_gapCame kn_X5) rfl ⟨rfl, rfl⟩ hd_kgapCame ⟨Nat.le_of_ble_eq_true rfl, Nat.le_of_ble_eq_true rfl⟩ rfl hl.1 rfl (lv_room (Nat.le_of_ble_eq_true rfl)) dX5_unitCame_245 (fun v335 g334 H334 k334 hp334 L334 => ?_)
          obtain ⟨hW, hi334, hp334⟩ := hp334
          replace hW := wfP_i hW ⟨hi334, hp334⟩
          have rv335 : rg (0) (1) v335 := hp334.2.1
          have uv335 : (0 : Int) ≤ v335.toInt ∧ v335.toInt ≤ 1 := rv335
          refine lv_if_eq (tgt := 255) hx hb dX5_unitCame_248 (by decide) (fun c248_336 => ?_) (fun c248_336 => ?_)
          · skip
            replace hW := wfP_i (wfP_l hW) (i_eq c248_336 rfl (rg_i kc_0))
            have ic248_336 := congrArg Int32.toInt c248_336
            have y337 : (0 : Int32).toInt = 0 := by decide
            have q338 : rg (0) (0) v335 := (rg_eq c248_336 rv335 kc_0).1
            have uq338 : (0 : Int) ≤ v335.toInt ∧ v335.toInt ≤ 0 := q338
            refine lv_iconst (v := 2) hx hb dX5_unitCame_255 (by decide) ?_
            exact hQ _ _ (2 : Int32) _ _ _ dX5_unitCame_256 L334 ⟨hW, (mFi.sub (mFi.sub (mFi.sub (mFi.sub (mFi.sub mFi.rf hi1 mSub_nil) hi10 mSub_nil) hi330 mSub_nil) hi332 mSub_nil) hi334 (mSub_eq 5 rfl (mSub_eq 6 rfl (mSub_eq 30 rfl (mSub_eq 32 rfl mSub_nil))))), (mFr.tr (mFr.tr (mFr.tr (mFr.tr (mFr.tr mFr.rf hp1.1 rfl) hp10.1 rfl) hp330.1 rfl) hp332.1 rfl) hp334.1 rfl), rg_w kc_2 rfl, trivial⟩
          · skip
            replace hW := wfP_i (wfP_r hW) (i_ne c248_336 rfl (rg_i kc_0))
            have ic248_336 : v335.toInt ≠ (0 : Int32).toInt := fun z => c248_336 (Int32.toInt_inj.mp z)
            have y339 : (0 : Int32).toInt = 0 := by decide
            have q340 : rg (1) (1) v335 := rg_neL c248_336 rv335 kc_0
            have uq340 : (1 : Int) ≤ v335.toInt ∧ v335.toInt ≤ 1 := q340
            refine lv_iconst (v := 0) hx hb dX5_unitCame_251 (by decide) ?_
            refine lv_goto (tgt := 256) hx hb dX5_unitCame_252 (by decide) ?_
            exact hQ _ _ (0 : Int32) _ _ _ dX5_unitCame_256 L334 ⟨hW, (mFi.sub (mFi.sub (mFi.sub (mFi.sub (mFi.sub mFi.rf hi1 mSub_nil) hi10 mSub_nil) hi330 mSub_nil) hi332 mSub_nil) hi334 (mSub_eq 5 rfl (mSub_eq 6 rfl (mSub_eq 30 rfl (mSub_eq 32 rfl mSub_nil))))), (mFr.tr (mFr.tr (mFr.tr (mFr.tr (mFr.tr mFr.rf hp1.1 rfl) hp10.1 rfl) hp330.1 rfl) hp332.1 rfl) hp334.1 rfl), rg_w kc_0 rfl, trivial⟩
        · skip
          replace hW := wfP_i (wfP_l (wfP_r hW)) c153_329
          refine lv_tableOut (tgt := 232) hx hb dX5_unitCame_153 (Or.inr c153_329) (by decide) ?_
          refine lv_aload_n hx hb dX5_unitCame_232 rfl (lv_at hl 3 rfl) ?_
          refine lv_aload_n hx hb dX5_unitCame_233 rfl (lv_at hl 4 rfl) ?_
          refine lv_iconst (v := 0) hx hb dX5_unitCame_234 (by decide) ?_
          refine c_siN (As := [.ref (Z.ad 16 q1), .int (0 : Int32)]) (rest := [.ref (Z.ad 5 i0)]) x hml L10 (d_kwordAt_16 l X g10 q1 (0 : Int32) hX hq1 (rg_w kc_0 rfl) hW) (goodC (wk_all kd_X11_wordAt)) (List.mem_of_getElem? (i := 12) rfl) (wk_in kt_X11_wordAt) (wk_in kn_X11) rfl ⟨rfl, rfl⟩ hd_kwordAt_16 ⟨Nat.le_of_ble_eq_true rfl, Nat.le_of_ble_eq_true rfl⟩ rfl hl.1 rfl (lv_room (Nat.le_of_ble_eq_true rfl)) dX5_unitCame_235 (fun v342 g341 H341 k341 hp341 L341 => ?_)
          obtain ⟨hW, hi341, hp341⟩ := hp341
          replace hW := wfP_i hW ⟨hi341, hp341⟩
          have rv342 : rg (-2147483648) (2147483647) v342 := hp341.2.1
          have uv342 : (-2147483648 : Int) ≤ v342.toInt ∧ v342.toInt ≤ 2147483647 := rv342
          refine lv_aload_n hx hb dX5_unitCame_238 rfl (lv_at hl 4 rfl) ?_
          refine lv_iconst (v := 4) hx hb dX5_unitCame_239 (by decide) ?_
          refine c_siN (As := [.ref (Z.ad 16 q1), .int (4 : Int32)]) (rest := [.int v342, .ref (Z.ad 5 i0)]) x hml L341 (d_kwordAt_16 l X g341 q1 (4 : Int32) hX hq1 (rg_w kc_4 rfl) hW) (goodC (wk_all kd_X11_wordAt)) (List.mem_of_getElem? (i := 12) rfl) (wk_in kt_X11_wordAt) (wk_in kn_X11) rfl ⟨rfl, rfl⟩ hd_kwordAt_16 ⟨Nat.le_of_ble_eq_true rfl, Nat.le_of_ble_eq_true rfl⟩ rfl hl.1 rfl (lv_room (Nat.le_of_ble_eq_true rfl)) dX5_unitCame_240 (fun v344 g343 H343 k343 hp343 L343 => ?_)
          obtain ⟨hW, hi343, hp343⟩ := hp343
          replace hW := wfP_i hW ⟨hi343, hp343⟩
          have rv344 : rg (-2147483648) (2147483647) v344 := hp343.2.1
          have uv344 : (-2147483648 : Int) ≤ v344.toInt ∧ v344.toInt ≤ 2147483647 := rv344
          refine lv_iload hx hb dX5_unitCame_243 (lv_at hl 0 rfl) ?_
          refine c_ci (As := [.int v342, .int v344, .int v13]) (rest := []) x hml L343 5 i0 hal0 rfl (d_kgapCame l X g343 i0 v342 v344 v13 hX (show i0 < 2 * Z.n from (by omega)) (rg_w rv13 rfl) hW) (wk_V kd_X5_gapCame kl_X5_175 ki_X5_gapCame ks_X5_X5_gapCame kn_X5) rfl ⟨rfl, rfl⟩ hd_kgapCame ⟨Nat.le_of_ble_eq_true rfl, Nat.le_of_ble_eq_true rfl⟩ rfl hl.1 rfl (lv_room (Nat.le_of_ble_eq_true rfl)) dX5_unitCame_245 (fun v346 g345 H345 k345 hp345 L345 => ?_)
          obtain ⟨hW, hi345, hp345⟩ := hp345
          replace hW := wfP_i hW ⟨hi345, hp345⟩
          have rv346 : rg (0) (1) v346 := hp345.2.1
          have uv346 : (0 : Int) ≤ v346.toInt ∧ v346.toInt ≤ 1 := rv346
          refine lv_if_eq (tgt := 255) hx hb dX5_unitCame_248 (by decide) (fun c248_347 => ?_) (fun c248_347 => ?_)
          · skip
            replace hW := wfP_i (wfP_l hW) (i_eq c248_347 rfl (rg_i kc_0))
            have ic248_347 := congrArg Int32.toInt c248_347
            have y348 : (0 : Int32).toInt = 0 := by decide
            have q349 : rg (0) (0) v346 := (rg_eq c248_347 rv346 kc_0).1
            have uq349 : (0 : Int) ≤ v346.toInt ∧ v346.toInt ≤ 0 := q349
            refine lv_iconst (v := 2) hx hb dX5_unitCame_255 (by decide) ?_
            exact hQ _ _ (2 : Int32) _ _ _ dX5_unitCame_256 L345 ⟨hW, (mFi.sub (mFi.sub (mFi.sub (mFi.sub (mFi.sub mFi.rf hi1 mSub_nil) hi10 mSub_nil) hi341 mSub_nil) hi343 mSub_nil) hi345 (mSub_eq 5 rfl (mSub_eq 6 rfl (mSub_eq 30 rfl (mSub_eq 32 rfl mSub_nil))))), (mFr.tr (mFr.tr (mFr.tr (mFr.tr (mFr.tr mFr.rf hp1.1 rfl) hp10.1 rfl) hp341.1 rfl) hp343.1 rfl) hp345.1 rfl), rg_w kc_2 rfl, trivial⟩
          · skip
            replace hW := wfP_i (wfP_r hW) (i_ne c248_347 rfl (rg_i kc_0))
            have ic248_347 : v346.toInt ≠ (0 : Int32).toInt := fun z => c248_347 (Int32.toInt_inj.mp z)
            have y350 : (0 : Int32).toInt = 0 := by decide
            have q351 : rg (1) (1) v346 := rg_neL c248_347 rv346 kc_0
            have uq351 : (1 : Int) ≤ v346.toInt ∧ v346.toInt ≤ 1 := q351
            refine lv_iconst (v := 0) hx hb dX5_unitCame_251 (by decide) ?_
            refine lv_goto (tgt := 256) hx hb dX5_unitCame_252 (by decide) ?_
            exact hQ _ _ (0 : Int32) _ _ _ dX5_unitCame_256 L345 ⟨hW, (mFi.sub (mFi.sub (mFi.sub (mFi.sub (mFi.sub mFi.rf hi1 mSub_nil) hi10 mSub_nil) hi341 mSub_nil) hi343 mSub_nil) hi345 (mSub_eq 5 rfl (mSub_eq 6 rfl (mSub_eq 30 rfl (mSub_eq 32 rfl mSub_nil))))), (mFr.tr (mFr.tr (mFr.tr (mFr.tr (mFr.tr mFr.rf hp1.1 rfl) hp10.1 rfl) hp341.1 rfl) hp343.1 rfl) hp345.1 rfl), rg_w kc_0 rfl, trivial⟩
        · skip
          replace hW := wfP_i (wfP_l (wfP_r (wfP_r hW))) c153_329
          have q352 : rg (8) (8) v12 := ⟨by omega, by omega⟩
          refine lv_tableIn (off := 31) (tgt := 184) hx hb dX5_unitCame_153 (by omega) (by omega) (by rw [c153_329]; rfl) (by decide) ?_
          refine lv_aload_n hx hb dX5_unitCame_184 rfl (lv_at hl 3 rfl) ?_
          refine lv_aload_n hx hb dX5_unitCame_185 rfl (lv_at hl 4 rfl) ?_
          refine lv_iload_n hx hb dX5_unitCame_186 rfl (lv_at hl 5 rfl) ?_
          refine lv_iconst (v := 4) hx hb dX5_unitCame_187 (by decide) ?_
          refine lv_isub hx hb dX5_unitCame_188 ?_
          refine m_top ev8 ?_
          refine lv_iload hx hb dX5_unitCame_189 (lv_at hl 0 rfl) ?_
          refine c_cv (As := [.ref (Z.ad 16 q1), .int v8, .int v13]) (rest := []) x hml L10 5 i0 hal0 rfl (d_kdataCame l X g10 i0 q1 v8 v13 hX (show i0 < 2 * Z.n from (by omega)) hq1 (rg_w rv13 rfl) hW) (wk_V kd_X5_dataCame kl_X5_165 ki_X5_dataCame ks_X5_X5_dataCame kn_X5) rfl ⟨rfl, rfl⟩ hd_kdataCame ⟨Nat.le_of_ble_eq_true rfl, Nat.le_of_ble_eq_true rfl⟩ rfl hl.1 rfl (lv_room (Nat.le_of_ble_eq_true rfl)) dX5_unitCame_191 (fun  g353 H353 k353 hp353 L353 => ?_)
          obtain ⟨hW, hi353, hp353⟩ := hp353
          replace hW := wfP_i hW ⟨hi353, hp353⟩
          refine lv_iconst (v := 0) hx hb dX5_unitCame_194 (by decide) ?_
          exact hQ _ _ (0 : Int32) _ _ _ dX5_unitCame_195 L353 ⟨hW, (mFi.sub (mFi.sub (mFi.sub mFi.rf hi1 mSub_nil) hi10 mSub_nil) hi353 (mSub_eq 0 rfl (mSub_eq 1 rfl (mSub_eq 2 rfl (mSub_eq 10 rfl (mSub_eq 23 rfl (mSub_eq 24 rfl (mSub_eq 25 rfl (mSub_eq 28 rfl (mSub_eq 29 rfl mSub_nil)))))))))), (mFr.tr (mFr.tr (mFr.tr mFr.rf hp1.1 rfl) hp10.1 rfl) hp353.1 rfl), rg_w kc_0 rfl, trivial⟩
        · skip
          replace hW := wfP_i (wfP_l (wfP_r (wfP_r (wfP_r hW)))) c153_329
          have q354 : rg (9) (9) v12 := ⟨by omega, by omega⟩
          refine lv_tableIn (off := 79) (tgt := 232) hx hb dX5_unitCame_153 (by omega) (by omega) (by rw [c153_329]; rfl) (by decide) ?_
          refine lv_aload_n hx hb dX5_unitCame_232 rfl (lv_at hl 3 rfl) ?_
          refine lv_aload_n hx hb dX5_unitCame_233 rfl (lv_at hl 4 rfl) ?_
          refine lv_iconst (v := 0) hx hb dX5_unitCame_234 (by decide) ?_
          refine c_siN (As := [.ref (Z.ad 16 q1), .int (0 : Int32)]) (rest := [.ref (Z.ad 5 i0)]) x hml L10 (d_kwordAt_16 l X g10 q1 (0 : Int32) hX hq1 (rg_w kc_0 rfl) hW) (goodC (wk_all kd_X11_wordAt)) (List.mem_of_getElem? (i := 12) rfl) (wk_in kt_X11_wordAt) (wk_in kn_X11) rfl ⟨rfl, rfl⟩ hd_kwordAt_16 ⟨Nat.le_of_ble_eq_true rfl, Nat.le_of_ble_eq_true rfl⟩ rfl hl.1 rfl (lv_room (Nat.le_of_ble_eq_true rfl)) dX5_unitCame_235 (fun v356 g355 H355 k355 hp355 L355 => ?_)
          obtain ⟨hW, hi355, hp355⟩ := hp355
          replace hW := wfP_i hW ⟨hi355, hp355⟩
          have rv356 : rg (-2147483648) (2147483647) v356 := hp355.2.1
          have uv356 : (-2147483648 : Int) ≤ v356.toInt ∧ v356.toInt ≤ 2147483647 := rv356
          refine lv_aload_n hx hb dX5_unitCame_238 rfl (lv_at hl 4 rfl) ?_
          refine lv_iconst (v := 4) hx hb dX5_unitCame_239 (by decide) ?_
          refine c_siN (As := [.ref (Z.ad 16 q1), .int (4 : Int32)]) (rest := [.int v356, .ref (Z.ad 5 i0)]) x hml L355 (d_kwordAt_16 l X g355 q1 (4 : Int32) hX hq1 (rg_w kc_4 rfl) hW) (goodC (wk_all kd_X11_wordAt)) (List.mem_of_getElem? (i := 12) rfl) (wk_in kt_X11_wordAt) (wk_in kn_X11) rfl ⟨rfl, rfl⟩ hd_kwordAt_16 ⟨Nat.le_of_ble_eq_true rfl, Nat.le_of_ble_eq_true rfl⟩ rfl hl.1 rfl (lv_room (Nat.le_of_ble_eq_true rfl)) dX5_unitCame_240 (fun v358 g357 H357 k357 hp357 L357 => ?_)
          obtain ⟨hW, hi357, hp357⟩ := hp357
          replace hW := wfP_i hW ⟨hi357, hp357⟩
          have rv358 : rg (-2147483648) (2147483647) v358 := hp357.2.1
          have uv358 : (-2147483648 : Int) ≤ v358.toInt ∧ v358.toInt ≤ 2147483647 := rv358
          refine lv_iload hx hb dX5_unitCame_243 (lv_at hl 0 rfl) ?_
          refine c_ci (As := [.int v356, .int v358, .int v13]) (rest := []) x hml L357 5 i0 hal0 rfl (d_kgapCame l X g357 i0 v356 v358 v13 hX (show i0 < 2 * Z.n from (by omega)) (rg_w rv13 rfl) hW) (wk_V kd_X5_gapCame kl_X5_175 ki_X5_gapCame ks_X5_X5_gapCame kn_X5) rfl ⟨rfl, rfl⟩ hd_kgapCame ⟨Nat.le_of_ble_eq_true rfl, Nat.le_of_ble_eq_true rfl⟩ rfl hl.1 rfl (lv_room (Nat.le_of_ble_eq_true rfl)) dX5_unitCame_245 (fun v360 g359 H359 k359 hp359 L359 => ?_)
          obtain ⟨hW, hi359, hp359⟩ := hp359
          replace hW := wfP_i hW ⟨hi359, hp359⟩
          have rv360 : rg (0) (1) v360 := hp359.2.1
          have uv360 : (0 : Int) ≤ v360.toInt ∧ v360.toInt ≤ 1 := rv360
          refine lv_if_eq (tgt := 255) hx hb dX5_unitCame_248 (by decide) (fun c248_361 => ?_) (fun c248_361 => ?_)
          · skip
            replace hW := wfP_i (wfP_l hW) (i_eq c248_361 rfl (rg_i kc_0))
            have ic248_361 := congrArg Int32.toInt c248_361
            have y362 : (0 : Int32).toInt = 0 := by decide
            have q363 : rg (0) (0) v360 := (rg_eq c248_361 rv360 kc_0).1
            have uq363 : (0 : Int) ≤ v360.toInt ∧ v360.toInt ≤ 0 := q363
            refine lv_iconst (v := 2) hx hb dX5_unitCame_255 (by decide) ?_
            exact hQ _ _ (2 : Int32) _ _ _ dX5_unitCame_256 L359 ⟨hW, (mFi.sub (mFi.sub (mFi.sub (mFi.sub (mFi.sub mFi.rf hi1 mSub_nil) hi10 mSub_nil) hi355 mSub_nil) hi357 mSub_nil) hi359 (mSub_eq 5 rfl (mSub_eq 6 rfl (mSub_eq 30 rfl (mSub_eq 32 rfl mSub_nil))))), (mFr.tr (mFr.tr (mFr.tr (mFr.tr (mFr.tr mFr.rf hp1.1 rfl) hp10.1 rfl) hp355.1 rfl) hp357.1 rfl) hp359.1 rfl), rg_w kc_2 rfl, trivial⟩
          · skip
            replace hW := wfP_i (wfP_r hW) (i_ne c248_361 rfl (rg_i kc_0))
            have ic248_361 : v360.toInt ≠ (0 : Int32).toInt := fun z => c248_361 (Int32.toInt_inj.mp z)
            have y364 : (0 : Int32).toInt = 0 := by decide
            have q365 : rg (1) (1) v360 := rg_neL c248_361 rv360 kc_0
            have uq365 : (1 : Int) ≤ v360.toInt ∧ v360.toInt ≤ 1 := q365
            refine lv_iconst (v := 0) hx hb dX5_unitCame_251 (by decide) ?_
            refine lv_goto (tgt := 256) hx hb dX5_unitCame_252 (by decide) ?_
            exact hQ _ _ (0 : Int32) _ _ _ dX5_unitCame_256 L359 ⟨hW, (mFi.sub (mFi.sub (mFi.sub (mFi.sub (mFi.sub mFi.rf hi1 mSub_nil) hi10 mSub_nil) hi355 mSub_nil) hi357 mSub_nil) hi359 (mSub_eq 5 rfl (mSub_eq 6 rfl (mSub_eq 30 rfl (mSub_eq 32 rfl mSub_nil))))), (mFr.tr (mFr.tr (mFr.tr (mFr.tr (mFr.tr mFr.rf hp1.1 rfl) hp10.1 rfl) hp355.1 rfl) hp357.1 rfl) hp359.1 rfl), rg_w kc_0 rfl, trivial⟩
        · skip
          replace hW := wfP_i (wfP_l (wfP_r (wfP_r (wfP_r (wfP_r hW))))) c153_329
          have q366 : rg (10) (10) v12 := ⟨by omega, by omega⟩
          refine lv_tableIn (off := 43) (tgt := 196) hx hb dX5_unitCame_153 (by omega) (by omega) (by rw [c153_329]; rfl) (by decide) ?_
          refine lv_aload_n hx hb dX5_unitCame_196 rfl (lv_at hl 3 rfl) ?_
          refine lv_aload_n hx hb dX5_unitCame_197 rfl (lv_at hl 4 rfl) ?_
          refine lv_iconst (v := 0) hx hb dX5_unitCame_198 (by decide) ?_
          refine c_siN (As := [.ref (Z.ad 16 q1), .int (0 : Int32)]) (rest := [.ref (Z.ad 5 i0)]) x hml L10 (d_kwordAt_16 l X g10 q1 (0 : Int32) hX hq1 (rg_w kc_0 rfl) hW) (goodC (wk_all kd_X11_wordAt)) (List.mem_of_getElem? (i := 12) rfl) (wk_in kt_X11_wordAt) (wk_in kn_X11) rfl ⟨rfl, rfl⟩ hd_kwordAt_16 ⟨Nat.le_of_ble_eq_true rfl, Nat.le_of_ble_eq_true rfl⟩ rfl hl.1 rfl (lv_room (Nat.le_of_ble_eq_true rfl)) dX5_unitCame_199 (fun v368 g367 H367 k367 hp367 L367 => ?_)
          obtain ⟨hW, hi367, hp367⟩ := hp367
          replace hW := wfP_i hW ⟨hi367, hp367⟩
          have rv368 : rg (-2147483648) (2147483647) v368 := hp367.2.1
          have uv368 : (-2147483648 : Int) ≤ v368.toInt ∧ v368.toInt ≤ 2147483647 := rv368
          refine lv_iload hx hb dX5_unitCame_202 (lv_at hl 0 rfl) ?_
          refine c_cv (As := [.int v368, .int v13]) (rest := []) x hml L367 5 i0 hal0 rfl (d_kpollCame l X g367 i0 v368 v13 hX (show i0 < 2 * Z.n from (by omega)) (rg_w rv13 rfl) hW) (wk_V kd_X5_pollCame kl_X5_168 ki_X5_pollCame ks_X5_X5_pollCame kn_X5) rfl ⟨rfl, rfl⟩ hd_kpollCame ⟨Nat.le_of_ble_eq_true rfl, Nat.le_of_ble_eq_true rfl⟩ rfl hl.1 rfl (lv_room (Nat.le_of_ble_eq_true rfl)) dX5_unitCame_204 (fun  g369 H369 k369 hp369 L369 => ?_)
          obtain ⟨hW, hi369, hp369⟩ := hp369
          replace hW := wfP_i hW ⟨hi369, hp369⟩
          refine lv_iconst (v := 0) hx hb dX5_unitCame_207 (by decide) ?_
          exact hQ _ _ (0 : Int32) _ _ _ dX5_unitCame_208 L369 ⟨hW, (mFi.sub (mFi.sub (mFi.sub (mFi.sub mFi.rf hi1 mSub_nil) hi10 mSub_nil) hi367 mSub_nil) hi369 (mSub_eq 0 rfl (mSub_eq 1 rfl (mSub_eq 2 rfl (mSub_eq 10 rfl (mSub_eq 23 rfl (mSub_eq 24 rfl (mSub_eq 25 rfl mSub_nil)))))))), (mFr.tr (mFr.tr (mFr.tr (mFr.tr mFr.rf hp1.1 rfl) hp10.1 rfl) hp367.1 rfl) hp369.1 rfl), rg_w kc_0 rfl, trivial⟩
        · skip
          replace hW := wfP_i (wfP_r (wfP_r (wfP_r (wfP_r (wfP_r hW))))) c153_329
          have q370 : rg (11) (11) v12 := ⟨by omega, by omega⟩
          refine lv_tableIn (off := 56) (tgt := 209) hx hb dX5_unitCame_153 (by omega) (by omega) (by rw [c153_329]; rfl) (by decide) ?_
          refine lv_aload_n hx hb dX5_unitCame_209 rfl (lv_at hl 3 rfl) ?_
          refine lv_aload_n hx hb dX5_unitCame_210 rfl (lv_at hl 4 rfl) ?_
          refine lv_iload_n hx hb dX5_unitCame_211 rfl (lv_at hl 5 rfl) ?_
          refine lv_bipush (v := 12) hx hb dX5_unitCame_212 (by decide) ?_
          refine lv_isub hx hb dX5_unitCame_214 ?_
          refine lv_topi (fun v371 ev371 => ?_)
          have rv371 : rg (-8) (228) v371 := (rg_sub ev371 q7 kc_12 rfl).1
          replace hW := (wfP_i (wfP_i (wfP_i (wfP_a hW v371) ev371) rv371) (w_isub ((rg_sub ev371 q7 kc_12 rfl).2) rfl (rg_i kc_12)))
          have tv371 := (rg_sub ev371 q7 kc_12 rfl).2
          have y372 : (12 : Int32).toInt = 12 := by decide
          have uv371 : (-8 : Int) ≤ v371.toInt ∧ v371.toInt ≤ 228 := rv371
          refine lv_iconst (v := 4) hx hb dX5_unitCame_215 (by decide) ?_
          refine lv_idiv hx hb dX5_unitCame_216 (by decide) ?_
          refine lv_topi (fun v373 ev373 => ?_)
          have rv373 : rg (-2147483648) (2147483647) v373 := rg_any v373
          replace hW := (wfP_i (wfP_i (wfP_a hW v373) ev373) rv373)
          have q374 : rg (-2) (57) v373 := div4 ev373 rv371
          have uv373 : (-2 : Int) ≤ v373.toInt ∧ v373.toInt ≤ 57 := q374
          refine lv_iload hx hb dX5_unitCame_217 (lv_at hl 0 rfl) ?_
          refine lv_iload_n hx hb dX5_unitCame_219 rfl (lv_at hl 6 rfl) ?_
          refine c_ci (As := [.ref (Z.ad 16 q1), .int v373, .int v13, .int p3]) (rest := []) x hml L10 5 i0 hal0 rfl (d_kstatusCame l X g10 i0 q1 v373 v13 p3 hX (show i0 < 2 * Z.n from (by omega)) hq1 (rg_w q374 rfl) (rg_w rv13 rfl) hW) (wk_V kd_X5_statusCame kl_X5_171 ki_X5_statusCame ks_X5_X5_statusCame kn_X5) rfl ⟨rfl, rfl⟩ hd_kstatusCame ⟨Nat.le_of_ble_eq_true rfl, Nat.le_of_ble_eq_true rfl⟩ rfl hl.1 rfl (lv_room (Nat.le_of_ble_eq_true rfl)) dX5_unitCame_220 (fun v376 g375 H375 k375 hp375 L375 => ?_)
          obtain ⟨hW, hi375, hp375⟩ := hp375
          replace hW := wfP_i hW ⟨hi375, hp375⟩
          have rv376 : rg (0) (1) v376 := hp375.2.1
          have uv376 : (0 : Int) ≤ v376.toInt ∧ v376.toInt ≤ 1 := rv376
          refine lv_if_eq (tgt := 230) hx hb dX5_unitCame_223 (by decide) (fun c223_377 => ?_) (fun c223_377 => ?_)
          · skip
            replace hW := wfP_i (wfP_l hW) (i_eq c223_377 rfl (rg_i kc_0))
            have ic223_377 := congrArg Int32.toInt c223_377
            have y378 : (0 : Int32).toInt = 0 := by decide
            have q379 : rg (0) (0) v376 := (rg_eq c223_377 rv376 kc_0).1
            have uq379 : (0 : Int) ≤ v376.toInt ∧ v376.toInt ≤ 0 := q379
            refine lv_iconst (v := 2) hx hb dX5_unitCame_230 (by decide) ?_
            exact hQ _ _ (2 : Int32) _ _ _ dX5_unitCame_231 L375 ⟨hW, (mFi.sub (mFi.sub (mFi.sub mFi.rf hi1 mSub_nil) hi10 mSub_nil) hi375 (mSub_eq 5 rfl (mSub_eq 6 rfl (mSub_eq 8 rfl (mSub_eq 16 rfl (mSub_eq 30 rfl (mSub_eq 32 rfl mSub_nil))))))), (mFr.tr (mFr.tr (mFr.tr mFr.rf hp1.1 rfl) hp10.1 rfl) hp375.1 rfl), rg_w kc_2 rfl, trivial⟩
          · skip
            replace hW := wfP_i (wfP_r hW) (i_ne c223_377 rfl (rg_i kc_0))
            have ic223_377 : v376.toInt ≠ (0 : Int32).toInt := fun z => c223_377 (Int32.toInt_inj.mp z)
            have y380 : (0 : Int32).toInt = 0 := by decide
            have q381 : rg (1) (1) v376 := rg_neL c223_377 rv376 kc_0
            have uq381 : (1 : Int) ≤ v376.toInt ∧ v376.toInt ≤ 1 := q381
            refine lv_iconst (v := 0) hx hb dX5_unitCame_226 (by decide) ?_
            refine lv_goto (tgt := 231) hx hb dX5_unitCame_227 (by decide) ?_
            exact hQ _ _ (0 : Int32) _ _ _ dX5_unitCame_231 L375 ⟨hW, (mFi.sub (mFi.sub (mFi.sub mFi.rf hi1 mSub_nil) hi10 mSub_nil) hi375 (mSub_eq 5 rfl (mSub_eq 6 rfl (mSub_eq 8 rfl (mSub_eq 16 rfl (mSub_eq 30 rfl (mSub_eq 32 rfl mSub_nil))))))), (mFr.tr (mFr.tr (mFr.tr mFr.rf hp1.1 rfl) hp10.1 rfl) hp375.1 rfl), rg_w kc_0 rfl, trivial⟩
      · skip
        replace hW := wfP_i (wfP_r hW) (i_ne c146_326 rfl (rg_i kc_2))
        have ic146_326 : v325.toInt ≠ (2 : Int32).toInt := fun z => c146_326 (Int32.toInt_inj.mp z)
        have y382 : (2 : Int32).toInt = 2 := by decide
        refine lv_iconst (v := 0) hx hb dX5_unitCame_149 (by decide) ?_
        exact hQ _ _ (0 : Int32) _ _ _ dX5_unitCame_150 L10 ⟨hW, (mFi.sub (mFi.sub mFi.rf hi1 mSub_nil) hi10 mSub_nil), (mFr.tr (mFr.tr mFr.rf hp1.1 rfl) hp10.1 rfl), rg_w kc_0 rfl, trivial⟩
    · skip
      replace hW := wfP_i (wfP_l (wfP_r (wfP_r (wfP_r (wfP_r (wfP_r (wfP_r (wfP_r (wfP_r (wfP_r (wfP_r (wfP_r (wfP_r (wfP_r hW)))))))))))))) c35_14
      have q383 : rg (12) (12) v12 := ⟨by omega, by omega⟩
      refine lv_tableIn (off := 106) (tgt := 141) hx hb dX5_unitCame_35 (by omega) (by omega) (by rw [c35_14]; rfl) (by decide) ?_
      refine lv_aload_n hx hb dX5_unitCame_141 rfl (lv_at hl 3 rfl) ?_
      refine c_geti x L10 5 i0 4 164 hal0 rfl rfl (wk_in kf_X5_26) dX5_unitCame_142 (fun v384 ev384 wv384 => ?_)
      have rv384 : rg (0) (4) v384 := clj_164 wv384
      replace hW := (wfP_i (wfP_i (wfP_a hW v384) ev384) rv384)
      have uv384 : (0 : Int) ≤ v384.toInt ∧ v384.toInt ≤ 4 := rv384
      refine lv_iconst (v := 2) hx hb dX5_unitCame_145 (by decide) ?_
      refine lv_icmp_eq (tgt := 151) hx hb dX5_unitCame_146 (by decide) (fun c146_385 => ?_) (fun c146_385 => ?_)
      · skip
        replace hW := wfP_i (wfP_l hW) (i_eq c146_385 rfl (rg_i kc_2))
        have ic146_385 := congrArg Int32.toInt c146_385
        have y386 : (2 : Int32).toInt = 2 := by decide
        have q387 : rg (2) (2) v384 := (rg_eq c146_385 rv384 kc_2).1
        have uq387 : (2 : Int) ≤ v384.toInt ∧ v384.toInt ≤ 2 := q387
        refine lv_iload hx hb dX5_unitCame_151 (lv_at hl 1 rfl) ?_
        rcases (show v12.toInt < 8 ∨ 11 < v12.toInt ∨ v12.toInt = 8 ∨ v12.toInt = 9 ∨ v12.toInt = 10 ∨ v12.toInt = 11 by omega) with c153_388 | c153_388 | c153_388 | c153_388 | c153_388 | c153_388
        · skip
          replace hW := wfP_i (wfP_l hW) c153_388
          refine lv_tableOut (tgt := 232) hx hb dX5_unitCame_153 (Or.inl c153_388) (by decide) ?_
          refine lv_aload_n hx hb dX5_unitCame_232 rfl (lv_at hl 3 rfl) ?_
          refine lv_aload_n hx hb dX5_unitCame_233 rfl (lv_at hl 4 rfl) ?_
          refine lv_iconst (v := 0) hx hb dX5_unitCame_234 (by decide) ?_
          refine c_siN (As := [.ref (Z.ad 16 q1), .int (0 : Int32)]) (rest := [.ref (Z.ad 5 i0)]) x hml L10 (d_kwordAt_16 l X g10 q1 (0 : Int32) hX hq1 (rg_w kc_0 rfl) hW) (goodC (wk_all kd_X11_wordAt)) (List.mem_of_getElem? (i := 12) rfl) (wk_in kt_X11_wordAt) (wk_in kn_X11) rfl ⟨rfl, rfl⟩ hd_kwordAt_16 ⟨Nat.le_of_ble_eq_true rfl, Nat.le_of_ble_eq_true rfl⟩ rfl hl.1 rfl (lv_room (Nat.le_of_ble_eq_true rfl)) dX5_unitCame_235 (fun v390 g389 H389 k389 hp389 L389 => ?_)
          obtain ⟨hW, hi389, hp389⟩ := hp389
          replace hW := wfP_i hW ⟨hi389, hp389⟩
          have rv390 : rg (-2147483648) (2147483647) v390 := hp389.2.1
          have uv390 : (-2147483648 : Int) ≤ v390.toInt ∧ v390.toInt ≤ 2147483647 := rv390
          refine lv_aload_n hx hb dX5_unitCame_238 rfl (lv_at hl 4 rfl) ?_
          refine lv_iconst (v := 4) hx hb dX5_unitCame_239 (by decide) ?_
          refine c_siN (As := [.ref (Z.ad 16 q1), .int (4 : Int32)]) (rest := [.int v390, .ref (Z.ad 5 i0)]) x hml L389 (d_kwordAt_16 l X g389 q1 (4 : Int32) hX hq1 (rg_w kc_4 rfl) hW) (goodC (wk_all kd_X11_wordAt)) (List.mem_of_getElem? (i := 12) rfl) (wk_in kt_X11_wordAt) (wk_in kn_X11) rfl ⟨rfl, rfl⟩ hd_kwordAt_16 ⟨Nat.le_of_ble_eq_true rfl, Nat.le_of_ble_eq_true rfl⟩ rfl hl.1 rfl (lv_room (Nat.le_of_ble_eq_true rfl)) dX5_unitCame_240 (fun v392 g391 H391 k391 hp391 L391 => ?_)
          obtain ⟨hW, hi391, hp391⟩ := hp391
          replace hW := wfP_i hW ⟨hi391, hp391⟩
          have rv392 : rg (-2147483648) (2147483647) v392 := hp391.2.1
          have uv392 : (-2147483648 : Int) ≤ v392.toInt ∧ v392.toInt ≤ 2147483647 := rv392
          refine lv_iload hx hb dX5_unitCame_243 (lv_at hl 0 rfl) ?_
          refine c_ci (As := [.int v390, .int v392, .int v13]) (rest := []) x hml L391 5 i0 hal0 rfl (d_kgapCame l X g391 i0 v390 v392 v13 hX (show i0 < 2 * Z.n from (by omega)) (rg_w rv13 rfl) hW) (wk_V kd_X5_gapCame kl_X5_175 ki_X5_gapCame ks_X5_X5_gapCame kn_X5) rfl ⟨rfl, rfl⟩ hd_kgapCame ⟨Nat.le_of_ble_eq_true rfl, Nat.le_of_ble_eq_true rfl⟩ rfl hl.1 rfl (lv_room (Nat.le_of_ble_eq_true rfl)) dX5_unitCame_245 (fun v394 g393 H393 k393 hp393 L393 => ?_)
          obtain ⟨hW, hi393, hp393⟩ := hp393
          replace hW := wfP_i hW ⟨hi393, hp393⟩
          have rv394 : rg (0) (1) v394 := hp393.2.1
          have uv394 : (0 : Int) ≤ v394.toInt ∧ v394.toInt ≤ 1 := rv394
          refine lv_if_eq (tgt := 255) hx hb dX5_unitCame_248 (by decide) (fun c248_395 => ?_) (fun c248_395 => ?_)
          · skip
            replace hW := wfP_i (wfP_l hW) (i_eq c248_395 rfl (rg_i kc_0))
            have ic248_395 := congrArg Int32.toInt c248_395
            have y396 : (0 : Int32).toInt = 0 := by decide
            have q397 : rg (0) (0) v394 := (rg_eq c248_395 rv394 kc_0).1
            have uq397 : (0 : Int) ≤ v394.toInt ∧ v394.toInt ≤ 0 := q397
            refine lv_iconst (v := 2) hx hb dX5_unitCame_255 (by decide) ?_
            exact hQ _ _ (2 : Int32) _ _ _ dX5_unitCame_256 L393 ⟨hW, (mFi.sub (mFi.sub (mFi.sub (mFi.sub (mFi.sub mFi.rf hi1 mSub_nil) hi10 mSub_nil) hi389 mSub_nil) hi391 mSub_nil) hi393 (mSub_eq 5 rfl (mSub_eq 6 rfl (mSub_eq 30 rfl (mSub_eq 32 rfl mSub_nil))))), (mFr.tr (mFr.tr (mFr.tr (mFr.tr (mFr.tr mFr.rf hp1.1 rfl) hp10.1 rfl) hp389.1 rfl) hp391.1 rfl) hp393.1 rfl), rg_w kc_2 rfl, trivial⟩
          · skip
            replace hW := wfP_i (wfP_r hW) (i_ne c248_395 rfl (rg_i kc_0))
            have ic248_395 : v394.toInt ≠ (0 : Int32).toInt := fun z => c248_395 (Int32.toInt_inj.mp z)
            have y398 : (0 : Int32).toInt = 0 := by decide
            have q399 : rg (1) (1) v394 := rg_neL c248_395 rv394 kc_0
            have uq399 : (1 : Int) ≤ v394.toInt ∧ v394.toInt ≤ 1 := q399
            refine lv_iconst (v := 0) hx hb dX5_unitCame_251 (by decide) ?_
            refine lv_goto (tgt := 256) hx hb dX5_unitCame_252 (by decide) ?_
            exact hQ _ _ (0 : Int32) _ _ _ dX5_unitCame_256 L393 ⟨hW, (mFi.sub (mFi.sub (mFi.sub (mFi.sub (mFi.sub mFi.rf hi1 mSub_nil) hi10 mSub_nil) hi389 mSub_nil) hi391 mSub_nil) hi393 (mSub_eq 5 rfl (mSub_eq 6 rfl (mSub_eq 30 rfl (mSub_eq 32 rfl mSub_nil))))), (mFr.tr (mFr.tr (mFr.tr (mFr.tr (mFr.tr mFr.rf hp1.1 rfl) hp10.1 rfl) hp389.1 rfl) hp391.1 rfl) hp393.1 rfl), rg_w kc_0 rfl, trivial⟩
        · skip
          replace hW := wfP_i (wfP_l (wfP_r hW)) c153_388
          refine lv_tableOut (tgt := 232) hx hb dX5_unitCame_153 (Or.inr c153_388) (by decide) ?_
          refine lv_aload_n hx hb dX5_unitCame_232 rfl (lv_at hl 3 rfl) ?_
          refine lv_aload_n hx hb dX5_unitCame_233 rfl (lv_at hl 4 rfl) ?_
          refine lv_iconst (v := 0) hx hb dX5_unitCame_234 (by decide) ?_
          refine c_siN (As := [.ref (Z.ad 16 q1), .int (0 : Int32)]) (rest := [.ref (Z.ad 5 i0)]) x hml L10 (d_kwordAt_16 l X g10 q1 (0 : Int32) hX hq1 (rg_w kc_0 rfl) hW) (goodC (wk_all kd_X11_wordAt)) (List.mem_of_getElem? (i := 12) rfl) (wk_in kt_X11_wordAt) (wk_in kn_X11) rfl ⟨rfl, rfl⟩ hd_kwordAt_16 ⟨Nat.le_of_ble_eq_true rfl, Nat.le_of_ble_eq_true rfl⟩ rfl hl.1 rfl (lv_room (Nat.le_of_ble_eq_true rfl)) dX5_unitCame_235 (fun v401 g400 H400 k400 hp400 L400 => ?_)
          obtain ⟨hW, hi400, hp400⟩ := hp400
          replace hW := wfP_i hW ⟨hi400, hp400⟩
          have rv401 : rg (-2147483648) (2147483647) v401 := hp400.2.1
          have uv401 : (-2147483648 : Int) ≤ v401.toInt ∧ v401.toInt ≤ 2147483647 := rv401
          refine lv_aload_n hx hb dX5_unitCame_238 rfl (lv_at hl 4 rfl) ?_
          refine lv_iconst (v := 4) hx hb dX5_unitCame_239 (by decide) ?_
          refine c_siN (As := [.ref (Z.ad 16 q1), .int (4 : Int32)]) (rest := [.int v401, .ref (Z.ad 5 i0)]) x hml L400 (d_kwordAt_16 l X g400 q1 (4 : Int32) hX hq1 (rg_w kc_4 rfl) hW) (goodC (wk_all kd_X11_wordAt)) (List.mem_of_getElem? (i := 12) rfl) (wk_in kt_X11_wordAt) (wk_in kn_X11) rfl ⟨rfl, rfl⟩ hd_kwordAt_16 ⟨Nat.le_of_ble_eq_true rfl, Nat.le_of_ble_eq_true rfl⟩ rfl hl.1 rfl (lv_room (Nat.le_of_ble_eq_true rfl)) dX5_unitCame_240 (fun v403 g402 H402 k402 hp402 L402 => ?_)
          obtain ⟨hW, hi402, hp402⟩ := hp402
          replace hW := wfP_i hW ⟨hi402, hp402⟩
          have rv403 : rg (-2147483648) (2147483647) v403 := hp402.2.1
          have uv403 : (-2147483648 : Int) ≤ v403.toInt ∧ v403.toInt ≤ 2147483647 := rv403
          refine lv_iload hx hb dX5_unitCame_243 (lv_at hl 0 rfl) ?_
          refine c_ci (As := [.int v401, .int v403, .int v13]) (rest := []) x hml L402 5 i0 hal0 rfl (d_kgapCame l X g402 i0 v401 v403 v13 hX (show i0 < 2 * Z.n from (by omega)) (rg_w rv13 rfl) hW) (wk_V kd_X5_gapCame kl_X5_175 ki_X5_gapCame ks_X5_X5_gapCame kn_X5) rfl ⟨rfl, rfl⟩ hd_kgapCame ⟨Nat.le_of_ble_eq_true rfl, Nat.le_of_ble_eq_true rfl⟩ rfl hl.1 rfl (lv_room (Nat.le_of_ble_eq_true rfl)) dX5_unitCame_245 (fun v405 g404 H404 k404 hp404 L404 => ?_)
          obtain ⟨hW, hi404, hp404⟩ := hp404
          replace hW := wfP_i hW ⟨hi404, hp404⟩
          have rv405 : rg (0) (1) v405 := hp404.2.1
          have uv405 : (0 : Int) ≤ v405.toInt ∧ v405.toInt ≤ 1 := rv405
          refine lv_if_eq (tgt := 255) hx hb dX5_unitCame_248 (by decide) (fun c248_406 => ?_) (fun c248_406 => ?_)
          · skip
            replace hW := wfP_i (wfP_l hW) (i_eq c248_406 rfl (rg_i kc_0))
            have ic248_406 := congrArg Int32.toInt c248_406
            have y407 : (0 : Int32).toInt = 0 := by decide
            have q408 : rg (0) (0) v405 := (rg_eq c248_406 rv405 kc_0).1
            have uq408 : (0 : Int) ≤ v405.toInt ∧ v405.toInt ≤ 0 := q408
            refine lv_iconst (v := 2) hx hb dX5_unitCame_255 (by decide) ?_
            exact hQ _ _ (2 : Int32) _ _ _ dX5_unitCame_256 L404 ⟨hW, (mFi.sub (mFi.sub (mFi.sub (mFi.sub (mFi.sub mFi.rf hi1 mSub_nil) hi10 mSub_nil) hi400 mSub_nil) hi402 mSub_nil) hi404 (mSub_eq 5 rfl (mSub_eq 6 rfl (mSub_eq 30 rfl (mSub_eq 32 rfl mSub_nil))))), (mFr.tr (mFr.tr (mFr.tr (mFr.tr (mFr.tr mFr.rf hp1.1 rfl) hp10.1 rfl) hp400.1 rfl) hp402.1 rfl) hp404.1 rfl), rg_w kc_2 rfl, trivial⟩
          · skip
            replace hW := wfP_i (wfP_r hW) (i_ne c248_406 rfl (rg_i kc_0))
            have ic248_406 : v405.toInt ≠ (0 : Int32).toInt := fun z => c248_406 (Int32.toInt_inj.mp z)
            have y409 : (0 : Int32).toInt = 0 := by decide
            have q410 : rg (1) (1) v405 := rg_neL c248_406 rv405 kc_0
            have uq410 : (1 : Int) ≤ v405.toInt ∧ v405.toInt ≤ 1 := q410
            refine lv_iconst (v := 0) hx hb dX5_unitCame_251 (by decide) ?_
            refine lv_goto (tgt := 256) hx hb dX5_unitCame_252 (by decide) ?_
            exact hQ _ _ (0 : Int32) _ _ _ dX5_unitCame_256 L404 ⟨hW, (mFi.sub (mFi.sub (mFi.sub (mFi.sub (mFi.sub mFi.rf hi1 mSub_nil) hi10 mSub_nil) hi400 mSub_nil) hi402 mSub_nil) hi404 (mSub_eq 5 rfl (mSub_eq 6 rfl (mSub_eq 30 rfl (mSub_eq 32 rfl mSub_nil))))), (mFr.tr (mFr.tr (mFr.tr (mFr.tr (mFr.tr mFr.rf hp1.1 rfl) hp10.1 rfl) hp400.1 rfl) hp402.1 rfl) hp404.1 rfl), rg_w kc_0 rfl, trivial⟩
        · skip
          replace hW := wfP_i (wfP_l (wfP_r (wfP_r hW))) c153_388
          have q411 : rg (8) (8) v12 := ⟨by omega, by omega⟩
          refine lv_tableIn (off := 31) (tgt := 184) hx hb dX5_unitCame_153 (by omega) (by omega) (by rw [c153_388]; rfl) (by decide) ?_
          refine lv_aload_n hx hb dX5_unitCame_184 rfl (lv_at hl 3 rfl) ?_
          refine lv_aload_n hx hb dX5_unitCame_185 rfl (lv_at hl 4 rfl) ?_
          refine lv_iload_n hx hb dX5_unitCame_186 rfl (lv_at hl 5 rfl) ?_
          refine lv_iconst (v := 4) hx hb dX5_unitCame_187 (by decide) ?_
          refine lv_isub hx hb dX5_unitCame_188 ?_
          refine m_top ev8 ?_
          refine lv_iload hx hb dX5_unitCame_189 (lv_at hl 0 rfl) ?_
          refine c_cv (As := [.ref (Z.ad 16 q1), .int v8, .int v13]) (rest := []) x hml L10 5 i0 hal0 rfl (d_kdataCame l X g10 i0 q1 v8 v13 hX (show i0 < 2 * Z.n from (by omega)) hq1 (rg_w rv13 rfl) hW) (wk_V kd_X5_dataCame kl_X5_165 ki_X5_dataCame ks_X5_X5_dataCame kn_X5) rfl ⟨rfl, rfl⟩ hd_kdataCame ⟨Nat.le_of_ble_eq_true rfl, Nat.le_of_ble_eq_true rfl⟩ rfl hl.1 rfl (lv_room (Nat.le_of_ble_eq_true rfl)) dX5_unitCame_191 (fun  g412 H412 k412 hp412 L412 => ?_)
          obtain ⟨hW, hi412, hp412⟩ := hp412
          replace hW := wfP_i hW ⟨hi412, hp412⟩
          refine lv_iconst (v := 0) hx hb dX5_unitCame_194 (by decide) ?_
          exact hQ _ _ (0 : Int32) _ _ _ dX5_unitCame_195 L412 ⟨hW, (mFi.sub (mFi.sub (mFi.sub mFi.rf hi1 mSub_nil) hi10 mSub_nil) hi412 (mSub_eq 0 rfl (mSub_eq 1 rfl (mSub_eq 2 rfl (mSub_eq 10 rfl (mSub_eq 23 rfl (mSub_eq 24 rfl (mSub_eq 25 rfl (mSub_eq 28 rfl (mSub_eq 29 rfl mSub_nil)))))))))), (mFr.tr (mFr.tr (mFr.tr mFr.rf hp1.1 rfl) hp10.1 rfl) hp412.1 rfl), rg_w kc_0 rfl, trivial⟩
        · skip
          replace hW := wfP_i (wfP_l (wfP_r (wfP_r (wfP_r hW)))) c153_388
          have q413 : rg (9) (9) v12 := ⟨by omega, by omega⟩
          refine lv_tableIn (off := 79) (tgt := 232) hx hb dX5_unitCame_153 (by omega) (by omega) (by rw [c153_388]; rfl) (by decide) ?_
          refine lv_aload_n hx hb dX5_unitCame_232 rfl (lv_at hl 3 rfl) ?_
          refine lv_aload_n hx hb dX5_unitCame_233 rfl (lv_at hl 4 rfl) ?_
          refine lv_iconst (v := 0) hx hb dX5_unitCame_234 (by decide) ?_
          refine c_siN (As := [.ref (Z.ad 16 q1), .int (0 : Int32)]) (rest := [.ref (Z.ad 5 i0)]) x hml L10 (d_kwordAt_16 l X g10 q1 (0 : Int32) hX hq1 (rg_w kc_0 rfl) hW) (goodC (wk_all kd_X11_wordAt)) (List.mem_of_getElem? (i := 12) rfl) (wk_in kt_X11_wordAt) (wk_in kn_X11) rfl ⟨rfl, rfl⟩ hd_kwordAt_16 ⟨Nat.le_of_ble_eq_true rfl, Nat.le_of_ble_eq_true rfl⟩ rfl hl.1 rfl (lv_room (Nat.le_of_ble_eq_true rfl)) dX5_unitCame_235 (fun v415 g414 H414 k414 hp414 L414 => ?_)
          obtain ⟨hW, hi414, hp414⟩ := hp414
          replace hW := wfP_i hW ⟨hi414, hp414⟩
          have rv415 : rg (-2147483648) (2147483647) v415 := hp414.2.1
          have uv415 : (-2147483648 : Int) ≤ v415.toInt ∧ v415.toInt ≤ 2147483647 := rv415
          refine lv_aload_n hx hb dX5_unitCame_238 rfl (lv_at hl 4 rfl) ?_
          refine lv_iconst (v := 4) hx hb dX5_unitCame_239 (by decide) ?_
          refine c_siN (As := [.ref (Z.ad 16 q1), .int (4 : Int32)]) (rest := [.int v415, .ref (Z.ad 5 i0)]) x hml L414 (d_kwordAt_16 l X g414 q1 (4 : Int32) hX hq1 (rg_w kc_4 rfl) hW) (goodC (wk_all kd_X11_wordAt)) (List.mem_of_getElem? (i := 12) rfl) (wk_in kt_X11_wordAt) (wk_in kn_X11) rfl ⟨rfl, rfl⟩ hd_kwordAt_16 ⟨Nat.le_of_ble_eq_true rfl, Nat.le_of_ble_eq_true rfl⟩ rfl hl.1 rfl (lv_room (Nat.le_of_ble_eq_true rfl)) dX5_unitCame_240 (fun v417 g416 H416 k416 hp416 L416 => ?_)
          obtain ⟨hW, hi416, hp416⟩ := hp416
          replace hW := wfP_i hW ⟨hi416, hp416⟩
          have rv417 : rg (-2147483648) (2147483647) v417 := hp416.2.1
          have uv417 : (-2147483648 : Int) ≤ v417.toInt ∧ v417.toInt ≤ 2147483647 := rv417
          refine lv_iload hx hb dX5_unitCame_243 (lv_at hl 0 rfl) ?_
          refine c_ci (As := [.int v415, .int v417, .int v13]) (rest := []) x hml L416 5 i0 hal0 rfl (d_kgapCame l X g416 i0 v415 v417 v13 hX (show i0 < 2 * Z.n from (by omega)) (rg_w rv13 rfl) hW) (wk_V kd_X5_gapCame kl_X5_175 ki_X5_gapCame ks_X5_X5_gapCame kn_X5) rfl ⟨rfl, rfl⟩ hd_kgapCame ⟨Nat.le_of_ble_eq_true rfl, Nat.le_of_ble_eq_true rfl⟩ rfl hl.1 rfl (lv_room (Nat.le_of_ble_eq_true rfl)) dX5_unitCame_245 (fun v419 g418 H418 k418 hp418 L418 => ?_)
          obtain ⟨hW, hi418, hp418⟩ := hp418
          replace hW := wfP_i hW ⟨hi418, hp418⟩
          have rv419 : rg (0) (1) v419 := hp418.2.1
          have uv419 : (0 : Int) ≤ v419.toInt ∧ v419.toInt ≤ 1 := rv419
          refine lv_if_eq (tgt := 255) hx hb dX5_unitCame_248 (by decide) (fun c248_420 => ?_) (fun c248_420 => ?_)
          · skip
            replace hW := wfP_i (wfP_l hW) (i_eq c248_420 rfl (rg_i kc_0))
            have ic248_420 := congrArg Int32.toInt c248_420
            have y421 : (0 : Int32).toInt = 0 := by decide
            have q422 : rg (0) (0) v419 := (rg_eq c248_420 rv419 kc_0).1
            have uq422 : (0 : Int) ≤ v419.toInt ∧ v419.toInt ≤ 0 := q422
            refine lv_iconst (v := 2) hx hb dX5_unitCame_255 (by decide) ?_
            exact hQ _ _ (2 : Int32) _ _ _ dX5_unitCame_256 L418 ⟨hW, (mFi.sub (mFi.sub (mFi.sub (mFi.sub (mFi.sub mFi.rf hi1 mSub_nil) hi10 mSub_nil) hi414 mSub_nil) hi416 mSub_nil) hi418 (mSub_eq 5 rfl (mSub_eq 6 rfl (mSub_eq 30 rfl (mSub_eq 32 rfl mSub_nil))))), (mFr.tr (mFr.tr (mFr.tr (mFr.tr (mFr.tr mFr.rf hp1.1 rfl) hp10.1 rfl) hp414.1 rfl) hp416.1 rfl) hp418.1 rfl), rg_w kc_2 rfl, trivial⟩
          · skip
            replace hW := wfP_i (wfP_r hW) (i_ne c248_420 rfl (rg_i kc_0))
            have ic248_420 : v419.toInt ≠ (0 : Int32).toInt := fun z => c248_420 (Int32.toInt_inj.mp z)
            have y423 : (0 : Int32).toInt = 0 := by decide
            have q424 : rg (1) (1) v419 := rg_neL c248_420 rv419 kc_0
            have uq424 : (1 : Int) ≤ v419.toInt ∧ v419.toInt ≤ 1 := q424
            refine lv_iconst (v := 0) hx hb dX5_unitCame_251 (by decide) ?_
            refine lv_goto (tgt := 256) hx hb dX5_unitCame_252 (by decide) ?_
            exact hQ _ _ (0 : Int32) _ _ _ dX5_unitCame_256 L418 ⟨hW, (mFi.sub (mFi.sub (mFi.sub (mFi.sub (mFi.sub mFi.rf hi1 mSub_nil) hi10 mSub_nil) hi414 mSub_nil) hi416 mSub_nil) hi418 (mSub_eq 5 rfl (mSub_eq 6 rfl (mSub_eq 30 rfl (mSub_eq 32 rfl mSub_nil))))), (mFr.tr (mFr.tr (mFr.tr (mFr.tr (mFr.tr mFr.rf hp1.1 rfl) hp10.1 rfl) hp414.1 rfl) hp416.1 rfl) hp418.1 rfl), rg_w kc_0 rfl, trivial⟩
        · skip
          replace hW := wfP_i (wfP_l (wfP_r (wfP_r (wfP_r (wfP_r hW))))) c153_388
          have q425 : rg (10) (10) v12 := ⟨by omega, by omega⟩
          refine lv_tableIn (off := 43) (tgt := 196) hx hb dX5_unitCame_153 (by omega) (by omega) (by rw [c153_388]; rfl) (by decide) ?_
          refine lv_aload_n hx hb dX5_unitCame_196 rfl (lv_at hl 3 rfl) ?_
          refine lv_aload_n hx hb dX5_unitCame_197 rfl (lv_at hl 4 rfl) ?_
          refine lv_iconst (v := 0) hx hb dX5_unitCame_198 (by decide) ?_
          refine c_siN (As := [.ref (Z.ad 16 q1), .int (0 : Int32)]) (rest := [.ref (Z.ad 5 i0)]) x hml L10 (d_kwordAt_16 l X g10 q1 (0 : Int32) hX hq1 (rg_w kc_0 rfl) hW) (goodC (wk_all kd_X11_wordAt)) (List.mem_of_getElem? (i := 12) rfl) (wk_in kt_X11_wordAt) (wk_in kn_X11) rfl ⟨rfl, rfl⟩ hd_kwordAt_16 ⟨Nat.le_of_ble_eq_true rfl, Nat.le_of_ble_eq_true rfl⟩ rfl hl.1 rfl (lv_room (Nat.le_of_ble_eq_true rfl)) dX5_unitCame_199 (fun v427 g426 H426 k426 hp426 L426 => ?_)
          obtain ⟨hW, hi426, hp426⟩ := hp426
          replace hW := wfP_i hW ⟨hi426, hp426⟩
          have rv427 : rg (-2147483648) (2147483647) v427 := hp426.2.1
          have uv427 : (-2147483648 : Int) ≤ v427.toInt ∧ v427.toInt ≤ 2147483647 := rv427
          refine lv_iload hx hb dX5_unitCame_202 (lv_at hl 0 rfl) ?_
          refine c_cv (As := [.int v427, .int v13]) (rest := []) x hml L426 5 i0 hal0 rfl (d_kpollCame l X g426 i0 v427 v13 hX (show i0 < 2 * Z.n from (by omega)) (rg_w rv13 rfl) hW) (wk_V kd_X5_pollCame kl_X5_168 ki_X5_pollCame ks_X5_X5_pollCame kn_X5) rfl ⟨rfl, rfl⟩ hd_kpollCame ⟨Nat.le_of_ble_eq_true rfl, Nat.le_of_ble_eq_true rfl⟩ rfl hl.1 rfl (lv_room (Nat.le_of_ble_eq_true rfl)) dX5_unitCame_204 (fun  g428 H428 k428 hp428 L428 => ?_)
          obtain ⟨hW, hi428, hp428⟩ := hp428
          replace hW := wfP_i hW ⟨hi428, hp428⟩
          refine lv_iconst (v := 0) hx hb dX5_unitCame_207 (by decide) ?_
          exact hQ _ _ (0 : Int32) _ _ _ dX5_unitCame_208 L428 ⟨hW, (mFi.sub (mFi.sub (mFi.sub (mFi.sub mFi.rf hi1 mSub_nil) hi10 mSub_nil) hi426 mSub_nil) hi428 (mSub_eq 0 rfl (mSub_eq 1 rfl (mSub_eq 2 rfl (mSub_eq 10 rfl (mSub_eq 23 rfl (mSub_eq 24 rfl (mSub_eq 25 rfl mSub_nil)))))))), (mFr.tr (mFr.tr (mFr.tr (mFr.tr mFr.rf hp1.1 rfl) hp10.1 rfl) hp426.1 rfl) hp428.1 rfl), rg_w kc_0 rfl, trivial⟩
        · skip
          replace hW := wfP_i (wfP_r (wfP_r (wfP_r (wfP_r (wfP_r hW))))) c153_388
          have q429 : rg (11) (11) v12 := ⟨by omega, by omega⟩
          refine lv_tableIn (off := 56) (tgt := 209) hx hb dX5_unitCame_153 (by omega) (by omega) (by rw [c153_388]; rfl) (by decide) ?_
          refine lv_aload_n hx hb dX5_unitCame_209 rfl (lv_at hl 3 rfl) ?_
          refine lv_aload_n hx hb dX5_unitCame_210 rfl (lv_at hl 4 rfl) ?_
          refine lv_iload_n hx hb dX5_unitCame_211 rfl (lv_at hl 5 rfl) ?_
          refine lv_bipush (v := 12) hx hb dX5_unitCame_212 (by decide) ?_
          refine lv_isub hx hb dX5_unitCame_214 ?_
          refine lv_topi (fun v430 ev430 => ?_)
          have rv430 : rg (-8) (228) v430 := (rg_sub ev430 q7 kc_12 rfl).1
          replace hW := (wfP_i (wfP_i (wfP_i (wfP_a hW v430) ev430) rv430) (w_isub ((rg_sub ev430 q7 kc_12 rfl).2) rfl (rg_i kc_12)))
          have tv430 := (rg_sub ev430 q7 kc_12 rfl).2
          have y431 : (12 : Int32).toInt = 12 := by decide
          have uv430 : (-8 : Int) ≤ v430.toInt ∧ v430.toInt ≤ 228 := rv430
          refine lv_iconst (v := 4) hx hb dX5_unitCame_215 (by decide) ?_
          refine lv_idiv hx hb dX5_unitCame_216 (by decide) ?_
          refine lv_topi (fun v432 ev432 => ?_)
          have rv432 : rg (-2147483648) (2147483647) v432 := rg_any v432
          replace hW := (wfP_i (wfP_i (wfP_a hW v432) ev432) rv432)
          have q433 : rg (-2) (57) v432 := div4 ev432 rv430
          have uv432 : (-2 : Int) ≤ v432.toInt ∧ v432.toInt ≤ 57 := q433
          refine lv_iload hx hb dX5_unitCame_217 (lv_at hl 0 rfl) ?_
          refine lv_iload_n hx hb dX5_unitCame_219 rfl (lv_at hl 6 rfl) ?_
          refine c_ci (As := [.ref (Z.ad 16 q1), .int v432, .int v13, .int p3]) (rest := []) x hml L10 5 i0 hal0 rfl (d_kstatusCame l X g10 i0 q1 v432 v13 p3 hX (show i0 < 2 * Z.n from (by omega)) hq1 (rg_w q433 rfl) (rg_w rv13 rfl) hW) (wk_V kd_X5_statusCame kl_X5_171 ki_X5_statusCame ks_X5_X5_statusCame kn_X5) rfl ⟨rfl, rfl⟩ hd_kstatusCame ⟨Nat.le_of_ble_eq_true rfl, Nat.le_of_ble_eq_true rfl⟩ rfl hl.1 rfl (lv_room (Nat.le_of_ble_eq_true rfl)) dX5_unitCame_220 (fun v435 g434 H434 k434 hp434 L434 => ?_)
          obtain ⟨hW, hi434, hp434⟩ := hp434
          replace hW := wfP_i hW ⟨hi434, hp434⟩
          have rv435 : rg (0) (1) v435 := hp434.2.1
          have uv435 : (0 : Int) ≤ v435.toInt ∧ v435.toInt ≤ 1 := rv435
          refine lv_if_eq (tgt := 230) hx hb dX5_unitCame_223 (by decide) (fun c223_436 => ?_) (fun c223_436 => ?_)
          · skip
            replace hW := wfP_i (wfP_l hW) (i_eq c223_436 rfl (rg_i kc_0))
            have ic223_436 := congrArg Int32.toInt c223_436
            have y437 : (0 : Int32).toInt = 0 := by decide
            have q438 : rg (0) (0) v435 := (rg_eq c223_436 rv435 kc_0).1
            have uq438 : (0 : Int) ≤ v435.toInt ∧ v435.toInt ≤ 0 := q438
            refine lv_iconst (v := 2) hx hb dX5_unitCame_230 (by decide) ?_
            exact hQ _ _ (2 : Int32) _ _ _ dX5_unitCame_231 L434 ⟨hW, (mFi.sub (mFi.sub (mFi.sub mFi.rf hi1 mSub_nil) hi10 mSub_nil) hi434 (mSub_eq 5 rfl (mSub_eq 6 rfl (mSub_eq 8 rfl (mSub_eq 16 rfl (mSub_eq 30 rfl (mSub_eq 32 rfl mSub_nil))))))), (mFr.tr (mFr.tr (mFr.tr mFr.rf hp1.1 rfl) hp10.1 rfl) hp434.1 rfl), rg_w kc_2 rfl, trivial⟩
          · skip
            replace hW := wfP_i (wfP_r hW) (i_ne c223_436 rfl (rg_i kc_0))
            have ic223_436 : v435.toInt ≠ (0 : Int32).toInt := fun z => c223_436 (Int32.toInt_inj.mp z)
            have y439 : (0 : Int32).toInt = 0 := by decide
            have q440 : rg (1) (1) v435 := rg_neL c223_436 rv435 kc_0
            have uq440 : (1 : Int) ≤ v435.toInt ∧ v435.toInt ≤ 1 := q440
            refine lv_iconst (v := 0) hx hb dX5_unitCame_226 (by decide) ?_
            refine lv_goto (tgt := 231) hx hb dX5_unitCame_227 (by decide) ?_
            exact hQ _ _ (0 : Int32) _ _ _ dX5_unitCame_231 L434 ⟨hW, (mFi.sub (mFi.sub (mFi.sub mFi.rf hi1 mSub_nil) hi10 mSub_nil) hi434 (mSub_eq 5 rfl (mSub_eq 6 rfl (mSub_eq 8 rfl (mSub_eq 16 rfl (mSub_eq 30 rfl (mSub_eq 32 rfl mSub_nil))))))), (mFr.tr (mFr.tr (mFr.tr mFr.rf hp1.1 rfl) hp10.1 rfl) hp434.1 rfl), rg_w kc_0 rfl, trivial⟩
      · skip
        replace hW := wfP_i (wfP_r hW) (i_ne c146_385 rfl (rg_i kc_2))
        have ic146_385 : v384.toInt ≠ (2 : Int32).toInt := fun z => c146_385 (Int32.toInt_inj.mp z)
        have y441 : (2 : Int32).toInt = 2 := by decide
        refine lv_iconst (v := 0) hx hb dX5_unitCame_149 (by decide) ?_
        exact hQ _ _ (0 : Int32) _ _ _ dX5_unitCame_150 L10 ⟨hW, (mFi.sub (mFi.sub mFi.rf hi1 mSub_nil) hi10 mSub_nil), (mFr.tr (mFr.tr mFr.rf hp1.1 rfl) hp10.1 rfl), rg_w kc_0 rfl, trivial⟩
    · skip
      replace hW := wfP_i (wfP_l (wfP_r (wfP_r (wfP_r (wfP_r (wfP_r (wfP_r (wfP_r (wfP_r (wfP_r (wfP_r (wfP_r (wfP_r (wfP_r (wfP_r hW))))))))))))))) c35_14
      have q442 : rg (13) (13) v12 := ⟨by omega, by omega⟩
      refine lv_tableIn (off := 106) (tgt := 141) hx hb dX5_unitCame_35 (by omega) (by omega) (by rw [c35_14]; rfl) (by decide) ?_
      refine lv_aload_n hx hb dX5_unitCame_141 rfl (lv_at hl 3 rfl) ?_
      refine c_geti x L10 5 i0 4 164 hal0 rfl rfl (wk_in kf_X5_26) dX5_unitCame_142 (fun v443 ev443 wv443 => ?_)
      have rv443 : rg (0) (4) v443 := clj_164 wv443
      replace hW := (wfP_i (wfP_i (wfP_a hW v443) ev443) rv443)
      have uv443 : (0 : Int) ≤ v443.toInt ∧ v443.toInt ≤ 4 := rv443
      refine lv_iconst (v := 2) hx hb dX5_unitCame_145 (by decide) ?_
      refine lv_icmp_eq (tgt := 151) hx hb dX5_unitCame_146 (by decide) (fun c146_444 => ?_) (fun c146_444 => ?_)
      · skip
        replace hW := wfP_i (wfP_l hW) (i_eq c146_444 rfl (rg_i kc_2))
        have ic146_444 := congrArg Int32.toInt c146_444
        have y445 : (2 : Int32).toInt = 2 := by decide
        have q446 : rg (2) (2) v443 := (rg_eq c146_444 rv443 kc_2).1
        have uq446 : (2 : Int) ≤ v443.toInt ∧ v443.toInt ≤ 2 := q446
        refine lv_iload hx hb dX5_unitCame_151 (lv_at hl 1 rfl) ?_
        rcases (show v12.toInt < 8 ∨ 11 < v12.toInt ∨ v12.toInt = 8 ∨ v12.toInt = 9 ∨ v12.toInt = 10 ∨ v12.toInt = 11 by omega) with c153_447 | c153_447 | c153_447 | c153_447 | c153_447 | c153_447
        · skip
          replace hW := wfP_i (wfP_l hW) c153_447
          refine lv_tableOut (tgt := 232) hx hb dX5_unitCame_153 (Or.inl c153_447) (by decide) ?_
          refine lv_aload_n hx hb dX5_unitCame_232 rfl (lv_at hl 3 rfl) ?_
          refine lv_aload_n hx hb dX5_unitCame_233 rfl (lv_at hl 4 rfl) ?_
          refine lv_iconst (v := 0) hx hb dX5_unitCame_234 (by decide) ?_
          refine c_siN (As := [.ref (Z.ad 16 q1), .int (0 : Int32)]) (rest := [.ref (Z.ad 5 i0)]) x hml L10 (d_kwordAt_16 l X g10 q1 (0 : Int32) hX hq1 (rg_w kc_0 rfl) hW) (goodC (wk_all kd_X11_wordAt)) (List.mem_of_getElem? (i := 12) rfl) (wk_in kt_X11_wordAt) (wk_in kn_X11) rfl ⟨rfl, rfl⟩ hd_kwordAt_16 ⟨Nat.le_of_ble_eq_true rfl, Nat.le_of_ble_eq_true rfl⟩ rfl hl.1 rfl (lv_room (Nat.le_of_ble_eq_true rfl)) dX5_unitCame_235 (fun v449 g448 H448 k448 hp448 L448 => ?_)
          obtain ⟨hW, hi448, hp448⟩ := hp448
          replace hW := wfP_i hW ⟨hi448, hp448⟩
          have rv449 : rg (-2147483648) (2147483647) v449 := hp448.2.1
          have uv449 : (-2147483648 : Int) ≤ v449.toInt ∧ v449.toInt ≤ 2147483647 := rv449
          refine lv_aload_n hx hb dX5_unitCame_238 rfl (lv_at hl 4 rfl) ?_
          refine lv_iconst (v := 4) hx hb dX5_unitCame_239 (by decide) ?_
          refine c_siN (As := [.ref (Z.ad 16 q1), .int (4 : Int32)]) (rest := [.int v449, .ref (Z.ad 5 i0)]) x hml L448 (d_kwordAt_16 l X g448 q1 (4 : Int32) hX hq1 (rg_w kc_4 rfl) hW) (goodC (wk_all kd_X11_wordAt)) (List.mem_of_getElem? (i := 12) rfl) (wk_in kt_X11_wordAt) (wk_in kn_X11) rfl ⟨rfl, rfl⟩ hd_kwordAt_16 ⟨Nat.le_of_ble_eq_true rfl, Nat.le_of_ble_eq_true rfl⟩ rfl hl.1 rfl (lv_room (Nat.le_of_ble_eq_true rfl)) dX5_unitCame_240 (fun v451 g450 H450 k450 hp450 L450 => ?_)
          obtain ⟨hW, hi450, hp450⟩ := hp450
          replace hW := wfP_i hW ⟨hi450, hp450⟩
          have rv451 : rg (-2147483648) (2147483647) v451 := hp450.2.1
          have uv451 : (-2147483648 : Int) ≤ v451.toInt ∧ v451.toInt ≤ 2147483647 := rv451
          refine lv_iload hx hb dX5_unitCame_243 (lv_at hl 0 rfl) ?_
          refine c_ci (As := [.int v449, .int v451, .int v13]) (rest := []) x hml L450 5 i0 hal0 rfl (d_kgapCame l X g450 i0 v449 v451 v13 hX (show i0 < 2 * Z.n from (by omega)) (rg_w rv13 rfl) hW) (wk_V kd_X5_gapCame kl_X5_175 ki_X5_gapCame ks_X5_X5_gapCame kn_X5) rfl ⟨rfl, rfl⟩ hd_kgapCame ⟨Nat.le_of_ble_eq_true rfl, Nat.le_of_ble_eq_true rfl⟩ rfl hl.1 rfl (lv_room (Nat.le_of_ble_eq_true rfl)) dX5_unitCame_245 (fun v453 g452 H452 k452 hp452 L452 => ?_)
          obtain ⟨hW, hi452, hp452⟩ := hp452
          replace hW := wfP_i hW ⟨hi452, hp452⟩
          have rv453 : rg (0) (1) v453 := hp452.2.1
          have uv453 : (0 : Int) ≤ v453.toInt ∧ v453.toInt ≤ 1 := rv453
          refine lv_if_eq (tgt := 255) hx hb dX5_unitCame_248 (by decide) (fun c248_454 => ?_) (fun c248_454 => ?_)
          · skip
            replace hW := wfP_i (wfP_l hW) (i_eq c248_454 rfl (rg_i kc_0))
            have ic248_454 := congrArg Int32.toInt c248_454
            have y455 : (0 : Int32).toInt = 0 := by decide
            have q456 : rg (0) (0) v453 := (rg_eq c248_454 rv453 kc_0).1
            have uq456 : (0 : Int) ≤ v453.toInt ∧ v453.toInt ≤ 0 := q456
            refine lv_iconst (v := 2) hx hb dX5_unitCame_255 (by decide) ?_
            exact hQ _ _ (2 : Int32) _ _ _ dX5_unitCame_256 L452 ⟨hW, (mFi.sub (mFi.sub (mFi.sub (mFi.sub (mFi.sub mFi.rf hi1 mSub_nil) hi10 mSub_nil) hi448 mSub_nil) hi450 mSub_nil) hi452 (mSub_eq 5 rfl (mSub_eq 6 rfl (mSub_eq 30 rfl (mSub_eq 32 rfl mSub_nil))))), (mFr.tr (mFr.tr (mFr.tr (mFr.tr (mFr.tr mFr.rf hp1.1 rfl) hp10.1 rfl) hp448.1 rfl) hp450.1 rfl) hp452.1 rfl), rg_w kc_2 rfl, trivial⟩
          · skip
            replace hW := wfP_i (wfP_r hW) (i_ne c248_454 rfl (rg_i kc_0))
            have ic248_454 : v453.toInt ≠ (0 : Int32).toInt := fun z => c248_454 (Int32.toInt_inj.mp z)
            have y457 : (0 : Int32).toInt = 0 := by decide
            have q458 : rg (1) (1) v453 := rg_neL c248_454 rv453 kc_0
            have uq458 : (1 : Int) ≤ v453.toInt ∧ v453.toInt ≤ 1 := q458
            refine lv_iconst (v := 0) hx hb dX5_unitCame_251 (by decide) ?_
            refine lv_goto (tgt := 256) hx hb dX5_unitCame_252 (by decide) ?_
            exact hQ _ _ (0 : Int32) _ _ _ dX5_unitCame_256 L452 ⟨hW, (mFi.sub (mFi.sub (mFi.sub (mFi.sub (mFi.sub mFi.rf hi1 mSub_nil) hi10 mSub_nil) hi448 mSub_nil) hi450 mSub_nil) hi452 (mSub_eq 5 rfl (mSub_eq 6 rfl (mSub_eq 30 rfl (mSub_eq 32 rfl mSub_nil))))), (mFr.tr (mFr.tr (mFr.tr (mFr.tr (mFr.tr mFr.rf hp1.1 rfl) hp10.1 rfl) hp448.1 rfl) hp450.1 rfl) hp452.1 rfl), rg_w kc_0 rfl, trivial⟩
        · skip
          replace hW := wfP_i (wfP_l (wfP_r hW)) c153_447
          refine lv_tableOut (tgt := 232) hx hb dX5_unitCame_153 (Or.inr c153_447) (by decide) ?_
          refine lv_aload_n hx hb dX5_unitCame_232 rfl (lv_at hl 3 rfl) ?_
          refine lv_aload_n hx hb dX5_unitCame_233 rfl (lv_at hl 4 rfl) ?_
          refine lv_iconst (v := 0) hx hb dX5_unitCame_234 (by decide) ?_
          refine c_siN (As := [.ref (Z.ad 16 q1), .int (0 : Int32)]) (rest := [.ref (Z.ad 5 i0)]) x hml L10 (d_kwordAt_16 l X g10 q1 (0 : Int32) hX hq1 (rg_w kc_0 rfl) hW) (goodC (wk_all kd_X11_wordAt)) (List.mem_of_getElem? (i := 12) rfl) (wk_in kt_X11_wordAt) (wk_in kn_X11) rfl ⟨rfl, rfl⟩ hd_kwordAt_16 ⟨Nat.le_of_ble_eq_true rfl, Nat.le_of_ble_eq_true rfl⟩ rfl hl.1 rfl (lv_room (Nat.le_of_ble_eq_true rfl)) dX5_unitCame_235 (fun v460 g459 H459 k459 hp459 L459 => ?_)
          obtain ⟨hW, hi459, hp459⟩ := hp459
          replace hW := wfP_i hW ⟨hi459, hp459⟩
          have rv460 : rg (-2147483648) (2147483647) v460 := hp459.2.1
          have uv460 : (-2147483648 : Int) ≤ v460.toInt ∧ v460.toInt ≤ 2147483647 := rv460
          refine lv_aload_n hx hb dX5_unitCame_238 rfl (lv_at hl 4 rfl) ?_
          refine lv_iconst (v := 4) hx hb dX5_unitCame_239 (by decide) ?_
          refine c_siN (As := [.ref (Z.ad 16 q1), .int (4 : Int32)]) (rest := [.int v460, .ref (Z.ad 5 i0)]) x hml L459 (d_kwordAt_16 l X g459 q1 (4 : Int32) hX hq1 (rg_w kc_4 rfl) hW) (goodC (wk_all kd_X11_wordAt)) (List.mem_of_getElem? (i := 12) rfl) (wk_in kt_X11_wordAt) (wk_in kn_X11) rfl ⟨rfl, rfl⟩ hd_kwordAt_16 ⟨Nat.le_of_ble_eq_true rfl, Nat.le_of_ble_eq_true rfl⟩ rfl hl.1 rfl (lv_room (Nat.le_of_ble_eq_true rfl)) dX5_unitCame_240 (fun v462 g461 H461 k461 hp461 L461 => ?_)
          obtain ⟨hW, hi461, hp461⟩ := hp461
          replace hW := wfP_i hW ⟨hi461, hp461⟩
          have rv462 : rg (-2147483648) (2147483647) v462 := hp461.2.1
          have uv462 : (-2147483648 : Int) ≤ v462.toInt ∧ v462.toInt ≤ 2147483647 := rv462
          refine lv_iload hx hb dX5_unitCame_243 (lv_at hl 0 rfl) ?_
          refine c_ci (As := [.int v460, .int v462, .int v13]) (rest := []) x hml L461 5 i0 hal0 rfl (d_kgapCame l X g461 i0 v460 v462 v13 hX (show i0 < 2 * Z.n from (by omega)) (rg_w rv13 rfl) hW) (wk_V kd_X5_gapCame kl_X5_175 ki_X5_gapCame ks_X5_X5_gapCame kn_X5) rfl ⟨rfl, rfl⟩ hd_kgapCame ⟨Nat.le_of_ble_eq_true rfl, Nat.le_of_ble_eq_true rfl⟩ rfl hl.1 rfl (lv_room (Nat.le_of_ble_eq_true rfl)) dX5_unitCame_245 (fun v464 g463 H463 k463 hp463 L463 => ?_)
          obtain ⟨hW, hi463, hp463⟩ := hp463
          replace hW := wfP_i hW ⟨hi463, hp463⟩
          have rv464 : rg (0) (1) v464 := hp463.2.1
          have uv464 : (0 : Int) ≤ v464.toInt ∧ v464.toInt ≤ 1 := rv464
          refine lv_if_eq (tgt := 255) hx hb dX5_unitCame_248 (by decide) (fun c248_465 => ?_) (fun c248_465 => ?_)
          · skip
            replace hW := wfP_i (wfP_l hW) (i_eq c248_465 rfl (rg_i kc_0))
            have ic248_465 := congrArg Int32.toInt c248_465
            have y466 : (0 : Int32).toInt = 0 := by decide
            have q467 : rg (0) (0) v464 := (rg_eq c248_465 rv464 kc_0).1
            have uq467 : (0 : Int) ≤ v464.toInt ∧ v464.toInt ≤ 0 := q467
            refine lv_iconst (v := 2) hx hb dX5_unitCame_255 (by decide) ?_
            exact hQ _ _ (2 : Int32) _ _ _ dX5_unitCame_256 L463 ⟨hW, (mFi.sub (mFi.sub (mFi.sub (mFi.sub (mFi.sub mFi.rf hi1 mSub_nil) hi10 mSub_nil) hi459 mSub_nil) hi461 mSub_nil) hi463 (mSub_eq 5 rfl (mSub_eq 6 rfl (mSub_eq 30 rfl (mSub_eq 32 rfl mSub_nil))))), (mFr.tr (mFr.tr (mFr.tr (mFr.tr (mFr.tr mFr.rf hp1.1 rfl) hp10.1 rfl) hp459.1 rfl) hp461.1 rfl) hp463.1 rfl), rg_w kc_2 rfl, trivial⟩
          · skip
            replace hW := wfP_i (wfP_r hW) (i_ne c248_465 rfl (rg_i kc_0))
            have ic248_465 : v464.toInt ≠ (0 : Int32).toInt := fun z => c248_465 (Int32.toInt_inj.mp z)
            have y468 : (0 : Int32).toInt = 0 := by decide
            have q469 : rg (1) (1) v464 := rg_neL c248_465 rv464 kc_0
            have uq469 : (1 : Int) ≤ v464.toInt ∧ v464.toInt ≤ 1 := q469
            refine lv_iconst (v := 0) hx hb dX5_unitCame_251 (by decide) ?_
            refine lv_goto (tgt := 256) hx hb dX5_unitCame_252 (by decide) ?_
            exact hQ _ _ (0 : Int32) _ _ _ dX5_unitCame_256 L463 ⟨hW, (mFi.sub (mFi.sub (mFi.sub (mFi.sub (mFi.sub mFi.rf hi1 mSub_nil) hi10 mSub_nil) hi459 mSub_nil) hi461 mSub_nil) hi463 (mSub_eq 5 rfl (mSub_eq 6 rfl (mSub_eq 30 rfl (mSub_eq 32 rfl mSub_nil))))), (mFr.tr (mFr.tr (mFr.tr (mFr.tr (mFr.tr mFr.rf hp1.1 rfl) hp10.1 rfl) hp459.1 rfl) hp461.1 rfl) hp463.1 rfl), rg_w kc_0 rfl, trivial⟩
        · skip
          replace hW := wfP_i (wfP_l (wfP_r (wfP_r hW))) c153_447
          have q470 : rg (8) (8) v12 := ⟨by omega, by omega⟩
          refine lv_tableIn (off := 31) (tgt := 184) hx hb dX5_unitCame_153 (by omega) (by omega) (by rw [c153_447]; rfl) (by decide) ?_
          refine lv_aload_n hx hb dX5_unitCame_184 rfl (lv_at hl 3 rfl) ?_
          refine lv_aload_n hx hb dX5_unitCame_185 rfl (lv_at hl 4 rfl) ?_
          refine lv_iload_n hx hb dX5_unitCame_186 rfl (lv_at hl 5 rfl) ?_
          refine lv_iconst (v := 4) hx hb dX5_unitCame_187 (by decide) ?_
          refine lv_isub hx hb dX5_unitCame_188 ?_
          refine m_top ev8 ?_
          refine lv_iload hx hb dX5_unitCame_189 (lv_at hl 0 rfl) ?_
          refine c_cv (As := [.ref (Z.ad 16 q1), .int v8, .int v13]) (rest := []) x hml L10 5 i0 hal0 rfl (d_kdataCame l X g10 i0 q1 v8 v13 hX (show i0 < 2 * Z.n from (by omega)) hq1 (rg_w rv13 rfl) hW) (wk_V kd_X5_dataCame kl_X5_165 ki_X5_dataCame ks_X5_X5_dataCame kn_X5) rfl ⟨rfl, rfl⟩ hd_kdataCame ⟨Nat.le_of_ble_eq_true rfl, Nat.le_of_ble_eq_true rfl⟩ rfl hl.1 rfl (lv_room (Nat.le_of_ble_eq_true rfl)) dX5_unitCame_191 (fun  g471 H471 k471 hp471 L471 => ?_)
          obtain ⟨hW, hi471, hp471⟩ := hp471
          replace hW := wfP_i hW ⟨hi471, hp471⟩
          refine lv_iconst (v := 0) hx hb dX5_unitCame_194 (by decide) ?_
          exact hQ _ _ (0 : Int32) _ _ _ dX5_unitCame_195 L471 ⟨hW, (mFi.sub (mFi.sub (mFi.sub mFi.rf hi1 mSub_nil) hi10 mSub_nil) hi471 (mSub_eq 0 rfl (mSub_eq 1 rfl (mSub_eq 2 rfl (mSub_eq 10 rfl (mSub_eq 23 rfl (mSub_eq 24 rfl (mSub_eq 25 rfl (mSub_eq 28 rfl (mSub_eq 29 rfl mSub_nil)))))))))), (mFr.tr (mFr.tr (mFr.tr mFr.rf hp1.1 rfl) hp10.1 rfl) hp471.1 rfl), rg_w kc_0 rfl, trivial⟩
        · skip
          replace hW := wfP_i (wfP_l (wfP_r (wfP_r (wfP_r hW)))) c153_447
          have q472 : rg (9) (9) v12 := ⟨by omega, by omega⟩
          refine lv_tableIn (off := 79) (tgt := 232) hx hb dX5_unitCame_153 (by omega) (by omega) (by rw [c153_447]; rfl) (by decide) ?_
          refine lv_aload_n hx hb dX5_unitCame_232 rfl (lv_at hl 3 rfl) ?_
          refine lv_aload_n hx hb dX5_unitCame_233 rfl (lv_at hl 4 rfl) ?_
          refine lv_iconst (v := 0) hx hb dX5_unitCame_234 (by decide) ?_
          refine c_siN (As := [.ref (Z.ad 16 q1), .int (0 : Int32)]) (rest := [.ref (Z.ad 5 i0)]) x hml L10 (d_kwordAt_16 l X g10 q1 (0 : Int32) hX hq1 (rg_w kc_0 rfl) hW) (goodC (wk_all kd_X11_wordAt)) (List.mem_of_getElem? (i := 12) rfl) (wk_in kt_X11_wordAt) (wk_in kn_X11) rfl ⟨rfl, rfl⟩ hd_kwordAt_16 ⟨Nat.le_of_ble_eq_true rfl, Nat.le_of_ble_eq_true rfl⟩ rfl hl.1 rfl (lv_room (Nat.le_of_ble_eq_true rfl)) dX5_unitCame_235 (fun v474 g473 H473 k473 hp473 L473 => ?_)
          obtain ⟨hW, hi473, hp473⟩ := hp473
          replace hW := wfP_i hW ⟨hi473, hp473⟩
          have rv474 : rg (-2147483648) (2147483647) v474 := hp473.2.1
          have uv474 : (-2147483648 : Int) ≤ v474.toInt ∧ v474.toInt ≤ 2147483647 := rv474
          refine lv_aload_n hx hb dX5_unitCame_238 rfl (lv_at hl 4 rfl) ?_
          refine lv_iconst (v := 4) hx hb dX5_unitCame_239 (by decide) ?_
          refine c_siN (As := [.ref (Z.ad 16 q1), .int (4 : Int32)]) (rest := [.int v474, .ref (Z.ad 5 i0)]) x hml L473 (d_kwordAt_16 l X g473 q1 (4 : Int32) hX hq1 (rg_w kc_4 rfl) hW) (goodC (wk_all kd_X11_wordAt)) (List.mem_of_getElem? (i := 12) rfl) (wk_in kt_X11_wordAt) (wk_in kn_X11) rfl ⟨rfl, rfl⟩ hd_kwordAt_16 ⟨Nat.le_of_ble_eq_true rfl, Nat.le_of_ble_eq_true rfl⟩ rfl hl.1 rfl (lv_room (Nat.le_of_ble_eq_true rfl)) dX5_unitCame_240 (fun v476 g475 H475 k475 hp475 L475 => ?_)
          obtain ⟨hW, hi475, hp475⟩ := hp475
          replace hW := wfP_i hW ⟨hi475, hp475⟩
          have rv476 : rg (-2147483648) (2147483647) v476 := hp475.2.1
          have uv476 : (-2147483648 : Int) ≤ v476.toInt ∧ v476.toInt ≤ 2147483647 := rv476
          refine lv_iload hx hb dX5_unitCame_243 (lv_at hl 0 rfl) ?_
          refine c_ci (As := [.int v474, .int v476, .int v13]) (rest := []) x hml L475 5 i0 hal0 rfl (d_kgapCame l X g475 i0 v474 v476 v13 hX (show i0 < 2 * Z.n from (by omega)) (rg_w rv13 rfl) hW) (wk_V kd_X5_gapCame kl_X5_175 ki_X5_gapCame ks_X5_X5_gapCame kn_X5) rfl ⟨rfl, rfl⟩ hd_kgapCame ⟨Nat.le_of_ble_eq_true rfl, Nat.le_of_ble_eq_true rfl⟩ rfl hl.1 rfl (lv_room (Nat.le_of_ble_eq_true rfl)) dX5_unitCame_245 (fun v478 g477 H477 k477 hp477 L477 => ?_)
          obtain ⟨hW, hi477, hp477⟩ := hp477
          replace hW := wfP_i hW ⟨hi477, hp477⟩
          have rv478 : rg (0) (1) v478 := hp477.2.1
          have uv478 : (0 : Int) ≤ v478.toInt ∧ v478.toInt ≤ 1 := rv478
          refine lv_if_eq (tgt := 255) hx hb dX5_unitCame_248 (by decide) (fun c248_479 => ?_) (fun c248_479 => ?_)
          · skip
            replace hW := wfP_i (wfP_l hW) (i_eq c248_479 rfl (rg_i kc_0))
            have ic248_479 := congrArg Int32.toInt c248_479
            have y480 : (0 : Int32).toInt = 0 := by decide
            have q481 : rg (0) (0) v478 := (rg_eq c248_479 rv478 kc_0).1
            have uq481 : (0 : Int) ≤ v478.toInt ∧ v478.toInt ≤ 0 := q481
            refine lv_iconst (v := 2) hx hb dX5_unitCame_255 (by decide) ?_
            exact hQ _ _ (2 : Int32) _ _ _ dX5_unitCame_256 L477 ⟨hW, (mFi.sub (mFi.sub (mFi.sub (mFi.sub (mFi.sub mFi.rf hi1 mSub_nil) hi10 mSub_nil) hi473 mSub_nil) hi475 mSub_nil) hi477 (mSub_eq 5 rfl (mSub_eq 6 rfl (mSub_eq 30 rfl (mSub_eq 32 rfl mSub_nil))))), (mFr.tr (mFr.tr (mFr.tr (mFr.tr (mFr.tr mFr.rf hp1.1 rfl) hp10.1 rfl) hp473.1 rfl) hp475.1 rfl) hp477.1 rfl), rg_w kc_2 rfl, trivial⟩
          · skip
            replace hW := wfP_i (wfP_r hW) (i_ne c248_479 rfl (rg_i kc_0))
            have ic248_479 : v478.toInt ≠ (0 : Int32).toInt := fun z => c248_479 (Int32.toInt_inj.mp z)
            have y482 : (0 : Int32).toInt = 0 := by decide
            have q483 : rg (1) (1) v478 := rg_neL c248_479 rv478 kc_0
            have uq483 : (1 : Int) ≤ v478.toInt ∧ v478.toInt ≤ 1 := q483
            refine lv_iconst (v := 0) hx hb dX5_unitCame_251 (by decide) ?_
            refine lv_goto (tgt := 256) hx hb dX5_unitCame_252 (by decide) ?_
            exact hQ _ _ (0 : Int32) _ _ _ dX5_unitCame_256 L477 ⟨hW, (mFi.sub (mFi.sub (mFi.sub (mFi.sub (mFi.sub mFi.rf hi1 mSub_nil) hi10 mSub_nil) hi473 mSub_nil) hi475 mSub_nil) hi477 (mSub_eq 5 rfl (mSub_eq 6 rfl (mSub_eq 30 rfl (mSub_eq 32 rfl mSub_nil))))), (mFr.tr (mFr.tr (mFr.tr (mFr.tr (mFr.tr mFr.rf hp1.1 rfl) hp10.1 rfl) hp473.1 rfl) hp475.1 rfl) hp477.1 rfl), rg_w kc_0 rfl, trivial⟩
        · skip
          replace hW := wfP_i (wfP_l (wfP_r (wfP_r (wfP_r (wfP_r hW))))) c153_447
          have q484 : rg (10) (10) v12 := ⟨by omega, by omega⟩
          refine lv_tableIn (off := 43) (tgt := 196) hx hb dX5_unitCame_153 (by omega) (by omega) (by rw [c153_447]; rfl) (by decide) ?_
          refine lv_aload_n hx hb dX5_unitCame_196 rfl (lv_at hl 3 rfl) ?_
          refine lv_aload_n hx hb dX5_unitCame_197 rfl (lv_at hl 4 rfl) ?_
          refine lv_iconst (v := 0) hx hb dX5_unitCame_198 (by decide) ?_
          refine c_siN (As := [.ref (Z.ad 16 q1), .int (0 : Int32)]) (rest := [.ref (Z.ad 5 i0)]) x hml L10 (d_kwordAt_16 l X g10 q1 (0 : Int32) hX hq1 (rg_w kc_0 rfl) hW) (goodC (wk_all kd_X11_wordAt)) (List.mem_of_getElem? (i := 12) rfl) (wk_in kt_X11_wordAt) (wk_in kn_X11) rfl ⟨rfl, rfl⟩ hd_kwordAt_16 ⟨Nat.le_of_ble_eq_true rfl, Nat.le_of_ble_eq_true rfl⟩ rfl hl.1 rfl (lv_room (Nat.le_of_ble_eq_true rfl)) dX5_unitCame_199 (fun v486 g485 H485 k485 hp485 L485 => ?_)
          obtain ⟨hW, hi485, hp485⟩ := hp485
          replace hW := wfP_i hW ⟨hi485, hp485⟩
          have rv486 : rg (-2147483648) (2147483647) v486 := hp485.2.1
          have uv486 : (-2147483648 : Int) ≤ v486.toInt ∧ v486.toInt ≤ 2147483647 := rv486
          refine lv_iload hx hb dX5_unitCame_202 (lv_at hl 0 rfl) ?_
          refine c_cv (As := [.int v486, .int v13]) (rest := []) x hml L485 5 i0 hal0 rfl (d_kpollCame l X g485 i0 v486 v13 hX (show i0 < 2 * Z.n from (by omega)) (rg_w rv13 rfl) hW) (wk_V kd_X5_pollCame kl_X5_168 ki_X5_pollCame ks_X5_X5_pollCame kn_X5) rfl ⟨rfl, rfl⟩ hd_kpollCame ⟨Nat.le_of_ble_eq_true rfl, Nat.le_of_ble_eq_true rfl⟩ rfl hl.1 rfl (lv_room (Nat.le_of_ble_eq_true rfl)) dX5_unitCame_204 (fun  g487 H487 k487 hp487 L487 => ?_)
          obtain ⟨hW, hi487, hp487⟩ := hp487
          replace hW := wfP_i hW ⟨hi487, hp487⟩
          refine lv_iconst (v := 0) hx hb dX5_unitCame_207 (by decide) ?_
          exact hQ _ _ (0 : Int32) _ _ _ dX5_unitCame_208 L487 ⟨hW, (mFi.sub (mFi.sub (mFi.sub (mFi.sub mFi.rf hi1 mSub_nil) hi10 mSub_nil) hi485 mSub_nil) hi487 (mSub_eq 0 rfl (mSub_eq 1 rfl (mSub_eq 2 rfl (mSub_eq 10 rfl (mSub_eq 23 rfl (mSub_eq 24 rfl (mSub_eq 25 rfl mSub_nil)))))))), (mFr.tr (mFr.tr (mFr.tr (mFr.tr mFr.rf hp1.1 rfl) hp10.1 rfl) hp485.1 rfl) hp487.1 rfl), rg_w kc_0 rfl, trivial⟩
        · skip
          replace hW := wfP_i (wfP_r (wfP_r (wfP_r (wfP_r (wfP_r hW))))) c153_447
          have q488 : rg (11) (11) v12 := ⟨by omega, by omega⟩
          refine lv_tableIn (off := 56) (tgt := 209) hx hb dX5_unitCame_153 (by omega) (by omega) (by rw [c153_447]; rfl) (by decide) ?_
          refine lv_aload_n hx hb dX5_unitCame_209 rfl (lv_at hl 3 rfl) ?_
          refine lv_aload_n hx hb dX5_unitCame_210 rfl (lv_at hl 4 rfl) ?_
          refine lv_iload_n hx hb dX5_unitCame_211 rfl (lv_at hl 5 rfl) ?_
          refine lv_bipush (v := 12) hx hb dX5_unitCame_212 (by decide) ?_
          refine lv_isub hx hb dX5_unitCame_214 ?_
          refine lv_topi (fun v489 ev489 => ?_)
          have rv489 : rg (-8) (228) v489 := (rg_sub ev489 q7 kc_12 rfl).1
          replace hW := (wfP_i (wfP_i (wfP_i (wfP_a hW v489) ev489) rv489) (w_isub ((rg_sub ev489 q7 kc_12 rfl).2) rfl (rg_i kc_12)))
          have tv489 := (rg_sub ev489 q7 kc_12 rfl).2
          have y490 : (12 : Int32).toInt = 12 := by decide
          have uv489 : (-8 : Int) ≤ v489.toInt ∧ v489.toInt ≤ 228 := rv489
          refine lv_iconst (v := 4) hx hb dX5_unitCame_215 (by decide) ?_
          refine lv_idiv hx hb dX5_unitCame_216 (by decide) ?_
          refine lv_topi (fun v491 ev491 => ?_)
          have rv491 : rg (-2147483648) (2147483647) v491 := rg_any v491
          replace hW := (wfP_i (wfP_i (wfP_a hW v491) ev491) rv491)
          have q492 : rg (-2) (57) v491 := div4 ev491 rv489
          have uv491 : (-2 : Int) ≤ v491.toInt ∧ v491.toInt ≤ 57 := q492
          refine lv_iload hx hb dX5_unitCame_217 (lv_at hl 0 rfl) ?_
          refine lv_iload_n hx hb dX5_unitCame_219 rfl (lv_at hl 6 rfl) ?_
          refine c_ci (As := [.ref (Z.ad 16 q1), .int v491, .int v13, .int p3]) (rest := []) x hml L10 5 i0 hal0 rfl (d_kstatusCame l X g10 i0 q1 v491 v13 p3 hX (show i0 < 2 * Z.n from (by omega)) hq1 (rg_w q492 rfl) (rg_w rv13 rfl) hW) (wk_V kd_X5_statusCame kl_X5_171 ki_X5_statusCame ks_X5_X5_statusCame kn_X5) rfl ⟨rfl, rfl⟩ hd_kstatusCame ⟨Nat.le_of_ble_eq_true rfl, Nat.le_of_ble_eq_true rfl⟩ rfl hl.1 rfl (lv_room (Nat.le_of_ble_eq_true rfl)) dX5_unitCame_220 (fun v494 g493 H493 k493 hp493 L493 => ?_)
          obtain ⟨hW, hi493, hp493⟩ := hp493
          replace hW := wfP_i hW ⟨hi493, hp493⟩
          have rv494 : rg (0) (1) v494 := hp493.2.1
          have uv494 : (0 : Int) ≤ v494.toInt ∧ v494.toInt ≤ 1 := rv494
          refine lv_if_eq (tgt := 230) hx hb dX5_unitCame_223 (by decide) (fun c223_495 => ?_) (fun c223_495 => ?_)
          · skip
            replace hW := wfP_i (wfP_l hW) (i_eq c223_495 rfl (rg_i kc_0))
            have ic223_495 := congrArg Int32.toInt c223_495
            have y496 : (0 : Int32).toInt = 0 := by decide
            have q497 : rg (0) (0) v494 := (rg_eq c223_495 rv494 kc_0).1
            have uq497 : (0 : Int) ≤ v494.toInt ∧ v494.toInt ≤ 0 := q497
            refine lv_iconst (v := 2) hx hb dX5_unitCame_230 (by decide) ?_
            exact hQ _ _ (2 : Int32) _ _ _ dX5_unitCame_231 L493 ⟨hW, (mFi.sub (mFi.sub (mFi.sub mFi.rf hi1 mSub_nil) hi10 mSub_nil) hi493 (mSub_eq 5 rfl (mSub_eq 6 rfl (mSub_eq 8 rfl (mSub_eq 16 rfl (mSub_eq 30 rfl (mSub_eq 32 rfl mSub_nil))))))), (mFr.tr (mFr.tr (mFr.tr mFr.rf hp1.1 rfl) hp10.1 rfl) hp493.1 rfl), rg_w kc_2 rfl, trivial⟩
          · skip
            replace hW := wfP_i (wfP_r hW) (i_ne c223_495 rfl (rg_i kc_0))
            have ic223_495 : v494.toInt ≠ (0 : Int32).toInt := fun z => c223_495 (Int32.toInt_inj.mp z)
            have y498 : (0 : Int32).toInt = 0 := by decide
            have q499 : rg (1) (1) v494 := rg_neL c223_495 rv494 kc_0
            have uq499 : (1 : Int) ≤ v494.toInt ∧ v494.toInt ≤ 1 := q499
            refine lv_iconst (v := 0) hx hb dX5_unitCame_226 (by decide) ?_
            refine lv_goto (tgt := 231) hx hb dX5_unitCame_227 (by decide) ?_
            exact hQ _ _ (0 : Int32) _ _ _ dX5_unitCame_231 L493 ⟨hW, (mFi.sub (mFi.sub (mFi.sub mFi.rf hi1 mSub_nil) hi10 mSub_nil) hi493 (mSub_eq 5 rfl (mSub_eq 6 rfl (mSub_eq 8 rfl (mSub_eq 16 rfl (mSub_eq 30 rfl (mSub_eq 32 rfl mSub_nil))))))), (mFr.tr (mFr.tr (mFr.tr mFr.rf hp1.1 rfl) hp10.1 rfl) hp493.1 rfl), rg_w kc_0 rfl, trivial⟩
      · skip
        replace hW := wfP_i (wfP_r hW) (i_ne c146_444 rfl (rg_i kc_2))
        have ic146_444 : v443.toInt ≠ (2 : Int32).toInt := fun z => c146_444 (Int32.toInt_inj.mp z)
        have y500 : (2 : Int32).toInt = 2 := by decide
        refine lv_iconst (v := 0) hx hb dX5_unitCame_149 (by decide) ?_
        exact hQ _ _ (0 : Int32) _ _ _ dX5_unitCame_150 L10 ⟨hW, (mFi.sub (mFi.sub mFi.rf hi1 mSub_nil) hi10 mSub_nil), (mFr.tr (mFr.tr mFr.rf hp1.1 rfl) hp10.1 rfl), rg_w kc_0 rfl, trivial⟩
    · skip
      replace hW := wfP_i (wfP_l (wfP_r (wfP_r (wfP_r (wfP_r (wfP_r (wfP_r (wfP_r (wfP_r (wfP_r (wfP_r (wfP_r (wfP_r (wfP_r (wfP_r (wfP_r hW)))))))))))))))) c35_14
      have q501 : rg (14) (14) v12 := ⟨by omega, by omega⟩
      refine lv_tableIn (off := 106) (tgt := 141) hx hb dX5_unitCame_35 (by omega) (by omega) (by rw [c35_14]; rfl) (by decide) ?_
      refine lv_aload_n hx hb dX5_unitCame_141 rfl (lv_at hl 3 rfl) ?_
      refine c_geti x L10 5 i0 4 164 hal0 rfl rfl (wk_in kf_X5_26) dX5_unitCame_142 (fun v502 ev502 wv502 => ?_)
      have rv502 : rg (0) (4) v502 := clj_164 wv502
      replace hW := (wfP_i (wfP_i (wfP_a hW v502) ev502) rv502)
      have uv502 : (0 : Int) ≤ v502.toInt ∧ v502.toInt ≤ 4 := rv502
      refine lv_iconst (v := 2) hx hb dX5_unitCame_145 (by decide) ?_
      refine lv_icmp_eq (tgt := 151) hx hb dX5_unitCame_146 (by decide) (fun c146_503 => ?_) (fun c146_503 => ?_)
      · skip
        replace hW := wfP_i (wfP_l hW) (i_eq c146_503 rfl (rg_i kc_2))
        have ic146_503 := congrArg Int32.toInt c146_503
        have y504 : (2 : Int32).toInt = 2 := by decide
        have q505 : rg (2) (2) v502 := (rg_eq c146_503 rv502 kc_2).1
        have uq505 : (2 : Int) ≤ v502.toInt ∧ v502.toInt ≤ 2 := q505
        refine lv_iload hx hb dX5_unitCame_151 (lv_at hl 1 rfl) ?_
        rcases (show v12.toInt < 8 ∨ 11 < v12.toInt ∨ v12.toInt = 8 ∨ v12.toInt = 9 ∨ v12.toInt = 10 ∨ v12.toInt = 11 by omega) with c153_506 | c153_506 | c153_506 | c153_506 | c153_506 | c153_506
        · skip
          replace hW := wfP_i (wfP_l hW) c153_506
          refine lv_tableOut (tgt := 232) hx hb dX5_unitCame_153 (Or.inl c153_506) (by decide) ?_
          refine lv_aload_n hx hb dX5_unitCame_232 rfl (lv_at hl 3 rfl) ?_
          refine lv_aload_n hx hb dX5_unitCame_233 rfl (lv_at hl 4 rfl) ?_
          refine lv_iconst (v := 0) hx hb dX5_unitCame_234 (by decide) ?_
          refine c_siN (As := [.ref (Z.ad 16 q1), .int (0 : Int32)]) (rest := [.ref (Z.ad 5 i0)]) x hml L10 (d_kwordAt_16 l X g10 q1 (0 : Int32) hX hq1 (rg_w kc_0 rfl) hW) (goodC (wk_all kd_X11_wordAt)) (List.mem_of_getElem? (i := 12) rfl) (wk_in kt_X11_wordAt) (wk_in kn_X11) rfl ⟨rfl, rfl⟩ hd_kwordAt_16 ⟨Nat.le_of_ble_eq_true rfl, Nat.le_of_ble_eq_true rfl⟩ rfl hl.1 rfl (lv_room (Nat.le_of_ble_eq_true rfl)) dX5_unitCame_235 (fun v508 g507 H507 k507 hp507 L507 => ?_)
          obtain ⟨hW, hi507, hp507⟩ := hp507
          replace hW := wfP_i hW ⟨hi507, hp507⟩
          have rv508 : rg (-2147483648) (2147483647) v508 := hp507.2.1
          have uv508 : (-2147483648 : Int) ≤ v508.toInt ∧ v508.toInt ≤ 2147483647 := rv508
          refine lv_aload_n hx hb dX5_unitCame_238 rfl (lv_at hl 4 rfl) ?_
          refine lv_iconst (v := 4) hx hb dX5_unitCame_239 (by decide) ?_
          refine c_siN (As := [.ref (Z.ad 16 q1), .int (4 : Int32)]) (rest := [.int v508, .ref (Z.ad 5 i0)]) x hml L507 (d_kwordAt_16 l X g507 q1 (4 : Int32) hX hq1 (rg_w kc_4 rfl) hW) (goodC (wk_all kd_X11_wordAt)) (List.mem_of_getElem? (i := 12) rfl) (wk_in kt_X11_wordAt) (wk_in kn_X11) rfl ⟨rfl, rfl⟩ hd_kwordAt_16 ⟨Nat.le_of_ble_eq_true rfl, Nat.le_of_ble_eq_true rfl⟩ rfl hl.1 rfl (lv_room (Nat.le_of_ble_eq_true rfl)) dX5_unitCame_240 (fun v510 g509 H509 k509 hp509 L509 => ?_)
          obtain ⟨hW, hi509, hp509⟩ := hp509
          replace hW := wfP_i hW ⟨hi509, hp509⟩
          have rv510 : rg (-2147483648) (2147483647) v510 := hp509.2.1
          have uv510 : (-2147483648 : Int) ≤ v510.toInt ∧ v510.toInt ≤ 2147483647 := rv510
          refine lv_iload hx hb dX5_unitCame_243 (lv_at hl 0 rfl) ?_
          refine c_ci (As := [.int v508, .int v510, .int v13]) (rest := []) x hml L509 5 i0 hal0 rfl (d_kgapCame l X g509 i0 v508 v510 v13 hX (show i0 < 2 * Z.n from (by omega)) (rg_w rv13 rfl) hW) (wk_V kd_X5_gapCame kl_X5_175 ki_X5_gapCame ks_X5_X5_gapCame kn_X5) rfl ⟨rfl, rfl⟩ hd_kgapCame ⟨Nat.le_of_ble_eq_true rfl, Nat.le_of_ble_eq_true rfl⟩ rfl hl.1 rfl (lv_room (Nat.le_of_ble_eq_true rfl)) dX5_unitCame_245 (fun v512 g511 H511 k511 hp511 L511 => ?_)
          obtain ⟨hW, hi511, hp511⟩ := hp511
          replace hW := wfP_i hW ⟨hi511, hp511⟩
          have rv512 : rg (0) (1) v512 := hp511.2.1
          have uv512 : (0 : Int) ≤ v512.toInt ∧ v512.toInt ≤ 1 := rv512
          refine lv_if_eq (tgt := 255) hx hb dX5_unitCame_248 (by decide) (fun c248_513 => ?_) (fun c248_513 => ?_)
          · skip
            replace hW := wfP_i (wfP_l hW) (i_eq c248_513 rfl (rg_i kc_0))
            have ic248_513 := congrArg Int32.toInt c248_513
            have y514 : (0 : Int32).toInt = 0 := by decide
            have q515 : rg (0) (0) v512 := (rg_eq c248_513 rv512 kc_0).1
            have uq515 : (0 : Int) ≤ v512.toInt ∧ v512.toInt ≤ 0 := q515
            refine lv_iconst (v := 2) hx hb dX5_unitCame_255 (by decide) ?_
            exact hQ _ _ (2 : Int32) _ _ _ dX5_unitCame_256 L511 ⟨hW, (mFi.sub (mFi.sub (mFi.sub (mFi.sub (mFi.sub mFi.rf hi1 mSub_nil) hi10 mSub_nil) hi507 mSub_nil) hi509 mSub_nil) hi511 (mSub_eq 5 rfl (mSub_eq 6 rfl (mSub_eq 30 rfl (mSub_eq 32 rfl mSub_nil))))), (mFr.tr (mFr.tr (mFr.tr (mFr.tr (mFr.tr mFr.rf hp1.1 rfl) hp10.1 rfl) hp507.1 rfl) hp509.1 rfl) hp511.1 rfl), rg_w kc_2 rfl, trivial⟩
          · skip
            replace hW := wfP_i (wfP_r hW) (i_ne c248_513 rfl (rg_i kc_0))
            have ic248_513 : v512.toInt ≠ (0 : Int32).toInt := fun z => c248_513 (Int32.toInt_inj.mp z)
            have y516 : (0 : Int32).toInt = 0 := by decide
            have q517 : rg (1) (1) v512 := rg_neL c248_513 rv512 kc_0
            have uq517 : (1 : Int) ≤ v512.toInt ∧ v512.toInt ≤ 1 := q517
            refine lv_iconst (v := 0) hx hb dX5_unitCame_251 (by decide) ?_
            refine lv_goto (tgt := 256) hx hb dX5_unitCame_252 (by decide) ?_
            exact hQ _ _ (0 : Int32) _ _ _ dX5_unitCame_256 L511 ⟨hW, (mFi.sub (mFi.sub (mFi.sub (mFi.sub (mFi.sub mFi.rf hi1 mSub_nil) hi10 mSub_nil) hi507 mSub_nil) hi509 mSub_nil) hi511 (mSub_eq 5 rfl (mSub_eq 6 rfl (mSub_eq 30 rfl (mSub_eq 32 rfl mSub_nil))))), (mFr.tr (mFr.tr (mFr.tr (mFr.tr (mFr.tr mFr.rf hp1.1 rfl) hp10.1 rfl) hp507.1 rfl) hp509.1 rfl) hp511.1 rfl), rg_w kc_0 rfl, trivial⟩
        · skip
          replace hW := wfP_i (wfP_l (wfP_r hW)) c153_506
          refine lv_tableOut (tgt := 232) hx hb dX5_unitCame_153 (Or.inr c153_506) (by decide) ?_
          refine lv_aload_n hx hb dX5_unitCame_232 rfl (lv_at hl 3 rfl) ?_
          refine lv_aload_n hx hb dX5_unitCame_233 rfl (lv_at hl 4 rfl) ?_
          refine lv_iconst (v := 0) hx hb dX5_unitCame_234 (by decide) ?_
          refine c_siN (As := [.ref (Z.ad 16 q1), .int (0 : Int32)]) (rest := [.ref (Z.ad 5 i0)]) x hml L10 (d_kwordAt_16 l X g10 q1 (0 : Int32) hX hq1 (rg_w kc_0 rfl) hW) (goodC (wk_all kd_X11_wordAt)) (List.mem_of_getElem? (i := 12) rfl) (wk_in kt_X11_wordAt) (wk_in kn_X11) rfl ⟨rfl, rfl⟩ hd_kwordAt_16 ⟨Nat.le_of_ble_eq_true rfl, Nat.le_of_ble_eq_true rfl⟩ rfl hl.1 rfl (lv_room (Nat.le_of_ble_eq_true rfl)) dX5_unitCame_235 (fun v519 g518 H518 k518 hp518 L518 => ?_)
          obtain ⟨hW, hi518, hp518⟩ := hp518
          replace hW := wfP_i hW ⟨hi518, hp518⟩
          have rv519 : rg (-2147483648) (2147483647) v519 := hp518.2.1
          have uv519 : (-2147483648 : Int) ≤ v519.toInt ∧ v519.toInt ≤ 2147483647 := rv519
          refine lv_aload_n hx hb dX5_unitCame_238 rfl (lv_at hl 4 rfl) ?_
          refine lv_iconst (v := 4) hx hb dX5_unitCame_239 (by decide) ?_
          refine c_siN (As := [.ref (Z.ad 16 q1), .int (4 : Int32)]) (rest := [.int v519, .ref (Z.ad 5 i0)]) x hml L518 (d_kwordAt_16 l X g518 q1 (4 : Int32) hX hq1 (rg_w kc_4 rfl) hW) (goodC (wk_all kd_X11_wordAt)) (List.mem_of_getElem? (i := 12) rfl) (wk_in kt_X11_wordAt) (wk_in kn_X11) rfl ⟨rfl, rfl⟩ hd_kwordAt_16 ⟨Nat.le_of_ble_eq_true rfl, Nat.le_of_ble_eq_true rfl⟩ rfl hl.1 rfl (lv_room (Nat.le_of_ble_eq_true rfl)) dX5_unitCame_240 (fun v521 g520 H520 k520 hp520 L520 => ?_)
          obtain ⟨hW, hi520, hp520⟩ := hp520
          replace hW := wfP_i hW ⟨hi520, hp520⟩
          have rv521 : rg (-2147483648) (2147483647) v521 := hp520.2.1
          have uv521 : (-2147483648 : Int) ≤ v521.toInt ∧ v521.toInt ≤ 2147483647 := rv521
          refine lv_iload hx hb dX5_unitCame_243 (lv_at hl 0 rfl) ?_
          refine c_ci (As := [.int v519, .int v521, .int v13]) (rest := []) x hml L520 5 i0 hal0 rfl (d_kgapCame l X g520 i0 v519 v521 v13 hX (show i0 < 2 * Z.n from (by omega)) (rg_w rv13 rfl) hW) (wk_V kd_X5_gapCame kl_X5_175 ki_X5_gapCame ks_X5_X5_gapCame kn_X5) rfl ⟨rfl, rfl⟩ hd_kgapCame ⟨Nat.le_of_ble_eq_true rfl, Nat.le_of_ble_eq_true rfl⟩ rfl hl.1 rfl (lv_room (Nat.le_of_ble_eq_true rfl)) dX5_unitCame_245 (fun v523 g522 H522 k522 hp522 L522 => ?_)
          obtain ⟨hW, hi522, hp522⟩ := hp522
          replace hW := wfP_i hW ⟨hi522, hp522⟩
          have rv523 : rg (0) (1) v523 := hp522.2.1
          have uv523 : (0 : Int) ≤ v523.toInt ∧ v523.toInt ≤ 1 := rv523
          refine lv_if_eq (tgt := 255) hx hb dX5_unitCame_248 (by decide) (fun c248_524 => ?_) (fun c248_524 => ?_)
          · skip
            replace hW := wfP_i (wfP_l hW) (i_eq c248_524 rfl (rg_i kc_0))
            have ic248_524 := congrArg Int32.toInt c248_524
            have y525 : (0 : Int32).toInt = 0 := by decide
            have q526 : rg (0) (0) v523 := (rg_eq c248_524 rv523 kc_0).1
            have uq526 : (0 : Int) ≤ v523.toInt ∧ v523.toInt ≤ 0 := q526
            refine lv_iconst (v := 2) hx hb dX5_unitCame_255 (by decide) ?_
            exact hQ _ _ (2 : Int32) _ _ _ dX5_unitCame_256 L522 ⟨hW, (mFi.sub (mFi.sub (mFi.sub (mFi.sub (mFi.sub mFi.rf hi1 mSub_nil) hi10 mSub_nil) hi518 mSub_nil) hi520 mSub_nil) hi522 (mSub_eq 5 rfl (mSub_eq 6 rfl (mSub_eq 30 rfl (mSub_eq 32 rfl mSub_nil))))), (mFr.tr (mFr.tr (mFr.tr (mFr.tr (mFr.tr mFr.rf hp1.1 rfl) hp10.1 rfl) hp518.1 rfl) hp520.1 rfl) hp522.1 rfl), rg_w kc_2 rfl, trivial⟩
          · skip
            replace hW := wfP_i (wfP_r hW) (i_ne c248_524 rfl (rg_i kc_0))
            have ic248_524 : v523.toInt ≠ (0 : Int32).toInt := fun z => c248_524 (Int32.toInt_inj.mp z)
            have y527 : (0 : Int32).toInt = 0 := by decide
            have q528 : rg (1) (1) v523 := rg_neL c248_524 rv523 kc_0
            have uq528 : (1 : Int) ≤ v523.toInt ∧ v523.toInt ≤ 1 := q528
            refine lv_iconst (v := 0) hx hb dX5_unitCame_251 (by decide) ?_
            refine lv_goto (tgt := 256) hx hb dX5_unitCame_252 (by decide) ?_
            exact hQ _ _ (0 : Int32) _ _ _ dX5_unitCame_256 L522 ⟨hW, (mFi.sub (mFi.sub (mFi.sub (mFi.sub (mFi.sub mFi.rf hi1 mSub_nil) hi10 mSub_nil) hi518 mSub_nil) hi520 mSub_nil) hi522 (mSub_eq 5 rfl (mSub_eq 6 rfl (mSub_eq 30 rfl (mSub_eq 32 rfl mSub_nil))))), (mFr.tr (mFr.tr (mFr.tr (mFr.tr (mFr.tr mFr.rf hp1.1 rfl) hp10.1 rfl) hp518.1 rfl) hp520.1 rfl) hp522.1 rfl), rg_w kc_0 rfl, trivial⟩
        · skip
          replace hW := wfP_i (wfP_l (wfP_r (wfP_r hW))) c153_506
          have q529 : rg (8) (8) v12 := ⟨by omega, by omega⟩
          refine lv_tableIn (off := 31) (tgt := 184) hx hb dX5_unitCame_153 (by omega) (by omega) (by rw [c153_506]; rfl) (by decide) ?_
          refine lv_aload_n hx hb dX5_unitCame_184 rfl (lv_at hl 3 rfl) ?_
          refine lv_aload_n hx hb dX5_unitCame_185 rfl (lv_at hl 4 rfl) ?_
          refine lv_iload_n hx hb dX5_unitCame_186 rfl (lv_at hl 5 rfl) ?_
          refine lv_iconst (v := 4) hx hb dX5_unitCame_187 (by decide) ?_
          refine lv_isub hx hb dX5_unitCame_188 ?_
          refine m_top ev8 ?_
          refine lv_iload hx hb dX5_unitCame_189 (lv_at hl 0 rfl) ?_
          refine c_cv (As := [.ref (Z.ad 16 q1), .int v8, .int v13]) (rest := []) x hml L10 5 i0 hal0 rfl (d_kdataCame l X g10 i0 q1 v8 v13 hX (show i0 < 2 * Z.n from (by omega)) hq1 (rg_w rv13 rfl) hW) (wk_V kd_X5_dataCame kl_X5_165 ki_X5_dataCame ks_X5_X5_dataCame kn_X5) rfl ⟨rfl, rfl⟩ hd_kdataCame ⟨Nat.le_of_ble_eq_true rfl, Nat.le_of_ble_eq_true rfl⟩ rfl hl.1 rfl (lv_room (Nat.le_of_ble_eq_true rfl)) dX5_unitCame_191 (fun  g530 H530 k530 hp530 L530 => ?_)
          obtain ⟨hW, hi530, hp530⟩ := hp530
          replace hW := wfP_i hW ⟨hi530, hp530⟩
          refine lv_iconst (v := 0) hx hb dX5_unitCame_194 (by decide) ?_
          exact hQ _ _ (0 : Int32) _ _ _ dX5_unitCame_195 L530 ⟨hW, (mFi.sub (mFi.sub (mFi.sub mFi.rf hi1 mSub_nil) hi10 mSub_nil) hi530 (mSub_eq 0 rfl (mSub_eq 1 rfl (mSub_eq 2 rfl (mSub_eq 10 rfl (mSub_eq 23 rfl (mSub_eq 24 rfl (mSub_eq 25 rfl (mSub_eq 28 rfl (mSub_eq 29 rfl mSub_nil)))))))))), (mFr.tr (mFr.tr (mFr.tr mFr.rf hp1.1 rfl) hp10.1 rfl) hp530.1 rfl), rg_w kc_0 rfl, trivial⟩
        · skip
          replace hW := wfP_i (wfP_l (wfP_r (wfP_r (wfP_r hW)))) c153_506
          have q531 : rg (9) (9) v12 := ⟨by omega, by omega⟩
          refine lv_tableIn (off := 79) (tgt := 232) hx hb dX5_unitCame_153 (by omega) (by omega) (by rw [c153_506]; rfl) (by decide) ?_
          refine lv_aload_n hx hb dX5_unitCame_232 rfl (lv_at hl 3 rfl) ?_
          refine lv_aload_n hx hb dX5_unitCame_233 rfl (lv_at hl 4 rfl) ?_
          refine lv_iconst (v := 0) hx hb dX5_unitCame_234 (by decide) ?_
          refine c_siN (As := [.ref (Z.ad 16 q1), .int (0 : Int32)]) (rest := [.ref (Z.ad 5 i0)]) x hml L10 (d_kwordAt_16 l X g10 q1 (0 : Int32) hX hq1 (rg_w kc_0 rfl) hW) (goodC (wk_all kd_X11_wordAt)) (List.mem_of_getElem? (i := 12) rfl) (wk_in kt_X11_wordAt) (wk_in kn_X11) rfl ⟨rfl, rfl⟩ hd_kwordAt_16 ⟨Nat.le_of_ble_eq_true rfl, Nat.le_of_ble_eq_true rfl⟩ rfl hl.1 rfl (lv_room (Nat.le_of_ble_eq_true rfl)) dX5_unitCame_235 (fun v533 g532 H532 k532 hp532 L532 => ?_)
          obtain ⟨hW, hi532, hp532⟩ := hp532
          replace hW := wfP_i hW ⟨hi532, hp532⟩
          have rv533 : rg (-2147483648) (2147483647) v533 := hp532.2.1
          have uv533 : (-2147483648 : Int) ≤ v533.toInt ∧ v533.toInt ≤ 2147483647 := rv533
          refine lv_aload_n hx hb dX5_unitCame_238 rfl (lv_at hl 4 rfl) ?_
          refine lv_iconst (v := 4) hx hb dX5_unitCame_239 (by decide) ?_
          refine c_siN (As := [.ref (Z.ad 16 q1), .int (4 : Int32)]) (rest := [.int v533, .ref (Z.ad 5 i0)]) x hml L532 (d_kwordAt_16 l X g532 q1 (4 : Int32) hX hq1 (rg_w kc_4 rfl) hW) (goodC (wk_all kd_X11_wordAt)) (List.mem_of_getElem? (i := 12) rfl) (wk_in kt_X11_wordAt) (wk_in kn_X11) rfl ⟨rfl, rfl⟩ hd_kwordAt_16 ⟨Nat.le_of_ble_eq_true rfl, Nat.le_of_ble_eq_true rfl⟩ rfl hl.1 rfl (lv_room (Nat.le_of_ble_eq_true rfl)) dX5_unitCame_240 (fun v535 g534 H534 k534 hp534 L534 => ?_)
          obtain ⟨hW, hi534, hp534⟩ := hp534
          replace hW := wfP_i hW ⟨hi534, hp534⟩
          have rv535 : rg (-2147483648) (2147483647) v535 := hp534.2.1
          have uv535 : (-2147483648 : Int) ≤ v535.toInt ∧ v535.toInt ≤ 2147483647 := rv535
          refine lv_iload hx hb dX5_unitCame_243 (lv_at hl 0 rfl) ?_
          refine c_ci (As := [.int v533, .int v535, .int v13]) (rest := []) x hml L534 5 i0 hal0 rfl (d_kgapCame l X g534 i0 v533 v535 v13 hX (show i0 < 2 * Z.n from (by omega)) (rg_w rv13 rfl) hW) (wk_V kd_X5_gapCame kl_X5_175 ki_X5_gapCame ks_X5_X5_gapCame kn_X5) rfl ⟨rfl, rfl⟩ hd_kgapCame ⟨Nat.le_of_ble_eq_true rfl, Nat.le_of_ble_eq_true rfl⟩ rfl hl.1 rfl (lv_room (Nat.le_of_ble_eq_true rfl)) dX5_unitCame_245 (fun v537 g536 H536 k536 hp536 L536 => ?_)
          obtain ⟨hW, hi536, hp536⟩ := hp536
          replace hW := wfP_i hW ⟨hi536, hp536⟩
          have rv537 : rg (0) (1) v537 := hp536.2.1
          have uv537 : (0 : Int) ≤ v537.toInt ∧ v537.toInt ≤ 1 := rv537
          refine lv_if_eq (tgt := 255) hx hb dX5_unitCame_248 (by decide) (fun c248_538 => ?_) (fun c248_538 => ?_)
          · skip
            replace hW := wfP_i (wfP_l hW) (i_eq c248_538 rfl (rg_i kc_0))
            have ic248_538 := congrArg Int32.toInt c248_538
            have y539 : (0 : Int32).toInt = 0 := by decide
            have q540 : rg (0) (0) v537 := (rg_eq c248_538 rv537 kc_0).1
            have uq540 : (0 : Int) ≤ v537.toInt ∧ v537.toInt ≤ 0 := q540
            refine lv_iconst (v := 2) hx hb dX5_unitCame_255 (by decide) ?_
            exact hQ _ _ (2 : Int32) _ _ _ dX5_unitCame_256 L536 ⟨hW, (mFi.sub (mFi.sub (mFi.sub (mFi.sub (mFi.sub mFi.rf hi1 mSub_nil) hi10 mSub_nil) hi532 mSub_nil) hi534 mSub_nil) hi536 (mSub_eq 5 rfl (mSub_eq 6 rfl (mSub_eq 30 rfl (mSub_eq 32 rfl mSub_nil))))), (mFr.tr (mFr.tr (mFr.tr (mFr.tr (mFr.tr mFr.rf hp1.1 rfl) hp10.1 rfl) hp532.1 rfl) hp534.1 rfl) hp536.1 rfl), rg_w kc_2 rfl, trivial⟩
          · skip
            replace hW := wfP_i (wfP_r hW) (i_ne c248_538 rfl (rg_i kc_0))
            have ic248_538 : v537.toInt ≠ (0 : Int32).toInt := fun z => c248_538 (Int32.toInt_inj.mp z)
            have y541 : (0 : Int32).toInt = 0 := by decide
            have q542 : rg (1) (1) v537 := rg_neL c248_538 rv537 kc_0
            have uq542 : (1 : Int) ≤ v537.toInt ∧ v537.toInt ≤ 1 := q542
            refine lv_iconst (v := 0) hx hb dX5_unitCame_251 (by decide) ?_
            refine lv_goto (tgt := 256) hx hb dX5_unitCame_252 (by decide) ?_
            exact hQ _ _ (0 : Int32) _ _ _ dX5_unitCame_256 L536 ⟨hW, (mFi.sub (mFi.sub (mFi.sub (mFi.sub (mFi.sub mFi.rf hi1 mSub_nil) hi10 mSub_nil) hi532 mSub_nil) hi534 mSub_nil) hi536 (mSub_eq 5 rfl (mSub_eq 6 rfl (mSub_eq 30 rfl (mSub_eq 32 rfl mSub_nil))))), (mFr.tr (mFr.tr (mFr.tr (mFr.tr (mFr.tr mFr.rf hp1.1 rfl) hp10.1 rfl) hp532.1 rfl) hp534.1 rfl) hp536.1 rfl), rg_w kc_0 rfl, trivial⟩
        · skip
          replace hW := wfP_i (wfP_l (wfP_r (wfP_r (wfP_r (wfP_r hW))))) c153_506
          have q543 : rg (10) (10) v12 := ⟨by omega, by omega⟩
          refine lv_tableIn (off := 43) (tgt := 196) hx hb dX5_unitCame_153 (by omega) (by omega) (by rw [c153_506]; rfl) (by decide) ?_
          refine lv_aload_n hx hb dX5_unitCame_196 rfl (lv_at hl 3 rfl) ?_
          refine lv_aload_n hx hb dX5_unitCame_197 rfl (lv_at hl 4 rfl) ?_
          refine lv_iconst (v := 0) hx hb dX5_unitCame_198 (by decide) ?_
          refine c_siN (As := [.ref (Z.ad 16 q1), .int (0 : Int32)]) (rest := [.ref (Z.ad 5 i0)]) x hml L10 (d_kwordAt_16 l X g10 q1 (0 : Int32) hX hq1 (rg_w kc_0 rfl) hW) (goodC (wk_all kd_X11_wordAt)) (List.mem_of_getElem? (i := 12) rfl) (wk_in kt_X11_wordAt) (wk_in kn_X11) rfl ⟨rfl, rfl⟩ hd_kwordAt_16 ⟨Nat.le_of_ble_eq_true rfl, Nat.le_of_ble_eq_true rfl⟩ rfl hl.1 rfl (lv_room (Nat.le_of_ble_eq_true rfl)) dX5_unitCame_199 (fun v545 g544 H544 k544 hp544 L544 => ?_)
          obtain ⟨hW, hi544, hp544⟩ := hp544
          replace hW := wfP_i hW ⟨hi544, hp544⟩
          have rv545 : rg (-2147483648) (2147483647) v545 := hp544.2.1
          have uv545 : (-2147483648 : Int) ≤ v545.toInt ∧ v545.toInt ≤ 2147483647 := rv545
          refine lv_iload hx hb dX5_unitCame_202 (lv_at hl 0 rfl) ?_
          refine c_cv (As := [.int v545, .int v13]) (rest := []) x hml L544 5 i0 hal0 rfl (d_kpollCame l X g544 i0 v545 v13 hX (show i0 < 2 * Z.n from (by omega)) (rg_w rv13 rfl) hW) (wk_V kd_X5_pollCame kl_X5_168 ki_X5_pollCame ks_X5_X5_pollCame kn_X5) rfl ⟨rfl, rfl⟩ hd_kpollCame ⟨Nat.le_of_ble_eq_true rfl, Nat.le_of_ble_eq_true rfl⟩ rfl hl.1 rfl (lv_room (Nat.le_of_ble_eq_true rfl)) dX5_unitCame_204 (fun  g546 H546 k546 hp546 L546 => ?_)
          obtain ⟨hW, hi546, hp546⟩ := hp546
          replace hW := wfP_i hW ⟨hi546, hp546⟩
          refine lv_iconst (v := 0) hx hb dX5_unitCame_207 (by decide) ?_
          exact hQ _ _ (0 : Int32) _ _ _ dX5_unitCame_208 L546 ⟨hW, (mFi.sub (mFi.sub (mFi.sub (mFi.sub mFi.rf hi1 mSub_nil) hi10 mSub_nil) hi544 mSub_nil) hi546 (mSub_eq 0 rfl (mSub_eq 1 rfl (mSub_eq 2 rfl (mSub_eq 10 rfl (mSub_eq 23 rfl (mSub_eq 24 rfl (mSub_eq 25 rfl mSub_nil)))))))), (mFr.tr (mFr.tr (mFr.tr (mFr.tr mFr.rf hp1.1 rfl) hp10.1 rfl) hp544.1 rfl) hp546.1 rfl), rg_w kc_0 rfl, trivial⟩
        · skip
          replace hW := wfP_i (wfP_r (wfP_r (wfP_r (wfP_r (wfP_r hW))))) c153_506
          have q547 : rg (11) (11) v12 := ⟨by omega, by omega⟩
          refine lv_tableIn (off := 56) (tgt := 209) hx hb dX5_unitCame_153 (by omega) (by omega) (by rw [c153_506]; rfl) (by decide) ?_
          refine lv_aload_n hx hb dX5_unitCame_209 rfl (lv_at hl 3 rfl) ?_
          refine lv_aload_n hx hb dX5_unitCame_210 rfl (lv_at hl 4 rfl) ?_
          refine lv_iload_n hx hb dX5_unitCame_211 rfl (lv_at hl 5 rfl) ?_
          refine lv_bipush (v := 12) hx hb dX5_unitCame_212 (by decide) ?_
          refine lv_isub hx hb dX5_unitCame_214 ?_
          refine lv_topi (fun v548 ev548 => ?_)
          have rv548 : rg (-8) (228) v548 := (rg_sub ev548 q7 kc_12 rfl).1
          replace hW := (wfP_i (wfP_i (wfP_i (wfP_a hW v548) ev548) rv548) (w_isub ((rg_sub ev548 q7 kc_12 rfl).2) rfl (rg_i kc_12)))
          have tv548 := (rg_sub ev548 q7 kc_12 rfl).2
          have y549 : (12 : Int32).toInt = 12 := by decide
          have uv548 : (-8 : Int) ≤ v548.toInt ∧ v548.toInt ≤ 228 := rv548
          refine lv_iconst (v := 4) hx hb dX5_unitCame_215 (by decide) ?_
          refine lv_idiv hx hb dX5_unitCame_216 (by decide) ?_
          refine lv_topi (fun v550 ev550 => ?_)
          have rv550 : rg (-2147483648) (2147483647) v550 := rg_any v550
          replace hW := (wfP_i (wfP_i (wfP_a hW v550) ev550) rv550)
          have q551 : rg (-2) (57) v550 := div4 ev550 rv548
          have uv550 : (-2 : Int) ≤ v550.toInt ∧ v550.toInt ≤ 57 := q551
          refine lv_iload hx hb dX5_unitCame_217 (lv_at hl 0 rfl) ?_
          refine lv_iload_n hx hb dX5_unitCame_219 rfl (lv_at hl 6 rfl) ?_
          refine c_ci (As := [.ref (Z.ad 16 q1), .int v550, .int v13, .int p3]) (rest := []) x hml L10 5 i0 hal0 rfl (d_kstatusCame l X g10 i0 q1 v550 v13 p3 hX (show i0 < 2 * Z.n from (by omega)) hq1 (rg_w q551 rfl) (rg_w rv13 rfl) hW) (wk_V kd_X5_statusCame kl_X5_171 ki_X5_statusCame ks_X5_X5_statusCame kn_X5) rfl ⟨rfl, rfl⟩ hd_kstatusCame ⟨Nat.le_of_ble_eq_true rfl, Nat.le_of_ble_eq_true rfl⟩ rfl hl.1 rfl (lv_room (Nat.le_of_ble_eq_true rfl)) dX5_unitCame_220 (fun v553 g552 H552 k552 hp552 L552 => ?_)
          obtain ⟨hW, hi552, hp552⟩ := hp552
          replace hW := wfP_i hW ⟨hi552, hp552⟩
          have rv553 : rg (0) (1) v553 := hp552.2.1
          have uv553 : (0 : Int) ≤ v553.toInt ∧ v553.toInt ≤ 1 := rv553
          refine lv_if_eq (tgt := 230) hx hb dX5_unitCame_223 (by decide) (fun c223_554 => ?_) (fun c223_554 => ?_)
          · skip
            replace hW := wfP_i (wfP_l hW) (i_eq c223_554 rfl (rg_i kc_0))
            have ic223_554 := congrArg Int32.toInt c223_554
            have y555 : (0 : Int32).toInt = 0 := by decide
            have q556 : rg (0) (0) v553 := (rg_eq c223_554 rv553 kc_0).1
            have uq556 : (0 : Int) ≤ v553.toInt ∧ v553.toInt ≤ 0 := q556
            refine lv_iconst (v := 2) hx hb dX5_unitCame_230 (by decide) ?_
            exact hQ _ _ (2 : Int32) _ _ _ dX5_unitCame_231 L552 ⟨hW, (mFi.sub (mFi.sub (mFi.sub mFi.rf hi1 mSub_nil) hi10 mSub_nil) hi552 (mSub_eq 5 rfl (mSub_eq 6 rfl (mSub_eq 8 rfl (mSub_eq 16 rfl (mSub_eq 30 rfl (mSub_eq 32 rfl mSub_nil))))))), (mFr.tr (mFr.tr (mFr.tr mFr.rf hp1.1 rfl) hp10.1 rfl) hp552.1 rfl), rg_w kc_2 rfl, trivial⟩
          · skip
            replace hW := wfP_i (wfP_r hW) (i_ne c223_554 rfl (rg_i kc_0))
            have ic223_554 : v553.toInt ≠ (0 : Int32).toInt := fun z => c223_554 (Int32.toInt_inj.mp z)
            have y557 : (0 : Int32).toInt = 0 := by decide
            have q558 : rg (1) (1) v553 := rg_neL c223_554 rv553 kc_0
            have uq558 : (1 : Int) ≤ v553.toInt ∧ v553.toInt ≤ 1 := q558
            refine lv_iconst (v := 0) hx hb dX5_unitCame_226 (by decide) ?_
            refine lv_goto (tgt := 231) hx hb dX5_unitCame_227 (by decide) ?_
            exact hQ _ _ (0 : Int32) _ _ _ dX5_unitCame_231 L552 ⟨hW, (mFi.sub (mFi.sub (mFi.sub mFi.rf hi1 mSub_nil) hi10 mSub_nil) hi552 (mSub_eq 5 rfl (mSub_eq 6 rfl (mSub_eq 8 rfl (mSub_eq 16 rfl (mSub_eq 30 rfl (mSub_eq 32 rfl mSub_nil))))))), (mFr.tr (mFr.tr (mFr.tr mFr.rf hp1.1 rfl) hp10.1 rfl) hp552.1 rfl), rg_w kc_0 rfl, trivial⟩
      · skip
        replace hW := wfP_i (wfP_r hW) (i_ne c146_503 rfl (rg_i kc_2))
        have ic146_503 : v502.toInt ≠ (2 : Int32).toInt := fun z => c146_503 (Int32.toInt_inj.mp z)
        have y559 : (2 : Int32).toInt = 2 := by decide
        refine lv_iconst (v := 0) hx hb dX5_unitCame_149 (by decide) ?_
        exact hQ _ _ (0 : Int32) _ _ _ dX5_unitCame_150 L10 ⟨hW, (mFi.sub (mFi.sub mFi.rf hi1 mSub_nil) hi10 mSub_nil), (mFr.tr (mFr.tr mFr.rf hp1.1 rfl) hp10.1 rfl), rg_w kc_0 rfl, trivial⟩
    · skip
      replace hW := wfP_i (wfP_r (wfP_r (wfP_r (wfP_r (wfP_r (wfP_r (wfP_r (wfP_r (wfP_r (wfP_r (wfP_r (wfP_r (wfP_r (wfP_r (wfP_r (wfP_r hW)))))))))))))))) c35_14
      have q560 : rg (15) (15) v12 := ⟨by omega, by omega⟩
      refine lv_tableIn (off := 97) (tgt := 132) hx hb dX5_unitCame_35 (by omega) (by omega) (by rw [c35_14]; rfl) (by decide) ?_
      refine lv_aload_n hx hb dX5_unitCame_132 rfl (lv_at hl 3 rfl) ?_
      refine lv_iload hx hb dX5_unitCame_133 (lv_at hl 1 rfl) ?_
      refine lv_iload_n hx hb dX5_unitCame_135 rfl (lv_at hl 6 rfl) ?_
      refine c_cv (As := [.int v12, .int p3]) (rest := []) x hml L10 5 i0 hal0 rfl (d_kanswerCame l X g10 i0 v12 p3 hX (show i0 < 2 * Z.n from (by omega)) hW) (wk_V kd_X5_answerCame kl_X5_162 ki_X5_answerCame ks_X5_X5_answerCame kn_X5) rfl ⟨rfl, rfl⟩ hd_kanswerCame ⟨Nat.le_of_ble_eq_true rfl, Nat.le_of_ble_eq_true rfl⟩ rfl hl.1 rfl (lv_room (Nat.le_of_ble_eq_true rfl)) dX5_unitCame_136 (fun  g561 H561 k561 hp561 L561 => ?_)
      obtain ⟨hW, hi561, hp561⟩ := hp561
      replace hW := wfP_i hW ⟨hi561, hp561⟩
      refine lv_iconst (v := 0) hx hb dX5_unitCame_139 (by decide) ?_
      exact hQ _ _ (0 : Int32) _ _ _ dX5_unitCame_140 L561 ⟨hW, (mFi.sub (mFi.sub (mFi.sub mFi.rf hi1 mSub_nil) hi10 mSub_nil) hi561 (mSub_eq 3 rfl (mSub_eq 4 rfl (mSub_eq 5 rfl (mSub_eq 6 rfl (mSub_eq 7 rfl (mSub_eq 8 rfl (mSub_eq 9 rfl (mSub_eq 10 rfl (mSub_eq 14 rfl (mSub_eq 15 rfl (mSub_eq 16 rfl (mSub_eq 19 rfl (mSub_eq 20 rfl (mSub_eq 21 rfl (mSub_eq 22 rfl (mSub_eq 29 rfl (mSub_eq 30 rfl (mSub_eq 31 rfl (mSub_eq 32 rfl mSub_nil)))))))))))))))))))), (mFr.tr (mFr.tr (mFr.tr mFr.rf hp1.1 rfl) hp10.1 rfl) hp561.1 rfl), rg_w kc_0 rfl, trivial⟩
  · skip
    replace hW := wfP_i (wfP_r hW) (i_eq c5_4 rfl (rg_i kc_0))
    have ic5_4 := congrArg Int32.toInt c5_4
    have y562 : (0 : Int32).toInt = 0 := by decide
    have q563 : rg (0) (0) v2 := (rg_eq c5_4 rv2 kc_0).1
    have uq563 : (0 : Int) ≤ v2.toInt ∧ v2.toInt ≤ 0 := q563
    refine lv_iconst (v := 0) hx hb dX5_unitCame_8 (by decide) ?_
    exact hQ _ _ (0 : Int32) _ _ _ dX5_unitCame_9 L1 ⟨hW, (mFi.sub mFi.rf hi1 mSub_nil), (mFr.tr mFr.rf hp1.1 rfl), rg_w kc_0 rfl, trivial⟩
theorem d_kunitCame (l : Launch) {G : cG} {Z : cZ} (X : Int) (g : mSt) (i0 : Nat) (q1 : Nat) (p2 : Int32) (p3 : Int32) (hX : 0 ≤ X ∧ X ≤ 2000000000) (hi0 : i0 < 2 * Z.n) (hq1 : Z.al 16 q1) {Φ : Int32 → mSt → Prop} (hW : wfP (wp_kunitCame Z i0 q1 p2 p3 g Φ)) : Met l yX5_unitCame (wk (Cond.code yX5_unitCame cX5_unitCame 7 (some .int))) rm_kunitCame (va_Pc [.ref (Z.ad 5 i0), .ref (Z.ad 16 q1), .int p2, .int p3] (cPre G Z X g)) (cQi G Z X (fun r g1 => wfP (Φ r g1) ∧ mFi (im_kunitCame Z i0 q1 p2 p3) g g1 ∧ (mFr [67, 108, 111, 164, 165, 166, 167, 168, 169, 170, 171, 172, 174, 175, 178, 179, 180, 197, 198, 421, 422, 544, 576, 768, 864, 928, 1248, 1280, 1344] g g1 ∧ rg (0) (2) r ∧ True))) 0 0 (cAd Z) := by
  refine Met.ofW (cc := cX5_unitCame) (maxL := 7) (ret := (some .int)) (by decide) rfl ?_
  intro p e s m args below meth c s₁ B hml hv
  obtain ⟨rfl, hv⟩ := hv
  have hr := B.returns
  have hlocks := B.notSynchronized
  obtain ⟨x, L⟩ := c_start B rfl (fun w h => wk_in h) hv
  have hl := lv_entry ([.ref (Z.ad 5 i0), .ref (Z.ad 16 q1), .int p2, .int p3]) (n := 7) (Nat.le_of_ble_eq_true rfl)
  rw [lg_entry_eq]
  generalize (lg_sl ([.ref (Z.ad 5 i0), .ref (Z.ad 16 q1), .int p2, .int p3]) ++ List.replicate (7 - (lg_sl ([.ref (Z.ad 5 i0), .ref (Z.ad 16 q1), .int p2, .int p3])).length) Slot.unset).toArray = ls at hl ⊢
  exact v_kunitCame x hml L hX i0 q1 p2 p3 hi0 hq1 hW hl (fun pc' ls' r g1 H1 locs1 hdg L hp => c_iret x L hr hlocks (Int.le_refl _) hp hdg)

def im_kselement (Z : cZ) (i0 : Nat) (q1 : Nat) (p2 : Int32) (p3 : Int32) (p4 : Int32) : List (Nat × Nat × Nat) := [(296, i0, 1)]
def po_kselement (Z : cZ) (i0 : Nat) (q1 : Nat) (p2 : Int32) (p3 : Int32) (p4 : Int32) (g : mSt) (r : Int32) (g1 : mSt) : Prop := mFi (im_kselement Z i0 q1 p2 p3 p4) g g1 ∧ mFr [296] g g1 ∧ rg (-2147483648) (2147483647) r ∧ True
def wp_kselement (Z : cZ) (i0 : Nat) (q1 : Nat) (p2 : Int32) (p3 : Int32) (p4 : Int32) (g : mSt) (Φ : Int32 → mSt → Prop) : Prop :=
  ∀ (v1 : Int32), v1 = g 296 i0 → rg (0) (60) v1 → ∀ (v2 : Int32), v2 = v1 + (4 : Int32) → rg (4) (64) v2 → v2.toInt = v1.toInt + 4 → ∀ (v4 : Int32), v4 = v2 + p4 → rg (5) (66) v4 → v4.toInt = v2.toInt + p4.toInt → ((p2.toInt < v4.toInt) → Φ (-1 : Int32) g) ∧ ((v4.toInt ≤ p2.toInt) → ((60 < p2.toInt) → Φ (-1 : Int32) g) ∧ ((p2.toInt ≤ 60) → wp_kwordAt_34 Z q1 v1 g (fun (v12 : Int32) (g11 : mSt) => po_kwordAt_34 Z q1 v1 g v12 g11 → ∀ (v13 : Int32), v13 = p3 <<< ((24 : Int32) &&& 31) → rg (-2147483648) (2147483647) v13 → ∀ (v14 : Int32), v14 = v13 ||| (8388608 : Int32) → rg (-2147483648) (2147483647) v14 → ∀ (v15 : Int32), v15 = v14 ||| p4 → rg (-2147483648) (2147483647) v15 → ((v12.toInt = v15.toInt) → ∀ (g18 : mSt), g18 = up2 g11 296 i0 v4 → ((p4.toInt ≠ 1) → ∀ (v22 : Int32), v22 = v4 - (2 : Int32) → rg (3) (58) v22 → v22.toInt = v4.toInt - 2 → ∀ (v24 : Int32), v24 = g18 1088 (8192 * q1 + v22.toNatClampNeg) → rg (-2147483648) (2147483647) v24 → ∀ (v25 : Int32), v25 = v24 <<< ((8 : Int32) &&& 31) → rg (-2147483648) (2147483647) v25 → ∀ (v26 : Int32), v26 = v4 - (1 : Int32) → rg (4) (59) v26 → v26.toInt = v4.toInt - 1 → ∀ (v28 : Int32), v28 = g18 1088 (8192 * q1 + v26.toNatClampNeg) → rg (-2147483648) (2147483647) v28 → ∀ (v29 : Int32), v29 = v25 ||| v28 → rg (-2147483648) (2147483647) v29 → Φ v29 g18) ∧ ((p4.toInt = 1) → ∀ (v32 : Int32), v32 = v4 - (1 : Int32) → rg (4) (59) v32 → v32.toInt = v4.toInt - 1 → ∀ (v34 : Int32), v34 = g18 1088 (8192 * q1 + v32.toNatClampNeg) → rg (-2147483648) (2147483647) v34 → Φ v34 g18)) ∧ ((v12.toInt ≠ v15.toInt) → Φ (-1 : Int32) g11))))
set_option maxHeartbeats 4000000 in
set_option maxRecDepth 100000 in
theorem v_kselement {p : Program} {l : Launch} {e : Env} {s : State} {m : MethodId} {args : Array Value} {below : List Frame} {meth : Method} {c : Code} {H : Heap} {locs : List Loc} {Q : State → Prop} {ls : Array Slot} {G : cG} {Z : cZ} {A : Nat → Prop} {g : mSt} {H0 : Heap} {X : Int} (x : cX p c cX9_element s args (wk (Cond.code yX9_element cX9_element 7 (some .int))) m G Z A RX9 H0) (hml : c.maxLocals = 7) (L : cL G Z A H0 X g H locs) (hX : 0 ≤ X ∧ X ≤ 2000000000) (i0 : Nat) (q1 : Nat) (p2 : Int32) (p3 : Int32) (p4 : Int32) (hal0 : Z.al 9 i0) (hq1 : Z.al 34 q1) (rp4 : rg (1) (2) p4) {Φ : Int32 → mSt → Prop} (hW : wfP (wp_kselement Z i0 q1 p2 p3 p4 g Φ)) (hl : lv_has ls 7 [(0, .ref (Z.ad 9 i0)), (1, .ref (Z.ad 34 q1)), (2, .int p2), (3, .int p3), (4, .int p4)]) (hQ : ∀ (pc' : Nat) (ls' : Array Slot) (r : Int32) (g1 : mSt) (H1 : Heap) (locs1 : List Loc), decode cX9_element pc' = .ok (.ireturn, 1) → cL G Z A H0 X g1 H1 locs1 → (wfP (Φ r g1) ∧ mFi (im_kselement Z i0 q1 p2 p3 p4) g g1 ∧ (mFr [296] g g1 ∧ rg (-2147483648) (2147483647) r ∧ True)) → W p l e rm_kselement s m args below meth c H1 locs1 0 0 Q (F0 m pc' ls' [.int r])) : W p l e rm_kselement s m args below meth c H locs 0 0 Q (F0 m 0 ls []) := by
  have hx := x.1
  have hb := x.2.1
  have hz := x.2.2.2.2.2.2.2.1
  have hzn := hz.1
  have up2 : (-2147483648 : Int) ≤ p2.toInt ∧ p2.toInt ≤ 2147483647 := (rg_any p2)
  have up3 : (-2147483648 : Int) ≤ p3.toInt ∧ p3.toInt ≤ 2147483647 := (rg_any p3)
  have up4 : (1 : Int) ≤ p4.toInt ∧ p4.toInt ≤ 2 := rp4
  refine lv_aload_n hx hb dX9_element_0 rfl (lv_at hl 0 rfl) ?_
  refine c_geti x L 9 i0 8 296 hal0 rfl rfl (wk_in kf_X9_20) dX9_element_1 (fun v1 ev1 wv1 => ?_)
  have rv1 : rg (0) (60) v1 := clj_296 wv1
  replace hW := (wfP_i (wfP_i (wfP_a hW v1) ev1) rv1)
  have uv1 : (0 : Int) ≤ v1.toInt ∧ v1.toInt ≤ 60 := rv1
  have sv1 := congrArg Int32.toInt ev1
  refine lv_istore (lv' := [(5, .int v1), (0, .ref (Z.ad 9 i0)), (1, .ref (Z.ad 34 q1)), (2, .int p2), (3, .int p3), (4, .int p4)]) hx hb dX9_element_4 hl (by decide) rfl (fun ls hl => ?_)
  refine lv_iload hx hb dX9_element_6 (lv_at hl 0 rfl) ?_
  refine lv_iconst (v := 4) hx hb dX9_element_8 (by decide) ?_
  refine lv_iadd hx hb dX9_element_9 ?_
  refine lv_topi (fun v2 ev2 => ?_)
  have rv2 : rg (4) (64) v2 := (rg_add ev2 rv1 kc_4 rfl).1
  replace hW := (wfP_i (wfP_i (wfP_i (wfP_a hW v2) ev2) rv2) (w_iadd ((rg_add ev2 rv1 kc_4 rfl).2) rfl (rg_i kc_4)))
  have dv2 := (rg_add ev2 rv1 kc_4 rfl).2
  have tv2 := (rg_add ev2 rv1 kc_4 rfl).2
  have y3 : (4 : Int32).toInt = 4 := by decide
  have uv2 : (4 : Int) ≤ v2.toInt ∧ v2.toInt ≤ 64 := rv2
  refine lv_iload hx hb dX9_element_10 (lv_at hl 5 rfl) ?_
  refine lv_iadd hx hb dX9_element_12 ?_
  refine lv_topi (fun v4 ev4 => ?_)
  have rv4 : rg (5) (66) v4 := (rg_add ev4 rv2 rp4 rfl).1
  replace hW := (wfP_i (wfP_i (wfP_i (wfP_a hW v4) ev4) rv4) (w_iadd ((rg_add ev4 rv2 rp4 rfl).2) rfl rfl))
  have tv4 := (rg_add ev4 rv2 rp4 rfl).2
  have uv4 : (5 : Int) ≤ v4.toInt ∧ v4.toInt ≤ 66 := rv4
  refine lv_istore (lv' := [(6, .int v4), (5, .int v1), (0, .ref (Z.ad 9 i0)), (1, .ref (Z.ad 34 q1)), (2, .int p2), (3, .int p3), (4, .int p4)]) hx hb dX9_element_13 hl (by decide) rfl (fun ls hl => ?_)
  refine lv_iload hx hb dX9_element_15 (lv_at hl 0 rfl) ?_
  refine lv_iload_n hx hb dX9_element_17 rfl (lv_at hl 4 rfl) ?_
  refine lv_icmp_gt (tgt := 46) hx hb dX9_element_18 (by decide) (fun c18_5 => ?_) (fun c18_5 => ?_)
  · skip
    replace hW := wfP_i (wfP_l hW) (i_lt c18_5 rfl rfl)
    have ic18_5 := Int32.lt_iff_toInt_lt.mp c18_5
    have q6 : rg (-2147483648) (65) p2 := (rg_lt c18_5 (rg_any p2) rv4).1
    have uq6 : (-2147483648 : Int) ≤ p2.toInt ∧ p2.toInt ≤ 65 := q6
    refine lv_iconst (v := (-1)) hx hb dX9_element_46 (by decide) ?_
    exact hQ _ _ (-1 : Int32) _ _ _ dX9_element_47 L ⟨hW, mFi.rf, mFr.rf, rg_w kc_m1 rfl, trivial⟩
  · skip
    replace hW := wfP_i (wfP_r hW) (i_le (rg_nlt c18_5) rfl rfl)
    have ic18_5 := Int32.le_iff_toInt_le.mp (rg_nlt c18_5)
    have q7 : rg (5) (2147483647) p2 := (rg_le (rg_nlt c18_5) rv4 (rg_any p2)).2
    have uq7 : (5 : Int) ≤ p2.toInt ∧ p2.toInt ≤ 2147483647 := q7
    refine lv_iload_n hx hb dX9_element_21 rfl (lv_at hl 4 rfl) ?_
    refine lv_aload_n hx hb dX9_element_22 rfl (lv_at hl 3 rfl) ?_
    refine c_len (n := 60) x L 34 q1 hq1 rfl (by decide) dX9_element_23 ?_
    refine lv_icmp_gt (tgt := 46) hx hb dX9_element_24 (by decide) (fun c24_8 => ?_) (fun c24_8 => ?_)
    · skip
      replace hW := wfP_i (wfP_l hW) (i_lt c24_8 (rg_i kc_60) rfl)
      have ic24_8 := Int32.lt_iff_toInt_lt.mp c24_8
      have q9 : rg (61) (2147483647) p2 := (rg_lt c24_8 kc_60 q7).2
      have uq9 : (61 : Int) ≤ p2.toInt ∧ p2.toInt ≤ 2147483647 := q9
      refine lv_iconst (v := (-1)) hx hb dX9_element_46 (by decide) ?_
      exact hQ _ _ (-1 : Int32) _ _ _ dX9_element_47 L ⟨hW, mFi.rf, mFr.rf, rg_w kc_m1 rfl, trivial⟩
    · skip
      replace hW := wfP_i (wfP_r hW) (i_le (rg_nlt c24_8) rfl (rg_i kc_60))
      have ic24_8 := Int32.le_iff_toInt_le.mp (rg_nlt c24_8)
      have q10 : rg (5) (60) p2 := (rg_le (rg_nlt c24_8) q7 kc_60).1
      have uq10 : (5 : Int) ≤ p2.toInt ∧ p2.toInt ≤ 60 := q10
      refine lv_aload_n hx hb dX9_element_27 rfl (lv_at hl 3 rfl) ?_
      refine lv_iload hx hb dX9_element_28 (lv_at hl 1 rfl) ?_
      refine c_siN (As := [.ref (Z.ad 34 q1), .int v1]) (rest := []) x hml L (d_kwordAt_34 l X g q1 v1 hX hq1 (rg_w rv1 rfl) hW) (goodC (wk_all kd_X11_wordAt)) (List.mem_of_getElem? (i := 15) rfl) (wk_in kt_X11_wordAt) (wk_in kn_X11) rfl ⟨rfl, rfl⟩ hd_kwordAt_34 ⟨Nat.le_of_ble_eq_true rfl, Nat.le_of_ble_eq_true rfl⟩ rfl hl.1 rfl (lv_room (Nat.le_of_ble_eq_true rfl)) dX9_element_30 (fun v12 g11 H11 k11 hp11 L11 => ?_)
      obtain ⟨hW, hi11, hp11⟩ := hp11
      replace hW := wfP_i hW ⟨hi11, hp11⟩
      have rv12 : rg (-2147483648) (2147483647) v12 := hp11.2.1
      have uv12 : (-2147483648 : Int) ≤ v12.toInt ∧ v12.toInt ≤ 2147483647 := rv12
      refine lv_iload_n hx hb dX9_element_33 rfl (lv_at hl 5 rfl) ?_
      refine lv_bipush (v := 24) hx hb dX9_element_34 (by decide) ?_
      refine lv_ishl hx hb dX9_element_36 ?_
      refine lv_topi (fun v13 ev13 => ?_)
      have rv13 : rg (-2147483648) (2147483647) v13 := rg_any v13
      replace hW := (wfP_i (wfP_i (wfP_a hW v13) ev13) rv13)
      have uv13 : (-2147483648 : Int) ≤ v13.toInt ∧ v13.toInt ≤ 2147483647 := rv13
      refine lv_ldc (own := RX9) (v := 8388608) hx hb x.2.2.2.2.1 (x.2.2.1 _ (wk_in kk_X9_52)) dX9_element_37 ?_
      refine lv_ior hx hb dX9_element_39 ?_
      refine lv_topi (fun v14 ev14 => ?_)
      have rv14 : rg (-2147483648) (2147483647) v14 := rg_any v14
      replace hW := (wfP_i (wfP_i (wfP_a hW v14) ev14) rv14)
      have uv14 : (-2147483648 : Int) ≤ v14.toInt ∧ v14.toInt ≤ 2147483647 := rv14
      refine lv_iload hx hb dX9_element_40 (lv_at hl 6 rfl) ?_
      refine lv_ior hx hb dX9_element_42 ?_
      refine lv_topi (fun v15 ev15 => ?_)
      have rv15 : rg (-2147483648) (2147483647) v15 := rg_any v15
      replace hW := (wfP_i (wfP_i (wfP_a hW v15) ev15) rv15)
      have uv15 : (-2147483648 : Int) ≤ v15.toInt ∧ v15.toInt ≤ 2147483647 := rv15
      refine lv_icmp_eq (tgt := 48) hx hb dX9_element_43 (by decide) (fun c43_16 => ?_) (fun c43_16 => ?_)
      · skip
        replace hW := wfP_i (wfP_l hW) (i_eq c43_16 rfl rfl)
        have ic43_16 := congrArg Int32.toInt c43_16
        have q17 : rg (5) (60) v4 := ⟨by omega, by omega⟩
        refine lv_aload_n hx hb dX9_element_48 rfl (lv_at hl 2 rfl) ?_
        refine lv_iload hx hb dX9_element_49 (lv_at hl 0 rfl) ?_
        refine c_puti x L11 9 i0 8 296 hal0 rfl rfl ⟨rfl, by decide +kernel⟩ (wk_in kf_X9_20) dX9_element_51 (crj_296 (rg_w q17 rfl)) (fun g18 H18 k18 eg18 L18 => ?_)
        replace hW := (wfP_i (wfP_a hW g18) eg18)
        refine lv_iload hx hb dX9_element_54 (lv_at hl 6 rfl) ?_
        refine lv_iconst (v := 1) hx hb dX9_element_56 (by decide) ?_
        refine lv_icmp_ne (tgt := 69) hx hb dX9_element_57 (by decide) (fun c57_19 => ?_) (fun c57_19 => ?_)
        · skip
          replace hW := wfP_i (wfP_l hW) (i_ne c57_19 rfl (rg_i kc_1))
          have ic57_19 : p4.toInt ≠ (1 : Int32).toInt := fun z => c57_19 (Int32.toInt_inj.mp z)
          have y20 : (1 : Int32).toInt = 1 := by decide
          have q21 : rg (2) (2) p4 := rg_neL c57_19 rp4 kc_1
          have uq21 : (2 : Int) ≤ p4.toInt ∧ p4.toInt ≤ 2 := q21
          refine lv_aload_n hx hb dX9_element_69 rfl (lv_at hl 3 rfl) ?_
          refine lv_iload hx hb dX9_element_70 (lv_at hl 0 rfl) ?_
          refine lv_iconst (v := 2) hx hb dX9_element_72 (by decide) ?_
          refine lv_isub hx hb dX9_element_73 ?_
          refine lv_topi (fun v22 ev22 => ?_)
          have rv22 : rg (3) (58) v22 := (rg_sub ev22 q17 kc_2 rfl).1
          replace hW := (wfP_i (wfP_i (wfP_i (wfP_a hW v22) ev22) rv22) (w_isub ((rg_sub ev22 q17 kc_2 rfl).2) rfl (rg_i kc_2)))
          have tv22 := (rg_sub ev22 q17 kc_2 rfl).2
          have y23 : (2 : Int32).toInt = 2 := by decide
          have uv22 : (3 : Int) ≤ v22.toInt ∧ v22.toInt ≤ 58 := rv22
          refine c_ld x L18 34 q1 1088 hq1 rfl rfl rv22 rfl dX9_element_74 (fun v24 ev24 wv24 => ?_)
          have rv24 : rg (-2147483648) (2147483647) v24 := rg_any v24
          replace hW := (wfP_i (wfP_i (wfP_a hW v24) ev24) rv24)
          have uv24 : (-2147483648 : Int) ≤ v24.toInt ∧ v24.toInt ≤ 2147483647 := rv24
          have sv24 : v24.toInt = (g 1088 (8192 * q1 + v22.toNatClampNeg)).toInt := congrArg Int32.toInt (ev24.trans (congrFun ((show mFr [296] g g18 from (mFr.upE (mFr.tr mFr.rf hp11.1 rfl) eg18 rfl)).at 1088 rfl) _))
          refine lv_bipush (v := 8) hx hb dX9_element_75 (by decide) ?_
          refine lv_ishl hx hb dX9_element_77 ?_
          refine lv_topi (fun v25 ev25 => ?_)
          have rv25 : rg (-2147483648) (2147483647) v25 := rg_any v25
          replace hW := (wfP_i (wfP_i (wfP_a hW v25) ev25) rv25)
          have uv25 : (-2147483648 : Int) ≤ v25.toInt ∧ v25.toInt ≤ 2147483647 := rv25
          refine lv_aload_n hx hb dX9_element_78 rfl (lv_at hl 3 rfl) ?_
          refine lv_iload hx hb dX9_element_79 (lv_at hl 0 rfl) ?_
          refine lv_iconst (v := 1) hx hb dX9_element_81 (by decide) ?_
          refine lv_isub hx hb dX9_element_82 ?_
          refine lv_topi (fun v26 ev26 => ?_)
          have rv26 : rg (4) (59) v26 := (rg_sub ev26 q17 kc_1 rfl).1
          replace hW := (wfP_i (wfP_i (wfP_i (wfP_a hW v26) ev26) rv26) (w_isub ((rg_sub ev26 q17 kc_1 rfl).2) rfl (rg_i kc_1)))
          have tv26 := (rg_sub ev26 q17 kc_1 rfl).2
          have y27 : (1 : Int32).toInt = 1 := by decide
          have uv26 : (4 : Int) ≤ v26.toInt ∧ v26.toInt ≤ 59 := rv26
          refine c_ld x L18 34 q1 1088 hq1 rfl rfl rv26 rfl dX9_element_83 (fun v28 ev28 wv28 => ?_)
          have rv28 : rg (-2147483648) (2147483647) v28 := rg_any v28
          replace hW := (wfP_i (wfP_i (wfP_a hW v28) ev28) rv28)
          have uv28 : (-2147483648 : Int) ≤ v28.toInt ∧ v28.toInt ≤ 2147483647 := rv28
          have sv28 : v28.toInt = (g 1088 (8192 * q1 + v26.toNatClampNeg)).toInt := congrArg Int32.toInt (ev28.trans (congrFun ((show mFr [296] g g18 from (mFr.upE (mFr.tr mFr.rf hp11.1 rfl) eg18 rfl)).at 1088 rfl) _))
          refine lv_ior hx hb dX9_element_84 ?_
          refine lv_topi (fun v29 ev29 => ?_)
          have rv29 : rg (-2147483648) (2147483647) v29 := rg_any v29
          replace hW := (wfP_i (wfP_i (wfP_a hW v29) ev29) rv29)
          have uv29 : (-2147483648 : Int) ≤ v29.toInt ∧ v29.toInt ≤ 2147483647 := rv29
          exact hQ _ _ v29 _ _ _ dX9_element_85 L18 ⟨hW, (mFi.up (mFi.sub mFi.rf hi11 mSub_nil) eg18 (mIn_at 0 rfl (Or.inr (Nat.div_one _)))), (mFr.upE (mFr.tr mFr.rf hp11.1 rfl) eg18 rfl), rg_w rv29 rfl, trivial⟩
        · skip
          replace hW := wfP_i (wfP_r hW) (i_eq c57_19 rfl (rg_i kc_1))
          have ic57_19 := congrArg Int32.toInt c57_19
          have y30 : (1 : Int32).toInt = 1 := by decide
          have q31 : rg (1) (1) p4 := (rg_eq c57_19 rp4 kc_1).1
          have uq31 : (1 : Int) ≤ p4.toInt ∧ p4.toInt ≤ 1 := q31
          refine lv_aload_n hx hb dX9_element_60 rfl (lv_at hl 3 rfl) ?_
          refine lv_iload hx hb dX9_element_61 (lv_at hl 0 rfl) ?_
          refine lv_iconst (v := 1) hx hb dX9_element_63 (by decide) ?_
          refine lv_isub hx hb dX9_element_64 ?_
          refine lv_topi (fun v32 ev32 => ?_)
          have rv32 : rg (4) (59) v32 := (rg_sub ev32 q17 kc_1 rfl).1
          replace hW := (wfP_i (wfP_i (wfP_i (wfP_a hW v32) ev32) rv32) (w_isub ((rg_sub ev32 q17 kc_1 rfl).2) rfl (rg_i kc_1)))
          have tv32 := (rg_sub ev32 q17 kc_1 rfl).2
          have y33 : (1 : Int32).toInt = 1 := by decide
          have uv32 : (4 : Int) ≤ v32.toInt ∧ v32.toInt ≤ 59 := rv32
          refine c_ld x L18 34 q1 1088 hq1 rfl rfl rv32 rfl dX9_element_65 (fun v34 ev34 wv34 => ?_)
          have rv34 : rg (-2147483648) (2147483647) v34 := rg_any v34
          replace hW := (wfP_i (wfP_i (wfP_a hW v34) ev34) rv34)
          have uv34 : (-2147483648 : Int) ≤ v34.toInt ∧ v34.toInt ≤ 2147483647 := rv34
          have sv34 : v34.toInt = (g 1088 (8192 * q1 + v32.toNatClampNeg)).toInt := congrArg Int32.toInt (ev34.trans (congrFun ((show mFr [296] g g18 from (mFr.upE (mFr.tr mFr.rf hp11.1 rfl) eg18 rfl)).at 1088 rfl) _))
          refine lv_goto (tgt := 85) hx hb dX9_element_66 (by decide) ?_
          exact hQ _ _ v34 _ _ _ dX9_element_85 L18 ⟨hW, (mFi.up (mFi.sub mFi.rf hi11 mSub_nil) eg18 (mIn_at 0 rfl (Or.inr (Nat.div_one _)))), (mFr.upE (mFr.tr mFr.rf hp11.1 rfl) eg18 rfl), rg_w rv34 rfl, trivial⟩
      · skip
        replace hW := wfP_i (wfP_r hW) (i_ne c43_16 rfl rfl)
        have ic43_16 : v12.toInt ≠ v15.toInt := fun z => c43_16 (Int32.toInt_inj.mp z)
        refine lv_iconst (v := (-1)) hx hb dX9_element_46 (by decide) ?_
        exact hQ _ _ (-1 : Int32) _ _ _ dX9_element_47 L11 ⟨hW, (mFi.sub mFi.rf hi11 mSub_nil), (mFr.tr mFr.rf hp11.1 rfl), rg_w kc_m1 rfl, trivial⟩
theorem d_kselement (l : Launch) {G : cG} {Z : cZ} (X : Int) (g : mSt) (i0 : Nat) (q1 : Nat) (p2 : Int32) (p3 : Int32) (p4 : Int32) (hX : 0 ≤ X ∧ X ≤ 2000000000) (hal0 : Z.al 9 i0) (hq1 : Z.al 34 q1) (rp4 : rg (1) (2) p4) {Φ : Int32 → mSt → Prop} (hW : wfP (wp_kselement Z i0 q1 p2 p3 p4 g Φ)) : Met l yX9_element (wk (Cond.code yX9_element cX9_element 7 (some .int))) rm_kselement (va_Pc [.ref (Z.ad 9 i0), .ref (Z.ad 34 q1), .int p2, .int p3, .int p4] (cPre G Z X g)) (cQi G Z X (fun r g1 => wfP (Φ r g1) ∧ mFi (im_kselement Z i0 q1 p2 p3 p4) g g1 ∧ (mFr [296] g g1 ∧ rg (-2147483648) (2147483647) r ∧ True))) 0 0 (cAd Z) := by
  refine Met.ofW (cc := cX9_element) (maxL := 7) (ret := (some .int)) (by decide) rfl ?_
  intro p e s m args below meth c s₁ B hml hv
  obtain ⟨rfl, hv⟩ := hv
  have hr := B.returns
  have hlocks := B.notSynchronized
  obtain ⟨x, L⟩ := c_start B rfl (fun w h => wk_in h) hv
  have hl := lv_entry ([.ref (Z.ad 9 i0), .ref (Z.ad 34 q1), .int p2, .int p3, .int p4]) (n := 7) (Nat.le_of_ble_eq_true rfl)
  rw [lg_entry_eq]
  generalize (lg_sl ([.ref (Z.ad 9 i0), .ref (Z.ad 34 q1), .int p2, .int p3, .int p4]) ++ List.replicate (7 - (lg_sl ([.ref (Z.ad 9 i0), .ref (Z.ad 34 q1), .int p2, .int p3, .int p4])).length) Slot.unset).toArray = ls at hl ⊢
  exact v_kselement x hml L hX i0 q1 p2 p3 p4 hal0 hq1 rp4 hW hl (fun pc' ls' r g1 H1 locs1 hdg L hp => c_iret x L hr hlocks (Int.le_refl _) hp hdg)

def im_kreadElements (Z : cZ) (i0 : Nat) (q1 : Nat) (p2 : Int32) (p3 : Int32) : List (Nat × Nat × Nat) := [(291, i0, 1), (292, i0, 1), (293, i0, 1), (294, i0, 1), (295, i0, 1), (296, i0, 1)]
def po_kreadElements (Z : cZ) (i0 : Nat) (q1 : Nat) (p2 : Int32) (p3 : Int32) (g : mSt) (r : Int32) (g1 : mSt) : Prop := mFi (im_kreadElements Z i0 q1 p2 p3) g g1 ∧ mFr [291, 292, 293, 294, 295, 296] g g1 ∧ rg (0) (1) r ∧ (r.toInt ≠ 0 → (g1 288 i0).toInt = 5 → 0 ≤ (g1 291 i0).toInt)
def wp_kreadElements (Z : cZ) (i0 : Nat) (q1 : Nat) (p2 : Int32) (p3 : Int32) (g : mSt) (Φ : Int32 → mSt → Prop) : Prop :=
  ∀ (v1 : Int32), v1 = g 288 i0 → rg (-2147483648) (2147483647) v1 → ((v1.toInt = 2) → ((p3.toInt = 0) → ∀ (g6 : mSt), g6 = up2 g 294 i0 (0 : Int32) → Φ (1 : Int32) g6) ∧ ((p3.toInt ≠ 0) → wp_kselement Z i0 q1 p2 (90 : Int32) (2 : Int32) g (fun (v12 : Int32) (g11 : mSt) => po_kselement Z i0 q1 p2 (90 : Int32) (2 : Int32) g v12 g11 → ∀ (g13 : mSt), g13 = up2 g11 294 i0 v12 → ((v12.toInt < 0) → Φ (0 : Int32) g13) ∧ ((0 ≤ v12.toInt) → Φ (1 : Int32) g13)))) ∧ (¬ v1.toInt = 2 → ((v1.toInt = 5) → wp_kselement Z i0 q1 p2 (112 : Int32) (1 : Int32) g (fun (v19 : Int32) (g18 : mSt) => po_kselement Z i0 q1 p2 (112 : Int32) (1 : Int32) g v19 g18 → ∀ (g20 : mSt), g20 = up2 g18 291 i0 v19 → wp_kselement Z i0 q1 p2 (89 : Int32) (1 : Int32) g20 (fun (v22 : Int32) (g21 : mSt) => po_kselement Z i0 q1 p2 (89 : Int32) (1 : Int32) g20 v22 g21 → ∀ (g23 : mSt), g23 = up2 g21 293 i0 v22 → ((p3.toInt = 0) → ∀ (g27 : mSt), g27 = up2 g23 292 i0 (0 : Int32) → ((p3.toInt = 0) → ∀ (g30 : mSt), g30 = up2 g27 294 i0 (0 : Int32) → ∀ (v31 : Int32), v31 = g30 290 i0 → rg (0) (1) v31 → ((v31.toInt = 0) → Φ (0 : Int32) g30) ∧ ((v31.toInt ≠ 0) → ((v19.toInt < 0) → Φ (0 : Int32) g30) ∧ ((0 ≤ v19.toInt) → ((v22.toInt < 0) → Φ (0 : Int32) g30) ∧ ((0 ≤ v22.toInt) → Φ (1 : Int32) g30)))) ∧ ((p3.toInt ≠ 0) → True)) ∧ ((p3.toInt ≠ 0) → wp_kselement Z i0 q1 p2 (108 : Int32) (1 : Int32) g23 (fun (v53 : Int32) (g52 : mSt) => po_kselement Z i0 q1 p2 (108 : Int32) (1 : Int32) g23 v53 g52 → ∀ (g54 : mSt), g54 = up2 g52 292 i0 v53 → ((p3.toInt = 0) → True) ∧ ((p3.toInt ≠ 0) → wp_kselement Z i0 q1 p2 (90 : Int32) (2 : Int32) g54 (fun (v59 : Int32) (g58 : mSt) => po_kselement Z i0 q1 p2 (90 : Int32) (2 : Int32) g54 v59 g58 → ∀ (g60 : mSt), g60 = up2 g58 294 i0 v59 → ∀ (v61 : Int32), v61 = g60 290 i0 → rg (0) (1) v61 → ((v61.toInt = 0) → Φ (0 : Int32) g60) ∧ ((v61.toInt ≠ 0) → ((v19.toInt < 0) → Φ (0 : Int32) g60) ∧ ((0 ≤ v19.toInt) → ((v22.toInt < 0) → Φ (0 : Int32) g60) ∧ ((0 ≤ v22.toInt) → ((v53.toInt < 0) → Φ (0 : Int32) g60) ∧ ((0 ≤ v53.toInt) → ((v59.toInt < 0) → Φ (0 : Int32) g60) ∧ ((0 ≤ v59.toInt) → Φ (1 : Int32) g60)))))))))))) ∧ (¬ v1.toInt = 5 → ((v1.toInt = 7) → Φ (1 : Int32) g) ∧ (¬ v1.toInt = 7 → ((v1.toInt = 15) → Φ (1 : Int32) g) ∧ (¬ v1.toInt = 15 → ((v1.toInt = 77) → wp_kselement Z i0 q1 p2 (8 : Int32) (1 : Int32) g (fun (v84 : Int32) (g83 : mSt) => po_kselement Z i0 q1 p2 (8 : Int32) (1 : Int32) g v84 g83 → ∀ (g85 : mSt), g85 = up2 g83 295 i0 v84 → ((v84.toInt < 0) → Φ (0 : Int32) g85) ∧ ((0 ≤ v84.toInt) → Φ (1 : Int32) g85))) ∧ (¬ v1.toInt = 77 → ((v1.toInt = 90) → wp_kselement Z i0 q1 p2 (8 : Int32) (1 : Int32) g (fun (v91 : Int32) (g90 : mSt) => po_kselement Z i0 q1 p2 (8 : Int32) (1 : Int32) g v91 g90 → ∀ (g92 : mSt), g92 = up2 g90 295 i0 v91 → ((v91.toInt < 0) → Φ (0 : Int32) g92) ∧ ((0 ≤ v91.toInt) → Φ (1 : Int32) g92))) ∧ (¬ v1.toInt = 90 → Φ (0 : Int32) g))))))
set_option maxHeartbeats 4000000 in
set_option maxRecDepth 100000 in
theorem v_kreadElements {p : Program} {l : Launch} {e : Env} {s : State} {m : MethodId} {args : Array Value} {below : List Frame} {meth : Method} {c : Code} {H : Heap} {locs : List Loc} {Q : State → Prop} {ls : Array Slot} {G : cG} {Z : cZ} {A : Nat → Prop} {g : mSt} {H0 : Heap} {X : Int} (x : cX p c cX9_readElements s args (wk (Cond.code yX9_readElements cX9_readElements 4 (some .boolean))) m G Z A RX9 H0) (hml : c.maxLocals = 4) (L : cL G Z A H0 X g H locs) (hX : 0 ≤ X ∧ X ≤ 2000000000) (i0 : Nat) (q1 : Nat) (p2 : Int32) (p3 : Int32) (hal0 : Z.al 9 i0) (hq1 : Z.al 34 q1) (rp3 : rg (0) (1) p3) {Φ : Int32 → mSt → Prop} (hW : wfP (wp_kreadElements Z i0 q1 p2 p3 g Φ)) (hl : lv_has ls 4 [(0, .ref (Z.ad 9 i0)), (1, .ref (Z.ad 34 q1)), (2, .int p2), (3, .int p3)]) (hQ : ∀ (pc' : Nat) (ls' : Array Slot) (r : Int32) (g1 : mSt) (H1 : Heap) (locs1 : List Loc), decode cX9_readElements pc' = .ok (.ireturn, 1) → cL G Z A H0 X g1 H1 locs1 → (wfP (Φ r g1) ∧ mFi (im_kreadElements Z i0 q1 p2 p3) g g1 ∧ (mFr [291, 292, 293, 294, 295, 296] g g1 ∧ rg (0) (1) r ∧ (r.toInt ≠ 0 → (g1 288 i0).toInt = 5 → 0 ≤ (g1 291 i0).toInt))) → W p l e rm_kreadElements s m args below meth c H1 locs1 0 0 Q (F0 m pc' ls' [.int r])) : W p l e rm_kreadElements s m args below meth c H locs 0 0 Q (F0 m 0 ls []) := by
  have hx := x.1
  have hb := x.2.1
  have hz := x.2.2.2.2.2.2.2.1
  have hzn := hz.1
  have up2 : (-2147483648 : Int) ≤ p2.toInt ∧ p2.toInt ≤ 2147483647 := (rg_any p2)
  have up3 : (0 : Int) ≤ p3.toInt ∧ p3.toInt ≤ 1 := rp3
  refine lv_aload_n hx hb dX9_readElements_0 rfl (lv_at hl 0 rfl) ?_
  refine c_geti x L 9 i0 0 288 hal0 rfl rfl (wk_in kf_X9_17) dX9_readElements_1 (fun v1 ev1 wv1 => ?_)
  have rv1 : rg (-2147483648) (2147483647) v1 := rg_any v1
  replace hW := (wfP_i (wfP_i (wfP_a hW v1) ev1) rv1)
  have uv1 : (-2147483648 : Int) ≤ v1.toInt ∧ v1.toInt ≤ 2147483647 := rv1
  have sv1 : v1.toInt = (g 288 i0).toInt := congrArg Int32.toInt (ev1.trans (congrFun ((show mFr [291, 292, 293, 294, 295, 296] g g from mFr.rf).at 288 rfl) _))
  by_cases c4_2_2 : v1.toInt = 2
  · skip
    replace hW := wfP_i (wfP_l hW) c4_2_2
    refine lv_lookup (off := 169) (tgt := 173) hx hb dX9_readElements_4 (by decide) (by rw [c4_2_2]; rfl) (by decide) ?_
    refine lv_aload_n hx hb dX9_readElements_173 rfl (lv_at hl 0 rfl) ?_
    refine lv_iload_n hx hb dX9_readElements_174 rfl (lv_at hl 3 rfl) ?_
    refine lv_if_eq (tgt := 190) hx hb dX9_readElements_175 (by decide) (fun c175_3 => ?_) (fun c175_3 => ?_)
    · skip
      replace hW := wfP_i (wfP_l hW) (i_eq c175_3 rfl (rg_i kc_0))
      have ic175_3 := congrArg Int32.toInt c175_3
      have y4 : (0 : Int32).toInt = 0 := by decide
      have q5 : rg (0) (0) p3 := (rg_eq c175_3 rp3 kc_0).1
      have uq5 : (0 : Int) ≤ p3.toInt ∧ p3.toInt ≤ 0 := q5
      refine lv_iconst (v := 0) hx hb dX9_readElements_190 (by decide) ?_
      refine c_puti x L 9 i0 6 294 hal0 rfl rfl ⟨rfl, by decide +kernel⟩ (wk_in kf_X9_40) dX9_readElements_191 (rg_any (0 : Int32)) (fun g6 H6 k6 eg6 L6 => ?_)
      replace hW := (wfP_i (wfP_a hW g6) eg6)
      refine lv_aload_n hx hb dX9_readElements_194 rfl (lv_at hl 0 rfl) ?_
      refine c_geti x L6 9 i0 6 294 hal0 rfl rfl (wk_in kf_X9_40) dX9_readElements_195 (fun v7 ev7 wv7 => ?_)
      refine m_top (((mm_st eg6)).trans ev7.symm) ?_
      refine lv_if_lt (tgt := 205) hx hb dX9_readElements_198 (by decide) (fun c198_8 => ?_) (fun c198_8 => ?_)
      · skip
        exact absurd c198_8 (by decide)
      · skip
        refine lv_iconst (v := 1) hx hb dX9_readElements_201 (by decide) ?_
        refine lv_goto (tgt := 206) hx hb dX9_readElements_202 (by decide) ?_
        exact hQ _ _ (1 : Int32) _ _ _ dX9_readElements_206 L6 ⟨hW, (mFi.up mFi.rf eg6 (mIn_at 3 rfl (Or.inr (Nat.div_one _)))), (mFr.upE mFr.rf eg6 rfl), rg_w kc_1 rfl, (fun _ h => by rw [← (mm_up ev1 eg6 rfl)] at h; omega)⟩
    · skip
      replace hW := wfP_i (wfP_r hW) (i_ne c175_3 rfl (rg_i kc_0))
      have ic175_3 : p3.toInt ≠ (0 : Int32).toInt := fun z => c175_3 (Int32.toInt_inj.mp z)
      have y9 : (0 : Int32).toInt = 0 := by decide
      have q10 : rg (1) (1) p3 := rg_neL c175_3 rp3 kc_0
      have uq10 : (1 : Int) ≤ p3.toInt ∧ p3.toInt ≤ 1 := q10
      refine lv_aload_n hx hb dX9_readElements_178 rfl (lv_at hl 0 rfl) ?_
      refine lv_aload_n hx hb dX9_readElements_179 rfl (lv_at hl 1 rfl) ?_
      refine lv_iload_n hx hb dX9_readElements_180 rfl (lv_at hl 2 rfl) ?_
      refine lv_bipush (v := 90) hx hb dX9_readElements_181 (by decide) ?_
      refine lv_iconst (v := 2) hx hb dX9_readElements_183 (by decide) ?_
      refine c_ci (As := [.ref (Z.ad 34 q1), .int p2, .int (90 : Int32), .int (2 : Int32)]) (rest := [.ref (Z.ad 9 i0)]) x hml L 9 i0 hal0 rfl (d_kselement l X g i0 q1 p2 (90 : Int32) (2 : Int32) hX hal0 hq1 (rg_w kc_2 rfl) hW) (wk_V kd_X9_element kl_X9_27 ki_X9_element ks_X9_X9_element kn_X9) rfl ⟨rfl, rfl⟩ hd_kselement ⟨Nat.le_of_ble_eq_true rfl, Nat.le_of_ble_eq_true rfl⟩ rfl hl.1 rfl (lv_room (Nat.le_of_ble_eq_true rfl)) dX9_readElements_184 (fun v12 g11 H11 k11 hp11 L11 => ?_)
      obtain ⟨hW, hi11, hp11⟩ := hp11
      replace hW := wfP_i hW ⟨hi11, hp11⟩
      have rv12 : rg (-2147483648) (2147483647) v12 := hp11.2.1
      have uv12 : (-2147483648 : Int) ≤ v12.toInt ∧ v12.toInt ≤ 2147483647 := rv12
      refine lv_goto (tgt := 191) hx hb dX9_readElements_187 (by decide) ?_
      refine c_puti x L11 9 i0 6 294 hal0 rfl rfl ⟨rfl, by decide +kernel⟩ (wk_in kf_X9_40) dX9_readElements_191 (rg_any v12) (fun g13 H13 k13 eg13 L13 => ?_)
      replace hW := (wfP_i (wfP_a hW g13) eg13)
      refine lv_aload_n hx hb dX9_readElements_194 rfl (lv_at hl 0 rfl) ?_
      refine c_geti x L13 9 i0 6 294 hal0 rfl rfl (wk_in kf_X9_40) dX9_readElements_195 (fun v14 ev14 wv14 => ?_)
      refine m_top (((mm_st eg13)).trans ev14.symm) ?_
      refine lv_if_lt (tgt := 205) hx hb dX9_readElements_198 (by decide) (fun c198_15 => ?_) (fun c198_15 => ?_)
      · skip
        replace hW := wfP_i (wfP_l hW) (i_lt c198_15 rfl (rg_i kc_0))
        have ic198_15 := Int32.lt_iff_toInt_lt.mp c198_15
        have q16 : rg (-2147483648) (-1) v12 := (rg_lt c198_15 rv12 kc_0).1
        have uq16 : (-2147483648 : Int) ≤ v12.toInt ∧ v12.toInt ≤ -1 := q16
        refine lv_iconst (v := 0) hx hb dX9_readElements_205 (by decide) ?_
        exact hQ _ _ (0 : Int32) _ _ _ dX9_readElements_206 L13 ⟨hW, (mFi.up (mFi.sub mFi.rf hi11 (mSub_eq 5 rfl mSub_nil)) eg13 (mIn_at 3 rfl (Or.inr (Nat.div_one _)))), (mFr.upE (mFr.tr mFr.rf hp11.1 rfl) eg13 rfl), rg_w kc_0 rfl, (fun h => by have : (0 : Int32).toInt = 0 := (by decide); omega)⟩
      · skip
        replace hW := wfP_i (wfP_r hW) (i_le (rg_nlt c198_15) (rg_i kc_0) rfl)
        have ic198_15 := Int32.le_iff_toInt_le.mp (rg_nlt c198_15)
        have q17 : rg (0) (2147483647) v12 := (rg_le (rg_nlt c198_15) kc_0 rv12).2
        have uq17 : (0 : Int) ≤ v12.toInt ∧ v12.toInt ≤ 2147483647 := q17
        refine lv_iconst (v := 1) hx hb dX9_readElements_201 (by decide) ?_
        refine lv_goto (tgt := 206) hx hb dX9_readElements_202 (by decide) ?_
        exact hQ _ _ (1 : Int32) _ _ _ dX9_readElements_206 L13 ⟨hW, (mFi.up (mFi.sub mFi.rf hi11 (mSub_eq 5 rfl mSub_nil)) eg13 (mIn_at 3 rfl (Or.inr (Nat.div_one _)))), (mFr.upE (mFr.tr mFr.rf hp11.1 rfl) eg13 rfl), rg_w kc_1 rfl, (fun _ h => by rw [← (mm_up (mm_fr ev1 hp11.1 rfl) eg13 rfl)] at h; omega)⟩
  replace hW := wfP_i (wfP_r hW) c4_2_2
  by_cases c4_2_5 : v1.toInt = 5
  · skip
    replace hW := wfP_i (wfP_l hW) c4_2_5
    refine lv_lookup (off := 60) (tgt := 64) hx hb dX9_readElements_4 (by decide) (by rw [c4_2_5]; rfl) (by decide) ?_
    refine lv_aload_n hx hb dX9_readElements_64 rfl (lv_at hl 0 rfl) ?_
    refine lv_aload_n hx hb dX9_readElements_65 rfl (lv_at hl 0 rfl) ?_
    refine lv_aload_n hx hb dX9_readElements_66 rfl (lv_at hl 1 rfl) ?_
    refine lv_iload_n hx hb dX9_readElements_67 rfl (lv_at hl 2 rfl) ?_
    refine lv_bipush (v := 112) hx hb dX9_readElements_68 (by decide) ?_
    refine lv_iconst (v := 1) hx hb dX9_readElements_70 (by decide) ?_
    refine c_ci (As := [.ref (Z.ad 34 q1), .int p2, .int (112 : Int32), .int (1 : Int32)]) (rest := [.ref (Z.ad 9 i0)]) x hml L 9 i0 hal0 rfl (d_kselement l X g i0 q1 p2 (112 : Int32) (1 : Int32) hX hal0 hq1 (rg_w kc_1 rfl) hW) (wk_V kd_X9_element kl_X9_27 ki_X9_element ks_X9_X9_element kn_X9) rfl ⟨rfl, rfl⟩ hd_kselement ⟨Nat.le_of_ble_eq_true rfl, Nat.le_of_ble_eq_true rfl⟩ rfl hl.1 rfl (lv_room (Nat.le_of_ble_eq_true rfl)) dX9_readElements_71 (fun v19 g18 H18 k18 hp18 L18 => ?_)
    obtain ⟨hW, hi18, hp18⟩ := hp18
    replace hW := wfP_i hW ⟨hi18, hp18⟩
    have rv19 : rg (-2147483648) (2147483647) v19 := hp18.2.1
    have uv19 : (-2147483648 : Int) ≤ v19.toInt ∧ v19.toInt ≤ 2147483647 := rv19
    refine c_puti x L18 9 i0 3 291 hal0 rfl rfl ⟨rfl, by decide +kernel⟩ (wk_in kf_X9_31) dX9_readElements_74 (rg_any v19) (fun g20 H20 k20 eg20 L20 => ?_)
    replace hW := (wfP_i (wfP_a hW g20) eg20)
    refine lv_aload_n hx hb dX9_readElements_77 rfl (lv_at hl 0 rfl) ?_
    refine lv_aload_n hx hb dX9_readElements_78 rfl (lv_at hl 0 rfl) ?_
    refine lv_aload_n hx hb dX9_readElements_79 rfl (lv_at hl 1 rfl) ?_
    refine lv_iload_n hx hb dX9_readElements_80 rfl (lv_at hl 2 rfl) ?_
    refine lv_bipush (v := 89) hx hb dX9_readElements_81 (by decide) ?_
    refine lv_iconst (v := 1) hx hb dX9_readElements_83 (by decide) ?_
    refine c_ci (As := [.ref (Z.ad 34 q1), .int p2, .int (89 : Int32), .int (1 : Int32)]) (rest := [.ref (Z.ad 9 i0)]) x hml L20 9 i0 hal0 rfl (d_kselement l X g20 i0 q1 p2 (89 : Int32) (1 : Int32) hX hal0 hq1 (rg_w kc_1 rfl) hW) (wk_V kd_X9_element kl_X9_27 ki_X9_element ks_X9_X9_element kn_X9) rfl ⟨rfl, rfl⟩ hd_kselement ⟨Nat.le_of_ble_eq_true rfl, Nat.le_of_ble_eq_true rfl⟩ rfl hl.1 rfl (lv_room (Nat.le_of_ble_eq_true rfl)) dX9_readElements_84 (fun v22 g21 H21 k21 hp21 L21 => ?_)
    obtain ⟨hW, hi21, hp21⟩ := hp21
    replace hW := wfP_i hW ⟨hi21, hp21⟩
    have rv22 : rg (-2147483648) (2147483647) v22 := hp21.2.1
    have uv22 : (-2147483648 : Int) ≤ v22.toInt ∧ v22.toInt ≤ 2147483647 := rv22
    refine c_puti x L21 9 i0 5 293 hal0 rfl rfl ⟨rfl, by decide +kernel⟩ (wk_in kf_X9_34) dX9_readElements_87 (rg_any v22) (fun g23 H23 k23 eg23 L23 => ?_)
    replace hW := (wfP_i (wfP_a hW g23) eg23)
    refine lv_aload_n hx hb dX9_readElements_90 rfl (lv_at hl 0 rfl) ?_
    refine lv_iload_n hx hb dX9_readElements_91 rfl (lv_at hl 3 rfl) ?_
    refine lv_if_eq (tgt := 107) hx hb dX9_readElements_92 (by decide) (fun c92_24 => ?_) (fun c92_24 => ?_)
    · skip
      replace hW := wfP_i (wfP_l hW) (i_eq c92_24 rfl (rg_i kc_0))
      have ic92_24 := congrArg Int32.toInt c92_24
      have y25 : (0 : Int32).toInt = 0 := by decide
      have q26 : rg (0) (0) p3 := (rg_eq c92_24 rp3 kc_0).1
      have uq26 : (0 : Int) ≤ p3.toInt ∧ p3.toInt ≤ 0 := q26
      refine lv_iconst (v := 0) hx hb dX9_readElements_107 (by decide) ?_
      refine c_puti x L23 9 i0 4 292 hal0 rfl rfl ⟨rfl, by decide +kernel⟩ (wk_in kf_X9_37) dX9_readElements_108 (rg_any (0 : Int32)) (fun g27 H27 k27 eg27 L27 => ?_)
      replace hW := (wfP_i (wfP_a hW g27) eg27)
      refine lv_aload_n hx hb dX9_readElements_111 rfl (lv_at hl 0 rfl) ?_
      refine lv_iload_n hx hb dX9_readElements_112 rfl (lv_at hl 3 rfl) ?_
      refine lv_if_eq (tgt := 128) hx hb dX9_readElements_113 (by decide) (fun c113_28 => ?_) (fun c113_28 => ?_)
      · skip
        replace hW := wfP_i (wfP_l hW) (i_eq c113_28 rfl (rg_i kc_0))
        have ic113_28 := congrArg Int32.toInt c113_28
        have y29 : (0 : Int32).toInt = 0 := by decide
        refine lv_iconst (v := 0) hx hb dX9_readElements_128 (by decide) ?_
        refine c_puti x L27 9 i0 6 294 hal0 rfl rfl ⟨rfl, by decide +kernel⟩ (wk_in kf_X9_40) dX9_readElements_129 (rg_any (0 : Int32)) (fun g30 H30 k30 eg30 L30 => ?_)
        replace hW := (wfP_i (wfP_a hW g30) eg30)
        refine lv_aload_n hx hb dX9_readElements_132 rfl (lv_at hl 0 rfl) ?_
        refine c_geti x L30 9 i0 2 290 hal0 rfl rfl (wk_in kf_X9_9) dX9_readElements_133 (fun v31 ev31 wv31 => ?_)
        have rv31 : rg (0) (1) v31 := clj_290 wv31
        replace hW := (wfP_i (wfP_i (wfP_a hW v31) ev31) rv31)
        have uv31 : (0 : Int) ≤ v31.toInt ∧ v31.toInt ≤ 1 := rv31
        have sv31 : v31.toInt = (g 290 i0).toInt := congrArg Int32.toInt (ev31.trans (congrFun ((show mFr [291, 292, 293, 294, 295, 296] g g30 from (mFr.upE (mFr.upE (mFr.upE (mFr.tr (mFr.upE (mFr.tr mFr.rf hp18.1 rfl) eg20 rfl) hp21.1 rfl) eg23 rfl) eg27 rfl) eg30 rfl)).at 290 rfl) _))
        refine lv_if_eq (tgt := 171) hx hb dX9_readElements_136 (by decide) (fun c136_32 => ?_) (fun c136_32 => ?_)
        · skip
          replace hW := wfP_i (wfP_l hW) (i_eq c136_32 rfl (rg_i kc_0))
          have ic136_32 := congrArg Int32.toInt c136_32
          have y33 : (0 : Int32).toInt = 0 := by decide
          have q34 : rg (0) (0) v31 := (rg_eq c136_32 rv31 kc_0).1
          have uq34 : (0 : Int) ≤ v31.toInt ∧ v31.toInt ≤ 0 := q34
          refine lv_iconst (v := 0) hx hb dX9_readElements_171 (by decide) ?_
          exact hQ _ _ (0 : Int32) _ _ _ dX9_readElements_172 L30 ⟨hW, (mFi.up (mFi.up (mFi.up (mFi.sub (mFi.up (mFi.sub mFi.rf hi18 (mSub_eq 5 rfl mSub_nil)) eg20 (mIn_at 0 rfl (Or.inr (Nat.div_one _)))) hi21 (mSub_eq 5 rfl mSub_nil)) eg23 (mIn_at 2 rfl (Or.inr (Nat.div_one _)))) eg27 (mIn_at 1 rfl (Or.inr (Nat.div_one _)))) eg30 (mIn_at 3 rfl (Or.inr (Nat.div_one _)))), (mFr.upE (mFr.upE (mFr.upE (mFr.tr (mFr.upE (mFr.tr mFr.rf hp18.1 rfl) eg20 rfl) hp21.1 rfl) eg23 rfl) eg27 rfl) eg30 rfl), rg_w kc_0 rfl, (fun h => by have : (0 : Int32).toInt = 0 := (by decide); omega)⟩
        · skip
          replace hW := wfP_i (wfP_r hW) (i_ne c136_32 rfl (rg_i kc_0))
          have ic136_32 : v31.toInt ≠ (0 : Int32).toInt := fun z => c136_32 (Int32.toInt_inj.mp z)
          have y35 : (0 : Int32).toInt = 0 := by decide
          have q36 : rg (1) (1) v31 := rg_neL c136_32 rv31 kc_0
          have uq36 : (1 : Int) ≤ v31.toInt ∧ v31.toInt ≤ 1 := q36
          refine lv_aload_n hx hb dX9_readElements_139 rfl (lv_at hl 0 rfl) ?_
          refine c_geti x L30 9 i0 3 291 hal0 rfl rfl (wk_in kf_X9_31) dX9_readElements_140 (fun v37 ev37 wv37 => ?_)
          refine m_top (((mm_up (mm_up (mm_up (mm_fr (mm_st eg20) hp21.1 rfl) eg23 rfl) eg27 rfl) eg30 rfl)).trans ev37.symm) ?_
          refine lv_if_lt (tgt := 171) hx hb dX9_readElements_143 (by decide) (fun c143_38 => ?_) (fun c143_38 => ?_)
          · skip
            replace hW := wfP_i (wfP_l hW) (i_lt c143_38 rfl (rg_i kc_0))
            have ic143_38 := Int32.lt_iff_toInt_lt.mp c143_38
            have q39 : rg (-2147483648) (-1) v19 := (rg_lt c143_38 rv19 kc_0).1
            have uq39 : (-2147483648 : Int) ≤ v19.toInt ∧ v19.toInt ≤ -1 := q39
            refine lv_iconst (v := 0) hx hb dX9_readElements_171 (by decide) ?_
            exact hQ _ _ (0 : Int32) _ _ _ dX9_readElements_172 L30 ⟨hW, (mFi.up (mFi.up (mFi.up (mFi.sub (mFi.up (mFi.sub mFi.rf hi18 (mSub_eq 5 rfl mSub_nil)) eg20 (mIn_at 0 rfl (Or.inr (Nat.div_one _)))) hi21 (mSub_eq 5 rfl mSub_nil)) eg23 (mIn_at 2 rfl (Or.inr (Nat.div_one _)))) eg27 (mIn_at 1 rfl (Or.inr (Nat.div_one _)))) eg30 (mIn_at 3 rfl (Or.inr (Nat.div_one _)))), (mFr.upE (mFr.upE (mFr.upE (mFr.tr (mFr.upE (mFr.tr mFr.rf hp18.1 rfl) eg20 rfl) hp21.1 rfl) eg23 rfl) eg27 rfl) eg30 rfl), rg_w kc_0 rfl, (fun h => by have : (0 : Int32).toInt = 0 := (by decide); omega)⟩
          · skip
            replace hW := wfP_i (wfP_r hW) (i_le (rg_nlt c143_38) (rg_i kc_0) rfl)
            have ic143_38 := Int32.le_iff_toInt_le.mp (rg_nlt c143_38)
            have q40 : rg (0) (2147483647) v19 := (rg_le (rg_nlt c143_38) kc_0 rv19).2
            have uq40 : (0 : Int) ≤ v19.toInt ∧ v19.toInt ≤ 2147483647 := q40
            refine lv_aload_n hx hb dX9_readElements_146 rfl (lv_at hl 0 rfl) ?_
            refine c_geti x L30 9 i0 5 293 hal0 rfl rfl (wk_in kf_X9_34) dX9_readElements_147 (fun v41 ev41 wv41 => ?_)
            refine m_top (((mm_up (mm_up (mm_st eg23) eg27 rfl) eg30 rfl)).trans ev41.symm) ?_
            refine lv_if_lt (tgt := 171) hx hb dX9_readElements_150 (by decide) (fun c150_42 => ?_) (fun c150_42 => ?_)
            · skip
              replace hW := wfP_i (wfP_l hW) (i_lt c150_42 rfl (rg_i kc_0))
              have ic150_42 := Int32.lt_iff_toInt_lt.mp c150_42
              have q43 : rg (-2147483648) (-1) v22 := (rg_lt c150_42 rv22 kc_0).1
              have uq43 : (-2147483648 : Int) ≤ v22.toInt ∧ v22.toInt ≤ -1 := q43
              refine lv_iconst (v := 0) hx hb dX9_readElements_171 (by decide) ?_
              exact hQ _ _ (0 : Int32) _ _ _ dX9_readElements_172 L30 ⟨hW, (mFi.up (mFi.up (mFi.up (mFi.sub (mFi.up (mFi.sub mFi.rf hi18 (mSub_eq 5 rfl mSub_nil)) eg20 (mIn_at 0 rfl (Or.inr (Nat.div_one _)))) hi21 (mSub_eq 5 rfl mSub_nil)) eg23 (mIn_at 2 rfl (Or.inr (Nat.div_one _)))) eg27 (mIn_at 1 rfl (Or.inr (Nat.div_one _)))) eg30 (mIn_at 3 rfl (Or.inr (Nat.div_one _)))), (mFr.upE (mFr.upE (mFr.upE (mFr.tr (mFr.upE (mFr.tr mFr.rf hp18.1 rfl) eg20 rfl) hp21.1 rfl) eg23 rfl) eg27 rfl) eg30 rfl), rg_w kc_0 rfl, (fun h => by have : (0 : Int32).toInt = 0 := (by decide); omega)⟩
            · skip
              replace hW := wfP_i (wfP_r hW) (i_le (rg_nlt c150_42) (rg_i kc_0) rfl)
              have ic150_42 := Int32.le_iff_toInt_le.mp (rg_nlt c150_42)
              have q44 : rg (0) (2147483647) v22 := (rg_le (rg_nlt c150_42) kc_0 rv22).2
              have uq44 : (0 : Int) ≤ v22.toInt ∧ v22.toInt ≤ 2147483647 := q44
              refine lv_aload_n hx hb dX9_readElements_153 rfl (lv_at hl 0 rfl) ?_
              refine c_geti x L30 9 i0 4 292 hal0 rfl rfl (wk_in kf_X9_37) dX9_readElements_154 (fun v45 ev45 wv45 => ?_)
              refine m_top (((mm_up (mm_st eg27) eg30 rfl)).trans ev45.symm) ?_
              refine lv_if_lt (tgt := 171) hx hb dX9_readElements_157 (by decide) (fun c157_46 => ?_) (fun c157_46 => ?_)
              · skip
                exact absurd c157_46 (by decide)
              · skip
                refine lv_aload_n hx hb dX9_readElements_160 rfl (lv_at hl 0 rfl) ?_
                refine c_geti x L30 9 i0 6 294 hal0 rfl rfl (wk_in kf_X9_40) dX9_readElements_161 (fun v47 ev47 wv47 => ?_)
                refine m_top (((mm_st eg30)).trans ev47.symm) ?_
                refine lv_if_lt (tgt := 171) hx hb dX9_readElements_164 (by decide) (fun c164_48 => ?_) (fun c164_48 => ?_)
                · skip
                  exact absurd c164_48 (by decide)
                · skip
                  refine lv_iconst (v := 1) hx hb dX9_readElements_167 (by decide) ?_
                  refine lv_goto (tgt := 172) hx hb dX9_readElements_168 (by decide) ?_
                  exact hQ _ _ (1 : Int32) _ _ _ dX9_readElements_172 L30 ⟨hW, (mFi.up (mFi.up (mFi.up (mFi.sub (mFi.up (mFi.sub mFi.rf hi18 (mSub_eq 5 rfl mSub_nil)) eg20 (mIn_at 0 rfl (Or.inr (Nat.div_one _)))) hi21 (mSub_eq 5 rfl mSub_nil)) eg23 (mIn_at 2 rfl (Or.inr (Nat.div_one _)))) eg27 (mIn_at 1 rfl (Or.inr (Nat.div_one _)))) eg30 (mIn_at 3 rfl (Or.inr (Nat.div_one _)))), (mFr.upE (mFr.upE (mFr.upE (mFr.tr (mFr.upE (mFr.tr mFr.rf hp18.1 rfl) eg20 rfl) hp21.1 rfl) eg23 rfl) eg27 rfl) eg30 rfl), rg_w kc_1 rfl, (fun _ _ => by rw [← (mm_up (mm_up (mm_up (mm_fr (mm_st eg20) hp21.1 rfl) eg23 rfl) eg27 rfl) eg30 rfl)]; omega)⟩
      · skip
        replace hW := wfP_i (wfP_r hW) (i_ne c113_28 rfl (rg_i kc_0))
        have ic113_28 : p3.toInt ≠ (0 : Int32).toInt := fun z => c113_28 (Int32.toInt_inj.mp z)
        have y49 : (0 : Int32).toInt = 0 := by decide
        exact absurd (rg_neH c113_28 q26 kc_0 : rg (0) (-1) p3) (fun q => rg_dead q rfl)
    · skip
      replace hW := wfP_i (wfP_r hW) (i_ne c92_24 rfl (rg_i kc_0))
      have ic92_24 : p3.toInt ≠ (0 : Int32).toInt := fun z => c92_24 (Int32.toInt_inj.mp z)
      have y50 : (0 : Int32).toInt = 0 := by decide
      have q51 : rg (1) (1) p3 := rg_neL c92_24 rp3 kc_0
      have uq51 : (1 : Int) ≤ p3.toInt ∧ p3.toInt ≤ 1 := q51
      refine lv_aload_n hx hb dX9_readElements_95 rfl (lv_at hl 0 rfl) ?_
      refine lv_aload_n hx hb dX9_readElements_96 rfl (lv_at hl 1 rfl) ?_
      refine lv_iload_n hx hb dX9_readElements_97 rfl (lv_at hl 2 rfl) ?_
      refine lv_bipush (v := 108) hx hb dX9_readElements_98 (by decide) ?_
      refine lv_iconst (v := 1) hx hb dX9_readElements_100 (by decide) ?_
      refine c_ci (As := [.ref (Z.ad 34 q1), .int p2, .int (108 : Int32), .int (1 : Int32)]) (rest := [.ref (Z.ad 9 i0)]) x hml L23 9 i0 hal0 rfl (d_kselement l X g23 i0 q1 p2 (108 : Int32) (1 : Int32) hX hal0 hq1 (rg_w kc_1 rfl) hW) (wk_V kd_X9_element kl_X9_27 ki_X9_element ks_X9_X9_element kn_X9) rfl ⟨rfl, rfl⟩ hd_kselement ⟨Nat.le_of_ble_eq_true rfl, Nat.le_of_ble_eq_true rfl⟩ rfl hl.1 rfl (lv_room (Nat.le_of_ble_eq_true rfl)) dX9_readElements_101 (fun v53 g52 H52 k52 hp52 L52 => ?_)
      obtain ⟨hW, hi52, hp52⟩ := hp52
      replace hW := wfP_i hW ⟨hi52, hp52⟩
      have rv53 : rg (-2147483648) (2147483647) v53 := hp52.2.1
      have uv53 : (-2147483648 : Int) ≤ v53.toInt ∧ v53.toInt ≤ 2147483647 := rv53
      refine lv_goto (tgt := 108) hx hb dX9_readElements_104 (by decide) ?_
      refine c_puti x L52 9 i0 4 292 hal0 rfl rfl ⟨rfl, by decide +kernel⟩ (wk_in kf_X9_37) dX9_readElements_108 (rg_any v53) (fun g54 H54 k54 eg54 L54 => ?_)
      replace hW := (wfP_i (wfP_a hW g54) eg54)
      refine lv_aload_n hx hb dX9_readElements_111 rfl (lv_at hl 0 rfl) ?_
      refine lv_iload_n hx hb dX9_readElements_112 rfl (lv_at hl 3 rfl) ?_
      refine lv_if_eq (tgt := 128) hx hb dX9_readElements_113 (by decide) (fun c113_55 => ?_) (fun c113_55 => ?_)
      · skip
        replace hW := wfP_i (wfP_l hW) (i_eq c113_55 rfl (rg_i kc_0))
        have ic113_55 := congrArg Int32.toInt c113_55
        have y56 : (0 : Int32).toInt = 0 := by decide
        exact absurd ((rg_eq c113_55 q51 kc_0).1 : rg (1) (0) p3) (fun q => rg_dead q rfl)
      · skip
        replace hW := wfP_i (wfP_r hW) (i_ne c113_55 rfl (rg_i kc_0))
        have ic113_55 : p3.toInt ≠ (0 : Int32).toInt := fun z => c113_55 (Int32.toInt_inj.mp z)
        have y57 : (0 : Int32).toInt = 0 := by decide
        refine lv_aload_n hx hb dX9_readElements_116 rfl (lv_at hl 0 rfl) ?_
        refine lv_aload_n hx hb dX9_readElements_117 rfl (lv_at hl 1 rfl) ?_
        refine lv_iload_n hx hb dX9_readElements_118 rfl (lv_at hl 2 rfl) ?_
        refine lv_bipush (v := 90) hx hb dX9_readElements_119 (by decide) ?_
        refine lv_iconst (v := 2) hx hb dX9_readElements_121 (by decide) ?_
        refine c_ci (As := [.ref (Z.ad 34 q1), .int p2, .int (90 : Int32), .int (2 : Int32)]) (rest := [.ref (Z.ad 9 i0)]) x hml L54 9 i0 hal0 rfl (d_kselement l X g54 i0 q1 p2 (90 : Int32) (2 : Int32) hX hal0 hq1 (rg_w kc_2 rfl) hW) (wk_V kd_X9_element kl_X9_27 ki_X9_element ks_X9_X9_element kn_X9) rfl ⟨rfl, rfl⟩ hd_kselement ⟨Nat.le_of_ble_eq_true rfl, Nat.le_of_ble_eq_true rfl⟩ rfl hl.1 rfl (lv_room (Nat.le_of_ble_eq_true rfl)) dX9_readElements_122 (fun v59 g58 H58 k58 hp58 L58 => ?_)
        obtain ⟨hW, hi58, hp58⟩ := hp58
        replace hW := wfP_i hW ⟨hi58, hp58⟩
        have rv59 : rg (-2147483648) (2147483647) v59 := hp58.2.1
        have uv59 : (-2147483648 : Int) ≤ v59.toInt ∧ v59.toInt ≤ 2147483647 := rv59
        refine lv_goto (tgt := 129) hx hb dX9_readElements_125 (by decide) ?_
        refine c_puti x L58 9 i0 6 294 hal0 rfl rfl ⟨rfl, by decide +kernel⟩ (wk_in kf_X9_40) dX9_readElements_129 (rg_any v59) (fun g60 H60 k60 eg60 L60 => ?_)
        replace hW := (wfP_i (wfP_a hW g60) eg60)
        refine lv_aload_n hx hb dX9_readElements_132 rfl (lv_at hl 0 rfl) ?_
        refine c_geti x L60 9 i0 2 290 hal0 rfl rfl (wk_in kf_X9_9) dX9_readElements_133 (fun v61 ev61 wv61 => ?_)
        have rv61 : rg (0) (1) v61 := clj_290 wv61
        replace hW := (wfP_i (wfP_i (wfP_a hW v61) ev61) rv61)
        have uv61 : (0 : Int) ≤ v61.toInt ∧ v61.toInt ≤ 1 := rv61
        have sv61 : v61.toInt = (g 290 i0).toInt := congrArg Int32.toInt (ev61.trans (congrFun ((show mFr [291, 292, 293, 294, 295, 296] g g60 from (mFr.upE (mFr.tr (mFr.upE (mFr.tr (mFr.upE (mFr.tr (mFr.upE (mFr.tr mFr.rf hp18.1 rfl) eg20 rfl) hp21.1 rfl) eg23 rfl) hp52.1 rfl) eg54 rfl) hp58.1 rfl) eg60 rfl)).at 290 rfl) _))
        refine lv_if_eq (tgt := 171) hx hb dX9_readElements_136 (by decide) (fun c136_62 => ?_) (fun c136_62 => ?_)
        · skip
          replace hW := wfP_i (wfP_l hW) (i_eq c136_62 rfl (rg_i kc_0))
          have ic136_62 := congrArg Int32.toInt c136_62
          have y63 : (0 : Int32).toInt = 0 := by decide
          have q64 : rg (0) (0) v61 := (rg_eq c136_62 rv61 kc_0).1
          have uq64 : (0 : Int) ≤ v61.toInt ∧ v61.toInt ≤ 0 := q64
          refine lv_iconst (v := 0) hx hb dX9_readElements_171 (by decide) ?_
          exact hQ _ _ (0 : Int32) _ _ _ dX9_readElements_172 L60 ⟨hW, (mFi.up (mFi.sub (mFi.up (mFi.sub (mFi.up (mFi.sub (mFi.up (mFi.sub mFi.rf hi18 (mSub_eq 5 rfl mSub_nil)) eg20 (mIn_at 0 rfl (Or.inr (Nat.div_one _)))) hi21 (mSub_eq 5 rfl mSub_nil)) eg23 (mIn_at 2 rfl (Or.inr (Nat.div_one _)))) hi52 (mSub_eq 5 rfl mSub_nil)) eg54 (mIn_at 1 rfl (Or.inr (Nat.div_one _)))) hi58 (mSub_eq 5 rfl mSub_nil)) eg60 (mIn_at 3 rfl (Or.inr (Nat.div_one _)))), (mFr.upE (mFr.tr (mFr.upE (mFr.tr (mFr.upE (mFr.tr (mFr.upE (mFr.tr mFr.rf hp18.1 rfl) eg20 rfl) hp21.1 rfl) eg23 rfl) hp52.1 rfl) eg54 rfl) hp58.1 rfl) eg60 rfl), rg_w kc_0 rfl, (fun h => by have : (0 : Int32).toInt = 0 := (by decide); omega)⟩
        · skip
          replace hW := wfP_i (wfP_r hW) (i_ne c136_62 rfl (rg_i kc_0))
          have ic136_62 : v61.toInt ≠ (0 : Int32).toInt := fun z => c136_62 (Int32.toInt_inj.mp z)
          have y65 : (0 : Int32).toInt = 0 := by decide
          have q66 : rg (1) (1) v61 := rg_neL c136_62 rv61 kc_0
          have uq66 : (1 : Int) ≤ v61.toInt ∧ v61.toInt ≤ 1 := q66
          refine lv_aload_n hx hb dX9_readElements_139 rfl (lv_at hl 0 rfl) ?_
          refine c_geti x L60 9 i0 3 291 hal0 rfl rfl (wk_in kf_X9_31) dX9_readElements_140 (fun v67 ev67 wv67 => ?_)
          refine m_top (((mm_up (mm_fr (mm_up (mm_fr (mm_up (mm_fr (mm_st eg20) hp21.1 rfl) eg23 rfl) hp52.1 rfl) eg54 rfl) hp58.1 rfl) eg60 rfl)).trans ev67.symm) ?_
          refine lv_if_lt (tgt := 171) hx hb dX9_readElements_143 (by decide) (fun c143_68 => ?_) (fun c143_68 => ?_)
          · skip
            replace hW := wfP_i (wfP_l hW) (i_lt c143_68 rfl (rg_i kc_0))
            have ic143_68 := Int32.lt_iff_toInt_lt.mp c143_68
            have q69 : rg (-2147483648) (-1) v19 := (rg_lt c143_68 rv19 kc_0).1
            have uq69 : (-2147483648 : Int) ≤ v19.toInt ∧ v19.toInt ≤ -1 := q69
            refine lv_iconst (v := 0) hx hb dX9_readElements_171 (by decide) ?_
            exact hQ _ _ (0 : Int32) _ _ _ dX9_readElements_172 L60 ⟨hW, (mFi.up (mFi.sub (mFi.up (mFi.sub (mFi.up (mFi.sub (mFi.up (mFi.sub mFi.rf hi18 (mSub_eq 5 rfl mSub_nil)) eg20 (mIn_at 0 rfl (Or.inr (Nat.div_one _)))) hi21 (mSub_eq 5 rfl mSub_nil)) eg23 (mIn_at 2 rfl (Or.inr (Nat.div_one _)))) hi52 (mSub_eq 5 rfl mSub_nil)) eg54 (mIn_at 1 rfl (Or.inr (Nat.div_one _)))) hi58 (mSub_eq 5 rfl mSub_nil)) eg60 (mIn_at 3 rfl (Or.inr (Nat.div_one _)))), (mFr.upE (mFr.tr (mFr.upE (mFr.tr (mFr.upE (mFr.tr (mFr.upE (mFr.tr mFr.rf hp18.1 rfl) eg20 rfl) hp21.1 rfl) eg23 rfl) hp52.1 rfl) eg54 rfl) hp58.1 rfl) eg60 rfl), rg_w kc_0 rfl, (fun h => by have : (0 : Int32).toInt = 0 := (by decide); omega)⟩
          · skip
            replace hW := wfP_i (wfP_r hW) (i_le (rg_nlt c143_68) (rg_i kc_0) rfl)
            have ic143_68 := Int32.le_iff_toInt_le.mp (rg_nlt c143_68)
            have q70 : rg (0) (2147483647) v19 := (rg_le (rg_nlt c143_68) kc_0 rv19).2
            have uq70 : (0 : Int) ≤ v19.toInt ∧ v19.toInt ≤ 2147483647 := q70
            refine lv_aload_n hx hb dX9_readElements_146 rfl (lv_at hl 0 rfl) ?_
            refine c_geti x L60 9 i0 5 293 hal0 rfl rfl (wk_in kf_X9_34) dX9_readElements_147 (fun v71 ev71 wv71 => ?_)
            refine m_top (((mm_up (mm_fr (mm_up (mm_fr (mm_st eg23) hp52.1 rfl) eg54 rfl) hp58.1 rfl) eg60 rfl)).trans ev71.symm) ?_
            refine lv_if_lt (tgt := 171) hx hb dX9_readElements_150 (by decide) (fun c150_72 => ?_) (fun c150_72 => ?_)
            · skip
              replace hW := wfP_i (wfP_l hW) (i_lt c150_72 rfl (rg_i kc_0))
              have ic150_72 := Int32.lt_iff_toInt_lt.mp c150_72
              have q73 : rg (-2147483648) (-1) v22 := (rg_lt c150_72 rv22 kc_0).1
              have uq73 : (-2147483648 : Int) ≤ v22.toInt ∧ v22.toInt ≤ -1 := q73
              refine lv_iconst (v := 0) hx hb dX9_readElements_171 (by decide) ?_
              exact hQ _ _ (0 : Int32) _ _ _ dX9_readElements_172 L60 ⟨hW, (mFi.up (mFi.sub (mFi.up (mFi.sub (mFi.up (mFi.sub (mFi.up (mFi.sub mFi.rf hi18 (mSub_eq 5 rfl mSub_nil)) eg20 (mIn_at 0 rfl (Or.inr (Nat.div_one _)))) hi21 (mSub_eq 5 rfl mSub_nil)) eg23 (mIn_at 2 rfl (Or.inr (Nat.div_one _)))) hi52 (mSub_eq 5 rfl mSub_nil)) eg54 (mIn_at 1 rfl (Or.inr (Nat.div_one _)))) hi58 (mSub_eq 5 rfl mSub_nil)) eg60 (mIn_at 3 rfl (Or.inr (Nat.div_one _)))), (mFr.upE (mFr.tr (mFr.upE (mFr.tr (mFr.upE (mFr.tr (mFr.upE (mFr.tr mFr.rf hp18.1 rfl) eg20 rfl) hp21.1 rfl) eg23 rfl) hp52.1 rfl) eg54 rfl) hp58.1 rfl) eg60 rfl), rg_w kc_0 rfl, (fun h => by have : (0 : Int32).toInt = 0 := (by decide); omega)⟩
            · skip
              replace hW := wfP_i (wfP_r hW) (i_le (rg_nlt c150_72) (rg_i kc_0) rfl)
              have ic150_72 := Int32.le_iff_toInt_le.mp (rg_nlt c150_72)
              have q74 : rg (0) (2147483647) v22 := (rg_le (rg_nlt c150_72) kc_0 rv22).2
              have uq74 : (0 : Int) ≤ v22.toInt ∧ v22.toInt ≤ 2147483647 := q74
              refine lv_aload_n hx hb dX9_readElements_153 rfl (lv_at hl 0 rfl) ?_
              refine c_geti x L60 9 i0 4 292 hal0 rfl rfl (wk_in kf_X9_37) dX9_readElements_154 (fun v75 ev75 wv75 => ?_)
              refine m_top (((mm_up (mm_fr (mm_st eg54) hp58.1 rfl) eg60 rfl)).trans ev75.symm) ?_
              refine lv_if_lt (tgt := 171) hx hb dX9_readElements_157 (by decide) (fun c157_76 => ?_) (fun c157_76 => ?_)
              · skip
                replace hW := wfP_i (wfP_l hW) (i_lt c157_76 rfl (rg_i kc_0))
                have ic157_76 := Int32.lt_iff_toInt_lt.mp c157_76
                have q77 : rg (-2147483648) (-1) v53 := (rg_lt c157_76 rv53 kc_0).1
                have uq77 : (-2147483648 : Int) ≤ v53.toInt ∧ v53.toInt ≤ -1 := q77
                refine lv_iconst (v := 0) hx hb dX9_readElements_171 (by decide) ?_
                exact hQ _ _ (0 : Int32) _ _ _ dX9_readElements_172 L60 ⟨hW, (mFi.up (mFi.sub (mFi.up (mFi.sub (mFi.up (mFi.sub (mFi.up (mFi.sub mFi.rf hi18 (mSub_eq 5 rfl mSub_nil)) eg20 (mIn_at 0 rfl (Or.inr (Nat.div_one _)))) hi21 (mSub_eq 5 rfl mSub_nil)) eg23 (mIn_at 2 rfl (Or.inr (Nat.div_one _)))) hi52 (mSub_eq 5 rfl mSub_nil)) eg54 (mIn_at 1 rfl (Or.inr (Nat.div_one _)))) hi58 (mSub_eq 5 rfl mSub_nil)) eg60 (mIn_at 3 rfl (Or.inr (Nat.div_one _)))), (mFr.upE (mFr.tr (mFr.upE (mFr.tr (mFr.upE (mFr.tr (mFr.upE (mFr.tr mFr.rf hp18.1 rfl) eg20 rfl) hp21.1 rfl) eg23 rfl) hp52.1 rfl) eg54 rfl) hp58.1 rfl) eg60 rfl), rg_w kc_0 rfl, (fun h => by have : (0 : Int32).toInt = 0 := (by decide); omega)⟩
              · skip
                replace hW := wfP_i (wfP_r hW) (i_le (rg_nlt c157_76) (rg_i kc_0) rfl)
                have ic157_76 := Int32.le_iff_toInt_le.mp (rg_nlt c157_76)
                have q78 : rg (0) (2147483647) v53 := (rg_le (rg_nlt c157_76) kc_0 rv53).2
                have uq78 : (0 : Int) ≤ v53.toInt ∧ v53.toInt ≤ 2147483647 := q78
                refine lv_aload_n hx hb dX9_readElements_160 rfl (lv_at hl 0 rfl) ?_
                refine c_geti x L60 9 i0 6 294 hal0 rfl rfl (wk_in kf_X9_40) dX9_readElements_161 (fun v79 ev79 wv79 => ?_)
                refine m_top (((mm_st eg60)).trans ev79.symm) ?_
                refine lv_if_lt (tgt := 171) hx hb dX9_readElements_164 (by decide) (fun c164_80 => ?_) (fun c164_80 => ?_)
                · skip
                  replace hW := wfP_i (wfP_l hW) (i_lt c164_80 rfl (rg_i kc_0))
                  have ic164_80 := Int32.lt_iff_toInt_lt.mp c164_80
                  have q81 : rg (-2147483648) (-1) v59 := (rg_lt c164_80 rv59 kc_0).1
                  have uq81 : (-2147483648 : Int) ≤ v59.toInt ∧ v59.toInt ≤ -1 := q81
                  refine lv_iconst (v := 0) hx hb dX9_readElements_171 (by decide) ?_
                  exact hQ _ _ (0 : Int32) _ _ _ dX9_readElements_172 L60 ⟨hW, (mFi.up (mFi.sub (mFi.up (mFi.sub (mFi.up (mFi.sub (mFi.up (mFi.sub mFi.rf hi18 (mSub_eq 5 rfl mSub_nil)) eg20 (mIn_at 0 rfl (Or.inr (Nat.div_one _)))) hi21 (mSub_eq 5 rfl mSub_nil)) eg23 (mIn_at 2 rfl (Or.inr (Nat.div_one _)))) hi52 (mSub_eq 5 rfl mSub_nil)) eg54 (mIn_at 1 rfl (Or.inr (Nat.div_one _)))) hi58 (mSub_eq 5 rfl mSub_nil)) eg60 (mIn_at 3 rfl (Or.inr (Nat.div_one _)))), (mFr.upE (mFr.tr (mFr.upE (mFr.tr (mFr.upE (mFr.tr (mFr.upE (mFr.tr mFr.rf hp18.1 rfl) eg20 rfl) hp21.1 rfl) eg23 rfl) hp52.1 rfl) eg54 rfl) hp58.1 rfl) eg60 rfl), rg_w kc_0 rfl, (fun h => by have : (0 : Int32).toInt = 0 := (by decide); omega)⟩
                · skip
                  replace hW := wfP_i (wfP_r hW) (i_le (rg_nlt c164_80) (rg_i kc_0) rfl)
                  have ic164_80 := Int32.le_iff_toInt_le.mp (rg_nlt c164_80)
                  have q82 : rg (0) (2147483647) v59 := (rg_le (rg_nlt c164_80) kc_0 rv59).2
                  have uq82 : (0 : Int) ≤ v59.toInt ∧ v59.toInt ≤ 2147483647 := q82
                  refine lv_iconst (v := 1) hx hb dX9_readElements_167 (by decide) ?_
                  refine lv_goto (tgt := 172) hx hb dX9_readElements_168 (by decide) ?_
                  exact hQ _ _ (1 : Int32) _ _ _ dX9_readElements_172 L60 ⟨hW, (mFi.up (mFi.sub (mFi.up (mFi.sub (mFi.up (mFi.sub (mFi.up (mFi.sub mFi.rf hi18 (mSub_eq 5 rfl mSub_nil)) eg20 (mIn_at 0 rfl (Or.inr (Nat.div_one _)))) hi21 (mSub_eq 5 rfl mSub_nil)) eg23 (mIn_at 2 rfl (Or.inr (Nat.div_one _)))) hi52 (mSub_eq 5 rfl mSub_nil)) eg54 (mIn_at 1 rfl (Or.inr (Nat.div_one _)))) hi58 (mSub_eq 5 rfl mSub_nil)) eg60 (mIn_at 3 rfl (Or.inr (Nat.div_one _)))), (mFr.upE (mFr.tr (mFr.upE (mFr.tr (mFr.upE (mFr.tr (mFr.upE (mFr.tr mFr.rf hp18.1 rfl) eg20 rfl) hp21.1 rfl) eg23 rfl) hp52.1 rfl) eg54 rfl) hp58.1 rfl) eg60 rfl), rg_w kc_1 rfl, (fun _ _ => by rw [← (mm_up (mm_fr (mm_up (mm_fr (mm_up (mm_fr (mm_st eg20) hp21.1 rfl) eg23 rfl) hp52.1 rfl) eg54 rfl) hp58.1 rfl) eg60 rfl)]; omega)⟩
  replace hW := wfP_i (wfP_r hW) c4_2_5
  by_cases c4_2_7 : v1.toInt = 7
  · skip
    replace hW := wfP_i (wfP_l hW) c4_2_7
    refine lv_lookup (off := 203) (tgt := 207) hx hb dX9_readElements_4 (by decide) (by rw [c4_2_7]; rfl) (by decide) ?_
    refine lv_iconst (v := 1) hx hb dX9_readElements_207 (by decide) ?_
    exact hQ _ _ (1 : Int32) _ _ _ dX9_readElements_208 L ⟨hW, mFi.rf, mFr.rf, rg_w kc_1 rfl, (fun _ h => by rw [← ev1] at h; omega)⟩
  replace hW := wfP_i (wfP_r hW) c4_2_7
  by_cases c4_2_15 : v1.toInt = 15
  · skip
    replace hW := wfP_i (wfP_l hW) c4_2_15
    refine lv_lookup (off := 203) (tgt := 207) hx hb dX9_readElements_4 (by decide) (by rw [c4_2_15]; rfl) (by decide) ?_
    refine lv_iconst (v := 1) hx hb dX9_readElements_207 (by decide) ?_
    exact hQ _ _ (1 : Int32) _ _ _ dX9_readElements_208 L ⟨hW, mFi.rf, mFr.rf, rg_w kc_1 rfl, (fun _ h => by rw [← ev1] at h; omega)⟩
  replace hW := wfP_i (wfP_r hW) c4_2_15
  by_cases c4_2_77 : v1.toInt = 77
  · skip
    replace hW := wfP_i (wfP_l hW) c4_2_77
    refine lv_lookup (off := 205) (tgt := 209) hx hb dX9_readElements_4 (by decide) (by rw [c4_2_77]; rfl) (by decide) ?_
    refine lv_aload_n hx hb dX9_readElements_209 rfl (lv_at hl 0 rfl) ?_
    refine lv_aload_n hx hb dX9_readElements_210 rfl (lv_at hl 0 rfl) ?_
    refine lv_aload_n hx hb dX9_readElements_211 rfl (lv_at hl 1 rfl) ?_
    refine lv_iload_n hx hb dX9_readElements_212 rfl (lv_at hl 2 rfl) ?_
    refine lv_bipush (v := 8) hx hb dX9_readElements_213 (by decide) ?_
    refine lv_iconst (v := 1) hx hb dX9_readElements_215 (by decide) ?_
    refine c_ci (As := [.ref (Z.ad 34 q1), .int p2, .int (8 : Int32), .int (1 : Int32)]) (rest := [.ref (Z.ad 9 i0)]) x hml L 9 i0 hal0 rfl (d_kselement l X g i0 q1 p2 (8 : Int32) (1 : Int32) hX hal0 hq1 (rg_w kc_1 rfl) hW) (wk_V kd_X9_element kl_X9_27 ki_X9_element ks_X9_X9_element kn_X9) rfl ⟨rfl, rfl⟩ hd_kselement ⟨Nat.le_of_ble_eq_true rfl, Nat.le_of_ble_eq_true rfl⟩ rfl hl.1 rfl (lv_room (Nat.le_of_ble_eq_true rfl)) dX9_readElements_216 (fun v84 g83 H83 k83 hp83 L83 => ?_)
    obtain ⟨hW, hi83, hp83⟩ := hp83
    replace hW := wfP_i hW ⟨hi83, hp83⟩
    have rv84 : rg (-2147483648) (2147483647) v84 := hp83.2.1
    have uv84 : (-2147483648 : Int) ≤ v84.toInt ∧ v84.toInt ≤ 2147483647 := rv84
    refine c_puti x L83 9 i0 7 295 hal0 rfl rfl ⟨rfl, by decide +kernel⟩ (wk_in kf_X9_43) dX9_readElements_219 (rg_any v84) (fun g85 H85 k85 eg85 L85 => ?_)
    replace hW := (wfP_i (wfP_a hW g85) eg85)
    refine lv_aload_n hx hb dX9_readElements_222 rfl (lv_at hl 0 rfl) ?_
    refine c_geti x L85 9 i0 7 295 hal0 rfl rfl (wk_in kf_X9_43) dX9_readElements_223 (fun v86 ev86 wv86 => ?_)
    refine m_top (((mm_st eg85)).trans ev86.symm) ?_
    refine lv_if_lt (tgt := 233) hx hb dX9_readElements_226 (by decide) (fun c226_87 => ?_) (fun c226_87 => ?_)
    · skip
      replace hW := wfP_i (wfP_l hW) (i_lt c226_87 rfl (rg_i kc_0))
      have ic226_87 := Int32.lt_iff_toInt_lt.mp c226_87
      have q88 : rg (-2147483648) (-1) v84 := (rg_lt c226_87 rv84 kc_0).1
      have uq88 : (-2147483648 : Int) ≤ v84.toInt ∧ v84.toInt ≤ -1 := q88
      refine lv_iconst (v := 0) hx hb dX9_readElements_233 (by decide) ?_
      exact hQ _ _ (0 : Int32) _ _ _ dX9_readElements_234 L85 ⟨hW, (mFi.up (mFi.sub mFi.rf hi83 (mSub_eq 5 rfl mSub_nil)) eg85 (mIn_at 4 rfl (Or.inr (Nat.div_one _)))), (mFr.upE (mFr.tr mFr.rf hp83.1 rfl) eg85 rfl), rg_w kc_0 rfl, (fun h => by have : (0 : Int32).toInt = 0 := (by decide); omega)⟩
    · skip
      replace hW := wfP_i (wfP_r hW) (i_le (rg_nlt c226_87) (rg_i kc_0) rfl)
      have ic226_87 := Int32.le_iff_toInt_le.mp (rg_nlt c226_87)
      have q89 : rg (0) (2147483647) v84 := (rg_le (rg_nlt c226_87) kc_0 rv84).2
      have uq89 : (0 : Int) ≤ v84.toInt ∧ v84.toInt ≤ 2147483647 := q89
      refine lv_iconst (v := 1) hx hb dX9_readElements_229 (by decide) ?_
      refine lv_goto (tgt := 234) hx hb dX9_readElements_230 (by decide) ?_
      exact hQ _ _ (1 : Int32) _ _ _ dX9_readElements_234 L85 ⟨hW, (mFi.up (mFi.sub mFi.rf hi83 (mSub_eq 5 rfl mSub_nil)) eg85 (mIn_at 4 rfl (Or.inr (Nat.div_one _)))), (mFr.upE (mFr.tr mFr.rf hp83.1 rfl) eg85 rfl), rg_w kc_1 rfl, (fun _ h => by rw [← (mm_up (mm_fr ev1 hp83.1 rfl) eg85 rfl)] at h; omega)⟩
  replace hW := wfP_i (wfP_r hW) c4_2_77
  by_cases c4_2_90 : v1.toInt = 90
  · skip
    replace hW := wfP_i (wfP_l hW) c4_2_90
    refine lv_lookup (off := 205) (tgt := 209) hx hb dX9_readElements_4 (by decide) (by rw [c4_2_90]; rfl) (by decide) ?_
    refine lv_aload_n hx hb dX9_readElements_209 rfl (lv_at hl 0 rfl) ?_
    refine lv_aload_n hx hb dX9_readElements_210 rfl (lv_at hl 0 rfl) ?_
    refine lv_aload_n hx hb dX9_readElements_211 rfl (lv_at hl 1 rfl) ?_
    refine lv_iload_n hx hb dX9_readElements_212 rfl (lv_at hl 2 rfl) ?_
    refine lv_bipush (v := 8) hx hb dX9_readElements_213 (by decide) ?_
    refine lv_iconst (v := 1) hx hb dX9_readElements_215 (by decide) ?_
    refine c_ci (As := [.ref (Z.ad 34 q1), .int p2, .int (8 : Int32), .int (1 : Int32)]) (rest := [.ref (Z.ad 9 i0)]) x hml L 9 i0 hal0 rfl (d_kselement l X g i0 q1 p2 (8 : Int32) (1 : Int32) hX hal0 hq1 (rg_w kc_1 rfl) hW) (wk_V kd_X9_element kl_X9_27 ki_X9_element ks_X9_X9_element kn_X9) rfl ⟨rfl, rfl⟩ hd_kselement ⟨Nat.le_of_ble_eq_true rfl, Nat.le_of_ble_eq_true rfl⟩ rfl hl.1 rfl (lv_room (Nat.le_of_ble_eq_true rfl)) dX9_readElements_216 (fun v91 g90 H90 k90 hp90 L90 => ?_)
    obtain ⟨hW, hi90, hp90⟩ := hp90
    replace hW := wfP_i hW ⟨hi90, hp90⟩
    have rv91 : rg (-2147483648) (2147483647) v91 := hp90.2.1
    have uv91 : (-2147483648 : Int) ≤ v91.toInt ∧ v91.toInt ≤ 2147483647 := rv91
    refine c_puti x L90 9 i0 7 295 hal0 rfl rfl ⟨rfl, by decide +kernel⟩ (wk_in kf_X9_43) dX9_readElements_219 (rg_any v91) (fun g92 H92 k92 eg92 L92 => ?_)
    replace hW := (wfP_i (wfP_a hW g92) eg92)
    refine lv_aload_n hx hb dX9_readElements_222 rfl (lv_at hl 0 rfl) ?_
    refine c_geti x L92 9 i0 7 295 hal0 rfl rfl (wk_in kf_X9_43) dX9_readElements_223 (fun v93 ev93 wv93 => ?_)
    refine m_top (((mm_st eg92)).trans ev93.symm) ?_
    refine lv_if_lt (tgt := 233) hx hb dX9_readElements_226 (by decide) (fun c226_94 => ?_) (fun c226_94 => ?_)
    · skip
      replace hW := wfP_i (wfP_l hW) (i_lt c226_94 rfl (rg_i kc_0))
      have ic226_94 := Int32.lt_iff_toInt_lt.mp c226_94
      have q95 : rg (-2147483648) (-1) v91 := (rg_lt c226_94 rv91 kc_0).1
      have uq95 : (-2147483648 : Int) ≤ v91.toInt ∧ v91.toInt ≤ -1 := q95
      refine lv_iconst (v := 0) hx hb dX9_readElements_233 (by decide) ?_
      exact hQ _ _ (0 : Int32) _ _ _ dX9_readElements_234 L92 ⟨hW, (mFi.up (mFi.sub mFi.rf hi90 (mSub_eq 5 rfl mSub_nil)) eg92 (mIn_at 4 rfl (Or.inr (Nat.div_one _)))), (mFr.upE (mFr.tr mFr.rf hp90.1 rfl) eg92 rfl), rg_w kc_0 rfl, (fun h => by have : (0 : Int32).toInt = 0 := (by decide); omega)⟩
    · skip
      replace hW := wfP_i (wfP_r hW) (i_le (rg_nlt c226_94) (rg_i kc_0) rfl)
      have ic226_94 := Int32.le_iff_toInt_le.mp (rg_nlt c226_94)
      have q96 : rg (0) (2147483647) v91 := (rg_le (rg_nlt c226_94) kc_0 rv91).2
      have uq96 : (0 : Int) ≤ v91.toInt ∧ v91.toInt ≤ 2147483647 := q96
      refine lv_iconst (v := 1) hx hb dX9_readElements_229 (by decide) ?_
      refine lv_goto (tgt := 234) hx hb dX9_readElements_230 (by decide) ?_
      exact hQ _ _ (1 : Int32) _ _ _ dX9_readElements_234 L92 ⟨hW, (mFi.up (mFi.sub mFi.rf hi90 (mSub_eq 5 rfl mSub_nil)) eg92 (mIn_at 4 rfl (Or.inr (Nat.div_one _)))), (mFr.upE (mFr.tr mFr.rf hp90.1 rfl) eg92 rfl), rg_w kc_1 rfl, (fun _ h => by rw [← (mm_up (mm_fr ev1 hp90.1 rfl) eg92 rfl)] at h; omega)⟩
  replace hW := wfP_i (wfP_r hW) c4_2_90
  refine lv_lookup (off := 231) (tgt := 235) hx hb dX9_readElements_4 (by decide) (lk_def (by simp only [List.all_cons, List.all_nil, Bool.and_true, Bool.and_eq_true, decide_eq_true_eq, ne_eq]; omega)) (by decide) ?_
  refine lv_iconst (v := 0) hx hb dX9_readElements_235 (by decide) ?_
  exact hQ _ _ (0 : Int32) _ _ _ dX9_readElements_236 L ⟨hW, mFi.rf, mFr.rf, rg_w kc_0 rfl, (fun h => by have : (0 : Int32).toInt = 0 := (by decide); omega)⟩
theorem d_kreadElements (l : Launch) {G : cG} {Z : cZ} (X : Int) (g : mSt) (i0 : Nat) (q1 : Nat) (p2 : Int32) (p3 : Int32) (hX : 0 ≤ X ∧ X ≤ 2000000000) (hal0 : Z.al 9 i0) (hq1 : Z.al 34 q1) (rp3 : rg (0) (1) p3) {Φ : Int32 → mSt → Prop} (hW : wfP (wp_kreadElements Z i0 q1 p2 p3 g Φ)) : Met l yX9_readElements (wk (Cond.code yX9_readElements cX9_readElements 4 (some .boolean))) rm_kreadElements (va_Pc [.ref (Z.ad 9 i0), .ref (Z.ad 34 q1), .int p2, .int p3] (cPre G Z X g)) (cQi G Z X (fun r g1 => wfP (Φ r g1) ∧ mFi (im_kreadElements Z i0 q1 p2 p3) g g1 ∧ (mFr [291, 292, 293, 294, 295, 296] g g1 ∧ rg (0) (1) r ∧ (r.toInt ≠ 0 → (g1 288 i0).toInt = 5 → 0 ≤ (g1 291 i0).toInt)))) 0 0 (cAd Z) := by
  refine Met.ofW (cc := cX9_readElements) (maxL := 4) (ret := (some .boolean)) (by decide) rfl ?_
  intro p e s m args below meth c s₁ B hml hv
  obtain ⟨rfl, hv⟩ := hv
  have hr := B.returns
  have hlocks := B.notSynchronized
  obtain ⟨x, L⟩ := c_start B rfl (fun w h => wk_in h) hv
  have hl := lv_entry ([.ref (Z.ad 9 i0), .ref (Z.ad 34 q1), .int p2, .int p3]) (n := 4) (Nat.le_of_ble_eq_true rfl)
  rw [lg_entry_eq]
  generalize (lg_sl ([.ref (Z.ad 9 i0), .ref (Z.ad 34 q1), .int p2, .int p3]) ++ List.replicate (4 - (lg_sl ([.ref (Z.ad 9 i0), .ref (Z.ad 34 q1), .int p2, .int p3])).length) Slot.unset).toArray = ls at hl ⊢
  exact v_kreadElements x hml L hX i0 q1 p2 p3 hal0 hq1 rp3 hW hl (fun pc' ls' r g1 H1 locs1 hdg L hp => c_zret x L hr hlocks (nar01 (rg_w hp.2.2.2.1 rfl)) (Int.le_refl _) hp hdg)

def im_ksread (Z : cZ) (i0 : Nat) (q1 : Nat) (p2 : Int32) (p3 : Int32) : List (Nat × Nat × Nat) := [(288, i0, 1), (289, i0, 1), (290, i0, 1), (291, i0, 1), (292, i0, 1), (293, i0, 1), (294, i0, 1), (295, i0, 1), (296, i0, 1)]
def po_ksread (Z : cZ) (i0 : Nat) (q1 : Nat) (p2 : Int32) (p3 : Int32) (g : mSt) (r : Int32) (g1 : mSt) : Prop := mFi (im_ksread Z i0 q1 p2 p3) g g1 ∧ mFr [288, 289, 290, 291, 292, 293, 294, 295, 296] g g1 ∧ rg (0) (1) r ∧ (r.toInt ≠ 0 → (g1 288 i0).toInt = 5 → 0 ≤ (g1 291 i0).toInt)
def wp_ksread (Z : cZ) (i0 : Nat) (q1 : Nat) (p2 : Int32) (p3 : Int32) (g : mSt) (Φ : Int32 → mSt → Prop) : Prop :=
  ((p2.toInt < 9) → Φ (0 : Int32) g) ∧ ((9 ≤ p2.toInt) → ((60 < p2.toInt) → True) ∧ ((p2.toInt ≤ 60) → ∀ (v5 : Int32), v5 = g 1088 (8192 * q1 + (0 : Int32).toNatClampNeg) → rg (-2147483648) (2147483647) v5 → ((v5.toInt ≠ 9) → Φ (0 : Int32) g) ∧ ((v5.toInt = 9) → ∀ (v10 : Int32), v10 = g 1088 (8192 * q1 + (1 : Int32).toNatClampNeg) → rg (-2147483648) (2147483647) v10 → ((v10.toInt ≠ 3) → Φ (0 : Int32) g) ∧ ((v10.toInt = 3) → ∀ (v15 : Int32), v15 = g 1088 (8192 * q1 + (6 : Int32).toNatClampNeg) → rg (-2147483648) (2147483647) v15 → ((v15.toInt ≠ 128) → Φ (0 : Int32) g) ∧ ((v15.toInt = 128) → ∀ (v20 : Int32), v20 = g 1088 (8192 * q1 + (7 : Int32).toNatClampNeg) → rg (-2147483648) (2147483647) v20 → ∀ (v21 : Int32), v21 = v20 <<< ((8 : Int32) &&& 31) → rg (-2147483648) (2147483647) v21 → ∀ (v22 : Int32), v22 = g 1088 (8192 * q1 + (8 : Int32).toNatClampNeg) → rg (-2147483648) (2147483647) v22 → ∀ (v23 : Int32), v23 = v21 ||| v22 → rg (-2147483648) (2147483647) v23 → ∀ (v24 : Int32), v24 = p2 - (9 : Int32) → rg (0) (51) v24 → v24.toInt = p2.toInt - 9 → ((v23.toInt = v24.toInt) → ∀ (v28 : Int32), v28 = g 1088 (8192 * q1 + (2 : Int32).toNatClampNeg) → rg (-2147483648) (2147483647) v28 → ((128 ≤ v28.toInt) → ∀ (g31 : mSt), g31 = up2 g 290 i0 (0 : Int32) → ∀ (v33 : Int32), v33 = v28 &&& (127 : Int32) → rg (0) (127) v33 → ∀ (v34 : Int32), v34 = v33 <<< ((16 : Int32) &&& 31) → rg (-2147483648) (2147483647) v34 → ∀ (v35 : Int32), v35 = g31 1088 (8192 * q1 + (3 : Int32).toNatClampNeg) → rg (-2147483648) (2147483647) v35 → ∀ (v36 : Int32), v36 = v35 <<< ((8 : Int32) &&& 31) → rg (-2147483648) (2147483647) v36 → ∀ (v37 : Int32), v37 = v34 ||| v36 → rg (-2147483648) (2147483647) v37 → ∀ (v38 : Int32), v38 = g31 1088 (8192 * q1 + (4 : Int32).toNatClampNeg) → rg (-2147483648) (2147483647) v38 → ∀ (v39 : Int32), v39 = v37 ||| v38 → rg (-2147483648) (2147483647) v39 → ∀ (g40 : mSt), g40 = up2 g31 289 i0 v39 → ∀ (v41 : Int32), v41 = g40 1088 (8192 * q1 + (5 : Int32).toNatClampNeg) → rg (-2147483648) (2147483647) v41 → ∀ (g42 : mSt), g42 = up2 g40 288 i0 v41 → ∀ (g43 : mSt), g43 = up2 g42 296 i0 (9 : Int32) → wp_kreadElements Z i0 q1 p2 p3 g43 (fun (v45 : Int32) (g44 : mSt) => po_kreadElements Z i0 q1 p2 p3 g43 v45 g44 → ((v45.toInt = 0) → Φ (0 : Int32) g44) ∧ ((v45.toInt ≠ 0) → ∀ (v52 : Int32), v52 = g44 296 i0 → rg (0) (60) v52 → ((v52.toInt ≠ p2.toInt) → Φ (0 : Int32) g44) ∧ ((v52.toInt = p2.toInt) → Φ (1 : Int32) g44)))) ∧ ((v28.toInt < 128) → ∀ (g56 : mSt), g56 = up2 g 290 i0 (1 : Int32) → ∀ (v58 : Int32), v58 = v28 &&& (127 : Int32) → rg (0) (127) v58 → ∀ (v59 : Int32), v59 = v58 <<< ((16 : Int32) &&& 31) → rg (-2147483648) (2147483647) v59 → ∀ (v60 : Int32), v60 = g56 1088 (8192 * q1 + (3 : Int32).toNatClampNeg) → rg (-2147483648) (2147483647) v60 → ∀ (v61 : Int32), v61 = v60 <<< ((8 : Int32) &&& 31) → rg (-2147483648) (2147483647) v61 → ∀ (v62 : Int32), v62 = v59 ||| v61 → rg (-2147483648) (2147483647) v62 → ∀ (v63 : Int32), v63 = g56 1088 (8192 * q1 + (4 : Int32).toNatClampNeg) → rg (-2147483648) (2147483647) v63 → ∀ (v64 : Int32), v64 = v62 ||| v63 → rg (-2147483648) (2147483647) v64 → ∀ (g65 : mSt), g65 = up2 g56 289 i0 v64 → ∀ (v66 : Int32), v66 = g65 1088 (8192 * q1 + (5 : Int32).toNatClampNeg) → rg (-2147483648) (2147483647) v66 → ∀ (g67 : mSt), g67 = up2 g65 288 i0 v66 → ∀ (g68 : mSt), g68 = up2 g67 296 i0 (9 : Int32) → wp_kreadElements Z i0 q1 p2 p3 g68 (fun (v70 : Int32) (g69 : mSt) => po_kreadElements Z i0 q1 p2 p3 g68 v70 g69 → ((v70.toInt = 0) → Φ (0 : Int32) g69) ∧ ((v70.toInt ≠ 0) → ∀ (v77 : Int32), v77 = g69 296 i0 → rg (0) (60) v77 → ((v77.toInt ≠ p2.toInt) → Φ (0 : Int32) g69) ∧ ((v77.toInt = p2.toInt) → Φ (1 : Int32) g69))))) ∧ ((v23.toInt ≠ v24.toInt) → Φ (0 : Int32) g))))))
set_option maxHeartbeats 4000000 in
set_option maxRecDepth 100000 in
theorem v_ksread {p : Program} {l : Launch} {e : Env} {s : State} {m : MethodId} {args : Array Value} {below : List Frame} {meth : Method} {c : Code} {H : Heap} {locs : List Loc} {Q : State → Prop} {ls : Array Slot} {G : cG} {Z : cZ} {A : Nat → Prop} {g : mSt} {H0 : Heap} {X : Int} (x : cX p c cX9_read s args (wk (Cond.code yX9_read cX9_read 4 (some .boolean))) m G Z A RX9 H0) (hml : c.maxLocals = 4) (L : cL G Z A H0 X g H locs) (hX : 0 ≤ X ∧ X ≤ 2000000000) (i0 : Nat) (q1 : Nat) (p2 : Int32) (p3 : Int32) (hal0 : Z.al 9 i0) (hq1 : Z.al 34 q1) (rp2 : rg (0) (60) p2) (rp3 : rg (0) (1) p3) {Φ : Int32 → mSt → Prop} (hW : wfP (wp_ksread Z i0 q1 p2 p3 g Φ)) (hl : lv_has ls 4 [(0, .ref (Z.ad 9 i0)), (1, .ref (Z.ad 34 q1)), (2, .int p2), (3, .int p3)]) (hQ : ∀ (pc' : Nat) (ls' : Array Slot) (r : Int32) (g1 : mSt) (H1 : Heap) (locs1 : List Loc), decode cX9_read pc' = .ok (.ireturn, 1) → cL G Z A H0 X g1 H1 locs1 → (wfP (Φ r g1) ∧ mFi (im_ksread Z i0 q1 p2 p3) g g1 ∧ (mFr [288, 289, 290, 291, 292, 293, 294, 295, 296] g g1 ∧ rg (0) (1) r ∧ (r.toInt ≠ 0 → (g1 288 i0).toInt = 5 → 0 ≤ (g1 291 i0).toInt))) → W p l e rm_ksread s m args below meth c H1 locs1 0 0 Q (F0 m pc' ls' [.int r])) : W p l e rm_ksread s m args below meth c H locs 0 0 Q (F0 m 0 ls []) := by
  have hx := x.1
  have hb := x.2.1
  have hz := x.2.2.2.2.2.2.2.1
  have hzn := hz.1
  have up2 : (0 : Int) ≤ p2.toInt ∧ p2.toInt ≤ 60 := rp2
  have up3 : (0 : Int) ≤ p3.toInt ∧ p3.toInt ≤ 1 := rp3
  refine lv_iload_n hx hb dX9_read_0 rfl (lv_at hl 2 rfl) ?_
  refine lv_bipush (v := 9) hx hb dX9_read_1 (by decide) ?_
  refine lv_icmp_lt (tgt := 56) hx hb dX9_read_3 (by decide) (fun c3_1 => ?_) (fun c3_1 => ?_)
  · skip
    replace hW := wfP_i (wfP_l hW) (i_lt c3_1 rfl (rg_i kc_9))
    have ic3_1 := Int32.lt_iff_toInt_lt.mp c3_1
    have q2 : rg (0) (8) p2 := (rg_lt c3_1 rp2 kc_9).1
    have uq2 : (0 : Int) ≤ p2.toInt ∧ p2.toInt ≤ 8 := q2
    refine lv_iconst (v := 0) hx hb dX9_read_56 (by decide) ?_
    exact hQ _ _ (0 : Int32) _ _ _ dX9_read_57 L ⟨hW, mFi.rf, mFr.rf, rg_w kc_0 rfl, (fun h => by have : (0 : Int32).toInt = 0 := (by decide); omega)⟩
  · skip
    replace hW := wfP_i (wfP_r hW) (i_le (rg_nlt c3_1) (rg_i kc_9) rfl)
    have ic3_1 := Int32.le_iff_toInt_le.mp (rg_nlt c3_1)
    have q3 : rg (9) (60) p2 := (rg_le (rg_nlt c3_1) kc_9 rp2).2
    have uq3 : (9 : Int) ≤ p2.toInt ∧ p2.toInt ≤ 60 := q3
    refine lv_iload_n hx hb dX9_read_6 rfl (lv_at hl 2 rfl) ?_
    refine lv_aload_n hx hb dX9_read_7 rfl (lv_at hl 1 rfl) ?_
    refine c_len (n := 60) x L 34 q1 hq1 rfl (by decide) dX9_read_8 ?_
    refine lv_icmp_gt (tgt := 56) hx hb dX9_read_9 (by decide) (fun c9_4 => ?_) (fun c9_4 => ?_)
    · skip
      replace hW := wfP_i (wfP_l hW) (i_lt c9_4 (rg_i kc_60) rfl)
      have ic9_4 := Int32.lt_iff_toInt_lt.mp c9_4
      exact absurd ((rg_lt c9_4 kc_60 q3).1 : rg (60) (59) (60 : Int32)) (fun q => rg_dead q rfl)
    · skip
      replace hW := wfP_i (wfP_r hW) (i_le (rg_nlt c9_4) rfl (rg_i kc_60))
      have ic9_4 := Int32.le_iff_toInt_le.mp (rg_nlt c9_4)
      refine lv_aload_n hx hb dX9_read_12 rfl (lv_at hl 1 rfl) ?_
      refine lv_iconst (v := 0) hx hb dX9_read_13 (by decide) ?_
      refine c_ld x L 34 q1 1088 hq1 rfl rfl kc_0 rfl dX9_read_14 (fun v5 ev5 wv5 => ?_)
      have rv5 : rg (-2147483648) (2147483647) v5 := rg_any v5
      replace hW := (wfP_i (wfP_i (wfP_a hW v5) ev5) rv5)
      have uv5 : (-2147483648 : Int) ≤ v5.toInt ∧ v5.toInt ≤ 2147483647 := rv5
      have sv5 : v5.toInt = (g 1088 (8192 * q1 + (0 : Int32).toNatClampNeg)).toInt := congrArg Int32.toInt (ev5.trans (congrFun ((show mFr [288, 289, 290, 291, 292, 293, 294, 295, 296] g g from mFr.rf).at 1088 rfl) _))
      refine lv_bipush (v := 9) hx hb dX9_read_15 (by decide) ?_
      refine lv_icmp_ne (tgt := 56) hx hb dX9_read_17 (by decide) (fun c17_6 => ?_) (fun c17_6 => ?_)
      · skip
        replace hW := wfP_i (wfP_l hW) (i_ne c17_6 rfl (rg_i kc_9))
        have ic17_6 : v5.toInt ≠ (9 : Int32).toInt := fun z => c17_6 (Int32.toInt_inj.mp z)
        have y7 : (9 : Int32).toInt = 9 := by decide
        refine lv_iconst (v := 0) hx hb dX9_read_56 (by decide) ?_
        exact hQ _ _ (0 : Int32) _ _ _ dX9_read_57 L ⟨hW, mFi.rf, mFr.rf, rg_w kc_0 rfl, (fun h => by have : (0 : Int32).toInt = 0 := (by decide); omega)⟩
      · skip
        replace hW := wfP_i (wfP_r hW) (i_eq c17_6 rfl (rg_i kc_9))
        have ic17_6 := congrArg Int32.toInt c17_6
        have y8 : (9 : Int32).toInt = 9 := by decide
        have q9 : rg (9) (9) v5 := (rg_eq c17_6 rv5 kc_9).1
        have uq9 : (9 : Int) ≤ v5.toInt ∧ v5.toInt ≤ 9 := q9
        refine lv_aload_n hx hb dX9_read_20 rfl (lv_at hl 1 rfl) ?_
        refine lv_iconst (v := 1) hx hb dX9_read_21 (by decide) ?_
        refine c_ld x L 34 q1 1088 hq1 rfl rfl kc_1 rfl dX9_read_22 (fun v10 ev10 wv10 => ?_)
        have rv10 : rg (-2147483648) (2147483647) v10 := rg_any v10
        replace hW := (wfP_i (wfP_i (wfP_a hW v10) ev10) rv10)
        have uv10 : (-2147483648 : Int) ≤ v10.toInt ∧ v10.toInt ≤ 2147483647 := rv10
        have sv10 : v10.toInt = (g 1088 (8192 * q1 + (1 : Int32).toNatClampNeg)).toInt := congrArg Int32.toInt (ev10.trans (congrFun ((show mFr [288, 289, 290, 291, 292, 293, 294, 295, 296] g g from mFr.rf).at 1088 rfl) _))
        refine lv_iconst (v := 3) hx hb dX9_read_23 (by decide) ?_
        refine lv_icmp_ne (tgt := 56) hx hb dX9_read_24 (by decide) (fun c24_11 => ?_) (fun c24_11 => ?_)
        · skip
          replace hW := wfP_i (wfP_l hW) (i_ne c24_11 rfl (rg_i kc_3))
          have ic24_11 : v10.toInt ≠ (3 : Int32).toInt := fun z => c24_11 (Int32.toInt_inj.mp z)
          have y12 : (3 : Int32).toInt = 3 := by decide
          refine lv_iconst (v := 0) hx hb dX9_read_56 (by decide) ?_
          exact hQ _ _ (0 : Int32) _ _ _ dX9_read_57 L ⟨hW, mFi.rf, mFr.rf, rg_w kc_0 rfl, (fun h => by have : (0 : Int32).toInt = 0 := (by decide); omega)⟩
        · skip
          replace hW := wfP_i (wfP_r hW) (i_eq c24_11 rfl (rg_i kc_3))
          have ic24_11 := congrArg Int32.toInt c24_11
          have y13 : (3 : Int32).toInt = 3 := by decide
          have q14 : rg (3) (3) v10 := (rg_eq c24_11 rv10 kc_3).1
          have uq14 : (3 : Int) ≤ v10.toInt ∧ v10.toInt ≤ 3 := q14
          refine lv_aload_n hx hb dX9_read_27 rfl (lv_at hl 1 rfl) ?_
          refine lv_bipush (v := 6) hx hb dX9_read_28 (by decide) ?_
          refine c_ld x L 34 q1 1088 hq1 rfl rfl kc_6 rfl dX9_read_30 (fun v15 ev15 wv15 => ?_)
          have rv15 : rg (-2147483648) (2147483647) v15 := rg_any v15
          replace hW := (wfP_i (wfP_i (wfP_a hW v15) ev15) rv15)
          have uv15 : (-2147483648 : Int) ≤ v15.toInt ∧ v15.toInt ≤ 2147483647 := rv15
          have sv15 : v15.toInt = (g 1088 (8192 * q1 + (6 : Int32).toNatClampNeg)).toInt := congrArg Int32.toInt (ev15.trans (congrFun ((show mFr [288, 289, 290, 291, 292, 293, 294, 295, 296] g g from mFr.rf).at 1088 rfl) _))
          refine lv_sipush (v := 128) hx hb dX9_read_31 (by decide) ?_
          refine lv_icmp_ne (tgt := 56) hx hb dX9_read_34 (by decide) (fun c34_16 => ?_) (fun c34_16 => ?_)
          · skip
            replace hW := wfP_i (wfP_l hW) (i_ne c34_16 rfl (rg_i kc_128))
            have ic34_16 : v15.toInt ≠ (128 : Int32).toInt := fun z => c34_16 (Int32.toInt_inj.mp z)
            have y17 : (128 : Int32).toInt = 128 := by decide
            refine lv_iconst (v := 0) hx hb dX9_read_56 (by decide) ?_
            exact hQ _ _ (0 : Int32) _ _ _ dX9_read_57 L ⟨hW, mFi.rf, mFr.rf, rg_w kc_0 rfl, (fun h => by have : (0 : Int32).toInt = 0 := (by decide); omega)⟩
          · skip
            replace hW := wfP_i (wfP_r hW) (i_eq c34_16 rfl (rg_i kc_128))
            have ic34_16 := congrArg Int32.toInt c34_16
            have y18 : (128 : Int32).toInt = 128 := by decide
            have q19 : rg (128) (128) v15 := (rg_eq c34_16 rv15 kc_128).1
            have uq19 : (128 : Int) ≤ v15.toInt ∧ v15.toInt ≤ 128 := q19
            refine lv_aload_n hx hb dX9_read_37 rfl (lv_at hl 1 rfl) ?_
            refine lv_bipush (v := 7) hx hb dX9_read_38 (by decide) ?_
            refine c_ld x L 34 q1 1088 hq1 rfl rfl kc_7 rfl dX9_read_40 (fun v20 ev20 wv20 => ?_)
            have rv20 : rg (-2147483648) (2147483647) v20 := rg_any v20
            replace hW := (wfP_i (wfP_i (wfP_a hW v20) ev20) rv20)
            have uv20 : (-2147483648 : Int) ≤ v20.toInt ∧ v20.toInt ≤ 2147483647 := rv20
            have sv20 : v20.toInt = (g 1088 (8192 * q1 + (7 : Int32).toNatClampNeg)).toInt := congrArg Int32.toInt (ev20.trans (congrFun ((show mFr [288, 289, 290, 291, 292, 293, 294, 295, 296] g g from mFr.rf).at 1088 rfl) _))
            refine lv_bipush (v := 8) hx hb dX9_read_41 (by decide) ?_
            refine lv_ishl hx hb dX9_read_43 ?_
            refine lv_topi (fun v21 ev21 => ?_)
            have rv21 : rg (-2147483648) (2147483647) v21 := rg_any v21
            replace hW := (wfP_i (wfP_i (wfP_a hW v21) ev21) rv21)
            have uv21 : (-2147483648 : Int) ≤ v21.toInt ∧ v21.toInt ≤ 2147483647 := rv21
            refine lv_aload_n hx hb dX9_read_44 rfl (lv_at hl 1 rfl) ?_
            refine lv_bipush (v := 8) hx hb dX9_read_45 (by decide) ?_
            refine c_ld x L 34 q1 1088 hq1 rfl rfl kc_8 rfl dX9_read_47 (fun v22 ev22 wv22 => ?_)
            have rv22 : rg (-2147483648) (2147483647) v22 := rg_any v22
            replace hW := (wfP_i (wfP_i (wfP_a hW v22) ev22) rv22)
            have uv22 : (-2147483648 : Int) ≤ v22.toInt ∧ v22.toInt ≤ 2147483647 := rv22
            have sv22 : v22.toInt = (g 1088 (8192 * q1 + (8 : Int32).toNatClampNeg)).toInt := congrArg Int32.toInt (ev22.trans (congrFun ((show mFr [288, 289, 290, 291, 292, 293, 294, 295, 296] g g from mFr.rf).at 1088 rfl) _))
            refine lv_ior hx hb dX9_read_48 ?_
            refine lv_topi (fun v23 ev23 => ?_)
            have rv23 : rg (-2147483648) (2147483647) v23 := rg_any v23
            replace hW := (wfP_i (wfP_i (wfP_a hW v23) ev23) rv23)
            have uv23 : (-2147483648 : Int) ≤ v23.toInt ∧ v23.toInt ≤ 2147483647 := rv23
            refine lv_iload_n hx hb dX9_read_49 rfl (lv_at hl 2 rfl) ?_
            refine lv_bipush (v := 9) hx hb dX9_read_50 (by decide) ?_
            refine lv_isub hx hb dX9_read_52 ?_
            refine lv_topi (fun v24 ev24 => ?_)
            have rv24 : rg (0) (51) v24 := (rg_sub ev24 q3 kc_9 rfl).1
            replace hW := (wfP_i (wfP_i (wfP_i (wfP_a hW v24) ev24) rv24) (w_isub ((rg_sub ev24 q3 kc_9 rfl).2) rfl (rg_i kc_9)))
            have tv24 := (rg_sub ev24 q3 kc_9 rfl).2
            have y25 : (9 : Int32).toInt = 9 := by decide
            have uv24 : (0 : Int) ≤ v24.toInt ∧ v24.toInt ≤ 51 := rv24
            refine lv_icmp_eq (tgt := 58) hx hb dX9_read_53 (by decide) (fun c53_26 => ?_) (fun c53_26 => ?_)
            · skip
              replace hW := wfP_i (wfP_l hW) (i_eq c53_26 rfl rfl)
              have ic53_26 := congrArg Int32.toInt c53_26
              have q27 : rg (0) (51) v23 := (rg_eq c53_26 rv23 rv24).1
              have uq27 : (0 : Int) ≤ v23.toInt ∧ v23.toInt ≤ 51 := q27
              refine lv_aload_n hx hb dX9_read_58 rfl (lv_at hl 0 rfl) ?_
              refine lv_aload_n hx hb dX9_read_59 rfl (lv_at hl 1 rfl) ?_
              refine lv_iconst (v := 2) hx hb dX9_read_60 (by decide) ?_
              refine c_ld x L 34 q1 1088 hq1 rfl rfl kc_2 rfl dX9_read_61 (fun v28 ev28 wv28 => ?_)
              have rv28 : rg (-2147483648) (2147483647) v28 := rg_any v28
              replace hW := (wfP_i (wfP_i (wfP_a hW v28) ev28) rv28)
              have uv28 : (-2147483648 : Int) ≤ v28.toInt ∧ v28.toInt ≤ 2147483647 := rv28
              have sv28 : v28.toInt = (g 1088 (8192 * q1 + (2 : Int32).toNatClampNeg)).toInt := congrArg Int32.toInt (ev28.trans (congrFun ((show mFr [288, 289, 290, 291, 292, 293, 294, 295, 296] g g from mFr.rf).at 1088 rfl) _))
              refine lv_sipush (v := 128) hx hb dX9_read_62 (by decide) ?_
              refine lv_icmp_ge (tgt := 72) hx hb dX9_read_65 (by decide) (fun c65_29 => ?_) (fun c65_29 => ?_)
              · skip
                replace hW := wfP_i (wfP_l hW) (i_le c65_29 (rg_i kc_128) rfl)
                have ic65_29 := Int32.le_iff_toInt_le.mp c65_29
                have q30 : rg (128) (2147483647) v28 := (rg_le c65_29 kc_128 rv28).2
                have uq30 : (128 : Int) ≤ v28.toInt ∧ v28.toInt ≤ 2147483647 := q30
                refine lv_iconst (v := 0) hx hb dX9_read_72 (by decide) ?_
                refine c_putz x L 9 i0 2 290 hal0 rfl rfl ⟨rfl, by decide +kernel⟩ (wk_in kf_X9_9) dX9_read_73 (rg_w kc_0 rfl) (crj_290 (rg_w kc_0 rfl)) (fun g31 H31 k31 eg31 L31 => ?_)
                replace hW := (wfP_i (wfP_a hW g31) eg31)
                refine lv_aload_n hx hb dX9_read_76 rfl (lv_at hl 0 rfl) ?_
                refine lv_aload_n hx hb dX9_read_77 rfl (lv_at hl 1 rfl) ?_
                refine lv_iconst (v := 2) hx hb dX9_read_78 (by decide) ?_
                refine c_ld x L31 34 q1 1088 hq1 rfl rfl kc_2 rfl dX9_read_79 (fun v32 ev32 wv32 => ?_)
                refine m_top (((mm_up ev28 eg31 rfl)).trans ev32.symm) ?_
                refine lv_bipush (v := 127) hx hb dX9_read_80 (by decide) ?_
                refine lv_iand hx hb dX9_read_82 ?_
                refine lv_topi (fun v33 ev33 => ?_)
                have rv33 : rg (0) (127) v33 := rg_and ev33 7 127 (by decide) rfl
                replace hW := (wfP_i (wfP_i (wfP_a hW v33) ev33) rv33)
                have uv33 : (0 : Int) ≤ v33.toInt ∧ v33.toInt ≤ 127 := rv33
                refine lv_bipush (v := 16) hx hb dX9_read_83 (by decide) ?_
                refine lv_ishl hx hb dX9_read_85 ?_
                refine lv_topi (fun v34 ev34 => ?_)
                have rv34 : rg (-2147483648) (2147483647) v34 := rg_any v34
                replace hW := (wfP_i (wfP_i (wfP_a hW v34) ev34) rv34)
                have uv34 : (-2147483648 : Int) ≤ v34.toInt ∧ v34.toInt ≤ 2147483647 := rv34
                refine lv_aload_n hx hb dX9_read_86 rfl (lv_at hl 1 rfl) ?_
                refine lv_iconst (v := 3) hx hb dX9_read_87 (by decide) ?_
                refine c_ld x L31 34 q1 1088 hq1 rfl rfl kc_3 rfl dX9_read_88 (fun v35 ev35 wv35 => ?_)
                have rv35 : rg (-2147483648) (2147483647) v35 := rg_any v35
                replace hW := (wfP_i (wfP_i (wfP_a hW v35) ev35) rv35)
                have uv35 : (-2147483648 : Int) ≤ v35.toInt ∧ v35.toInt ≤ 2147483647 := rv35
                have sv35 : v35.toInt = (g 1088 (8192 * q1 + (3 : Int32).toNatClampNeg)).toInt := congrArg Int32.toInt (ev35.trans (congrFun ((show mFr [288, 289, 290, 291, 292, 293, 294, 295, 296] g g31 from (mFr.upE mFr.rf eg31 rfl)).at 1088 rfl) _))
                refine lv_bipush (v := 8) hx hb dX9_read_89 (by decide) ?_
                refine lv_ishl hx hb dX9_read_91 ?_
                refine lv_topi (fun v36 ev36 => ?_)
                have rv36 : rg (-2147483648) (2147483647) v36 := rg_any v36
                replace hW := (wfP_i (wfP_i (wfP_a hW v36) ev36) rv36)
                have uv36 : (-2147483648 : Int) ≤ v36.toInt ∧ v36.toInt ≤ 2147483647 := rv36
                refine lv_ior hx hb dX9_read_92 ?_
                refine lv_topi (fun v37 ev37 => ?_)
                have rv37 : rg (-2147483648) (2147483647) v37 := rg_any v37
                replace hW := (wfP_i (wfP_i (wfP_a hW v37) ev37) rv37)
                have uv37 : (-2147483648 : Int) ≤ v37.toInt ∧ v37.toInt ≤ 2147483647 := rv37
                refine lv_aload_n hx hb dX9_read_93 rfl (lv_at hl 1 rfl) ?_
                refine lv_iconst (v := 4) hx hb dX9_read_94 (by decide) ?_
                refine c_ld x L31 34 q1 1088 hq1 rfl rfl kc_4 rfl dX9_read_95 (fun v38 ev38 wv38 => ?_)
                have rv38 : rg (-2147483648) (2147483647) v38 := rg_any v38
                replace hW := (wfP_i (wfP_i (wfP_a hW v38) ev38) rv38)
                have uv38 : (-2147483648 : Int) ≤ v38.toInt ∧ v38.toInt ≤ 2147483647 := rv38
                have sv38 : v38.toInt = (g 1088 (8192 * q1 + (4 : Int32).toNatClampNeg)).toInt := congrArg Int32.toInt (ev38.trans (congrFun ((show mFr [288, 289, 290, 291, 292, 293, 294, 295, 296] g g31 from (mFr.upE mFr.rf eg31 rfl)).at 1088 rfl) _))
                refine lv_ior hx hb dX9_read_96 ?_
                refine lv_topi (fun v39 ev39 => ?_)
                have rv39 : rg (-2147483648) (2147483647) v39 := rg_any v39
                replace hW := (wfP_i (wfP_i (wfP_a hW v39) ev39) rv39)
                have uv39 : (-2147483648 : Int) ≤ v39.toInt ∧ v39.toInt ≤ 2147483647 := rv39
                refine c_puti x L31 9 i0 1 289 hal0 rfl rfl ⟨rfl, by decide +kernel⟩ (wk_in kf_X9_13) dX9_read_97 (rg_any v39) (fun g40 H40 k40 eg40 L40 => ?_)
                replace hW := (wfP_i (wfP_a hW g40) eg40)
                refine lv_aload_n hx hb dX9_read_100 rfl (lv_at hl 0 rfl) ?_
                refine lv_aload_n hx hb dX9_read_101 rfl (lv_at hl 1 rfl) ?_
                refine lv_iconst (v := 5) hx hb dX9_read_102 (by decide) ?_
                refine c_ld x L40 34 q1 1088 hq1 rfl rfl kc_5 rfl dX9_read_103 (fun v41 ev41 wv41 => ?_)
                have rv41 : rg (-2147483648) (2147483647) v41 := rg_any v41
                replace hW := (wfP_i (wfP_i (wfP_a hW v41) ev41) rv41)
                have uv41 : (-2147483648 : Int) ≤ v41.toInt ∧ v41.toInt ≤ 2147483647 := rv41
                have sv41 : v41.toInt = (g 1088 (8192 * q1 + (5 : Int32).toNatClampNeg)).toInt := congrArg Int32.toInt (ev41.trans (congrFun ((show mFr [288, 289, 290, 291, 292, 293, 294, 295, 296] g g40 from (mFr.upE (mFr.upE mFr.rf eg31 rfl) eg40 rfl)).at 1088 rfl) _))
                refine c_puti x L40 9 i0 0 288 hal0 rfl rfl ⟨rfl, by decide +kernel⟩ (wk_in kf_X9_17) dX9_read_104 (rg_any v41) (fun g42 H42 k42 eg42 L42 => ?_)
                replace hW := (wfP_i (wfP_a hW g42) eg42)
                refine lv_aload_n hx hb dX9_read_107 rfl (lv_at hl 0 rfl) ?_
                refine lv_bipush (v := 9) hx hb dX9_read_108 (by decide) ?_
                refine c_puti x L42 9 i0 8 296 hal0 rfl rfl ⟨rfl, by decide +kernel⟩ (wk_in kf_X9_20) dX9_read_110 (crj_296 (rg_w kc_9 rfl)) (fun g43 H43 k43 eg43 L43 => ?_)
                replace hW := (wfP_i (wfP_a hW g43) eg43)
                refine lv_aload_n hx hb dX9_read_113 rfl (lv_at hl 0 rfl) ?_
                refine lv_aload_n hx hb dX9_read_114 rfl (lv_at hl 1 rfl) ?_
                refine lv_iload_n hx hb dX9_read_115 rfl (lv_at hl 2 rfl) ?_
                refine lv_iload_n hx hb dX9_read_116 rfl (lv_at hl 3 rfl) ?_
                refine c_ci (As := [.ref (Z.ad 34 q1), .int p2, .int p3]) (rest := []) x hml L43 9 i0 hal0 rfl (d_kreadElements l X g43 i0 q1 p2 p3 hX hal0 hq1 (rg_w rp3 rfl) hW) (wk_V kd_X9_readElements kl_X9_23 ki_X9_readElements ks_X9_X9_readElements kn_X9) rfl ⟨rfl, rfl⟩ hd_kreadElements ⟨Nat.le_of_ble_eq_true rfl, Nat.le_of_ble_eq_true rfl⟩ rfl hl.1 rfl (lv_room (Nat.le_of_ble_eq_true rfl)) dX9_read_117 (fun v45 g44 H44 k44 hp44 L44 => ?_)
                obtain ⟨hW, hi44, hp44⟩ := hp44
                replace hW := wfP_i hW ⟨hi44, hp44⟩
                have rv45 : rg (0) (1) v45 := hp44.2.1
                have uv45 : (0 : Int) ≤ v45.toInt ∧ v45.toInt ≤ 1 := rv45
                have hw46 := hp44.2.2
                refine lv_if_eq (tgt := 135) hx hb dX9_read_120 (by decide) (fun c120_47 => ?_) (fun c120_47 => ?_)
                · skip
                  replace hW := wfP_i (wfP_l hW) (i_eq c120_47 rfl (rg_i kc_0))
                  have ic120_47 := congrArg Int32.toInt c120_47
                  have y48 : (0 : Int32).toInt = 0 := by decide
                  have q49 : rg (0) (0) v45 := (rg_eq c120_47 rv45 kc_0).1
                  have uq49 : (0 : Int) ≤ v45.toInt ∧ v45.toInt ≤ 0 := q49
                  refine lv_iconst (v := 0) hx hb dX9_read_135 (by decide) ?_
                  exact hQ _ _ (0 : Int32) _ _ _ dX9_read_136 L44 ⟨hW, (mFi.sub (mFi.up (mFi.up (mFi.up (mFi.up mFi.rf eg31 (mIn_at 2 rfl (Or.inr (Nat.div_one _)))) eg40 (mIn_at 1 rfl (Or.inr (Nat.div_one _)))) eg42 (mIn_at 0 rfl (Or.inr (Nat.div_one _)))) eg43 (mIn_at 8 rfl (Or.inr (Nat.div_one _)))) hi44 (mSub_eq 3 rfl (mSub_eq 4 rfl (mSub_eq 5 rfl (mSub_eq 6 rfl (mSub_eq 7 rfl (mSub_eq 8 rfl mSub_nil))))))), (mFr.tr (mFr.upE (mFr.upE (mFr.upE (mFr.upE mFr.rf eg31 rfl) eg40 rfl) eg42 rfl) eg43 rfl) hp44.1 rfl), rg_w kc_0 rfl, (fun h => by have : (0 : Int32).toInt = 0 := (by decide); omega)⟩
                · skip
                  replace hW := wfP_i (wfP_r hW) (i_ne c120_47 rfl (rg_i kc_0))
                  have ic120_47 : v45.toInt ≠ (0 : Int32).toInt := fun z => c120_47 (Int32.toInt_inj.mp z)
                  have y50 : (0 : Int32).toInt = 0 := by decide
                  have q51 : rg (1) (1) v45 := rg_neL c120_47 rv45 kc_0
                  have uq51 : (1 : Int) ≤ v45.toInt ∧ v45.toInt ≤ 1 := q51
                  refine lv_aload_n hx hb dX9_read_123 rfl (lv_at hl 0 rfl) ?_
                  refine c_geti x L44 9 i0 8 296 hal0 rfl rfl (wk_in kf_X9_20) dX9_read_124 (fun v52 ev52 wv52 => ?_)
                  have rv52 : rg (0) (60) v52 := clj_296 wv52
                  replace hW := (wfP_i (wfP_i (wfP_a hW v52) ev52) rv52)
                  have uv52 : (0 : Int) ≤ v52.toInt ∧ v52.toInt ≤ 60 := rv52
                  refine lv_iload_n hx hb dX9_read_127 rfl (lv_at hl 2 rfl) ?_
                  refine lv_icmp_ne (tgt := 135) hx hb dX9_read_128 (by decide) (fun c128_53 => ?_) (fun c128_53 => ?_)
                  · skip
                    replace hW := wfP_i (wfP_l hW) (i_ne c128_53 rfl rfl)
                    have ic128_53 : v52.toInt ≠ p2.toInt := fun z => c128_53 (Int32.toInt_inj.mp z)
                    refine lv_iconst (v := 0) hx hb dX9_read_135 (by decide) ?_
                    exact hQ _ _ (0 : Int32) _ _ _ dX9_read_136 L44 ⟨hW, (mFi.sub (mFi.up (mFi.up (mFi.up (mFi.up mFi.rf eg31 (mIn_at 2 rfl (Or.inr (Nat.div_one _)))) eg40 (mIn_at 1 rfl (Or.inr (Nat.div_one _)))) eg42 (mIn_at 0 rfl (Or.inr (Nat.div_one _)))) eg43 (mIn_at 8 rfl (Or.inr (Nat.div_one _)))) hi44 (mSub_eq 3 rfl (mSub_eq 4 rfl (mSub_eq 5 rfl (mSub_eq 6 rfl (mSub_eq 7 rfl (mSub_eq 8 rfl mSub_nil))))))), (mFr.tr (mFr.upE (mFr.upE (mFr.upE (mFr.upE mFr.rf eg31 rfl) eg40 rfl) eg42 rfl) eg43 rfl) hp44.1 rfl), rg_w kc_0 rfl, (fun h => by have : (0 : Int32).toInt = 0 := (by decide); omega)⟩
                  · skip
                    replace hW := wfP_i (wfP_r hW) (i_eq c128_53 rfl rfl)
                    have ic128_53 := congrArg Int32.toInt c128_53
                    have q54 : rg (9) (60) v52 := (rg_eq c128_53 rv52 q3).1
                    have uq54 : (9 : Int) ≤ v52.toInt ∧ v52.toInt ≤ 60 := q54
                    refine lv_iconst (v := 1) hx hb dX9_read_131 (by decide) ?_
                    refine lv_goto (tgt := 136) hx hb dX9_read_132 (by decide) ?_
                    exact hQ _ _ (1 : Int32) _ _ _ dX9_read_136 L44 ⟨hW, (mFi.sub (mFi.up (mFi.up (mFi.up (mFi.up mFi.rf eg31 (mIn_at 2 rfl (Or.inr (Nat.div_one _)))) eg40 (mIn_at 1 rfl (Or.inr (Nat.div_one _)))) eg42 (mIn_at 0 rfl (Or.inr (Nat.div_one _)))) eg43 (mIn_at 8 rfl (Or.inr (Nat.div_one _)))) hi44 (mSub_eq 3 rfl (mSub_eq 4 rfl (mSub_eq 5 rfl (mSub_eq 6 rfl (mSub_eq 7 rfl (mSub_eq 8 rfl mSub_nil))))))), (mFr.tr (mFr.upE (mFr.upE (mFr.upE (mFr.upE mFr.rf eg31 rfl) eg40 rfl) eg42 rfl) eg43 rfl) hp44.1 rfl), rg_w kc_1 rfl, (fun _ => hw46 (by omega))⟩
              · skip
                replace hW := wfP_i (wfP_r hW) (i_lt (rg_nle c65_29) rfl (rg_i kc_128))
                have ic65_29 := Int32.lt_iff_toInt_lt.mp (rg_nle c65_29)
                have q55 : rg (-2147483648) (127) v28 := (rg_lt (rg_nle c65_29) rv28 kc_128).1
                have uq55 : (-2147483648 : Int) ≤ v28.toInt ∧ v28.toInt ≤ 127 := q55
                refine lv_iconst (v := 1) hx hb dX9_read_68 (by decide) ?_
                refine lv_goto (tgt := 73) hx hb dX9_read_69 (by decide) ?_
                refine c_putz x L 9 i0 2 290 hal0 rfl rfl ⟨rfl, by decide +kernel⟩ (wk_in kf_X9_9) dX9_read_73 (rg_w kc_1 rfl) (crj_290 (rg_w kc_1 rfl)) (fun g56 H56 k56 eg56 L56 => ?_)
                replace hW := (wfP_i (wfP_a hW g56) eg56)
                refine lv_aload_n hx hb dX9_read_76 rfl (lv_at hl 0 rfl) ?_
                refine lv_aload_n hx hb dX9_read_77 rfl (lv_at hl 1 rfl) ?_
                refine lv_iconst (v := 2) hx hb dX9_read_78 (by decide) ?_
                refine c_ld x L56 34 q1 1088 hq1 rfl rfl kc_2 rfl dX9_read_79 (fun v57 ev57 wv57 => ?_)
                refine m_top (((mm_up ev28 eg56 rfl)).trans ev57.symm) ?_
                refine lv_bipush (v := 127) hx hb dX9_read_80 (by decide) ?_
                refine lv_iand hx hb dX9_read_82 ?_
                refine lv_topi (fun v58 ev58 => ?_)
                have rv58 : rg (0) (127) v58 := rg_and ev58 7 127 (by decide) rfl
                replace hW := (wfP_i (wfP_i (wfP_a hW v58) ev58) rv58)
                have uv58 : (0 : Int) ≤ v58.toInt ∧ v58.toInt ≤ 127 := rv58
                refine lv_bipush (v := 16) hx hb dX9_read_83 (by decide) ?_
                refine lv_ishl hx hb dX9_read_85 ?_
                refine lv_topi (fun v59 ev59 => ?_)
                have rv59 : rg (-2147483648) (2147483647) v59 := rg_any v59
                replace hW := (wfP_i (wfP_i (wfP_a hW v59) ev59) rv59)
                have uv59 : (-2147483648 : Int) ≤ v59.toInt ∧ v59.toInt ≤ 2147483647 := rv59
                refine lv_aload_n hx hb dX9_read_86 rfl (lv_at hl 1 rfl) ?_
                refine lv_iconst (v := 3) hx hb dX9_read_87 (by decide) ?_
                refine c_ld x L56 34 q1 1088 hq1 rfl rfl kc_3 rfl dX9_read_88 (fun v60 ev60 wv60 => ?_)
                have rv60 : rg (-2147483648) (2147483647) v60 := rg_any v60
                replace hW := (wfP_i (wfP_i (wfP_a hW v60) ev60) rv60)
                have uv60 : (-2147483648 : Int) ≤ v60.toInt ∧ v60.toInt ≤ 2147483647 := rv60
                have sv60 : v60.toInt = (g 1088 (8192 * q1 + (3 : Int32).toNatClampNeg)).toInt := congrArg Int32.toInt (ev60.trans (congrFun ((show mFr [288, 289, 290, 291, 292, 293, 294, 295, 296] g g56 from (mFr.upE mFr.rf eg56 rfl)).at 1088 rfl) _))
                refine lv_bipush (v := 8) hx hb dX9_read_89 (by decide) ?_
                refine lv_ishl hx hb dX9_read_91 ?_
                refine lv_topi (fun v61 ev61 => ?_)
                have rv61 : rg (-2147483648) (2147483647) v61 := rg_any v61
                replace hW := (wfP_i (wfP_i (wfP_a hW v61) ev61) rv61)
                have uv61 : (-2147483648 : Int) ≤ v61.toInt ∧ v61.toInt ≤ 2147483647 := rv61
                refine lv_ior hx hb dX9_read_92 ?_
                refine lv_topi (fun v62 ev62 => ?_)
                have rv62 : rg (-2147483648) (2147483647) v62 := rg_any v62
                replace hW := (wfP_i (wfP_i (wfP_a hW v62) ev62) rv62)
                have uv62 : (-2147483648 : Int) ≤ v62.toInt ∧ v62.toInt ≤ 2147483647 := rv62
                refine lv_aload_n hx hb dX9_read_93 rfl (lv_at hl 1 rfl) ?_
                refine lv_iconst (v := 4) hx hb dX9_read_94 (by decide) ?_
                refine c_ld x L56 34 q1 1088 hq1 rfl rfl kc_4 rfl dX9_read_95 (fun v63 ev63 wv63 => ?_)
                have rv63 : rg (-2147483648) (2147483647) v63 := rg_any v63
                replace hW := (wfP_i (wfP_i (wfP_a hW v63) ev63) rv63)
                have uv63 : (-2147483648 : Int) ≤ v63.toInt ∧ v63.toInt ≤ 2147483647 := rv63
                have sv63 : v63.toInt = (g 1088 (8192 * q1 + (4 : Int32).toNatClampNeg)).toInt := congrArg Int32.toInt (ev63.trans (congrFun ((show mFr [288, 289, 290, 291, 292, 293, 294, 295, 296] g g56 from (mFr.upE mFr.rf eg56 rfl)).at 1088 rfl) _))
                refine lv_ior hx hb dX9_read_96 ?_
                refine lv_topi (fun v64 ev64 => ?_)
                have rv64 : rg (-2147483648) (2147483647) v64 := rg_any v64
                replace hW := (wfP_i (wfP_i (wfP_a hW v64) ev64) rv64)
                have uv64 : (-2147483648 : Int) ≤ v64.toInt ∧ v64.toInt ≤ 2147483647 := rv64
                refine c_puti x L56 9 i0 1 289 hal0 rfl rfl ⟨rfl, by decide +kernel⟩ (wk_in kf_X9_13) dX9_read_97 (rg_any v64) (fun g65 H65 k65 eg65 L65 => ?_)
                replace hW := (wfP_i (wfP_a hW g65) eg65)
                refine lv_aload_n hx hb dX9_read_100 rfl (lv_at hl 0 rfl) ?_
                refine lv_aload_n hx hb dX9_read_101 rfl (lv_at hl 1 rfl) ?_
                refine lv_iconst (v := 5) hx hb dX9_read_102 (by decide) ?_
                refine c_ld x L65 34 q1 1088 hq1 rfl rfl kc_5 rfl dX9_read_103 (fun v66 ev66 wv66 => ?_)
                have rv66 : rg (-2147483648) (2147483647) v66 := rg_any v66
                replace hW := (wfP_i (wfP_i (wfP_a hW v66) ev66) rv66)
                have uv66 : (-2147483648 : Int) ≤ v66.toInt ∧ v66.toInt ≤ 2147483647 := rv66
                have sv66 : v66.toInt = (g 1088 (8192 * q1 + (5 : Int32).toNatClampNeg)).toInt := congrArg Int32.toInt (ev66.trans (congrFun ((show mFr [288, 289, 290, 291, 292, 293, 294, 295, 296] g g65 from (mFr.upE (mFr.upE mFr.rf eg56 rfl) eg65 rfl)).at 1088 rfl) _))
                refine c_puti x L65 9 i0 0 288 hal0 rfl rfl ⟨rfl, by decide +kernel⟩ (wk_in kf_X9_17) dX9_read_104 (rg_any v66) (fun g67 H67 k67 eg67 L67 => ?_)
                replace hW := (wfP_i (wfP_a hW g67) eg67)
                refine lv_aload_n hx hb dX9_read_107 rfl (lv_at hl 0 rfl) ?_
                refine lv_bipush (v := 9) hx hb dX9_read_108 (by decide) ?_
                refine c_puti x L67 9 i0 8 296 hal0 rfl rfl ⟨rfl, by decide +kernel⟩ (wk_in kf_X9_20) dX9_read_110 (crj_296 (rg_w kc_9 rfl)) (fun g68 H68 k68 eg68 L68 => ?_)
                replace hW := (wfP_i (wfP_a hW g68) eg68)
                refine lv_aload_n hx hb dX9_read_113 rfl (lv_at hl 0 rfl) ?_
                refine lv_aload_n hx hb dX9_read_114 rfl (lv_at hl 1 rfl) ?_
                refine lv_iload_n hx hb dX9_read_115 rfl (lv_at hl 2 rfl) ?_
                refine lv_iload_n hx hb dX9_read_116 rfl (lv_at hl 3 rfl) ?_
                refine c_ci (As := [.ref (Z.ad 34 q1), .int p2, .int p3]) (rest := []) x hml L68 9 i0 hal0 rfl (d_kreadElements l X g68 i0 q1 p2 p3 hX hal0 hq1 (rg_w rp3 rfl) hW) (wk_V kd_X9_readElements kl_X9_23 ki_X9_readElements ks_X9_X9_readElements kn_X9) rfl ⟨rfl, rfl⟩ hd_kreadElements ⟨Nat.le_of_ble_eq_true rfl, Nat.le_of_ble_eq_true rfl⟩ rfl hl.1 rfl (lv_room (Nat.le_of_ble_eq_true rfl)) dX9_read_117 (fun v70 g69 H69 k69 hp69 L69 => ?_)
                obtain ⟨hW, hi69, hp69⟩ := hp69
                replace hW := wfP_i hW ⟨hi69, hp69⟩
                have rv70 : rg (0) (1) v70 := hp69.2.1
                have uv70 : (0 : Int) ≤ v70.toInt ∧ v70.toInt ≤ 1 := rv70
                have hw71 := hp69.2.2
                refine lv_if_eq (tgt := 135) hx hb dX9_read_120 (by decide) (fun c120_72 => ?_) (fun c120_72 => ?_)
                · skip
                  replace hW := wfP_i (wfP_l hW) (i_eq c120_72 rfl (rg_i kc_0))
                  have ic120_72 := congrArg Int32.toInt c120_72
                  have y73 : (0 : Int32).toInt = 0 := by decide
                  have q74 : rg (0) (0) v70 := (rg_eq c120_72 rv70 kc_0).1
                  have uq74 : (0 : Int) ≤ v70.toInt ∧ v70.toInt ≤ 0 := q74
                  refine lv_iconst (v := 0) hx hb dX9_read_135 (by decide) ?_
                  exact hQ _ _ (0 : Int32) _ _ _ dX9_read_136 L69 ⟨hW, (mFi.sub (mFi.up (mFi.up (mFi.up (mFi.up mFi.rf eg56 (mIn_at 2 rfl (Or.inr (Nat.div_one _)))) eg65 (mIn_at 1 rfl (Or.inr (Nat.div_one _)))) eg67 (mIn_at 0 rfl (Or.inr (Nat.div_one _)))) eg68 (mIn_at 8 rfl (Or.inr (Nat.div_one _)))) hi69 (mSub_eq 3 rfl (mSub_eq 4 rfl (mSub_eq 5 rfl (mSub_eq 6 rfl (mSub_eq 7 rfl (mSub_eq 8 rfl mSub_nil))))))), (mFr.tr (mFr.upE (mFr.upE (mFr.upE (mFr.upE mFr.rf eg56 rfl) eg65 rfl) eg67 rfl) eg68 rfl) hp69.1 rfl), rg_w kc_0 rfl, (fun h => by have : (0 : Int32).toInt = 0 := (by decide); omega)⟩
                · skip
                  replace hW := wfP_i (wfP_r hW) (i_ne c120_72 rfl (rg_i kc_0))
                  have ic120_72 : v70.toInt ≠ (0 : Int32).toInt := fun z => c120_72 (Int32.toInt_inj.mp z)
                  have y75 : (0 : Int32).toInt = 0 := by decide
                  have q76 : rg (1) (1) v70 := rg_neL c120_72 rv70 kc_0
                  have uq76 : (1 : Int) ≤ v70.toInt ∧ v70.toInt ≤ 1 := q76
                  refine lv_aload_n hx hb dX9_read_123 rfl (lv_at hl 0 rfl) ?_
                  refine c_geti x L69 9 i0 8 296 hal0 rfl rfl (wk_in kf_X9_20) dX9_read_124 (fun v77 ev77 wv77 => ?_)
                  have rv77 : rg (0) (60) v77 := clj_296 wv77
                  replace hW := (wfP_i (wfP_i (wfP_a hW v77) ev77) rv77)
                  have uv77 : (0 : Int) ≤ v77.toInt ∧ v77.toInt ≤ 60 := rv77
                  refine lv_iload_n hx hb dX9_read_127 rfl (lv_at hl 2 rfl) ?_
                  refine lv_icmp_ne (tgt := 135) hx hb dX9_read_128 (by decide) (fun c128_78 => ?_) (fun c128_78 => ?_)
                  · skip
                    replace hW := wfP_i (wfP_l hW) (i_ne c128_78 rfl rfl)
                    have ic128_78 : v77.toInt ≠ p2.toInt := fun z => c128_78 (Int32.toInt_inj.mp z)
                    refine lv_iconst (v := 0) hx hb dX9_read_135 (by decide) ?_
                    exact hQ _ _ (0 : Int32) _ _ _ dX9_read_136 L69 ⟨hW, (mFi.sub (mFi.up (mFi.up (mFi.up (mFi.up mFi.rf eg56 (mIn_at 2 rfl (Or.inr (Nat.div_one _)))) eg65 (mIn_at 1 rfl (Or.inr (Nat.div_one _)))) eg67 (mIn_at 0 rfl (Or.inr (Nat.div_one _)))) eg68 (mIn_at 8 rfl (Or.inr (Nat.div_one _)))) hi69 (mSub_eq 3 rfl (mSub_eq 4 rfl (mSub_eq 5 rfl (mSub_eq 6 rfl (mSub_eq 7 rfl (mSub_eq 8 rfl mSub_nil))))))), (mFr.tr (mFr.upE (mFr.upE (mFr.upE (mFr.upE mFr.rf eg56 rfl) eg65 rfl) eg67 rfl) eg68 rfl) hp69.1 rfl), rg_w kc_0 rfl, (fun h => by have : (0 : Int32).toInt = 0 := (by decide); omega)⟩
                  · skip
                    replace hW := wfP_i (wfP_r hW) (i_eq c128_78 rfl rfl)
                    have ic128_78 := congrArg Int32.toInt c128_78
                    have q79 : rg (9) (60) v77 := (rg_eq c128_78 rv77 q3).1
                    have uq79 : (9 : Int) ≤ v77.toInt ∧ v77.toInt ≤ 60 := q79
                    refine lv_iconst (v := 1) hx hb dX9_read_131 (by decide) ?_
                    refine lv_goto (tgt := 136) hx hb dX9_read_132 (by decide) ?_
                    exact hQ _ _ (1 : Int32) _ _ _ dX9_read_136 L69 ⟨hW, (mFi.sub (mFi.up (mFi.up (mFi.up (mFi.up mFi.rf eg56 (mIn_at 2 rfl (Or.inr (Nat.div_one _)))) eg65 (mIn_at 1 rfl (Or.inr (Nat.div_one _)))) eg67 (mIn_at 0 rfl (Or.inr (Nat.div_one _)))) eg68 (mIn_at 8 rfl (Or.inr (Nat.div_one _)))) hi69 (mSub_eq 3 rfl (mSub_eq 4 rfl (mSub_eq 5 rfl (mSub_eq 6 rfl (mSub_eq 7 rfl (mSub_eq 8 rfl mSub_nil))))))), (mFr.tr (mFr.upE (mFr.upE (mFr.upE (mFr.upE mFr.rf eg56 rfl) eg65 rfl) eg67 rfl) eg68 rfl) hp69.1 rfl), rg_w kc_1 rfl, (fun _ => hw71 (by omega))⟩
            · skip
              replace hW := wfP_i (wfP_r hW) (i_ne c53_26 rfl rfl)
              have ic53_26 : v23.toInt ≠ v24.toInt := fun z => c53_26 (Int32.toInt_inj.mp z)
              refine lv_iconst (v := 0) hx hb dX9_read_56 (by decide) ?_
              exact hQ _ _ (0 : Int32) _ _ _ dX9_read_57 L ⟨hW, mFi.rf, mFr.rf, rg_w kc_0 rfl, (fun h => by have : (0 : Int32).toInt = 0 := (by decide); omega)⟩
theorem d_ksread (l : Launch) {G : cG} {Z : cZ} (X : Int) (g : mSt) (i0 : Nat) (q1 : Nat) (p2 : Int32) (p3 : Int32) (hX : 0 ≤ X ∧ X ≤ 2000000000) (hal0 : Z.al 9 i0) (hq1 : Z.al 34 q1) (rp2 : rg (0) (60) p2) (rp3 : rg (0) (1) p3) {Φ : Int32 → mSt → Prop} (hW : wfP (wp_ksread Z i0 q1 p2 p3 g Φ)) : Met l yX9_read (wk (Cond.code yX9_read cX9_read 4 (some .boolean))) rm_ksread (va_Pc [.ref (Z.ad 9 i0), .ref (Z.ad 34 q1), .int p2, .int p3] (cPre G Z X g)) (cQi G Z X (fun r g1 => wfP (Φ r g1) ∧ mFi (im_ksread Z i0 q1 p2 p3) g g1 ∧ (mFr [288, 289, 290, 291, 292, 293, 294, 295, 296] g g1 ∧ rg (0) (1) r ∧ (r.toInt ≠ 0 → (g1 288 i0).toInt = 5 → 0 ≤ (g1 291 i0).toInt)))) 0 0 (cAd Z) := by
  refine Met.ofW (cc := cX9_read) (maxL := 4) (ret := (some .boolean)) (by decide) rfl ?_
  intro p e s m args below meth c s₁ B hml hv
  obtain ⟨rfl, hv⟩ := hv
  have hr := B.returns
  have hlocks := B.notSynchronized
  obtain ⟨x, L⟩ := c_start B rfl (fun w h => wk_in h) hv
  have hl := lv_entry ([.ref (Z.ad 9 i0), .ref (Z.ad 34 q1), .int p2, .int p3]) (n := 4) (Nat.le_of_ble_eq_true rfl)
  rw [lg_entry_eq]
  generalize (lg_sl ([.ref (Z.ad 9 i0), .ref (Z.ad 34 q1), .int p2, .int p3]) ++ List.replicate (4 - (lg_sl ([.ref (Z.ad 9 i0), .ref (Z.ad 34 q1), .int p2, .int p3])).length) Slot.unset).toArray = ls at hl ⊢
  exact v_ksread x hml L hX i0 q1 p2 p3 hal0 hq1 rp2 rp3 hW hl (fun pc' ls' r g1 H1 locs1 hdg L hp => c_zret x L hr hlocks (nar01 (rg_w hp.2.2.2.1 rfl)) (Int.le_refl _) hp hdg)

def im_kputOnTape (Z : cZ) (i0 : Nat) (p1 : Int32) : List (Nat × Nat × Nat) := [(361, i0, 1), (1152, 0, 8192)]
def po_kputOnTape (Z : cZ) (i0 : Nat) (p1 : Int32) (g : mSt) (r : Int32) (g1 : mSt) : Prop := mFi (im_kputOnTape Z i0 p1) g g1 ∧ mFr [361, 1152] g g1 ∧ True
def wp_kputOnTape (Z : cZ) (i0 : Nat) (p1 : Int32) (g : mSt) (Φ : Int32 → mSt → Prop) : Prop :=
  ∃ P2 : Int32 → mSt → Prop, (∀ (a3_2_1 : Int32) (g2 : mSt), mFr [361, 1152] g g2 → mFi (im_kputOnTape Z i0 p1) g g2 → rg (-8) (24) a3_2_1 → P2 a3_2_1 g2 → ∀ (z2_0 : Int32), z2_0 = g2 361 i0 → rg (0) (200) z2_0 → ∃ P3 : mSt → Prop, (∀ (g3 : mSt), mFr [] g2 g3 → mFi (im_kputOnTape Z i0 p1) g2 g3 → P3 g3 → Φ 0 g3) ∧ ((a3_2_1.toInt < 0) → P3 g2) ∧ ((0 ≤ a3_2_1.toInt) → ((200 ≤ z2_0.toInt) → P3 g2) ∧ ((z2_0.toInt < 200) → ∀ (v13 : Int32), v13 = (p1.toUInt32 >>> (a3_2_1.toUInt32 &&& Int32.toUInt32 31)).toInt32 → rg (-2147483648) (2147483647) v13 → ∀ (v14 : Int32), v14 = v13 &&& (255 : Int32) → rg (0) (255) v14 → ∀ (g15 : mSt), g15 = up2 g2 1152 (8192 * 0 + z2_0.toNatClampNeg) v14 → ∀ (v17 : Int32), v17 = z2_0 + (1 : Int32) → rg (1) (200) v17 → v17.toInt = z2_0.toInt + 1 → ∀ (g18 : mSt), g18 = up2 g15 361 i0 v17 → ∀ (v19 : Int32), v19 = a3_2_1 + (-8 : Int32) → rg (-8) (16) v19 → v19.toInt = a3_2_1.toInt + (-8) → P2 v19 g18))) ∧ P2 (24 : Int32) g
set_option maxHeartbeats 4000000 in
set_option maxRecDepth 100000 in
theorem v_kputOnTape {p : Program} {l : Launch} {e : Env} {s : State} {m : MethodId} {args : Array Value} {below : List Frame} {meth : Method} {c : Code} {H : Heap} {locs : List Loc} {Q : State → Prop} {ls : Array Slot} {G : cG} {Z : cZ} {A : Nat → Prop} {g : mSt} {H0 : Heap} {X : Int} (x : cX p c cX11_putOnTape s args (wk (Cond.code yX11_putOnTape cX11_putOnTape 3 none)) m G Z A RX11 H0) (hml : c.maxLocals = 3) (L : cL G Z A H0 X g H locs) (hX : 0 ≤ X ∧ X ≤ 2000000000) (i0 : Nat) (p1 : Int32) (hal0 : Z.al 11 i0) {Φ : Int32 → mSt → Prop} (hW : wfP (wp_kputOnTape Z i0 p1 g Φ)) (hl : lv_has ls 3 [(0, .ref (Z.ad 11 i0)), (1, .int p1)]) (hQ : ∀ (pc' : Nat) (ls' : Array Slot) (g1 : mSt) (H1 : Heap) (locs1 : List Loc), decode cX11_putOnTape pc' = .ok (.return_, 1) → cL G Z A H0 X g1 H1 locs1 → (wfP (Φ 0 g1) ∧ mFi (im_kputOnTape Z i0 p1) g g1 ∧ (mFr [361, 1152] g g1 ∧ True)) → W p l e rm_kputOnTape s m args below meth c H1 locs1 0 0 Q (F0 m pc' ls' [])) : W p l e rm_kputOnTape s m args below meth c H locs 0 0 Q (F0 m 0 ls []) := by
  have hx := x.1
  have hb := x.2.1
  have hz := x.2.2.2.2.2.2.2.1
  have hzn := hz.1
  refine lv_bipush (v := 24) hx hb dX11_putOnTape_0 (by decide) ?_
  refine lv_istore_n (lv' := [(2, .int (24 : Int32)), (0, .ref (Z.ad 11 i0)), (1, .int p1)]) hx hb dX11_putOnTape_2 rfl hl (by decide) rfl (fun ls hl => ?_)
  obtain ⟨P2, hP2, hW⟩ := wfP_ex hW
  have j3_2 : ∀ (n : Nat) (a3_2_1 : Int32) (g2 : mSt) (H2 : Heap) (k2 : List Loc) (ls : Array Slot), mFr [361, 1152] g g2 → cL G Z A H0 X g2 H2 k2 → rg (-8) (24) a3_2_1 → rg (0) (200) (g2 361 i0) → mFi (im_kputOnTape Z i0 p1) g g2 → wfP (P2 a3_2_1 g2) → lv_has ls 3 [(0, .ref (Z.ad 11 i0)), (1, .int p1), (2, .int a3_2_1)] → (a3_2_1.toInt - (-8 : Int)).toNat = n → W p l e rm_kputOnTape s m args below meth c H2 k2 0 0 Q (F0 m 3 ls []) := by
    intro n
    induction n using Nat.strongRecOn with
    | _ n ih2 =>
      intro a3_2_1 g2 H2 k2 ls hF2 L2 ra3_2_1 hm2_0 hI2 hW hl hn2
      subst hn2
      replace hW := wfP_i (wfP_i (wfP_i (wfP_i (wfP_a (wfP_a hP2 a3_2_1) g2) hF2) hI2) ra3_2_1) hW
      obtain ⟨z2_0, ez2_0⟩ : ∃ y : Int32, y = g2 361 i0 := ⟨_, rfl⟩
      have rz2_0 : rg (0) (200) z2_0 := rg_eqv ez2_0.symm hm2_0
      replace hW := (wfP_i (wfP_i (wfP_a hW z2_0) ez2_0) rz2_0)
      refine lv_iload_n hx hb dX11_putOnTape_3 rfl (lv_at hl 2 rfl) ?_
      obtain ⟨P3, hP3, hW⟩ := wfP_ex hW
      have j49_3 : ∀ (g3 : mSt) (H3 : Heap) (k3 : List Loc) (ls : Array Slot), mFr [] g2 g3 → cL G Z A H0 X g3 H3 k3 → mFi (im_kputOnTape Z i0 p1) g2 g3 → wfP (P3 g3) → lv_has ls 3 [(0, .ref (Z.ad 11 i0))] → W p l e rm_kputOnTape s m args below meth c H3 k3 0 0 Q (F0 m 49 ls []) := by
        intro  g3 H3 k3 ls hF3 L3  hI3 hW hl
        replace hW := wfP_i (wfP_i (wfP_i (wfP_a hP3 g3) hF3) hI3) hW
        exact hQ _ _ _ _ _ dX11_putOnTape_49 L3 ⟨hW, (mFi.tr (mFi.tr mFi.rf hI2) hI3), (mFr.tr (mFr.tr mFr.rf hF2 rfl) hF3 rfl), trivial⟩
      refine lv_if_lt (tgt := 49) hx hb dX11_putOnTape_4 (by decide) (fun c4_4 => ?_) (fun c4_4 => ?_)
      · skip
        replace hW := wfP_i (wfP_l hW) (i_lt c4_4 rfl (rg_i kc_0))
        have q5 : rg (-8) (-1) a3_2_1 := (rg_lt c4_4 ra3_2_1 kc_0).1
        exact j49_3  g2 _ _ ls mFr.rf L2 mFi.rf hW (lv_sub hl [0] rfl)
      · skip
        replace hW := wfP_i (wfP_r hW) (i_le (rg_nlt c4_4) (rg_i kc_0) rfl)
        have q6 : rg (0) (24) a3_2_1 := (rg_le (rg_nlt c4_4) kc_0 ra3_2_1).2
        refine lv_aload_n hx hb dX11_putOnTape_7 rfl (lv_at hl 0 rfl) ?_
        refine c_geti x L2 11 i0 9 361 hal0 rfl rfl (wk_in kf_X11_75) dX11_putOnTape_8 (fun v7 ev7 wv7 => ?_)
        refine m_top ((ez2_0).trans ev7.symm) ?_
        refine lv_sipush (v := 200) hx hb dX11_putOnTape_11 (by decide) ?_
        refine lv_icmp_ge (tgt := 49) hx hb dX11_putOnTape_14 (by decide) (fun c14_8 => ?_) (fun c14_8 => ?_)
        · skip
          replace hW := wfP_i (wfP_l hW) (i_le c14_8 (rg_i kc_200) rfl)
          have q9 : rg (200) (200) z2_0 := (rg_le c14_8 kc_200 rz2_0).2
          exact j49_3  g2 _ _ ls mFr.rf L2 mFi.rf hW (lv_sub hl [0] rfl)
        · skip
          replace hW := wfP_i (wfP_r hW) (i_lt (rg_nle c14_8) rfl (rg_i kc_200))
          have q10 : rg (0) (199) z2_0 := (rg_lt (rg_nle c14_8) rz2_0 kc_200).1
          refine lv_aload_n hx hb dX11_putOnTape_17 rfl (lv_at hl 0 rfl) ?_
          have al11 : Z.al 36 0 := hz.2 36 0 (show 0 < 1 from (by omega))
          refine c_getr (a := Z.ad 36 0) x L2 11 i0 8 hal0 rfl rfl (wk_in kf_X11_23) dX11_putOnTape_18 ?_
          refine lv_aload_n hx hb dX11_putOnTape_21 rfl (lv_at hl 0 rfl) ?_
          refine c_geti x L2 11 i0 9 361 hal0 rfl rfl (wk_in kf_X11_75) dX11_putOnTape_22 (fun v12 ev12 wv12 => ?_)
          refine m_top ((ez2_0).trans ev12.symm) ?_
          refine lv_iload_n hx hb dX11_putOnTape_25 rfl (lv_at hl 1 rfl) ?_
          refine lv_iload_n hx hb dX11_putOnTape_26 rfl (lv_at hl 2 rfl) ?_
          refine lv_iushr hx hb dX11_putOnTape_27 rfl ?_
          refine lv_topi (fun v13 ev13 => ?_)
          have rv13 : rg (-2147483648) (2147483647) v13 := rg_any v13
          replace hW := (wfP_i (wfP_i (wfP_a hW v13) ev13) rv13)
          refine lv_sipush (v := 255) hx hb dX11_putOnTape_28 (by decide) ?_
          refine lv_iand hx hb dX11_putOnTape_31 ?_
          refine lv_topi (fun v14 ev14 => ?_)
          have rv14 : rg (0) (255) v14 := rg_and ev14 8 255 (by decide) rfl
          replace hW := (wfP_i (wfP_i (wfP_a hW v14) ev14) rv14)
          refine c_st x L2 36 0 1152 al11 rfl rfl q10 rfl (rg_any v14) dX11_putOnTape_32 (fun g15 H15 k15 eg15 L15 => ?_)
          replace hW := (wfP_i (wfP_a hW g15) eg15)
          refine lv_aload_n hx hb dX11_putOnTape_33 rfl (lv_at hl 0 rfl) ?_
          refine lv_dup hx hb dX11_putOnTape_34 rfl ?_
          refine c_geti x L15 11 i0 9 361 hal0 rfl rfl (wk_in kf_X11_75) dX11_putOnTape_35 (fun v16 ev16 wv16 => ?_)
          refine m_top (((mm_up ez2_0 eg15 rfl)).trans ev16.symm) ?_
          refine lv_iconst (v := 1) hx hb dX11_putOnTape_38 (by decide) ?_
          refine lv_iadd hx hb dX11_putOnTape_39 ?_
          refine lv_topi (fun v17 ev17 => ?_)
          have rv17 : rg (1) (200) v17 := (rg_add ev17 q10 kc_1 rfl).1
          replace hW := (wfP_i (wfP_i (wfP_i (wfP_a hW v17) ev17) rv17) (w_iadd ((rg_add ev17 q10 kc_1 rfl).2) rfl (rg_i kc_1)))
          refine c_puti x L15 11 i0 9 361 hal0 rfl rfl ⟨rfl, by decide +kernel⟩ (wk_in kf_X11_75) dX11_putOnTape_40 (crj_361 (rg_w rv17 rfl)) (fun g18 H18 k18 eg18 L18 => ?_)
          replace hW := (wfP_i (wfP_a hW g18) eg18)
          obtain ⟨v19, ev19, fv19⟩ := inc_ex a3_2_1 (-8) (-8 : Int32) (by decide)
          have rv19 : rg (-8) (16) v19 := (rg_add ev19 q6 kc_m8 rfl).1
          have tv19 := (rg_add ev19 q6 kc_m8 rfl).2
          replace hW := (wfP_i (wfP_i (wfP_i (wfP_a hW v19) ev19) rv19) (w_iadd tv19 rfl (rg_i kc_m8)))
          refine lv_iinc (v := v19) (lv' := [(2, .int v19), (0, .ref (Z.ad 11 i0)), (1, .int p1)]) hx hb dX11_putOnTape_43 hl (k := 2) rfl fv19 (by decide) rfl (fun ls hl => ?_)
          refine lv_goto (tgt := 3) hx hb dX11_putOnTape_46 (by decide) ?_
          exact ih2 _ (ms_dn tv19 kc_m8 q6 rfl rfl) v19 g18 _ _ ls (mFr.upE (mFr.upE hF2 eg15 rfl) eg18 rfl) L18 (rg_w rv19 rfl) (rg_eqv (mm_st eg18) (rg_w rv17 rfl)) (mFi.up (mFi.up hI2 eg15 (mIn_at 1 rfl (Or.inr (mIx q10 rfl)))) eg18 (mIn_at 0 rfl (Or.inr (Nat.div_one _)))) hW (lv_sub hl [1, 2, 0] rfl) rfl
  exact j3_2 _ (24 : Int32) g _ _ ls mFr.rf L (rg_w kc_24 rfl) (rg_w (clj_361 (L.2.2 361 i0)) rfl) mFi.rf hW (lv_sub hl [1, 2, 0] rfl) rfl
theorem d_kputOnTape (l : Launch) {G : cG} {Z : cZ} (X : Int) (g : mSt) (i0 : Nat) (p1 : Int32) (hX : 0 ≤ X ∧ X ≤ 2000000000) (hal0 : Z.al 11 i0) {Φ : Int32 → mSt → Prop} (hW : wfP (wp_kputOnTape Z i0 p1 g Φ)) : Met l yX11_putOnTape (wk (Cond.code yX11_putOnTape cX11_putOnTape 3 none)) rm_kputOnTape (va_Pc [.ref (Z.ad 11 i0), .int p1] (cPre G Z X g)) (cQv G Z X (fun g1 => wfP (Φ 0 g1) ∧ mFi (im_kputOnTape Z i0 p1) g g1 ∧ (mFr [361, 1152] g g1 ∧ True))) 0 0 (cAd Z) := by
  refine Met.ofW (cc := cX11_putOnTape) (maxL := 3) (ret := none) (by decide) rfl ?_
  intro p e s m args below meth c s₁ B hml hv
  obtain ⟨rfl, hv⟩ := hv
  have hr := B.returns
  have hlocks := B.notSynchronized
  obtain ⟨x, L⟩ := c_start B rfl (fun w h => wk_in h) hv
  have hl := lv_entry ([.ref (Z.ad 11 i0), .int p1]) (n := 3) (Nat.le_of_ble_eq_true rfl)
  rw [lg_entry_eq]
  generalize (lg_sl ([.ref (Z.ad 11 i0), .int p1]) ++ List.replicate (3 - (lg_sl ([.ref (Z.ad 11 i0), .int p1])).length) Slot.unset).toArray = ls at hl ⊢
  exact v_kputOnTape x hml L hX i0 p1 hal0 hW hl (fun pc' ls' g1 H1 locs1 hdg L hp => c_vret x L hr hlocks (Int.le_refl _) hp hdg)

def im_kfeed (Z : cZ) (i0 : Nat) (p1 : Int32) (p2 : Int32) (p3 : Int32) (p4 : Int32) (p5 : Int32) : List (Nat × Nat × Nat) := [(361, i0, 1), (1152, 0, 8192)]
def po_kfeed (Z : cZ) (i0 : Nat) (p1 : Int32) (p2 : Int32) (p3 : Int32) (p4 : Int32) (p5 : Int32) (g : mSt) (r : Int32) (g1 : mSt) : Prop := mFi (im_kfeed Z i0 p1 p2 p3 p4 p5) g g1 ∧ mFr [361, 1152] g g1 ∧ rg (-3) (200) r ∧ True
def wp_kfeed (Z : cZ) (i0 : Nat) (p1 : Int32) (p2 : Int32) (p3 : Int32) (p4 : Int32) (p5 : Int32) (g : mSt) (Φ : Int32 → mSt → Prop) : Prop :=
  ∀ (v1 : Int32), v1 = g 361 i0 → rg (0) (200) v1 → ∀ (v2 : Int32), v2 = v1 + (20 : Int32) → rg (20) (220) v2 → v2.toInt = v1.toInt + 20 → ((v2.toInt ≤ 200) → wp_kputOnTape Z i0 p1 g (fun (_ : Int32) (g5 : mSt) => po_kputOnTape Z i0 p1 g 0 g5 → wp_kputOnTape Z i0 p2 g5 (fun (_ : Int32) (g6 : mSt) => po_kputOnTape Z i0 p2 g5 0 g6 → wp_kputOnTape Z i0 p3 g6 (fun (_ : Int32) (g7 : mSt) => po_kputOnTape Z i0 p3 g6 0 g7 → wp_kputOnTape Z i0 p4 g7 (fun (_ : Int32) (g8 : mSt) => po_kputOnTape Z i0 p4 g7 0 g8 → wp_kputOnTape Z i0 p5 g8 (fun (_ : Int32) (g9 : mSt) => po_kputOnTape Z i0 p5 g8 0 g9 → ∀ (v10 : Int32), v10 = g9 361 i0 → rg (0) (200) v10 → Φ v10 g9)))))) ∧ ((200 < v2.toInt) → Φ (-3 : Int32) g)
set_option maxHeartbeats 4000000 in
set_option maxRecDepth 100000 in
theorem v_kfeed {p : Program} {l : Launch} {e : Env} {s : State} {m : MethodId} {args : Array Value} {below : List Frame} {meth : Method} {c : Code} {H : Heap} {locs : List Loc} {Q : State → Prop} {ls : Array Slot} {G : cG} {Z : cZ} {A : Nat → Prop} {g : mSt} {H0 : Heap} {X : Int} (x : cX p c cX11_feed s args (wk (Cond.code yX11_feed cX11_feed 6 (some .int))) m G Z A RX11 H0) (hml : c.maxLocals = 6) (L : cL G Z A H0 X g H locs) (hX : 0 ≤ X ∧ X ≤ 2000000000) (i0 : Nat) (p1 : Int32) (p2 : Int32) (p3 : Int32) (p4 : Int32) (p5 : Int32) (hal0 : Z.al 11 i0) {Φ : Int32 → mSt → Prop} (hW : wfP (wp_kfeed Z i0 p1 p2 p3 p4 p5 g Φ)) (hl : lv_has ls 6 [(0, .ref (Z.ad 11 i0)), (1, .int p1), (2, .int p2), (3, .int p3), (4, .int p4), (5, .int p5)]) (hQ : ∀ (pc' : Nat) (ls' : Array Slot) (r : Int32) (g1 : mSt) (H1 : Heap) (locs1 : List Loc), decode cX11_feed pc' = .ok (.ireturn, 1) → cL G Z A H0 X g1 H1 locs1 → (wfP (Φ r g1) ∧ mFi (im_kfeed Z i0 p1 p2 p3 p4 p5) g g1 ∧ (mFr [361, 1152] g g1 ∧ rg (-3) (200) r ∧ True)) → W p l e rm_kfeed s m args below meth c H1 locs1 0 0 Q (F0 m pc' ls' [.int r])) : W p l e rm_kfeed s m args below meth c H locs 0 0 Q (F0 m 0 ls []) := by
  have hx := x.1
  have hb := x.2.1
  have hz := x.2.2.2.2.2.2.2.1
  have hzn := hz.1
  refine lv_aload_n hx hb dX11_feed_0 rfl (lv_at hl 0 rfl) ?_
  refine c_geti x L 11 i0 9 361 hal0 rfl rfl (wk_in kf_X11_75) dX11_feed_1 (fun v1 ev1 wv1 => ?_)
  have rv1 : rg (0) (200) v1 := clj_361 wv1
  replace hW := (wfP_i (wfP_i (wfP_a hW v1) ev1) rv1)
  refine lv_bipush (v := 20) hx hb dX11_feed_4 (by decide) ?_
  refine lv_iadd hx hb dX11_feed_6 ?_
  refine lv_topi (fun v2 ev2 => ?_)
  have rv2 : rg (20) (220) v2 := (rg_add ev2 rv1 kc_20 rfl).1
  replace hW := (wfP_i (wfP_i (wfP_i (wfP_a hW v2) ev2) rv2) (w_iadd ((rg_add ev2 rv1 kc_20 rfl).2) rfl (rg_i kc_20)))
  refine lv_sipush (v := 200) hx hb dX11_feed_7 (by decide) ?_
  refine lv_icmp_le (tgt := 16) hx hb dX11_feed_10 (by decide) (fun c10_3 => ?_) (fun c10_3 => ?_)
  · skip
    replace hW := wfP_i (wfP_l hW) (i_le c10_3 rfl (rg_i kc_200))
    have q4 : rg (20) (200) v2 := (rg_le c10_3 rv2 kc_200).1
    refine lv_aload_n hx hb dX11_feed_16 rfl (lv_at hl 0 rfl) ?_
    refine lv_iload_n hx hb dX11_feed_17 rfl (lv_at hl 1 rfl) ?_
    refine c_cv (As := [.int p1]) (rest := []) x hml L 11 i0 hal0 rfl (d_kputOnTape l X g i0 p1 hX hal0 hW) (wk_V kd_X11_putOnTape kl_X11_78 ki_X11_putOnTape ks_X11_X11_putOnTape kn_X11) rfl ⟨rfl, rfl⟩ hd_kputOnTape ⟨Nat.le_of_ble_eq_true rfl, Nat.le_of_ble_eq_true rfl⟩ rfl hl.1 rfl (lv_room (Nat.le_of_ble_eq_true rfl)) dX11_feed_18 (fun  g5 H5 k5 hp5 L5 => ?_)
    obtain ⟨hW, hi5, hp5⟩ := hp5
    replace hW := wfP_i hW ⟨hi5, hp5⟩
    refine lv_aload_n hx hb dX11_feed_21 rfl (lv_at hl 0 rfl) ?_
    refine lv_iload_n hx hb dX11_feed_22 rfl (lv_at hl 2 rfl) ?_
    refine c_cv (As := [.int p2]) (rest := []) x hml L5 11 i0 hal0 rfl (d_kputOnTape l X g5 i0 p2 hX hal0 hW) (wk_V kd_X11_putOnTape kl_X11_78 ki_X11_putOnTape ks_X11_X11_putOnTape kn_X11) rfl ⟨rfl, rfl⟩ hd_kputOnTape ⟨Nat.le_of_ble_eq_true rfl, Nat.le_of_ble_eq_true rfl⟩ rfl hl.1 rfl (lv_room (Nat.le_of_ble_eq_true rfl)) dX11_feed_23 (fun  g6 H6 k6 hp6 L6 => ?_)
    obtain ⟨hW, hi6, hp6⟩ := hp6
    replace hW := wfP_i hW ⟨hi6, hp6⟩
    refine lv_aload_n hx hb dX11_feed_26 rfl (lv_at hl 0 rfl) ?_
    refine lv_iload_n hx hb dX11_feed_27 rfl (lv_at hl 3 rfl) ?_
    refine c_cv (As := [.int p3]) (rest := []) x hml L6 11 i0 hal0 rfl (d_kputOnTape l X g6 i0 p3 hX hal0 hW) (wk_V kd_X11_putOnTape kl_X11_78 ki_X11_putOnTape ks_X11_X11_putOnTape kn_X11) rfl ⟨rfl, rfl⟩ hd_kputOnTape ⟨Nat.le_of_ble_eq_true rfl, Nat.le_of_ble_eq_true rfl⟩ rfl hl.1 rfl (lv_room (Nat.le_of_ble_eq_true rfl)) dX11_feed_28 (fun  g7 H7 k7 hp7 L7 => ?_)
    obtain ⟨hW, hi7, hp7⟩ := hp7
    replace hW := wfP_i hW ⟨hi7, hp7⟩
    refine lv_aload_n hx hb dX11_feed_31 rfl (lv_at hl 0 rfl) ?_
    refine lv_iload hx hb dX11_feed_32 (lv_at hl 4 rfl) ?_
    refine c_cv (As := [.int p4]) (rest := []) x hml L7 11 i0 hal0 rfl (d_kputOnTape l X g7 i0 p4 hX hal0 hW) (wk_V kd_X11_putOnTape kl_X11_78 ki_X11_putOnTape ks_X11_X11_putOnTape kn_X11) rfl ⟨rfl, rfl⟩ hd_kputOnTape ⟨Nat.le_of_ble_eq_true rfl, Nat.le_of_ble_eq_true rfl⟩ rfl hl.1 rfl (lv_room (Nat.le_of_ble_eq_true rfl)) dX11_feed_34 (fun  g8 H8 k8 hp8 L8 => ?_)
    obtain ⟨hW, hi8, hp8⟩ := hp8
    replace hW := wfP_i hW ⟨hi8, hp8⟩
    refine lv_aload_n hx hb dX11_feed_37 rfl (lv_at hl 0 rfl) ?_
    refine lv_iload hx hb dX11_feed_38 (lv_at hl 5 rfl) ?_
    refine c_cv (As := [.int p5]) (rest := []) x hml L8 11 i0 hal0 rfl (d_kputOnTape l X g8 i0 p5 hX hal0 hW) (wk_V kd_X11_putOnTape kl_X11_78 ki_X11_putOnTape ks_X11_X11_putOnTape kn_X11) rfl ⟨rfl, rfl⟩ hd_kputOnTape ⟨Nat.le_of_ble_eq_true rfl, Nat.le_of_ble_eq_true rfl⟩ rfl hl.1 rfl (lv_room (Nat.le_of_ble_eq_true rfl)) dX11_feed_40 (fun  g9 H9 k9 hp9 L9 => ?_)
    obtain ⟨hW, hi9, hp9⟩ := hp9
    replace hW := wfP_i hW ⟨hi9, hp9⟩
    refine lv_aload_n hx hb dX11_feed_43 rfl (lv_at hl 0 rfl) ?_
    refine c_geti x L9 11 i0 9 361 hal0 rfl rfl (wk_in kf_X11_75) dX11_feed_44 (fun v10 ev10 wv10 => ?_)
    have rv10 : rg (0) (200) v10 := clj_361 wv10
    replace hW := (wfP_i (wfP_i (wfP_a hW v10) ev10) rv10)
    exact hQ _ _ v10 _ _ _ dX11_feed_47 L9 ⟨hW, (mFi.sub (mFi.sub (mFi.sub (mFi.sub (mFi.sub mFi.rf hi5 (mSub_eq 0 rfl (mSub_eq 1 rfl mSub_nil))) hi6 (mSub_eq 0 rfl (mSub_eq 1 rfl mSub_nil))) hi7 (mSub_eq 0 rfl (mSub_eq 1 rfl mSub_nil))) hi8 (mSub_eq 0 rfl (mSub_eq 1 rfl mSub_nil))) hi9 (mSub_eq 0 rfl (mSub_eq 1 rfl mSub_nil))), (mFr.tr (mFr.tr (mFr.tr (mFr.tr (mFr.tr mFr.rf hp5.1 rfl) hp6.1 rfl) hp7.1 rfl) hp8.1 rfl) hp9.1 rfl), rg_w rv10 rfl, trivial⟩
  · skip
    replace hW := wfP_i (wfP_r hW) (i_lt (rg_nle c10_3) (rg_i kc_200) rfl)
    have q11 : rg (201) (220) v2 := (rg_lt (rg_nle c10_3) kc_200 rv2).2
    refine lv_bipush (v := (-3)) hx hb dX11_feed_13 (by decide) ?_
    exact hQ _ _ (-3 : Int32) _ _ _ dX11_feed_15 L ⟨hW, mFi.rf, mFr.rf, rg_w kc_m3 rfl, trivial⟩
theorem d_kfeed (l : Launch) {G : cG} {Z : cZ} (X : Int) (g : mSt) (i0 : Nat) (p1 : Int32) (p2 : Int32) (p3 : Int32) (p4 : Int32) (p5 : Int32) (hX : 0 ≤ X ∧ X ≤ 2000000000) (hal0 : Z.al 11 i0) {Φ : Int32 → mSt → Prop} (hW : wfP (wp_kfeed Z i0 p1 p2 p3 p4 p5 g Φ)) : Met l yX11_feed (wk (Cond.code yX11_feed cX11_feed 6 (some .int))) rm_kfeed (va_Pc [.ref (Z.ad 11 i0), .int p1, .int p2, .int p3, .int p4, .int p5] (cPre G Z X g)) (cQi G Z X (fun r g1 => wfP (Φ r g1) ∧ mFi (im_kfeed Z i0 p1 p2 p3 p4 p5) g g1 ∧ (mFr [361, 1152] g g1 ∧ rg (-3) (200) r ∧ True))) 0 0 (cAd Z) := by
  refine Met.ofW (cc := cX11_feed) (maxL := 6) (ret := (some .int)) (by decide) rfl ?_
  intro p e s m args below meth c s₁ B hml hv
  obtain ⟨rfl, hv⟩ := hv
  have hr := B.returns
  have hlocks := B.notSynchronized
  obtain ⟨x, L⟩ := c_start B rfl (fun w h => wk_in h) hv
  have hl := lv_entry ([.ref (Z.ad 11 i0), .int p1, .int p2, .int p3, .int p4, .int p5]) (n := 6) (Nat.le_of_ble_eq_true rfl)
  rw [lg_entry_eq]
  generalize (lg_sl ([.ref (Z.ad 11 i0), .int p1, .int p2, .int p3, .int p4, .int p5]) ++ List.replicate (6 - (lg_sl ([.ref (Z.ad 11 i0), .int p1, .int p2, .int p3, .int p4, .int p5])).length) Slot.unset).toArray = ls at hl ⊢
  exact v_kfeed x hml L hX i0 p1 p2 p3 p4 p5 hal0 hW hl (fun pc' ls' r g1 H1 locs1 hdg L hp => c_iret x L hr hlocks (Int.le_refl _) hp hdg)

def im_kend (Z : cZ) (i0 : Nat) (p1 : Int32) : List (Nat × Nat × Nat) := [(361, i0, 1)]
def po_kend (Z : cZ) (i0 : Nat) (p1 : Int32) (g : mSt) (r : Int32) (g1 : mSt) : Prop := mFi (im_kend Z i0 p1) g g1 ∧ mFr [361] g g1 ∧ rg (-1) (200) r ∧ True
def wp_kend (Z : cZ) (i0 : Nat) (p1 : Int32) (g : mSt) (Φ : Int32 → mSt → Prop) : Prop :=
  ∃ P1 : mSt → Prop, (∀ (g1 : mSt), mFr [] g g1 → mFi (im_kend Z i0 p1) g g1 → P1 g1 → Φ (-1 : Int32) g1) ∧ ((p1.toInt < 0) → P1 g) ∧ ((0 ≤ p1.toInt) → ((20 < p1.toInt) → P1 g) ∧ ((p1.toInt ≤ 20) → ∀ (v8 : Int32), v8 = g 361 i0 → rg (0) (200) v8 → ((20 ≤ v8.toInt) → ∀ (v12 : Int32), v12 = v8 - (20 : Int32) → rg (0) (180) v12 → v12.toInt = v8.toInt - 20 → ∀ (v13 : Int32), v13 = v12 + p1 → rg (0) (200) v13 → v13.toInt = v12.toInt + p1.toInt → ∀ (g14 : mSt), g14 = up2 g 361 i0 v13 → Φ v13 g14) ∧ ((v8.toInt < 20) → P1 g)))
set_option maxHeartbeats 4000000 in
set_option maxRecDepth 100000 in
theorem v_kend {p : Program} {l : Launch} {e : Env} {s : State} {m : MethodId} {args : Array Value} {below : List Frame} {meth : Method} {c : Code} {H : Heap} {locs : List Loc} {Q : State → Prop} {ls : Array Slot} {G : cG} {Z : cZ} {A : Nat → Prop} {g : mSt} {H0 : Heap} {X : Int} (x : cX p c cX11_end s args (wk (Cond.code yX11_end cX11_end 2 (some .int))) m G Z A RX11 H0) (hml : c.maxLocals = 2) (L : cL G Z A H0 X g H locs) (hX : 0 ≤ X ∧ X ≤ 2000000000) (i0 : Nat) (p1 : Int32) (hal0 : Z.al 11 i0) {Φ : Int32 → mSt → Prop} (hW : wfP (wp_kend Z i0 p1 g Φ)) (hl : lv_has ls 2 [(0, .ref (Z.ad 11 i0)), (1, .int p1)]) (hQ : ∀ (pc' : Nat) (ls' : Array Slot) (r : Int32) (g1 : mSt) (H1 : Heap) (locs1 : List Loc), decode cX11_end pc' = .ok (.ireturn, 1) → cL G Z A H0 X g1 H1 locs1 → (wfP (Φ r g1) ∧ mFi (im_kend Z i0 p1) g g1 ∧ (mFr [361] g g1 ∧ rg (-1) (200) r ∧ True)) → W p l e rm_kend s m args below meth c H1 locs1 0 0 Q (F0 m pc' ls' [.int r])) : W p l e rm_kend s m args below meth c H locs 0 0 Q (F0 m 0 ls []) := by
  have hx := x.1
  have hb := x.2.1
  have hz := x.2.2.2.2.2.2.2.1
  have hzn := hz.1
  refine lv_iload_n hx hb dX11_end_0 rfl (lv_at hl 1 rfl) ?_
  obtain ⟨P1, hP1, hW⟩ := wfP_ex hW
  have j19_1 : ∀ (g1 : mSt) (H1 : Heap) (k1 : List Loc) (ls : Array Slot), mFr [] g g1 → cL G Z A H0 X g1 H1 k1 → mFi (im_kend Z i0 p1) g g1 → wfP (P1 g1) → lv_has ls 2 [(0, .ref (Z.ad 11 i0))] → W p l e rm_kend s m args below meth c H1 k1 0 0 Q (F0 m 19 ls []) := by
    intro  g1 H1 k1 ls hF1 L1  hI1 hW hl
    replace hW := wfP_i (wfP_i (wfP_i (wfP_a hP1 g1) hF1) hI1) hW
    refine lv_iconst (v := (-1)) hx hb dX11_end_19 (by decide) ?_
    exact hQ _ _ (-1 : Int32) _ _ _ dX11_end_20 L1 ⟨hW, (mFi.tr mFi.rf hI1), (mFr.tr mFr.rf hF1 rfl), rg_w kc_m1 rfl, trivial⟩
  refine lv_if_lt (tgt := 19) hx hb dX11_end_1 (by decide) (fun c1_2 => ?_) (fun c1_2 => ?_)
  · skip
    replace hW := wfP_i (wfP_l hW) (i_lt c1_2 rfl (rg_i kc_0))
    have q3 : rg (-2147483648) (-1) p1 := (rg_lt c1_2 (rg_any p1) kc_0).1
    exact j19_1  g _ _ ls mFr.rf L mFi.rf hW (lv_sub hl [0] rfl)
  · skip
    replace hW := wfP_i (wfP_r hW) (i_le (rg_nlt c1_2) (rg_i kc_0) rfl)
    have q4 : rg (0) (2147483647) p1 := (rg_le (rg_nlt c1_2) kc_0 (rg_any p1)).2
    refine lv_iload_n hx hb dX11_end_4 rfl (lv_at hl 1 rfl) ?_
    refine lv_bipush (v := 20) hx hb dX11_end_5 (by decide) ?_
    refine lv_icmp_gt (tgt := 19) hx hb dX11_end_7 (by decide) (fun c7_5 => ?_) (fun c7_5 => ?_)
    · skip
      replace hW := wfP_i (wfP_l hW) (i_lt c7_5 (rg_i kc_20) rfl)
      have q6 : rg (21) (2147483647) p1 := (rg_lt c7_5 kc_20 q4).2
      exact j19_1  g _ _ ls mFr.rf L mFi.rf hW (lv_sub hl [0] rfl)
    · skip
      replace hW := wfP_i (wfP_r hW) (i_le (rg_nlt c7_5) rfl (rg_i kc_20))
      have q7 : rg (0) (20) p1 := (rg_le (rg_nlt c7_5) q4 kc_20).1
      refine lv_aload_n hx hb dX11_end_10 rfl (lv_at hl 0 rfl) ?_
      refine c_geti x L 11 i0 9 361 hal0 rfl rfl (wk_in kf_X11_75) dX11_end_11 (fun v8 ev8 wv8 => ?_)
      have rv8 : rg (0) (200) v8 := clj_361 wv8
      replace hW := (wfP_i (wfP_i (wfP_a hW v8) ev8) rv8)
      refine lv_bipush (v := 20) hx hb dX11_end_14 (by decide) ?_
      refine lv_icmp_ge (tgt := 21) hx hb dX11_end_16 (by decide) (fun c16_9 => ?_) (fun c16_9 => ?_)
      · skip
        replace hW := wfP_i (wfP_l hW) (i_le c16_9 (rg_i kc_20) rfl)
        have q10 : rg (20) (200) v8 := (rg_le c16_9 kc_20 rv8).2
        refine lv_aload_n hx hb dX11_end_21 rfl (lv_at hl 0 rfl) ?_
        refine lv_aload_n hx hb dX11_end_22 rfl (lv_at hl 0 rfl) ?_
        refine c_geti x L 11 i0 9 361 hal0 rfl rfl (wk_in kf_X11_75) dX11_end_23 (fun v11 ev11 wv11 => ?_)
        refine m_top ((ev8).trans ev11.symm) ?_
        refine lv_bipush (v := 20) hx hb dX11_end_26 (by decide) ?_
        refine lv_isub hx hb dX11_end_28 ?_
        refine lv_topi (fun v12 ev12 => ?_)
        have rv12 : rg (0) (180) v12 := (rg_sub ev12 q10 kc_20 rfl).1
        replace hW := (wfP_i (wfP_i (wfP_i (wfP_a hW v12) ev12) rv12) (w_isub ((rg_sub ev12 q10 kc_20 rfl).2) rfl (rg_i kc_20)))
        refine lv_iload_n hx hb dX11_end_29 rfl (lv_at hl 1 rfl) ?_
        refine lv_iadd hx hb dX11_end_30 ?_
        refine lv_topi (fun v13 ev13 => ?_)
        have rv13 : rg (0) (200) v13 := (rg_add ev13 rv12 q7 rfl).1
        replace hW := (wfP_i (wfP_i (wfP_i (wfP_a hW v13) ev13) rv13) (w_iadd ((rg_add ev13 rv12 q7 rfl).2) rfl rfl))
        refine c_puti x L 11 i0 9 361 hal0 rfl rfl ⟨rfl, by decide +kernel⟩ (wk_in kf_X11_75) dX11_end_31 (crj_361 (rg_w rv13 rfl)) (fun g14 H14 k14 eg14 L14 => ?_)
        replace hW := (wfP_i (wfP_a hW g14) eg14)
        refine lv_aload_n hx hb dX11_end_34 rfl (lv_at hl 0 rfl) ?_
        refine c_geti x L14 11 i0 9 361 hal0 rfl rfl (wk_in kf_X11_75) dX11_end_35 (fun v15 ev15 wv15 => ?_)
        refine m_top (((mm_st eg14)).trans ev15.symm) ?_
        exact hQ _ _ v13 _ _ _ dX11_end_38 L14 ⟨hW, (mFi.up mFi.rf eg14 (mIn_at 0 rfl (Or.inr (Nat.div_one _)))), (mFr.upE mFr.rf eg14 rfl), rg_w rv13 rfl, trivial⟩
      · skip
        replace hW := wfP_i (wfP_r hW) (i_lt (rg_nle c16_9) rfl (rg_i kc_20))
        have q16 : rg (0) (19) v8 := (rg_lt (rg_nle c16_9) rv8 kc_20).1
        exact j19_1  g _ _ ls mFr.rf L mFi.rf hW (lv_sub hl [0] rfl)
theorem d_kend (l : Launch) {G : cG} {Z : cZ} (X : Int) (g : mSt) (i0 : Nat) (p1 : Int32) (hX : 0 ≤ X ∧ X ≤ 2000000000) (hal0 : Z.al 11 i0) {Φ : Int32 → mSt → Prop} (hW : wfP (wp_kend Z i0 p1 g Φ)) : Met l yX11_end (wk (Cond.code yX11_end cX11_end 2 (some .int))) rm_kend (va_Pc [.ref (Z.ad 11 i0), .int p1] (cPre G Z X g)) (cQi G Z X (fun r g1 => wfP (Φ r g1) ∧ mFi (im_kend Z i0 p1) g g1 ∧ (mFr [361] g g1 ∧ rg (-1) (200) r ∧ True))) 0 0 (cAd Z) := by
  refine Met.ofW (cc := cX11_end) (maxL := 2) (ret := (some .int)) (by decide) rfl ?_
  intro p e s m args below meth c s₁ B hml hv
  obtain ⟨rfl, hv⟩ := hv
  have hr := B.returns
  have hlocks := B.notSynchronized
  obtain ⟨x, L⟩ := c_start B rfl (fun w h => wk_in h) hv
  have hl := lv_entry ([.ref (Z.ad 11 i0), .int p1]) (n := 2) (Nat.le_of_ble_eq_true rfl)
  rw [lg_entry_eq]
  generalize (lg_sl ([.ref (Z.ad 11 i0), .int p1]) ++ List.replicate (2 - (lg_sl ([.ref (Z.ad 11 i0), .int p1])).length) Slot.unset).toArray = ls at hl ⊢
  exact v_kend x hml L hX i0 p1 hal0 hW hl (fun pc' ls' r g1 H1 locs1 hdg L hp => c_iret x L hr hlocks (Int.le_refl _) hp hdg)

def im_kcrc (Z : cZ) (i0 : Nat) : List (Nat × Nat × Nat) := [(1120, 0, 8192)]
def po_kcrc (Z : cZ) (i0 : Nat) (g : mSt) (r : Int32) (g1 : mSt) : Prop := mFi (im_kcrc Z i0) g g1 ∧ mFr [1120] g g1 ∧ rg (-2147483648) (2147483647) r ∧ True
def wp_kcrc (Z : cZ) (i0 : Nat) (g : mSt) (Φ : Int32 → mSt → Prop) : Prop :=
  ∀ (v1 : Int32), v1 = g 361 i0 → rg (0) (200) v1 → ((1 ≤ v1.toInt) → ∀ (g7 : mSt), g7 = cCpy g 1152 (8192 * 0 + (0 : Int32).toNatClampNeg) 1120 (8192 * 0 + (0 : Int32).toNatClampNeg) v1.toNatClampNeg → wp_kcloseFrame_35 Z 0 v1 g7 (fun (v10 : Int32) (g9 : mSt) => po_kcloseFrame_35 Z 0 v1 g7 v10 g9 → ∀ (v11 : Int32), v11 = v10 * (48 : Int32) → rg (0) (240) v11 → v11.toInt = v10.toInt * 48 → ∀ (v13 : Int32), v13 = v11 - (4 : Int32) → rg (-4) (236) v13 → v13.toInt = v11.toInt - 4 → wp_kcrcOf_35 Z 0 v13 g9 (fun (v16 : Int32) (g15 : mSt) => po_kcrcOf_35 Z 0 v13 g9 v16 g15 → Φ v16 g15))) ∧ ((v1.toInt < 1) → Φ (0 : Int32) g)
set_option maxHeartbeats 4000000 in
set_option maxRecDepth 100000 in
theorem v_kcrc {p : Program} {l : Launch} {e : Env} {s : State} {m : MethodId} {args : Array Value} {below : List Frame} {meth : Method} {c : Code} {H : Heap} {locs : List Loc} {Q : State → Prop} {ls : Array Slot} {G : cG} {Z : cZ} {A : Nat → Prop} {g : mSt} {H0 : Heap} {X : Int} (x : cX p c cX11_crc s args (wk (Cond.code yX11_crc cX11_crc 2 (some .int))) m G Z A RX11 H0) (hml : c.maxLocals = 2) (L : cL G Z A H0 X g H locs) (hX : 0 ≤ X ∧ X ≤ 2000000000) (i0 : Nat) (hal0 : Z.al 11 i0) {Φ : Int32 → mSt → Prop} (hW : wfP (wp_kcrc Z i0 g Φ)) (hl : lv_has ls 2 [(0, .ref (Z.ad 11 i0))]) (hQ : ∀ (pc' : Nat) (ls' : Array Slot) (r : Int32) (g1 : mSt) (H1 : Heap) (locs1 : List Loc), decode cX11_crc pc' = .ok (.ireturn, 1) → cL G Z A H0 X g1 H1 locs1 → (wfP (Φ r g1) ∧ mFi (im_kcrc Z i0) g g1 ∧ (mFr [1120] g g1 ∧ rg (-2147483648) (2147483647) r ∧ True)) → W p l e rm_kcrc s m args below meth c H1 locs1 0 0 Q (F0 m pc' ls' [.int r])) : W p l e rm_kcrc s m args below meth c H locs 0 0 Q (F0 m 0 ls []) := by
  have hx := x.1
  have hb := x.2.1
  have hz := x.2.2.2.2.2.2.2.1
  have hzn := hz.1
  refine lv_aload_n hx hb dX11_crc_0 rfl (lv_at hl 0 rfl) ?_
  refine c_geti x L 11 i0 9 361 hal0 rfl rfl (wk_in kf_X11_75) dX11_crc_1 (fun v1 ev1 wv1 => ?_)
  have rv1 : rg (0) (200) v1 := clj_361 wv1
  replace hW := (wfP_i (wfP_i (wfP_a hW v1) ev1) rv1)
  have uv1 : (0 : Int) ≤ v1.toInt ∧ v1.toInt ≤ 200 := rv1
  have sv1 : v1.toInt = (g 361 i0).toInt := congrArg Int32.toInt (ev1.trans (congrFun ((show mFr [1120] g g from mFr.rf).at 361 rfl) _))
  refine lv_iconst (v := 1) hx hb dX11_crc_4 (by decide) ?_
  refine lv_icmp_ge (tgt := 10) hx hb dX11_crc_5 (by decide) (fun c5_2 => ?_) (fun c5_2 => ?_)
  · skip
    replace hW := wfP_i (wfP_l hW) (i_le c5_2 (rg_i kc_1) rfl)
    have ic5_2 := Int32.le_iff_toInt_le.mp c5_2
    have q3 : rg (1) (200) v1 := (rg_le c5_2 kc_1 rv1).2
    have uq3 : (1 : Int) ≤ v1.toInt ∧ v1.toInt ≤ 200 := q3
    refine lv_aload_n hx hb dX11_crc_10 rfl (lv_at hl 0 rfl) ?_
    have al4 : Z.al 36 0 := hz.2 36 0 (show 0 < 1 from (by omega))
    refine c_getr (a := Z.ad 36 0) x L 11 i0 8 hal0 rfl rfl (wk_in kf_X11_23) dX11_crc_11 ?_
    refine lv_iconst (v := 0) hx hb dX11_crc_14 (by decide) ?_
    refine lv_aload_n hx hb dX11_crc_15 rfl (lv_at hl 0 rfl) ?_
    have al5 : Z.al 35 0 := hz.2 35 0 (show 0 < 1 from (by omega))
    refine c_getr (a := Z.ad 35 0) x L 11 i0 7 hal0 rfl rfl (wk_in kf_X11_20) dX11_crc_16 ?_
    refine lv_iconst (v := 0) hx hb dX11_crc_19 (by decide) ?_
    refine lv_aload_n hx hb dX11_crc_20 rfl (lv_at hl 0 rfl) ?_
    refine c_geti x L 11 i0 9 361 hal0 rfl rfl (wk_in kf_X11_75) dX11_crc_21 (fun v6 ev6 wv6 => ?_)
    refine m_top ((ev1).trans ev6.symm) ?_
    refine c_copy (rest := []) x (hml.trans hl.1.symm) L 36 0 35 0 1152 1120 al4 al5 rfl rfl rfl rfl ⟨rfl, rfl⟩ kl_X11_336 kw_cp (Int.le_trans (by decide) kc_0.1) (Int.le_trans (by decide) kc_0.1) (Int.le_trans (by decide) q3.1) (Int.le_trans (Int.add_le_add kc_0.2 q3.2) (by decide)) (Int.le_trans (Int.add_le_add kc_0.2 q3.2) (by decide)) (Nat.le_of_ble_eq_true rfl) (Nat.le_of_ble_eq_true rfl) dX11_crc_24 (fun g7 H7 k7 ec7 L7 => ?_)
    replace hW := (wfP_i (wfP_a hW g7) ec7)
    refine lv_aload_n hx hb dX11_crc_27 rfl (lv_at hl 0 rfl) ?_
    refine c_getr (a := Z.ad 35 0) x L7 11 i0 7 hal0 rfl rfl (wk_in kf_X11_20) dX11_crc_28 ?_
    refine lv_aload_n hx hb dX11_crc_31 rfl (lv_at hl 0 rfl) ?_
    refine c_geti x L7 11 i0 9 361 hal0 rfl rfl (wk_in kf_X11_75) dX11_crc_32 (fun v8 ev8 wv8 => ?_)
    refine m_top (((mm_fr ev1 (cCpy_fr ec7) rfl)).trans ev8.symm) ?_
    refine c_si (As := [.ref (Z.ad 35 0), .int v1]) (rest := []) x hml L7 (d_kcloseFrame_35 l X g7 0 v1 hX al5 hW) (wk_T kt_X11_closeFrame kl_X11_342 kn_X11 (wk_all kd_X11_closeFrame)) rfl ⟨rfl, rfl⟩ hd_kcloseFrame_35 ⟨Nat.le_of_ble_eq_true rfl, Nat.le_of_ble_eq_true rfl⟩ rfl hl.1 rfl (lv_room (Nat.le_of_ble_eq_true rfl)) dX11_crc_35 (fun v10 g9 H9 k9 hp9 L9 => ?_)
    obtain ⟨hW, hi9, hp9⟩ := hp9
    replace hW := wfP_i hW ⟨hi9, hp9⟩
    have rv10 : rg (0) (5) v10 := hp9.2.1
    have uv10 : (0 : Int) ≤ v10.toInt ∧ v10.toInt ≤ 5 := rv10
    refine lv_bipush (v := 48) hx hb dX11_crc_38 (by decide) ?_
    refine lv_imul hx hb dX11_crc_40 ?_
    refine lv_topi (fun v11 ev11 => ?_)
    have rv11 : rg (0) (240) v11 := (rg_mul ev11 rv10 kc_48 rfl).1
    replace hW := (wfP_i (wfP_i (wfP_i (wfP_a hW v11) ev11) rv11) ((rg_mul ev11 rv10 kc_48 rfl).2))
    have tv11 := (rg_mul ev11 rv10 kc_48 rfl).2
    have y12 : (48 : Int32).toInt = 48 := by decide
    have uv11 : (0 : Int) ≤ v11.toInt ∧ v11.toInt ≤ 240 := rv11
    refine lv_istore_n (lv' := [(1, .int v11), (0, .ref (Z.ad 11 i0))]) hx hb dX11_crc_41 rfl hl (by decide) rfl (fun ls hl => ?_)
    refine lv_aload_n hx hb dX11_crc_42 rfl (lv_at hl 1 rfl) ?_
    refine c_getr (a := Z.ad 35 0) x L9 11 i0 7 hal0 rfl rfl (wk_in kf_X11_20) dX11_crc_43 ?_
    refine lv_iload_n hx hb dX11_crc_46 rfl (lv_at hl 0 rfl) ?_
    refine lv_iconst (v := 4) hx hb dX11_crc_47 (by decide) ?_
    refine lv_isub hx hb dX11_crc_48 ?_
    refine lv_topi (fun v13 ev13 => ?_)
    have rv13 : rg (-4) (236) v13 := (rg_sub ev13 rv11 kc_4 rfl).1
    replace hW := (wfP_i (wfP_i (wfP_i (wfP_a hW v13) ev13) rv13) (w_isub ((rg_sub ev13 rv11 kc_4 rfl).2) rfl (rg_i kc_4)))
    have tv13 := (rg_sub ev13 rv11 kc_4 rfl).2
    have y14 : (4 : Int32).toInt = 4 := by decide
    have uv13 : (-4 : Int) ≤ v13.toInt ∧ v13.toInt ≤ 236 := rv13
    refine c_si (As := [.ref (Z.ad 35 0), .int v13]) (rest := []) x hml L9 (d_kcrcOf_35 l X g9 0 v13 hX al5 hW) (wk_T kt_X11_crcOf kl_X11_346 kn_X11 (wk_all kd_X11_crcOf)) rfl ⟨rfl, rfl⟩ hd_kcrcOf_35 ⟨Nat.le_of_ble_eq_true rfl, Nat.le_of_ble_eq_true rfl⟩ rfl hl.1 rfl (lv_room (Nat.le_of_ble_eq_true rfl)) dX11_crc_49 (fun v16 g15 H15 k15 hp15 L15 => ?_)
    obtain ⟨hW, hi15, hp15⟩ := hp15
    replace hW := wfP_i hW ⟨hi15, hp15⟩
    have rv16 : rg (-2147483648) (2147483647) v16 := hp15.2.1
    have uv16 : (-2147483648 : Int) ≤ v16.toInt ∧ v16.toInt ≤ 2147483647 := rv16
    exact hQ _ _ v16 _ _ _ dX11_crc_52 L15 ⟨hW, (mFi.sub (mFi.sub (mFi.cpy (L := 240) mFi.rf ec7 0 rfl (Int.le_trans (by decide) kc_0.1) (Int.le_trans (Int.add_le_add kc_0.2 q3.2) (by decide)) (Int.le_trans (by decide) q3.1) (by decide)) hi9 (mSub_eq 0 rfl mSub_nil)) hi15 mSub_nil), (mFr.tr (mFr.tr (mFr.tr mFr.rf (cCpy_fr ec7) rfl) hp9.1 rfl) hp15.1 rfl), rg_w rv16 rfl, trivial⟩
  · skip
    replace hW := wfP_i (wfP_r hW) (i_lt (rg_nle c5_2) rfl (rg_i kc_1))
    have ic5_2 := Int32.lt_iff_toInt_lt.mp (rg_nle c5_2)
    have q17 : rg (0) (0) v1 := (rg_lt (rg_nle c5_2) rv1 kc_1).1
    have uq17 : (0 : Int) ≤ v1.toInt ∧ v1.toInt ≤ 0 := q17
    refine lv_iconst (v := 0) hx hb dX11_crc_8 (by decide) ?_
    exact hQ _ _ (0 : Int32) _ _ _ dX11_crc_9 L ⟨hW, mFi.rf, mFr.rf, rg_w kc_0 rfl, trivial⟩
theorem d_kcrc (l : Launch) {G : cG} {Z : cZ} (X : Int) (g : mSt) (i0 : Nat) (hX : 0 ≤ X ∧ X ≤ 2000000000) (hal0 : Z.al 11 i0) {Φ : Int32 → mSt → Prop} (hW : wfP (wp_kcrc Z i0 g Φ)) : Met l yX11_crc (wk (Cond.code yX11_crc cX11_crc 2 (some .int))) rm_kcrc (va_Pc [.ref (Z.ad 11 i0)] (cPre G Z X g)) (cQi G Z X (fun r g1 => wfP (Φ r g1) ∧ mFi (im_kcrc Z i0) g g1 ∧ (mFr [1120] g g1 ∧ rg (-2147483648) (2147483647) r ∧ True))) 0 0 (cAd Z) := by
  refine Met.ofW (cc := cX11_crc) (maxL := 2) (ret := (some .int)) (by decide) rfl ?_
  intro p e s m args below meth c s₁ B hml hv
  obtain ⟨rfl, hv⟩ := hv
  have hr := B.returns
  have hlocks := B.notSynchronized
  obtain ⟨x, L⟩ := c_start B rfl (fun w h => wk_in h) hv
  have hl := lv_entry ([.ref (Z.ad 11 i0)]) (n := 2) (Nat.le_of_ble_eq_true rfl)
  rw [lg_entry_eq]
  generalize (lg_sl ([.ref (Z.ad 11 i0)]) ++ List.replicate (2 - (lg_sl ([.ref (Z.ad 11 i0)])).length) Slot.unset).toArray = ls at hl ⊢
  exact v_kcrc x hml L hX i0 hal0 hW hl (fun pc' ls' r g1 H1 locs1 hdg L hp => c_iret x L hr hlocks (Int.le_refl _) hp hdg)

def im_kcount (Z : cZ) (i0 : Nat) (p1 : Int32) : List (Nat × Nat × Nat) := []
def po_kcount (Z : cZ) (i0 : Nat) (p1 : Int32) (g : mSt) (r : Int32) (g1 : mSt) : Prop := mFi (im_kcount Z i0 p1) g g1 ∧ mFr [] g g1 ∧ rg (-2147483648) (2147483647) r ∧ True
def wp_kcount (Z : cZ) (i0 : Nat) (p1 : Int32) (g : mSt) (Φ : Int32 → mSt → Prop) : Prop :=
  ((p1.toInt < 0) → Φ (-1 : Int32) g) ∧ ((3 < p1.toInt) → Φ (-1 : Int32) g) ∧ ((p1.toInt = 0) → ∀ (v3 : Int32), v3.toInt = (Z.n : Int) → rg (2) (4) v3 → Φ v3 g) ∧ ((p1.toInt = 1) → ∀ (v5 : Int32), v5 = g 362 i0 → rg (-2147483648) (2147483647) v5 → Φ v5 g) ∧ ((p1.toInt = 2) → ∀ (v7 : Int32), v7 = g 362 i0 → rg (-2147483648) (2147483647) v7 → ∀ (v8 : Int32), v8 = v7 * (4 : Int32) → rg (-2147483648) (2147483647) v8 → ∀ (v10 : Int32), v10.toInt = (((2 * Z.n) : Nat) : Int) → rg (4) (8) v10 → ∀ (v11 : Int32), v11 = v8 * v10 → rg (-2147483648) (2147483647) v11 → Φ v11 g) ∧ ((p1.toInt = 3) → ∀ (v13 : Int32), v13 = g 363 i0 → rg (-2147483648) (2147483647) v13 → Φ v13 g)
set_option maxHeartbeats 4000000 in
set_option maxRecDepth 100000 in
theorem v_kcount {p : Program} {l : Launch} {e : Env} {s : State} {m : MethodId} {args : Array Value} {below : List Frame} {meth : Method} {c : Code} {H : Heap} {locs : List Loc} {Q : State → Prop} {ls : Array Slot} {G : cG} {Z : cZ} {A : Nat → Prop} {g : mSt} {H0 : Heap} {X : Int} (x : cX p c cX11_count s args (wk (Cond.code yX11_count cX11_count 2 (some .int))) m G Z A RX11 H0) (hml : c.maxLocals = 2) (L : cL G Z A H0 X g H locs) (hX : 0 ≤ X ∧ X ≤ 2000000000) (i0 : Nat) (p1 : Int32) (hal0 : Z.al 11 i0) {Φ : Int32 → mSt → Prop} (hW : wfP (wp_kcount Z i0 p1 g Φ)) (hl : lv_has ls 2 [(0, .ref (Z.ad 11 i0)), (1, .int p1)]) (hQ : ∀ (pc' : Nat) (ls' : Array Slot) (r : Int32) (g1 : mSt) (H1 : Heap) (locs1 : List Loc), decode cX11_count pc' = .ok (.ireturn, 1) → cL G Z A H0 X g1 H1 locs1 → (wfP (Φ r g1) ∧ mFi (im_kcount Z i0 p1) g g1 ∧ (mFr [] g g1 ∧ rg (-2147483648) (2147483647) r ∧ True)) → W p l e rm_kcount s m args below meth c H1 locs1 0 0 Q (F0 m pc' ls' [.int r])) : W p l e rm_kcount s m args below meth c H locs 0 0 Q (F0 m 0 ls []) := by
  have hx := x.1
  have hb := x.2.1
  have hz := x.2.2.2.2.2.2.2.1
  have hzn := hz.1
  have up1 : (-2147483648 : Int) ≤ p1.toInt ∧ p1.toInt ≤ 2147483647 := (rg_any p1)
  refine lv_iload_n hx hb dX11_count_0 rfl (lv_at hl 1 rfl) ?_
  rcases (show p1.toInt < 0 ∨ 3 < p1.toInt ∨ p1.toInt = 0 ∨ p1.toInt = 1 ∨ p1.toInt = 2 ∨ p1.toInt = 3 by omega) with c1_1 | c1_1 | c1_1 | c1_1 | c1_1 | c1_1
  · skip
    replace hW := wfP_i (wfP_l hW) c1_1
    refine lv_tableOut (tgt := 60) hx hb dX11_count_1 (Or.inl c1_1) (by decide) ?_
    refine lv_iconst (v := (-1)) hx hb dX11_count_60 (by decide) ?_
    exact hQ _ _ (-1 : Int32) _ _ _ dX11_count_61 L ⟨hW, mFi.rf, mFr.rf, rg_w kc_m1 rfl, trivial⟩
  · skip
    replace hW := wfP_i (wfP_l (wfP_r hW)) c1_1
    refine lv_tableOut (tgt := 60) hx hb dX11_count_1 (Or.inr c1_1) (by decide) ?_
    refine lv_iconst (v := (-1)) hx hb dX11_count_60 (by decide) ?_
    exact hQ _ _ (-1 : Int32) _ _ _ dX11_count_61 L ⟨hW, mFi.rf, mFr.rf, rg_w kc_m1 rfl, trivial⟩
  · skip
    replace hW := wfP_i (wfP_l (wfP_r (wfP_r hW))) c1_1
    have q2 : rg (0) (0) p1 := ⟨by omega, by omega⟩
    refine lv_tableIn (off := 31) (tgt := 32) hx hb dX11_count_1 (by omega) (by omega) (by rw [c1_1]; rfl) (by decide) ?_
    refine lv_aload_n hx hb dX11_count_32 rfl (lv_at hl 0 rfl) ?_
    refine c_getc x L 11 i0 0 hal0 rfl (wk_in kf_X11_55) dX11_count_33 (fun v3 ev3 => ?_)
    have tv3 : v3.toInt = (Z.n : Int) := cCv_11 ev3 hzn
    have rv3 : rg (2) (4) v3 := ⟨by omega, by omega⟩
    replace hW := (wfP_i (wfP_i (wfP_a hW v3) tv3) rv3)
    exact hQ _ _ v3 _ _ _ dX11_count_36 L ⟨hW, mFi.rf, mFr.rf, rg_w rv3 rfl, trivial⟩
  · skip
    replace hW := wfP_i (wfP_l (wfP_r (wfP_r (wfP_r hW)))) c1_1
    have q4 : rg (1) (1) p1 := ⟨by omega, by omega⟩
    refine lv_tableIn (off := 36) (tgt := 37) hx hb dX11_count_1 (by omega) (by omega) (by rw [c1_1]; rfl) (by decide) ?_
    refine lv_aload_n hx hb dX11_count_37 rfl (lv_at hl 0 rfl) ?_
    refine c_geti x L 11 i0 10 362 hal0 rfl rfl (wk_in kf_X11_82) dX11_count_38 (fun v5 ev5 wv5 => ?_)
    have rv5 : rg (-2147483648) (2147483647) v5 := rg_any v5
    replace hW := (wfP_i (wfP_i (wfP_a hW v5) ev5) rv5)
    have uv5 : (-2147483648 : Int) ≤ v5.toInt ∧ v5.toInt ≤ 2147483647 := rv5
    have sv5 : v5.toInt = (g 362 i0).toInt := congrArg Int32.toInt (ev5.trans (congrFun ((show mFr [] g g from mFr.rf).at 362 rfl) _))
    exact hQ _ _ v5 _ _ _ dX11_count_41 L ⟨hW, mFi.rf, mFr.rf, rg_w rv5 rfl, trivial⟩
  · skip
    replace hW := wfP_i (wfP_l (wfP_r (wfP_r (wfP_r (wfP_r hW))))) c1_1
    have q6 : rg (2) (2) p1 := ⟨by omega, by omega⟩
    refine lv_tableIn (off := 41) (tgt := 42) hx hb dX11_count_1 (by omega) (by omega) (by rw [c1_1]; rfl) (by decide) ?_
    refine lv_aload_n hx hb dX11_count_42 rfl (lv_at hl 0 rfl) ?_
    refine c_geti x L 11 i0 10 362 hal0 rfl rfl (wk_in kf_X11_82) dX11_count_43 (fun v7 ev7 wv7 => ?_)
    have rv7 : rg (-2147483648) (2147483647) v7 := rg_any v7
    replace hW := (wfP_i (wfP_i (wfP_a hW v7) ev7) rv7)
    have uv7 : (-2147483648 : Int) ≤ v7.toInt ∧ v7.toInt ≤ 2147483647 := rv7
    have sv7 : v7.toInt = (g 362 i0).toInt := congrArg Int32.toInt (ev7.trans (congrFun ((show mFr [] g g from mFr.rf).at 362 rfl) _))
    refine lv_iconst (v := 4) hx hb dX11_count_46 (by decide) ?_
    refine lv_imul hx hb dX11_count_47 ?_
    refine lv_topi (fun v8 ev8 => ?_)
    have rv8 : rg (-2147483648) (2147483647) v8 := rg_any v8
    replace hW := (wfP_i (wfP_i (wfP_a hW v8) ev8) rv8)
    have uv8 : (-2147483648 : Int) ≤ v8.toInt ∧ v8.toInt ≤ 2147483647 := rv8
    refine lv_aload_n hx hb dX11_count_48 rfl (lv_at hl 0 rfl) ?_
    have al9 : Z.al 50 0 := hz.2 50 0 (show 0 < 1 from (by omega))
    refine c_getr (a := Z.ad 50 0) x L 11 i0 1 hal0 rfl rfl (wk_in kf_X11_59) dX11_count_49 ?_
    refine c_lenr x L 50 0 al9 rfl (show (2 * Z.n) ≤ 2147483647 from (by omega)) dX11_count_52 (fun v10 ev10 => ?_)
    have tv10 : v10.toInt = (((2 * Z.n) : Nat) : Int) := ev10
    have rv10 : rg (4) (8) v10 := ⟨by omega, by omega⟩
    replace hW := (wfP_i (wfP_i (wfP_a hW v10) tv10) rv10)
    refine lv_imul hx hb dX11_count_53 ?_
    refine lv_topi (fun v11 ev11 => ?_)
    have rv11 : rg (-2147483648) (2147483647) v11 := rg_any v11
    replace hW := (wfP_i (wfP_i (wfP_a hW v11) ev11) rv11)
    have uv11 : (-2147483648 : Int) ≤ v11.toInt ∧ v11.toInt ≤ 2147483647 := rv11
    exact hQ _ _ v11 _ _ _ dX11_count_54 L ⟨hW, mFi.rf, mFr.rf, rg_w rv11 rfl, trivial⟩
  · skip
    replace hW := wfP_i (wfP_r (wfP_r (wfP_r (wfP_r (wfP_r hW))))) c1_1
    have q12 : rg (3) (3) p1 := ⟨by omega, by omega⟩
    refine lv_tableIn (off := 54) (tgt := 55) hx hb dX11_count_1 (by omega) (by omega) (by rw [c1_1]; rfl) (by decide) ?_
    refine lv_aload_n hx hb dX11_count_55 rfl (lv_at hl 0 rfl) ?_
    refine c_geti x L 11 i0 11 363 hal0 rfl rfl (wk_in kf_X11_105) dX11_count_56 (fun v13 ev13 wv13 => ?_)
    have rv13 : rg (-2147483648) (2147483647) v13 := rg_any v13
    replace hW := (wfP_i (wfP_i (wfP_a hW v13) ev13) rv13)
    have uv13 : (-2147483648 : Int) ≤ v13.toInt ∧ v13.toInt ≤ 2147483647 := rv13
    have sv13 : v13.toInt = (g 363 i0).toInt := congrArg Int32.toInt (ev13.trans (congrFun ((show mFr [] g g from mFr.rf).at 363 rfl) _))
    exact hQ _ _ v13 _ _ _ dX11_count_59 L ⟨hW, mFi.rf, mFr.rf, rg_w rv13 rfl, trivial⟩
theorem d_kcount (l : Launch) {G : cG} {Z : cZ} (X : Int) (g : mSt) (i0 : Nat) (p1 : Int32) (hX : 0 ≤ X ∧ X ≤ 2000000000) (hal0 : Z.al 11 i0) {Φ : Int32 → mSt → Prop} (hW : wfP (wp_kcount Z i0 p1 g Φ)) : Met l yX11_count (wk (Cond.code yX11_count cX11_count 2 (some .int))) rm_kcount (va_Pc [.ref (Z.ad 11 i0), .int p1] (cPre G Z X g)) (cQi G Z X (fun r g1 => wfP (Φ r g1) ∧ mFi (im_kcount Z i0 p1) g g1 ∧ (mFr [] g g1 ∧ rg (-2147483648) (2147483647) r ∧ True))) 0 0 (cAd Z) := by
  refine Met.ofW (cc := cX11_count) (maxL := 2) (ret := (some .int)) (by decide) rfl ?_
  intro p e s m args below meth c s₁ B hml hv
  obtain ⟨rfl, hv⟩ := hv
  have hr := B.returns
  have hlocks := B.notSynchronized
  obtain ⟨x, L⟩ := c_start B rfl (fun w h => wk_in h) hv
  have hl := lv_entry ([.ref (Z.ad 11 i0), .int p1]) (n := 2) (Nat.le_of_ble_eq_true rfl)
  rw [lg_entry_eq]
  generalize (lg_sl ([.ref (Z.ad 11 i0), .int p1]) ++ List.replicate (2 - (lg_sl ([.ref (Z.ad 11 i0), .int p1])).length) Slot.unset).toArray = ls at hl ⊢
  exact v_kcount x hml L hX i0 p1 hal0 hW hl (fun pc' ls' r g1 H1 locs1 hdg L hp => c_iret x L hr hlocks (Int.le_refl _) hp hdg)
