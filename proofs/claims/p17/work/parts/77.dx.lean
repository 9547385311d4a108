def im_kqadd_38 (Z : cZ) (i0 : Nat) (p1 : Int32) (q2 : Nat) (p3 : Int32) : List (Nat × Nat × Nat) := [(67, i0, 1), (544, i0, 8192), (576, i0, 8192)]
def po_kqadd_38 (Z : cZ) (i0 : Nat) (p1 : Int32) (q2 : Nat) (p3 : Int32) (g : mSt) (r : Int32) (g1 : mSt) : Prop := mFi (im_kqadd_38 Z i0 p1 q2 p3) g g1 ∧ mFr [67, 544, 576] g g1 ∧ rg (0) (1) r ∧ True
def wp_kqadd_38 (Z : cZ) (i0 : Nat) (p1 : Int32) (q2 : Nat) (p3 : Int32) (g : mSt) (Φ : Int32 → mSt → Prop) : Prop :=
  ∀ (v1 : Int32), v1 = g 67 i0 → rg (0) (40) v1 → ((40 ≤ v1.toInt) → Φ (0 : Int32) g) ∧ ((v1.toInt < 40) → ((p3.toInt < 0) → True) ∧ ((0 ≤ p3.toInt) → ∀ (v6 : Int32), v6 = p3 + (48 : Int32) → rg (48) (10048) v6 → v6.toInt = p3.toInt + 48 → ((v6.toInt ≤ 240) → ∀ (v11 : Int32), v11 = g 66 i0 → rg (0) (39) v11 → ∀ (v13 : Int32), v13 = v11 + v1 → rg (0) (78) v13 → v13.toInt = v11.toInt + v1.toInt → ∀ (v14 : Int32), v14 = v13 - v13 / (40 : Int32) * (40 : Int32) → rg (0) (39) v14 → v14.toInt = v13.toInt % 40 → ∀ (g17 : mSt), g17 = up2 g 576 (8192 * i0 + v14.toNatClampNeg) p1 → ∀ (v19 : Int32), v19 = v14 * (48 : Int32) → rg (0) (1872) v19 → v19.toInt = v14.toInt * 48 → ∀ (g21 : mSt), g21 = cCpy g17 1216 (8192 * q2 + p3.toNatClampNeg) 544 (8192 * i0 + v19.toNatClampNeg) (48 : Int32).toNatClampNeg → ∀ (v23 : Int32), v23 = v1 + (1 : Int32) → rg (1) (40) v23 → v23.toInt = v1.toInt + 1 → ∀ (g25 : mSt), g25 = up2 g21 67 i0 v23 → Φ (1 : Int32) g25) ∧ ((240 < v6.toInt) → Φ (0 : Int32) g)))
set_option maxHeartbeats 4000000 in
set_option maxRecDepth 100000 in
theorem v_kqadd_38 {p : Program} {l : Launch} {e : Env} {s : State} {m : MethodId} {args : Array Value} {below : List Frame} {meth : Method} {c : Code} {H : Heap} {locs : List Loc} {Q : State → Prop} {ls : Array Slot} {G : cG} {Z : cZ} {A : Nat → Prop} {g : mSt} {H0 : Heap} {X : Int} (x : cX p c cX2_add s args (wk (Cond.code yX2_add cX2_add 5 (some .boolean))) m G Z A RX2 H0) (hml : c.maxLocals = 5) (L : cL G Z A H0 X g H locs) (hX : 0 ≤ X ∧ X ≤ 2000000000) (i0 : Nat) (p1 : Int32) (q2 : Nat) (p3 : Int32) (hi0 : i0 < 4 * Z.n) (hq2 : Z.al 38 q2) (rp3 : rg (0) (10000) p3) {Φ : Int32 → mSt → Prop} (hW : wfP (wp_kqadd_38 Z i0 p1 q2 p3 g Φ)) (hl : lv_has ls 5 [(0, .ref (Z.ad 2 i0)), (1, .int p1), (2, .ref (Z.ad 38 q2)), (3, .int p3)]) (hQ : ∀ (pc' : Nat) (ls' : Array Slot) (r : Int32) (g1 : mSt) (H1 : Heap) (locs1 : List Loc), decode cX2_add pc' = .ok (.ireturn, 1) → cL G Z A H0 X g1 H1 locs1 → (wfP (Φ r g1) ∧ mFi (im_kqadd_38 Z i0 p1 q2 p3) g g1 ∧ (mFr [67, 544, 576] g g1 ∧ rg (0) (1) r ∧ True)) → W p l e rm_kqadd_38 s m args below meth c H1 locs1 0 0 Q (F0 m pc' ls' [.int r])) : W p l e rm_kqadd_38 s m args below meth c H locs 0 0 Q (F0 m 0 ls []) := by
  have hx := x.1
  have hb := x.2.1
  have hz := x.2.2.2.2.2.2.2.1
  have hzn := hz.1
  have hal0 : Z.al 2 i0 := hz.2 2 i0 (show i0 < 4 * Z.n from hi0)
  have up1 : (-2147483648 : Int) ≤ p1.toInt ∧ p1.toInt ≤ 2147483647 := (rg_any p1)
  have up3 : (0 : Int) ≤ p3.toInt ∧ p3.toInt ≤ 10000 := rp3
  refine lv_aload_n hx hb dX2_add_0 rfl (lv_at hl 0 rfl) ?_
  refine c_geti x L 2 i0 3 67 hal0 rfl rfl (wk_in kf_X2_18) dX2_add_1 (fun v1 ev1 wv1 => ?_)
  have rv1 : rg (0) (40) v1 := clj_67 wv1
  replace hW := (wfP_i (wfP_i (wfP_a hW v1) ev1) rv1)
  have uv1 : (0 : Int) ≤ v1.toInt ∧ v1.toInt ≤ 40 := rv1
  have sv1 := congrArg Int32.toInt ev1
  refine lv_bipush (v := 40) hx hb dX2_add_4 (by decide) ?_
  refine lv_icmp_ge (tgt := 22) hx hb dX2_add_6 (by decide) (fun c6_2 => ?_) (fun c6_2 => ?_)
  · skip
    replace hW := wfP_i (wfP_l hW) (i_le c6_2 (rg_i kc_40) rfl)
    have ic6_2 := Int32.le_iff_toInt_le.mp c6_2
    have q3 : rg (40) (40) v1 := (rg_le c6_2 kc_40 rv1).2
    have uq3 : (40 : Int) ≤ v1.toInt ∧ v1.toInt ≤ 40 := q3
    refine lv_iconst (v := 0) hx hb dX2_add_22 (by decide) ?_
    exact hQ _ _ (0 : Int32) _ _ _ dX2_add_23 L ⟨hW, mFi.rf, mFr.rf, rg_w kc_0 rfl, trivial⟩
  · skip
    replace hW := wfP_i (wfP_r hW) (i_lt (rg_nle c6_2) rfl (rg_i kc_40))
    have ic6_2 := Int32.lt_iff_toInt_lt.mp (rg_nle c6_2)
    have q4 : rg (0) (39) v1 := (rg_lt (rg_nle c6_2) rv1 kc_40).1
    have uq4 : (0 : Int) ≤ v1.toInt ∧ v1.toInt ≤ 39 := q4
    refine lv_iload_n hx hb dX2_add_9 rfl (lv_at hl 3 rfl) ?_
    refine lv_if_lt (tgt := 22) hx hb dX2_add_10 (by decide) (fun c10_5 => ?_) (fun c10_5 => ?_)
    · skip
      replace hW := wfP_i (wfP_l hW) (i_lt c10_5 rfl (rg_i kc_0))
      have ic10_5 := Int32.lt_iff_toInt_lt.mp c10_5
      exact absurd ((rg_lt c10_5 rp3 kc_0).1 : rg (0) (-1) p3) (fun q => rg_dead q rfl)
    · skip
      replace hW := wfP_i (wfP_r hW) (i_le (rg_nlt c10_5) (rg_i kc_0) rfl)
      have ic10_5 := Int32.le_iff_toInt_le.mp (rg_nlt c10_5)
      refine lv_iload_n hx hb dX2_add_13 rfl (lv_at hl 3 rfl) ?_
      refine lv_bipush (v := 48) hx hb dX2_add_14 (by decide) ?_
      refine lv_iadd hx hb dX2_add_16 ?_
      refine lv_topi (fun v6 ev6 => ?_)
      have rv6 : rg (48) (10048) v6 := (rg_add ev6 rp3 kc_48 rfl).1
      replace hW := (wfP_i (wfP_i (wfP_i (wfP_a hW v6) ev6) rv6) (w_iadd ((rg_add ev6 rp3 kc_48 rfl).2) rfl (rg_i kc_48)))
      have dv6 := (rg_add ev6 rp3 kc_48 rfl).2
      have tv6 := (rg_add ev6 rp3 kc_48 rfl).2
      have y7 : (48 : Int32).toInt = 48 := by decide
      have uv6 : (48 : Int) ≤ v6.toInt ∧ v6.toInt ≤ 10048 := rv6
      refine lv_aload_n hx hb dX2_add_17 rfl (lv_at hl 2 rfl) ?_
      refine c_len (n := 240) x L 38 q2 hq2 rfl (by decide) dX2_add_18 ?_
      refine lv_icmp_le (tgt := 24) hx hb dX2_add_19 (by decide) (fun c19_8 => ?_) (fun c19_8 => ?_)
      · skip
        replace hW := wfP_i (wfP_l hW) (i_le c19_8 rfl (rg_i kc_240))
        have ic19_8 := Int32.le_iff_toInt_le.mp c19_8
        have q9 : rg (48) (240) v6 := (rg_le c19_8 rv6 kc_240).1
        have uq9 : (48 : Int) ≤ v6.toInt ∧ v6.toInt ≤ 240 := q9
        have q10 : rg (0) (192) p3 := rg_back dv6 kc_48 q9
        refine lv_aload_n hx hb dX2_add_24 rfl (lv_at hl 0 rfl) ?_
        refine c_geti x L 2 i0 2 66 hal0 rfl rfl (wk_in kf_X2_22) dX2_add_25 (fun v11 ev11 wv11 => ?_)
        have rv11 : rg (0) (39) v11 := clj_66 wv11
        replace hW := (wfP_i (wfP_i (wfP_a hW v11) ev11) rv11)
        have uv11 : (0 : Int) ≤ v11.toInt ∧ v11.toInt ≤ 39 := rv11
        have sv11 : v11.toInt = (g 66 i0).toInt := congrArg Int32.toInt (ev11.trans (congrFun ((show mFr [67, 544, 576] g g from mFr.rf).at 66 rfl) _))
        refine lv_aload_n hx hb dX2_add_28 rfl (lv_at hl 0 rfl) ?_
        refine c_geti x L 2 i0 3 67 hal0 rfl rfl (wk_in kf_X2_18) dX2_add_29 (fun v12 ev12 wv12 => ?_)
        refine m_top ((ev1).trans ev12.symm) ?_
        refine lv_iadd hx hb dX2_add_32 ?_
        refine lv_topi (fun v13 ev13 => ?_)
        have rv13 : rg (0) (78) v13 := (rg_add ev13 rv11 q4 rfl).1
        replace hW := (wfP_i (wfP_i (wfP_i (wfP_a hW v13) ev13) rv13) (w_iadd ((rg_add ev13 rv11 q4 rfl).2) rfl rfl))
        have tv13 := (rg_add ev13 rv11 q4 rfl).2
        have uv13 : (0 : Int) ≤ v13.toInt ∧ v13.toInt ≤ 78 := rv13
        refine lv_bipush (v := 40) hx hb dX2_add_33 (by decide) ?_
        refine lv_irem hx hb dX2_add_35 (by decide) ?_
        refine lv_topi (fun v14 ev14 => ?_)
        have rv14 : rg (0) (39) v14 := (rg_rem ev14 rv13 kc_40 rfl).1
        replace hW := (wfP_i (wfP_i (wfP_i (wfP_a hW v14) ev14) rv14) ((rg_rem ev14 rv13 kc_40 rfl).2))
        have tv14 := (rg_rem ev14 rv13 kc_40 rfl).2
        have y15 : (40 : Int32).toInt = 40 := by decide
        have uv14 : (0 : Int) ≤ v14.toInt ∧ v14.toInt ≤ 39 := rv14
        refine lv_istore (lv' := [(4, .int v14), (0, .ref (Z.ad 2 i0)), (1, .int p1), (2, .ref (Z.ad 38 q2)), (3, .int p3)]) hx hb dX2_add_36 hl (by decide) rfl (fun ls hl => ?_)
        refine lv_aload_n hx hb dX2_add_38 rfl (lv_at hl 1 rfl) ?_
        have al16 : Z.al 18 i0 := hz.2 18 i0 (show i0 < 4 * Z.n from (by omega))
        refine c_getr (a := Z.ad 18 i0) x L 2 i0 1 hal0 rfl rfl (wk_in kf_X2_15) dX2_add_39 ?_
        refine lv_iload hx hb dX2_add_42 (lv_at hl 0 rfl) ?_
        refine lv_iload_n hx hb dX2_add_44 rfl (lv_at hl 2 rfl) ?_
        refine c_st x L 18 i0 576 al16 rfl rfl rv14 rfl (rg_any p1) dX2_add_45 (fun g17 H17 k17 eg17 L17 => ?_)
        replace hW := (wfP_i (wfP_a hW g17) eg17)
        refine lv_aload_n hx hb dX2_add_46 rfl (lv_at hl 3 rfl) ?_
        refine lv_iload_n hx hb dX2_add_47 rfl (lv_at hl 4 rfl) ?_
        refine lv_aload_n hx hb dX2_add_48 rfl (lv_at hl 1 rfl) ?_
        have al18 : Z.al 17 i0 := hz.2 17 i0 (show i0 < 4 * Z.n from (by omega))
        refine c_getr (a := Z.ad 17 i0) x L17 2 i0 0 hal0 rfl rfl (wk_in kf_X2_9) dX2_add_49 ?_
        refine lv_iload hx hb dX2_add_52 (lv_at hl 0 rfl) ?_
        refine lv_bipush (v := 48) hx hb dX2_add_54 (by decide) ?_
        refine lv_imul hx hb dX2_add_56 ?_
        refine lv_topi (fun v19 ev19 => ?_)
        have rv19 : rg (0) (1872) v19 := (rg_mul ev19 rv14 kc_48 rfl).1
        replace hW := (wfP_i (wfP_i (wfP_i (wfP_a hW v19) ev19) rv19) ((rg_mul ev19 rv14 kc_48 rfl).2))
        have tv19 := (rg_mul ev19 rv14 kc_48 rfl).2
        have y20 : (48 : Int32).toInt = 48 := by decide
        have uv19 : (0 : Int) ≤ v19.toInt ∧ v19.toInt ≤ 1872 := rv19
        refine lv_bipush (v := 48) hx hb dX2_add_57 (by decide) ?_
        refine c_copy (rest := []) x (hml.trans hl.1.symm) L17 38 q2 17 i0 1216 544 hq2 al18 rfl rfl rfl rfl ⟨rfl, rfl⟩ kl_X2_25 kw_cp (Int.le_trans (by decide) q10.1) (Int.le_trans (by decide) rv19.1) (Int.le_trans (by decide) kc_48.1) (Int.le_trans (Int.add_le_add q10.2 kc_48.2) (by decide)) (Int.le_trans (Int.add_le_add rv19.2 kc_48.2) (by decide)) (Nat.le_of_ble_eq_true rfl) (Nat.le_of_ble_eq_true rfl) dX2_add_59 (fun g21 H21 k21 ec21 L21 => ?_)
        replace hW := (wfP_i (wfP_a hW g21) ec21)
        refine lv_aload_n hx hb dX2_add_62 rfl (lv_at hl 1 rfl) ?_
        refine lv_dup hx hb dX2_add_63 rfl ?_
        refine c_geti x L21 2 i0 3 67 hal0 rfl rfl (wk_in kf_X2_18) dX2_add_64 (fun v22 ev22 wv22 => ?_)
        refine m_top (((mm_fr (mm_up ev1 eg17 rfl) (cCpy_fr ec21) rfl)).trans ev22.symm) ?_
        refine lv_iconst (v := 1) hx hb dX2_add_67 (by decide) ?_
        refine lv_iadd hx hb dX2_add_68 ?_
        refine lv_topi (fun v23 ev23 => ?_)
        have rv23 : rg (1) (40) v23 := (rg_add ev23 q4 kc_1 rfl).1
        replace hW := (wfP_i (wfP_i (wfP_i (wfP_a hW v23) ev23) rv23) (w_iadd ((rg_add ev23 q4 kc_1 rfl).2) rfl (rg_i kc_1)))
        have dv23 := (rg_add ev23 q4 kc_1 rfl).2
        have tv23 := (rg_add ev23 q4 kc_1 rfl).2
        have y24 : (1 : Int32).toInt = 1 := by decide
        have uv23 : (1 : Int) ≤ v23.toInt ∧ v23.toInt ≤ 40 := rv23
        refine c_puti x L21 2 i0 3 67 hal0 rfl rfl ⟨rfl, by decide +kernel⟩ (wk_in kf_X2_18) dX2_add_69 (crj_67 (rg_w rv23 rfl)) (fun g25 H25 k25 eg25 L25 => ?_)
        replace hW := (wfP_i (wfP_a hW g25) eg25)
        refine lv_iconst (v := 1) hx hb dX2_add_72 (by decide) ?_
        exact hQ _ _ (1 : Int32) _ _ _ dX2_add_73 L25 ⟨hW, (mFi.up (mFi.cpy (L := 1920) (mFi.up mFi.rf eg17 (mIn_at 2 rfl (Or.inr (mIx rv14 rfl)))) ec21 1 rfl (Int.le_trans (by decide) rv19.1) (Int.le_trans (Int.add_le_add rv19.2 kc_48.2) (by decide)) (Int.le_trans (by decide) kc_48.1) (by decide)) eg25 (mIn_at 0 rfl (Or.inr (Nat.div_one _)))), (mFr.upE (mFr.tr (mFr.upE mFr.rf eg17 rfl) (cCpy_fr ec21) rfl) eg25 rfl), rg_w kc_1 rfl, trivial⟩
      · skip
        replace hW := wfP_i (wfP_r hW) (i_lt (rg_nle c19_8) (rg_i kc_240) rfl)
        have ic19_8 := Int32.lt_iff_toInt_lt.mp (rg_nle c19_8)
        have q26 : rg (241) (10048) v6 := (rg_lt (rg_nle c19_8) kc_240 rv6).2
        have uq26 : (241 : Int) ≤ v6.toInt ∧ v6.toInt ≤ 10048 := q26
        have q27 : rg (193) (10000) p3 := rg_back dv6 kc_48 q26
        refine lv_iconst (v := 0) hx hb dX2_add_22 (by decide) ?_
        exact hQ _ _ (0 : Int32) _ _ _ dX2_add_23 L ⟨hW, mFi.rf, mFr.rf, rg_w kc_0 rfl, trivial⟩
theorem d_kqadd_38 (l : Launch) {G : cG} {Z : cZ} (X : Int) (g : mSt) (i0 : Nat) (p1 : Int32) (q2 : Nat) (p3 : Int32) (hX : 0 ≤ X ∧ X ≤ 2000000000) (hi0 : i0 < 4 * Z.n) (hq2 : Z.al 38 q2) (rp3 : rg (0) (10000) p3) {Φ : Int32 → mSt → Prop} (hW : wfP (wp_kqadd_38 Z i0 p1 q2 p3 g Φ)) : Met l yX2_add (wk (Cond.code yX2_add cX2_add 5 (some .boolean))) rm_kqadd_38 (va_Pc [.ref (Z.ad 2 i0), .int p1, .ref (Z.ad 38 q2), .int p3] (cPre G Z X g)) (cQi G Z X (fun r g1 => wfP (Φ r g1) ∧ mFi (im_kqadd_38 Z i0 p1 q2 p3) g g1 ∧ (mFr [67, 544, 576] g g1 ∧ rg (0) (1) r ∧ True))) 0 0 (cAd Z) := by
  refine Met.ofW (cc := cX2_add) (maxL := 5) (ret := (some .boolean)) (by decide) rfl ?_
  intro p e s m args below meth c s₁ B hml hv
  obtain ⟨rfl, hv⟩ := hv
  have hr := B.returns
  have hlocks := B.notSynchronized
  obtain ⟨x, L⟩ := c_start B rfl (fun w h => wk_in h) hv
  have hl := lv_entry ([.ref (Z.ad 2 i0), .int p1, .ref (Z.ad 38 q2), .int p3]) (n := 5) (Nat.le_of_ble_eq_true rfl)
  rw [lg_entry_eq]
  generalize (lg_sl ([.ref (Z.ad 2 i0), .int p1, .ref (Z.ad 38 q2), .int p3]) ++ List.replicate (5 - (lg_sl ([.ref (Z.ad 2 i0), .int p1, .ref (Z.ad 38 q2), .int p3])).length) Slot.unset).toArray = ls at hl ⊢
  exact v_kqadd_38 x hml L hX i0 p1 q2 p3 hi0 hq2 rp3 hW hl (fun pc' ls' r g1 H1 locs1 hdg L hp => c_zret x L hr hlocks (nar01 (rg_w hp.2.2.2.1 rfl)) (Int.le_refl _) hp hdg)

def im_kaddData_38 (Z : cZ) (i0 : Nat) (p1 : Int32) (q2 : Nat) (p3 : Int32) : List (Nat × Nat × Nat) := [(67, (2 * i0 + 1), 1), (108, i0, 1), (544, (2 * i0 + 1), 8192), (576, (2 * i0 + 1), 8192)]
def po_kaddData_38 (Z : cZ) (i0 : Nat) (p1 : Int32) (q2 : Nat) (p3 : Int32) (g : mSt) (r : Int32) (g1 : mSt) : Prop := mFi (im_kaddData_38 Z i0 p1 q2 p3) g g1 ∧ mFr [67, 108, 544, 576] g g1 ∧ True
def wp_kaddData_38 (Z : cZ) (i0 : Nat) (p1 : Int32) (q2 : Nat) (p3 : Int32) (g : mSt) (Φ : Int32 → mSt → Prop) : Prop :=
  wp_kqadd_38 Z (2 * i0 + 1) p1 q2 p3 g (fun (v3 : Int32) (g2 : mSt) => po_kqadd_38 Z (2 * i0 + 1) p1 q2 p3 g v3 g2 → ∃ P4 : mSt → Prop, (∀ (g4 : mSt), mFr [108] g2 g4 → mFi (im_kaddData_38 Z i0 p1 q2 p3) g2 g4 → P4 g4 → Φ 0 g4) ∧ ((v3.toInt ≠ 0) → P4 g2) ∧ ((v3.toInt = 0) → ∀ (v8 : Int32), v8 = g2 108 i0 → rg (-2147483648) (2147483647) v8 → ∀ (v9 : Int32), v9 = v8 + (1 : Int32) → rg (-2147483648) (2147483647) v9 → ∀ (g10 : mSt), g10 = up2 g2 108 i0 v9 → P4 g10))
set_option maxHeartbeats 4000000 in
set_option maxRecDepth 100000 in
theorem v_kaddData_38 {p : Program} {l : Launch} {e : Env} {s : State} {m : MethodId} {args : Array Value} {below : List Frame} {meth : Method} {c : Code} {H : Heap} {locs : List Loc} {Q : State → Prop} {ls : Array Slot} {G : cG} {Z : cZ} {A : Nat → Prop} {g : mSt} {H0 : Heap} {X : Int} (x : cX p c cX3_addData s args (wk (Cond.code yX3_addData cX3_addData 4 none)) m G Z A RX3 H0) (hml : c.maxLocals = 4) (L : cL G Z A H0 X g H locs) (hX : 0 ≤ X ∧ X ≤ 2000000000) (i0 : Nat) (p1 : Int32) (q2 : Nat) (p3 : Int32) (hi0 : i0 < 2 * Z.n) (hq2 : Z.al 38 q2) (rp3 : rg (0) (10000) p3) {Φ : Int32 → mSt → Prop} (hW : wfP (wp_kaddData_38 Z i0 p1 q2 p3 g Φ)) (hl : lv_has ls 4 [(0, .ref (Z.ad 3 i0)), (1, .int p1), (2, .ref (Z.ad 38 q2)), (3, .int p3)]) (hQ : ∀ (pc' : Nat) (ls' : Array Slot) (g1 : mSt) (H1 : Heap) (locs1 : List Loc), decode cX3_addData pc' = .ok (.return_, 1) → cL G Z A H0 X g1 H1 locs1 → (wfP (Φ 0 g1) ∧ mFi (im_kaddData_38 Z i0 p1 q2 p3) g g1 ∧ (mFr [67, 108, 544, 576] g g1 ∧ True)) → W p l e rm_kaddData_38 s m args below meth c H1 locs1 0 0 Q (F0 m pc' ls' [])) : W p l e rm_kaddData_38 s m args below meth c H locs 0 0 Q (F0 m 0 ls []) := by
  have hx := x.1
  have hb := x.2.1
  have hz := x.2.2.2.2.2.2.2.1
  have hzn := hz.1
  have hal0 : Z.al 3 i0 := hz.2 3 i0 (show i0 < 2 * Z.n from hi0)
  refine lv_aload_n hx hb dX3_addData_0 rfl (lv_at hl 0 rfl) ?_
  have al1 : Z.al 2 (2 * i0 + 1) := hz.2 2 (2 * i0 + 1) (show (2 * i0 + 1) < 4 * Z.n from (by omega))
  refine c_getr (a := Z.ad 2 (2 * i0 + 1)) x L 3 i0 1 hal0 rfl rfl (wk_in kf_X3_18) dX3_addData_1 ?_
  refine lv_iload_n hx hb dX3_addData_4 rfl (lv_at hl 1 rfl) ?_
  refine lv_aload_n hx hb dX3_addData_5 rfl (lv_at hl 2 rfl) ?_
  refine lv_iload_n hx hb dX3_addData_6 rfl (lv_at hl 3 rfl) ?_
  refine c_ci (As := [.int p1, .ref (Z.ad 38 q2), .int p3]) (rest := []) x hml L 2 (2 * i0 + 1) al1 rfl (d_kqadd_38 l X g (2 * i0 + 1) p1 q2 p3 hX (show (2 * i0 + 1) < 4 * Z.n from (by omega)) hq2 (rg_w rp3 rfl) hW) (wk_V kd_X2_add kl_X3_95 ki_X2_add ks_X2_X2_add kn_X2) rfl ⟨rfl, rfl⟩ hd_kqadd_38 ⟨Nat.le_of_ble_eq_true rfl, Nat.le_of_ble_eq_true rfl⟩ rfl hl.1 rfl (lv_room (Nat.le_of_ble_eq_true rfl)) dX3_addData_7 (fun v3 g2 H2 k2 hp2 L2 => ?_)
  obtain ⟨hW, hi2, hp2⟩ := hp2
  replace hW := wfP_i hW ⟨hi2, hp2⟩
  have rv3 : rg (0) (1) v3 := hp2.2.1
  obtain ⟨P4, hP4, hW⟩ := wfP_ex hW
  have j23_4 : ∀ (g4 : mSt) (H4 : Heap) (k4 : List Loc) (ls : Array Slot), mFr [108] g2 g4 → cL G Z A H0 X g4 H4 k4 → mFi (im_kaddData_38 Z i0 p1 q2 p3) g2 g4 → wfP (P4 g4) → lv_has ls 4 [(0, .ref (Z.ad 3 i0))] → W p l e rm_kaddData_38 s m args below meth c H4 k4 0 0 Q (F0 m 23 ls []) := by
    intro  g4 H4 k4 ls hF4 L4  hI4 hW hl
    replace hW := wfP_i (wfP_i (wfP_i (wfP_a hP4 g4) hF4) hI4) hW
    exact hQ _ _ _ _ _ dX3_addData_23 L4 ⟨hW, (mFi.tr (mFi.sub mFi.rf hi2 (mSub_eq 0 rfl (mSub_eq 2 rfl (mSub_eq 3 rfl mSub_nil)))) hI4), (mFr.tr (mFr.tr mFr.rf hp2.1 rfl) hF4 rfl), trivial⟩
  refine lv_if_ne (tgt := 23) hx hb dX3_addData_10 (by decide) (fun c10_5 => ?_) (fun c10_5 => ?_)
  · skip
    replace hW := wfP_i (wfP_l hW) (i_ne c10_5 rfl (rg_i kc_0))
    have q6 : rg (1) (1) v3 := rg_neL c10_5 rv3 kc_0
    exact j23_4  g2 _ _ ls mFr.rf L2 mFi.rf hW (lv_sub hl [0] rfl)
  · skip
    replace hW := wfP_i (wfP_r hW) (i_eq c10_5 rfl (rg_i kc_0))
    have q7 : rg (0) (0) v3 := (rg_eq c10_5 rv3 kc_0).1
    refine lv_aload_n hx hb dX3_addData_13 rfl (lv_at hl 0 rfl) ?_
    refine lv_dup hx hb dX3_addData_14 rfl ?_
    refine c_geti x L2 3 i0 12 108 hal0 rfl rfl (wk_in kf_X3_99) dX3_addData_15 (fun v8 ev8 wv8 => ?_)
    have rv8 : rg (-2147483648) (2147483647) v8 := rg_any v8
    replace hW := (wfP_i (wfP_i (wfP_a hW v8) ev8) rv8)
    refine lv_iconst (v := 1) hx hb dX3_addData_18 (by decide) ?_
    refine lv_iadd hx hb dX3_addData_19 ?_
    refine lv_topi (fun v9 ev9 => ?_)
    have rv9 : rg (-2147483648) (2147483647) v9 := rg_any v9
    replace hW := (wfP_i (wfP_i (wfP_a hW v9) ev9) rv9)
    refine c_puti x L2 3 i0 12 108 hal0 rfl rfl ⟨rfl, by decide +kernel⟩ (wk_in kf_X3_99) dX3_addData_20 (rg_any v9) (fun g10 H10 k10 eg10 L10 => ?_)
    replace hW := (wfP_i (wfP_a hW g10) eg10)
    exact j23_4  g10 _ _ ls (mFr.upE mFr.rf eg10 rfl) L10 (mFi.up mFi.rf eg10 (mIn_at 1 rfl (Or.inr (Nat.div_one _)))) hW (lv_sub hl [0] rfl)
theorem d_kaddData_38 (l : Launch) {G : cG} {Z : cZ} (X : Int) (g : mSt) (i0 : Nat) (p1 : Int32) (q2 : Nat) (p3 : Int32) (hX : 0 ≤ X ∧ X ≤ 2000000000) (hi0 : i0 < 2 * Z.n) (hq2 : Z.al 38 q2) (rp3 : rg (0) (10000) p3) {Φ : Int32 → mSt → Prop} (hW : wfP (wp_kaddData_38 Z i0 p1 q2 p3 g Φ)) : Met l yX3_addData (wk (Cond.code yX3_addData cX3_addData 4 none)) rm_kaddData_38 (va_Pc [.ref (Z.ad 3 i0), .int p1, .ref (Z.ad 38 q2), .int p3] (cPre G Z X g)) (cQv G Z X (fun g1 => wfP (Φ 0 g1) ∧ mFi (im_kaddData_38 Z i0 p1 q2 p3) g g1 ∧ (mFr [67, 108, 544, 576] g g1 ∧ True))) 0 0 (cAd Z) := by
  refine Met.ofW (cc := cX3_addData) (maxL := 4) (ret := none) (by decide) rfl ?_
  intro p e s m args below meth c s₁ B hml hv
  obtain ⟨rfl, hv⟩ := hv
  have hr := B.returns
  have hlocks := B.notSynchronized
  obtain ⟨x, L⟩ := c_start B rfl (fun w h => wk_in h) hv
  have hl := lv_entry ([.ref (Z.ad 3 i0), .int p1, .ref (Z.ad 38 q2), .int p3]) (n := 4) (Nat.le_of_ble_eq_true rfl)
  rw [lg_entry_eq]
  generalize (lg_sl ([.ref (Z.ad 3 i0), .int p1, .ref (Z.ad 38 q2), .int p3]) ++ List.replicate (4 - (lg_sl ([.ref (Z.ad 3 i0), .int p1, .ref (Z.ad 38 q2), .int p3])).length) Slot.unset).toArray = ls at hl ⊢
  exact v_kaddData_38 x hml L hX i0 p1 q2 p3 hi0 hq2 rp3 hW hl (fun pc' ls' g1 H1 locs1 hdg L hp => c_vret x L hr hlocks (Int.le_refl _) hp hdg)

def im_kcsendCells (Z : cZ) (i0 : Nat) (q1 : Nat) : List (Nat × Nat × Nat) := [(47, i0, 1), (48, i0, 1), (49, i0, 1), (67, (2 * q1 + 1), 1), (108, q1, 1), (544, (2 * q1 + 1), 8192), (576, (2 * q1 + 1), 8192)]
def po_kcsendCells (Z : cZ) (i0 : Nat) (q1 : Nat) (g : mSt) (r : Int32) (g1 : mSt) : Prop := mFi (im_kcsendCells Z i0 q1) g g1 ∧ mFr [47, 48, 49, 67, 108, 544, 576] g g1 ∧ cJ Z g1 ∧ True
def wp_kcsendCells (Z : cZ) (i0 : Nat) (q1 : Nat) (g : mSt) (Φ : Int32 → mSt → Prop) : Prop :=
  ∃ P2 : Int32 → mSt → Prop, (∀ (a2_2_1 : Int32) (g2 : mSt), mFr [47, 48, 49, 67, 108, 544, 576] g g2 → mFi (im_kcsendCells Z i0 q1) g g2 → cJ Z g2 → rg (0) (2147483647) a2_2_1 → P2 a2_2_1 g2 → ∀ (v3 : Int32), v3 = g2 38 i0 → rg (-2147483648) (2147483647) v3 → ∃ P4 : mSt → Prop, (∀ (g4 : mSt), mFr [] g2 g4 → mFi (im_kcsendCells Z i0 q1) g2 g4 → cJ Z g4 → P4 g4 → Φ 0 g4) ∧ ((v3.toInt ≤ a2_2_1.toInt) → P4 g2) ∧ ((a2_2_1.toInt < v3.toInt) → ∀ (v8 : Int32), v8 = g2 48 i0 → rg (0) (4) v8 → ((v8.toInt ≤ 0) → P4 g2) ∧ ((0 < v8.toInt) → ∀ (v12 : Int32), v12 = g2 44 i0 → ((v12.toInt < 0) → P4 g2) ∧ ((0 ≤ v12.toInt) → ∀ (v18 : Int32), v18 = g2 45 i0 → ((v18.toInt < 0) → P4 g2) ∧ ((0 ≤ v18.toInt) → ∀ (v24 : Int32), v24 = g2 49 i0 → rg (0) (4) v24 → ∀ (v25 : Int32), v25 = v24 + (1 : Int32) → rg (1) (5) v25 → v25.toInt = v24.toInt + 1 → ∀ (v30 : Int32), v30 = g2 47 i0 → rg (0) (3) v30 → ∀ (v31 : Int32), v31 = g2 1184 (8192 * i0 + v30.toNatClampNeg) → rg (0) (5) v31 → ((v25.toInt < v31.toInt) → ∀ (v35 : Int32), v35 = g2 37 i0 → rg (-2147483648) (2147483647) v35 → ∀ (v36 : Int32), v36 = v35 <<< ((4 : Int32) &&& 31) → rg (-2147483648) (2147483647) v36 → ∀ (v38 : Int32), v38 = v36 ||| (0 : Int32) → rg (-2147483648) (2147483647) v38 → ∀ (v45 : Int32), v45 = v24 * (48 : Int32) → rg (0) (192) v45 → v45.toInt = v24.toInt * 48 → wp_kaddData_38 Z q1 v38 (4 * i0 + v30.toInt.toNat) v45 g2 (fun (_ : Int32) (g47 : mSt) => po_kaddData_38 Z q1 v38 (4 * i0 + v30.toInt.toNat) v45 g2 0 g47 → ∀ (g49 : mSt), g49 = up2 g47 49 i0 v25 → ∀ (v52 : Int32), v52 = a2_2_1 + (1 : Int32) → rg (1) (2147483647) v52 → v52.toInt = a2_2_1.toInt + 1 → P2 v52 g49)) ∧ ((v31.toInt ≤ v25.toInt) → ∀ (v53 : Int32), v53 = g2 37 i0 → rg (-2147483648) (2147483647) v53 → ∀ (v54 : Int32), v54 = v53 <<< ((4 : Int32) &&& 31) → rg (-2147483648) (2147483647) v54 → ∀ (v56 : Int32), v56 = v54 ||| (2 : Int32) → rg (-2147483648) (2147483647) v56 → ∀ (v63 : Int32), v63 = v24 * (48 : Int32) → rg (0) (192) v63 → v63.toInt = v24.toInt * 48 → wp_kaddData_38 Z q1 v56 (4 * i0 + v30.toInt.toNat) v63 g2 (fun (_ : Int32) (g65 : mSt) => po_kaddData_38 Z q1 v56 (4 * i0 + v30.toInt.toNat) v63 g2 0 g65 → ∀ (g67 : mSt), g67 = up2 g65 49 i0 v25 → ∀ (g69 : mSt), g69 = up2 g67 49 i0 (0 : Int32) → ∀ (v72 : Int32), v72 = v30 + (1 : Int32) → rg (1) (4) v72 → v72.toInt = v30.toInt + 1 → ∀ (v74 : Int32), v74 = v72 - v72 / (4 : Int32) * (4 : Int32) → rg (0) (3) v74 → v74.toInt = v72.toInt % 4 → ∀ (g76 : mSt), g76 = up2 g69 47 i0 v74 → ∀ (v78 : Int32), v78 = v8 - (1 : Int32) → rg (0) (3) v78 → v78.toInt = v8.toInt - 1 → ∀ (g80 : mSt), g80 = up2 g76 48 i0 v78 → ∀ (v81 : Int32), v81 = a2_2_1 + (1 : Int32) → rg (1) (2147483647) v81 → v81.toInt = a2_2_1.toInt + 1 → P2 v81 g80))))))) ∧ P2 (0 : Int32) g
set_option maxHeartbeats 4000000 in
set_option maxRecDepth 100000 in
theorem v_kcsendCells {p : Program} {l : Launch} {e : Env} {s : State} {m : MethodId} {args : Array Value} {below : List Frame} {meth : Method} {c : Code} {H : Heap} {locs : List Loc} {Q : State → Prop} {ls : Array Slot} {G : cG} {Z : cZ} {A : Nat → Prop} {g : mSt} {H0 : Heap} {X : Int} (x : cX p c cX1_sendCells s args (wk (Cond.code yX1_sendCells cX1_sendCells 4 none)) m G Z A RX1 H0) (hml : c.maxLocals = 4) (L : cL G Z A H0 X g H locs) (hX : 0 ≤ X ∧ X ≤ 2000000000) (i0 : Nat) (q1 : Nat) (hJ : cJ Z g) (hal0 : Z.al 1 i0) (hq1 : Z.al 3 q1) (hq : q1 < 2 * Z.n) {Φ : Int32 → mSt → Prop} (hW : wfP (wp_kcsendCells Z i0 q1 g Φ)) (hl : lv_has ls 4 [(0, .ref (Z.ad 1 i0)), (1, .ref (Z.ad 3 q1))]) (hQ : ∀ (pc' : Nat) (ls' : Array Slot) (g1 : mSt) (H1 : Heap) (locs1 : List Loc), decode cX1_sendCells pc' = .ok (.return_, 1) → cL G Z A H0 X g1 H1 locs1 → (wfP (Φ 0 g1) ∧ mFi (im_kcsendCells Z i0 q1) g g1 ∧ (mFr [47, 48, 49, 67, 108, 544, 576] g g1 ∧ cJ Z g1 ∧ True)) → W p l e rm_kcsendCells s m args below meth c H1 locs1 0 0 Q (F0 m pc' ls' [])) : W p l e rm_kcsendCells s m args below meth c H locs 0 0 Q (F0 m 0 ls []) := by
  have hx := x.1
  have hb := x.2.1
  have hz := x.2.2.2.2.2.2.2.1
  have hzn := hz.1
  refine lv_iconst (v := 0) hx hb dX1_sendCells_0 (by decide) ?_
  refine lv_istore_n (lv' := [(2, .int (0 : Int32)), (0, .ref (Z.ad 1 i0)), (1, .ref (Z.ad 3 q1))]) hx hb dX1_sendCells_1 rfl hl (by decide) rfl (fun ls hl => ?_)
  obtain ⟨P2, hP2, hW⟩ := wfP_ex hW
  have j2_2 : ∀ (n : Nat) (a2_2_1 : Int32) (g2 : mSt) (H2 : Heap) (k2 : List Loc) (ls : Array Slot), mFr [47, 48, 49, 67, 108, 544, 576] g g2 → cL G Z A H0 X g2 H2 k2 → cJ Z g2 → rg (0) (2147483647) a2_2_1 → mFi (im_kcsendCells Z i0 q1) g g2 → wfP (P2 a2_2_1 g2) → lv_has ls 4 [(0, .ref (Z.ad 1 i0)), (1, .ref (Z.ad 3 q1)), (2, .int a2_2_1)] → ((2147483647 : Int) - a2_2_1.toInt).toNat = n → W p l e rm_kcsendCells s m args below meth c H2 k2 0 0 Q (F0 m 2 ls []) := by
    intro n
    induction n using Nat.strongRecOn with
    | _ n ih2 =>
      intro a2_2_1 g2 H2 k2 ls hF2 L2 hJ2 ra2_2_1 hI2 hW hl hn2
      subst hn2
      replace hW := wfP_i (wfP_i (wfP_i (wfP_i (wfP_i (wfP_a (wfP_a hP2 a2_2_1) g2) hF2) hI2) hJ2) ra2_2_1) hW
      have ua2_2_1 : (0 : Int) ≤ a2_2_1.toInt ∧ a2_2_1.toInt ≤ 2147483647 := ra2_2_1
      refine lv_iload_n hx hb dX1_sendCells_2 rfl (lv_at hl 2 rfl) ?_
      refine lv_aload_n hx hb dX1_sendCells_3 rfl (lv_at hl 0 rfl) ?_
      refine c_geti x L2 1 i0 6 38 hal0 rfl rfl (wk_in kf_X1_85) dX1_sendCells_4 (fun v3 ev3 wv3 => ?_)
      have rv3 : rg (-2147483648) (2147483647) v3 := rg_any v3
      replace hW := (wfP_i (wfP_i (wfP_a hW v3) ev3) rv3)
      have uv3 : (-2147483648 : Int) ≤ v3.toInt ∧ v3.toInt ≤ 2147483647 := rv3
      have sv3 : v3.toInt = (g 38 i0).toInt := congrArg Int32.toInt (ev3.trans (congrFun ((show mFr [47, 48, 49, 67, 108, 544, 576] g g2 from (mFr.tr mFr.rf hF2 rfl)).at 38 rfl) _))
      obtain ⟨P4, hP4, hW⟩ := wfP_ex hW
      have j138_4 : ∀ (g4 : mSt) (H4 : Heap) (k4 : List Loc) (ls : Array Slot), mFr [] g2 g4 → cL G Z A H0 X g4 H4 k4 → cJ Z g4 → mFi (im_kcsendCells Z i0 q1) g2 g4 → wfP (P4 g4) → lv_has ls 4 [(0, .ref (Z.ad 1 i0))] → W p l e rm_kcsendCells s m args below meth c H4 k4 0 0 Q (F0 m 138 ls []) := by
        intro  g4 H4 k4 ls hF4 L4 hJ4  hI4 hW hl
        replace hW := wfP_i (wfP_i (wfP_i (wfP_i (wfP_a hP4 g4) hF4) hI4) hJ4) hW
        exact hQ _ _ _ _ _ dX1_sendCells_138 L4 ⟨hW, (mFi.tr (mFi.tr mFi.rf hI2) hI4), (mFr.tr (mFr.tr mFr.rf hF2 rfl) hF4 rfl), hJ4, trivial⟩
      refine lv_icmp_ge (tgt := 138) hx hb dX1_sendCells_7 (by decide) (fun c7_5 => ?_) (fun c7_5 => ?_)
      · skip
        replace hW := wfP_i (wfP_l hW) (i_le c7_5 rfl rfl)
        have ic7_5 := Int32.le_iff_toInt_le.mp c7_5
        exact j138_4  g2 _ _ ls mFr.rf L2 hJ2 mFi.rf hW (lv_sub hl [0] rfl)
      · skip
        replace hW := wfP_i (wfP_r hW) (i_lt (rg_nle c7_5) rfl rfl)
        have ic7_5 := Int32.lt_iff_toInt_lt.mp (rg_nle c7_5)
        have q6 : rg (0) (2147483646) a2_2_1 := (rg_lt (rg_nle c7_5) ra2_2_1 rv3).1
        have uq6 : (0 : Int) ≤ a2_2_1.toInt ∧ a2_2_1.toInt ≤ 2147483646 := q6
        have q7 : rg (1) (2147483647) v3 := (rg_lt (rg_nle c7_5) ra2_2_1 rv3).2
        have uq7 : (1 : Int) ≤ v3.toInt ∧ v3.toInt ≤ 2147483647 := q7
        refine lv_aload_n hx hb dX1_sendCells_10 rfl (lv_at hl 0 rfl) ?_
        refine c_geti x L2 1 i0 16 48 hal0 rfl rfl (wk_in kf_X1_50) dX1_sendCells_11 (fun v8 ev8 wv8 => ?_)
        have rv8 : rg (0) (4) v8 := clj_48 wv8
        replace hW := (wfP_i (wfP_i (wfP_a hW v8) ev8) rv8)
        have uv8 : (0 : Int) ≤ v8.toInt ∧ v8.toInt ≤ 4 := rv8
        refine lv_if_le (tgt := 138) hx hb dX1_sendCells_14 (by decide) (fun c14_9 => ?_) (fun c14_9 => ?_)
        · skip
          replace hW := wfP_i (wfP_l hW) (i_le c14_9 rfl (rg_i kc_0))
          have ic14_9 := Int32.le_iff_toInt_le.mp c14_9
          have q10 : rg (0) (0) v8 := (rg_le c14_9 rv8 kc_0).1
          have uq10 : (0 : Int) ≤ v8.toInt ∧ v8.toInt ≤ 0 := q10
          exact j138_4  g2 _ _ ls mFr.rf L2 hJ2 mFi.rf hW (lv_sub hl [0] rfl)
        · skip
          replace hW := wfP_i (wfP_r hW) (i_lt (rg_nle c14_9) (rg_i kc_0) rfl)
          have ic14_9 := Int32.lt_iff_toInt_lt.mp (rg_nle c14_9)
          have q11 : rg (1) (4) v8 := (rg_lt (rg_nle c14_9) kc_0 rv8).2
          have uq11 : (1 : Int) ≤ v8.toInt ∧ v8.toInt ≤ 4 := q11
          refine lv_aload_n hx hb dX1_sendCells_17 rfl (lv_at hl 0 rfl) ?_
          obtain ⟨v12, ev12⟩ : ∃ y : Int32, y = g2 44 i0 := ⟨_, rfl⟩
          replace hW := (wfP_i (wfP_a hW v12) ev12)
          rcases (show v12.toInt < 0 ∨ 0 ≤ v12.toInt from (by omega)) with hc13 | hc13
          · skip
            replace hW := wfP_i (wfP_l hW) hc13
            have q14 : rg (-2147483648) (-1) v12 := ⟨(rg_any v12).1, by omega⟩
            refine c_geto (w := .null) x L2 1 i0 12 44 hal0 rfl rfl (by show va_rf (cOpt Z 53 (g2 44 i0)) = _; rw [← ev12, cOpt_none (by omega)]; rfl) (wk_in kf_X1_38) dX1_sendCells_18 ?_
            refine lv_ifnullN (tgt := 138) hx hb dX1_sendCells_21 (by decide) ?_
            exact j138_4  g2 _ _ ls mFr.rf L2 hJ2 mFi.rf hW (lv_sub hl [0] rfl)
          · skip
            replace hW := wfP_i (wfP_r hW) hc13
            have q15 : rg (0) (2147483647) v12 := ⟨by omega, (rg_any v12).2⟩
            have hd16 := (hJ2.2.1 i0 hal0).2.2.1
            rw [← ev12] at hd16
            have al17 := hd16.resolve_left (by omega)
            have nal17 : v12.toInt.toNat = i0 := by have := al17.1; omega
            refine c_geto (w := .ref (Z.ad 53 i0)) x L2 1 i0 12 44 hal0 rfl rfl (by show va_rf (cOpt Z 53 (g2 44 i0)) = _; rw [← ev12, cOpt_some (by omega), nal17]; rfl) (wk_in kf_X1_38) dX1_sendCells_18 ?_
            refine lv_ifnull hx hb dX1_sendCells_21 ?_
            refine lv_aload_n hx hb dX1_sendCells_24 rfl (lv_at hl 0 rfl) ?_
            obtain ⟨v18, ev18⟩ : ∃ y : Int32, y = g2 45 i0 := ⟨_, rfl⟩
            replace hW := (wfP_i (wfP_a hW v18) ev18)
            rcases (show v18.toInt < 0 ∨ 0 ≤ v18.toInt from (by omega)) with hc19 | hc19
            · skip
              replace hW := wfP_i (wfP_l hW) hc19
              have q20 : rg (-2147483648) (-1) v18 := ⟨(rg_any v18).1, by omega⟩
              refine c_geto (w := .null) x L2 1 i0 13 45 hal0 rfl rfl (by show va_rf (cOpt Z 37 (g2 45 i0)) = _; rw [← ev18, cOpt_none (by omega)]; rfl) (wk_in kf_X1_42) dX1_sendCells_25 ?_
              refine lv_ifnullN (tgt := 138) hx hb dX1_sendCells_28 (by decide) ?_
              exact j138_4  g2 _ _ ls mFr.rf L2 hJ2 mFi.rf hW (lv_sub hl [0] rfl)
            · skip
              replace hW := wfP_i (wfP_r hW) hc19
              have q21 : rg (0) (2147483647) v18 := ⟨by omega, (rg_any v18).2⟩
              have hd22 := (hJ2.2.1 i0 hal0).2.2.2.1
              rw [← ev18] at hd22
              have al23 := hd22.resolve_left (by omega)
              have nal23 : v18.toInt.toNat = i0 := by have := al23.1; omega
              refine c_geto (w := .ref (Z.ad 37 i0)) x L2 1 i0 13 45 hal0 rfl rfl (by show va_rf (cOpt Z 37 (g2 45 i0)) = _; rw [← ev18, cOpt_some (by omega), nal23]; rfl) (wk_in kf_X1_42) dX1_sendCells_25 ?_
              refine lv_ifnull hx hb dX1_sendCells_28 ?_
              refine lv_aload_n hx hb dX1_sendCells_31 rfl (lv_at hl 0 rfl) ?_
              refine c_geti x L2 1 i0 17 49 hal0 rfl rfl (wk_in kf_X1_72) dX1_sendCells_32 (fun v24 ev24 wv24 => ?_)
              have rv24 : rg (0) (5) v24 := clj_49 wv24
              have rrv24 : rg (0) (4) v24 := ⟨(clj_49 wv24).1, by rw [ev24]; exact hJ2.1.2.2 i0⟩
              replace hW := (wfP_i (wfP_i (wfP_a hW v24) ev24) rrv24)
              have uv24 : (0 : Int) ≤ v24.toInt ∧ v24.toInt ≤ 4 := rrv24
              refine lv_iconst (v := 1) hx hb dX1_sendCells_35 (by decide) ?_
              refine lv_iadd hx hb dX1_sendCells_36 ?_
              refine lv_topi (fun v25 ev25 => ?_)
              have rv25 : rg (1) (5) v25 := (rg_add ev25 rrv24 kc_1 rfl).1
              replace hW := (wfP_i (wfP_i (wfP_i (wfP_a hW v25) ev25) rv25) (w_iadd ((rg_add ev25 rrv24 kc_1 rfl).2) rfl (rg_i kc_1)))
              have tv25 := (rg_add ev25 rrv24 kc_1 rfl).2
              have y26 : (1 : Int32).toInt = 1 := by decide
              have uv25 : (1 : Int) ≤ v25.toInt ∧ v25.toInt ≤ 5 := rv25
              refine lv_aload_n hx hb dX1_sendCells_37 rfl (lv_at hl 0 rfl) ?_
              have u27 : 0 ≤ v18.toInt := q21.1
              have hd28 := (hJ2.2.1 i0 hal0).2.2.2.1
              rw [← ev18] at hd28
              have al29 := hd28.resolve_left (by omega)
              have nal29 : v18.toInt.toNat = i0 := by have := al29.1; omega
              refine c_geto (w := .ref (Z.ad 37 i0)) x L2 1 i0 13 45 hal0 rfl rfl (by show va_rf (cOpt Z 37 (g2 45 i0)) = _; rw [← ev18, cOpt_some (by omega), nal29]; rfl) (wk_in kf_X1_42) dX1_sendCells_38 ?_
              refine lv_aload_n hx hb dX1_sendCells_41 rfl (lv_at hl 0 rfl) ?_
              refine c_geti x L2 1 i0 15 47 hal0 rfl rfl (wk_in kf_X1_69) dX1_sendCells_42 (fun v30 ev30 wv30 => ?_)
              have rv30 : rg (0) (3) v30 := clj_47 wv30
              replace hW := (wfP_i (wfP_i (wfP_a hW v30) ev30) rv30)
              have uv30 : (0 : Int) ≤ v30.toInt ∧ v30.toInt ≤ 3 := rv30
              refine c_ld x L2 37 i0 1184 al29.2 rfl rfl rv30 rfl dX1_sendCells_45 (fun v31 ev31 wv31 => ?_)
              have rv31 : rg (0) (5) v31 := clj_1184 wv31
              replace hW := (wfP_i (wfP_i (wfP_a hW v31) ev31) rv31)
              have uv31 : (0 : Int) ≤ v31.toInt ∧ v31.toInt ≤ 5 := rv31
              have sv31 : v31.toInt = (g 1184 (8192 * i0 + v30.toNatClampNeg)).toInt := congrArg Int32.toInt (ev31.trans (congrFun ((show mFr [47, 48, 49, 67, 108, 544, 576] g g2 from (mFr.tr mFr.rf hF2 rfl)).at 1184 rfl) _))
              refine lv_icmp_lt (tgt := 53) hx hb dX1_sendCells_46 (by decide) (fun c46_32 => ?_) (fun c46_32 => ?_)
              · skip
                replace hW := wfP_i (wfP_l hW) (i_lt c46_32 rfl rfl)
                have ic46_32 := Int32.lt_iff_toInt_lt.mp c46_32
                have q33 : rg (1) (4) v25 := (rg_lt c46_32 rv25 rv31).1
                have uq33 : (1 : Int) ≤ v25.toInt ∧ v25.toInt ≤ 4 := q33
                have q34 : rg (2) (5) v31 := (rg_lt c46_32 rv25 rv31).2
                have uq34 : (2 : Int) ≤ v31.toInt ∧ v31.toInt ≤ 5 := q34
                refine lv_iconst (v := 0) hx hb dX1_sendCells_53 (by decide) ?_
                refine lv_istore_n (lv' := [(3, .int (0 : Int32)), (0, .ref (Z.ad 1 i0)), (1, .ref (Z.ad 3 q1)), (2, .int a2_2_1)]) hx hb dX1_sendCells_54 rfl hl (by decide) rfl (fun ls hl => ?_)
                refine lv_aload_n hx hb dX1_sendCells_55 rfl (lv_at hl 2 rfl) ?_
                refine lv_aload_n hx hb dX1_sendCells_56 rfl (lv_at hl 1 rfl) ?_
                refine c_geti x L2 1 i0 5 37 hal0 rfl rfl (wk_in kf_X1_9) dX1_sendCells_57 (fun v35 ev35 wv35 => ?_)
                have rv35 : rg (-2147483648) (2147483647) v35 := rg_any v35
                replace hW := (wfP_i (wfP_i (wfP_a hW v35) ev35) rv35)
                have uv35 : (-2147483648 : Int) ≤ v35.toInt ∧ v35.toInt ≤ 2147483647 := rv35
                have sv35 : v35.toInt = (g 37 i0).toInt := congrArg Int32.toInt (ev35.trans (congrFun ((show mFr [47, 48, 49, 67, 108, 544, 576] g g2 from (mFr.tr mFr.rf hF2 rfl)).at 37 rfl) _))
                refine lv_iconst (v := 4) hx hb dX1_sendCells_60 (by decide) ?_
                refine lv_ishl hx hb dX1_sendCells_61 ?_
                refine lv_topi (fun v36 ev36 => ?_)
                have rv36 : rg (-2147483648) (2147483647) v36 := rg_any v36
                replace hW := (wfP_i (wfP_i (wfP_a hW v36) ev36) rv36)
                have uv36 : (-2147483648 : Int) ≤ v36.toInt ∧ v36.toInt ≤ 2147483647 := rv36
                refine lv_iload_n hx hb dX1_sendCells_62 rfl (lv_at hl 0 rfl) ?_
                refine lv_if_eq (tgt := 70) hx hb dX1_sendCells_63 (by decide) (fun c63_37 => ?_) (fun c63_37 => ?_)
                · skip
                  refine lv_iconst (v := 0) hx hb dX1_sendCells_70 (by decide) ?_
                  refine lv_ior hx hb dX1_sendCells_71 ?_
                  refine lv_topi (fun v38 ev38 => ?_)
                  have rv38 : rg (-2147483648) (2147483647) v38 := rg_any v38
                  replace hW := (wfP_i (wfP_i (wfP_a hW v38) ev38) rv38)
                  have uv38 : (-2147483648 : Int) ≤ v38.toInt ∧ v38.toInt ≤ 2147483647 := rv38
                  refine lv_aload_n hx hb dX1_sendCells_72 rfl (lv_at hl 1 rfl) ?_
                  have u39 : 0 ≤ v12.toInt := q15.1
                  have hd40 := (hJ2.2.1 i0 hal0).2.2.1
                  rw [← ev12] at hd40
                  have al41 := hd40.resolve_left (by omega)
                  have nal41 : v12.toInt.toNat = i0 := by have := al41.1; omega
                  refine c_geto (w := .ref (Z.ad 53 i0)) x L2 1 i0 12 44 hal0 rfl rfl (by show va_rf (cOpt Z 53 (g2 44 i0)) = _; rw [← ev12, cOpt_some (by omega), nal41]; rfl) (wk_in kf_X1_38) dX1_sendCells_73 ?_
                  refine lv_aload_n hx hb dX1_sendCells_76 rfl (lv_at hl 1 rfl) ?_
                  refine c_geti x L2 1 i0 15 47 hal0 rfl rfl (wk_in kf_X1_69) dX1_sendCells_77 (fun v42 ev42 wv42 => ?_)
                  refine m_top ((ev30).trans ev42.symm) ?_
                  refine c_ldr53 x L2 i0 al41.2.1 (by omega) (by omega) dX1_sendCells_80 ?_
                  have al43 : Z.al 38 (4 * i0 + v30.toInt.toNat) := al41.2.2 v30.toInt.toNat (by omega)
                  refine lv_aload_n hx hb dX1_sendCells_81 rfl (lv_at hl 1 rfl) ?_
                  refine c_geti x L2 1 i0 17 49 hal0 rfl rfl (wk_in kf_X1_72) dX1_sendCells_82 (fun v44 ev44 wv44 => ?_)
                  refine m_top ((ev24).trans ev44.symm) ?_
                  refine lv_bipush (v := 48) hx hb dX1_sendCells_85 (by decide) ?_
                  refine lv_imul hx hb dX1_sendCells_87 ?_
                  refine lv_topi (fun v45 ev45 => ?_)
                  have rv45 : rg (0) (192) v45 := (rg_mul ev45 rrv24 kc_48 rfl).1
                  replace hW := (wfP_i (wfP_i (wfP_i (wfP_a hW v45) ev45) rv45) ((rg_mul ev45 rrv24 kc_48 rfl).2))
                  have tv45 := (rg_mul ev45 rrv24 kc_48 rfl).2
                  have y46 : (48 : Int32).toInt = 48 := by decide
                  have uv45 : (0 : Int) ≤ v45.toInt ∧ v45.toInt ≤ 192 := rv45
                  refine c_cv (As := [.int v38, .ref (Z.ad 38 (4 * i0 + v30.toInt.toNat)), .int v45]) (rest := []) x hml L2 3 q1 hq1 rfl (d_kaddData_38 l X g2 q1 v38 (4 * i0 + v30.toInt.toNat) v45 hX (show q1 < 2 * Z.n from (by omega)) al43 (rg_w rv45 rfl) hW) (wk_V kd_X3_addData kl_X1_88 ki_X3_addData ks_X3_X3_addData kn_X3) rfl ⟨rfl, rfl⟩ hd_kaddData_38 ⟨Nat.le_of_ble_eq_true rfl, Nat.le_of_ble_eq_true rfl⟩ rfl hl.1 rfl (lv_room (Nat.le_of_ble_eq_true rfl)) dX1_sendCells_88 (fun  g47 H47 k47 hp47 L47 => ?_)
                  obtain ⟨hW, hi47, hp47⟩ := hp47
                  replace hW := wfP_i hW ⟨hi47, hp47⟩
                  refine lv_aload_n hx hb dX1_sendCells_91 rfl (lv_at hl 1 rfl) ?_
                  refine lv_dup hx hb dX1_sendCells_92 rfl ?_
                  refine c_geti x L47 1 i0 17 49 hal0 rfl rfl (wk_in kf_X1_72) dX1_sendCells_93 (fun v48 ev48 wv48 => ?_)
                  refine m_top (((mm_fr ev24 hp47.1 rfl)).trans ev48.symm) ?_
                  refine lv_iconst (v := 1) hx hb dX1_sendCells_96 (by decide) ?_
                  refine lv_iadd hx hb dX1_sendCells_97 ?_
                  refine m_top ev25 ?_
                  refine c_puti x L47 1 i0 17 49 hal0 rfl rfl ⟨rfl, by decide +kernel⟩ (wk_in kf_X1_72) dX1_sendCells_98 (crj_49 (rg_w q33 rfl)) (fun g49 H49 k49 eg49 L49 => ?_)
                  replace hW := (wfP_i (wfP_a hW g49) eg49)
                  refine lv_iload_n hx hb dX1_sendCells_101 rfl (lv_at hl 0 rfl) ?_
                  refine lv_if_eq (tgt := 132) hx hb dX1_sendCells_102 (by decide) (fun c102_50 => ?_) (fun c102_50 => ?_)
                  · skip
                    have hJ51 := cJ_49 (cJ_fr hJ2 hp47.1 rfl) eg49 (by omega)
                    obtain ⟨v52, ev52, fv52⟩ := inc_ex a2_2_1 (1) (1 : Int32) (by decide)
                    have rv52 : rg (1) (2147483647) v52 := (rg_add ev52 q6 kc_1 rfl).1
                    have tv52 := (rg_add ev52 q6 kc_1 rfl).2
                    have yv52 : (1 : Int32).toInt = 1 := by decide
                    replace hW := (wfP_i (wfP_i (wfP_i (wfP_a hW v52) ev52) rv52) (w_iadd tv52 rfl (rg_i kc_1)))
                    refine lv_iinc (v := v52) (lv' := [(2, .int v52), (3, .int (0 : Int32)), (0, .ref (Z.ad 1 i0)), (1, .ref (Z.ad 3 q1))]) hx hb dX1_sendCells_132 hl (k := 3) rfl fv52 (by decide) rfl (fun ls hl => ?_)
                    refine lv_goto (tgt := 2) hx hb dX1_sendCells_135 (by decide) ?_
                    exact ih2 _ (ms_up tv52 kc_1 q6 rfl rfl) v52 g49 _ _ ls (mFr.upE (mFr.tr hF2 hp47.1 rfl) eg49 rfl) L49 hJ51 (rg_w rv52 rfl) (mFi.up (mFi.sub hI2 hi47 (mSub_eq 3 rfl (mSub_eq 4 rfl (mSub_eq 5 rfl (mSub_eq 6 rfl mSub_nil))))) eg49 (mIn_at 2 rfl (Or.inr (Nat.div_one _)))) hW (lv_sub hl [2, 3, 0] rfl) rfl
                  · skip
                    exact absurd c102_50 (by decide)
                · skip
                  exact absurd c63_37 (by decide)
              · skip
                replace hW := wfP_i (wfP_r hW) (i_le (rg_nlt c46_32) rfl rfl)
                have ic46_32 := Int32.le_iff_toInt_le.mp (rg_nlt c46_32)
                refine lv_iconst (v := 1) hx hb dX1_sendCells_49 (by decide) ?_
                refine lv_goto (tgt := 54) hx hb dX1_sendCells_50 (by decide) ?_
                refine lv_istore_n (lv' := [(3, .int (1 : Int32)), (0, .ref (Z.ad 1 i0)), (1, .ref (Z.ad 3 q1)), (2, .int a2_2_1)]) hx hb dX1_sendCells_54 rfl hl (by decide) rfl (fun ls hl => ?_)
                refine lv_aload_n hx hb dX1_sendCells_55 rfl (lv_at hl 2 rfl) ?_
                refine lv_aload_n hx hb dX1_sendCells_56 rfl (lv_at hl 1 rfl) ?_
                refine c_geti x L2 1 i0 5 37 hal0 rfl rfl (wk_in kf_X1_9) dX1_sendCells_57 (fun v53 ev53 wv53 => ?_)
                have rv53 : rg (-2147483648) (2147483647) v53 := rg_any v53
                replace hW := (wfP_i (wfP_i (wfP_a hW v53) ev53) rv53)
                have uv53 : (-2147483648 : Int) ≤ v53.toInt ∧ v53.toInt ≤ 2147483647 := rv53
                have sv53 : v53.toInt = (g 37 i0).toInt := congrArg Int32.toInt (ev53.trans (congrFun ((show mFr [47, 48, 49, 67, 108, 544, 576] g g2 from (mFr.tr mFr.rf hF2 rfl)).at 37 rfl) _))
                refine lv_iconst (v := 4) hx hb dX1_sendCells_60 (by decide) ?_
                refine lv_ishl hx hb dX1_sendCells_61 ?_
                refine lv_topi (fun v54 ev54 => ?_)
                have rv54 : rg (-2147483648) (2147483647) v54 := rg_any v54
                replace hW := (wfP_i (wfP_i (wfP_a hW v54) ev54) rv54)
                have uv54 : (-2147483648 : Int) ≤ v54.toInt ∧ v54.toInt ≤ 2147483647 := rv54
                refine lv_iload_n hx hb dX1_sendCells_62 rfl (lv_at hl 0 rfl) ?_
                refine lv_if_eq (tgt := 70) hx hb dX1_sendCells_63 (by decide) (fun c63_55 => ?_) (fun c63_55 => ?_)
                · skip
                  exact absurd c63_55 (by decide)
                · skip
                  refine lv_iconst (v := 2) hx hb dX1_sendCells_66 (by decide) ?_
                  refine lv_goto (tgt := 71) hx hb dX1_sendCells_67 (by decide) ?_
                  refine lv_ior hx hb dX1_sendCells_71 ?_
                  refine lv_topi (fun v56 ev56 => ?_)
                  have rv56 : rg (-2147483648) (2147483647) v56 := rg_any v56
                  replace hW := (wfP_i (wfP_i (wfP_a hW v56) ev56) rv56)
                  have uv56 : (-2147483648 : Int) ≤ v56.toInt ∧ v56.toInt ≤ 2147483647 := rv56
                  refine lv_aload_n hx hb dX1_sendCells_72 rfl (lv_at hl 1 rfl) ?_
                  have u57 : 0 ≤ v12.toInt := q15.1
                  have hd58 := (hJ2.2.1 i0 hal0).2.2.1
                  rw [← ev12] at hd58
                  have al59 := hd58.resolve_left (by omega)
                  have nal59 : v12.toInt.toNat = i0 := by have := al59.1; omega
                  refine c_geto (w := .ref (Z.ad 53 i0)) x L2 1 i0 12 44 hal0 rfl rfl (by show va_rf (cOpt Z 53 (g2 44 i0)) = _; rw [← ev12, cOpt_some (by omega), nal59]; rfl) (wk_in kf_X1_38) dX1_sendCells_73 ?_
                  refine lv_aload_n hx hb dX1_sendCells_76 rfl (lv_at hl 1 rfl) ?_
                  refine c_geti x L2 1 i0 15 47 hal0 rfl rfl (wk_in kf_X1_69) dX1_sendCells_77 (fun v60 ev60 wv60 => ?_)
                  refine m_top ((ev30).trans ev60.symm) ?_
                  refine c_ldr53 x L2 i0 al59.2.1 (by omega) (by omega) dX1_sendCells_80 ?_
                  have al61 : Z.al 38 (4 * i0 + v30.toInt.toNat) := al59.2.2 v30.toInt.toNat (by omega)
                  refine lv_aload_n hx hb dX1_sendCells_81 rfl (lv_at hl 1 rfl) ?_
                  refine c_geti x L2 1 i0 17 49 hal0 rfl rfl (wk_in kf_X1_72) dX1_sendCells_82 (fun v62 ev62 wv62 => ?_)
                  refine m_top ((ev24).trans ev62.symm) ?_
                  refine lv_bipush (v := 48) hx hb dX1_sendCells_85 (by decide) ?_
                  refine lv_imul hx hb dX1_sendCells_87 ?_
                  refine lv_topi (fun v63 ev63 => ?_)
                  have rv63 : rg (0) (192) v63 := (rg_mul ev63 rrv24 kc_48 rfl).1
                  replace hW := (wfP_i (wfP_i (wfP_i (wfP_a hW v63) ev63) rv63) ((rg_mul ev63 rrv24 kc_48 rfl).2))
                  have tv63 := (rg_mul ev63 rrv24 kc_48 rfl).2
                  have y64 : (48 : Int32).toInt = 48 := by decide
                  have uv63 : (0 : Int) ≤ v63.toInt ∧ v63.toInt ≤ 192 := rv63
                  refine c_cv (As := [.int v56, .ref (Z.ad 38 (4 * i0 + v30.toInt.toNat)), .int v63]) (rest := []) x hml L2 3 q1 hq1 rfl (d_kaddData_38 l X g2 q1 v56 (4 * i0 + v30.toInt.toNat) v63 hX (show q1 < 2 * Z.n from (by omega)) al61 (rg_w rv63 rfl) hW) (wk_V kd_X3_addData kl_X1_88 ki_X3_addData ks_X3_X3_addData kn_X3) rfl ⟨rfl, rfl⟩ hd_kaddData_38 ⟨Nat.le_of_ble_eq_true rfl, Nat.le_of_ble_eq_true rfl⟩ rfl hl.1 rfl (lv_room (Nat.le_of_ble_eq_true rfl)) dX1_sendCells_88 (fun  g65 H65 k65 hp65 L65 => ?_)
                  obtain ⟨hW, hi65, hp65⟩ := hp65
                  replace hW := wfP_i hW ⟨hi65, hp65⟩
                  refine lv_aload_n hx hb dX1_sendCells_91 rfl (lv_at hl 1 rfl) ?_
                  refine lv_dup hx hb dX1_sendCells_92 rfl ?_
                  refine c_geti x L65 1 i0 17 49 hal0 rfl rfl (wk_in kf_X1_72) dX1_sendCells_93 (fun v66 ev66 wv66 => ?_)
                  refine m_top (((mm_fr ev24 hp65.1 rfl)).trans ev66.symm) ?_
                  refine lv_iconst (v := 1) hx hb dX1_sendCells_96 (by decide) ?_
                  refine lv_iadd hx hb dX1_sendCells_97 ?_
                  refine m_top ev25 ?_
                  refine c_puti x L65 1 i0 17 49 hal0 rfl rfl ⟨rfl, by decide +kernel⟩ (wk_in kf_X1_72) dX1_sendCells_98 (crj_49 (rg_w rv25 rfl)) (fun g67 H67 k67 eg67 L67 => ?_)
                  replace hW := (wfP_i (wfP_a hW g67) eg67)
                  refine lv_iload_n hx hb dX1_sendCells_101 rfl (lv_at hl 0 rfl) ?_
                  refine lv_if_eq (tgt := 132) hx hb dX1_sendCells_102 (by decide) (fun c102_68 => ?_) (fun c102_68 => ?_)
                  · skip
                    exact absurd c102_68 (by decide)
                  · skip
                    refine lv_aload_n hx hb dX1_sendCells_105 rfl (lv_at hl 1 rfl) ?_
                    refine lv_iconst (v := 0) hx hb dX1_sendCells_106 (by decide) ?_
                    refine c_puti x L67 1 i0 17 49 hal0 rfl rfl ⟨rfl, by decide +kernel⟩ (wk_in kf_X1_72) dX1_sendCells_107 (crj_49 (rg_w kc_0 rfl)) (fun g69 H69 k69 eg69 L69 => ?_)
                    replace hW := (wfP_i (wfP_a hW g69) eg69)
                    have hJ70 := cJ_49 (cJ_fr hJ2 hp65.1 rfl) (up2_up2 eg67 eg69) (by decide)
                    refine lv_aload_n hx hb dX1_sendCells_110 rfl (lv_at hl 1 rfl) ?_
                    refine lv_aload_n hx hb dX1_sendCells_111 rfl (lv_at hl 1 rfl) ?_
                    refine c_geti x L69 1 i0 15 47 hal0 rfl rfl (wk_in kf_X1_69) dX1_sendCells_112 (fun v71 ev71 wv71 => ?_)
                    refine m_top (((mm_up (mm_up (mm_fr ev30 hp65.1 rfl) eg67 rfl) eg69 rfl)).trans ev71.symm) ?_
                    refine lv_iconst (v := 1) hx hb dX1_sendCells_115 (by decide) ?_
                    refine lv_iadd hx hb dX1_sendCells_116 ?_
                    refine lv_topi (fun v72 ev72 => ?_)
                    have rv72 : rg (1) (4) v72 := (rg_add ev72 rv30 kc_1 rfl).1
                    replace hW := (wfP_i (wfP_i (wfP_i (wfP_a hW v72) ev72) rv72) (w_iadd ((rg_add ev72 rv30 kc_1 rfl).2) rfl (rg_i kc_1)))
                    have tv72 := (rg_add ev72 rv30 kc_1 rfl).2
                    have y73 : (1 : Int32).toInt = 1 := by decide
                    have uv72 : (1 : Int) ≤ v72.toInt ∧ v72.toInt ≤ 4 := rv72
                    refine lv_iconst (v := 4) hx hb dX1_sendCells_117 (by decide) ?_
                    refine lv_irem hx hb dX1_sendCells_118 (by decide) ?_
                    refine lv_topi (fun v74 ev74 => ?_)
                    have rv74 : rg (0) (3) v74 := (rg_rem ev74 rv72 kc_4 rfl).1
                    replace hW := (wfP_i (wfP_i (wfP_i (wfP_a hW v74) ev74) rv74) ((rg_rem ev74 rv72 kc_4 rfl).2))
                    have tv74 := (rg_rem ev74 rv72 kc_4 rfl).2
                    have y75 : (4 : Int32).toInt = 4 := by decide
                    have uv74 : (0 : Int) ≤ v74.toInt ∧ v74.toInt ≤ 3 := rv74
                    refine c_puti x L69 1 i0 15 47 hal0 rfl rfl ⟨rfl, by decide +kernel⟩ (wk_in kf_X1_69) dX1_sendCells_119 (crj_47 (rg_w rv74 rfl)) (fun g76 H76 k76 eg76 L76 => ?_)
                    replace hW := (wfP_i (wfP_a hW g76) eg76)
                    refine lv_aload_n hx hb dX1_sendCells_122 rfl (lv_at hl 1 rfl) ?_
                    refine lv_dup hx hb dX1_sendCells_123 rfl ?_
                    refine c_geti x L76 1 i0 16 48 hal0 rfl rfl (wk_in kf_X1_50) dX1_sendCells_124 (fun v77 ev77 wv77 => ?_)
                    refine m_top (((mm_up (mm_up (mm_up (mm_fr ev8 hp65.1 rfl) eg67 rfl) eg69 rfl) eg76 rfl)).trans ev77.symm) ?_
                    refine lv_iconst (v := 1) hx hb dX1_sendCells_127 (by decide) ?_
                    refine lv_isub hx hb dX1_sendCells_128 ?_
                    refine lv_topi (fun v78 ev78 => ?_)
                    have rv78 : rg (0) (3) v78 := (rg_sub ev78 q11 kc_1 rfl).1
                    replace hW := (wfP_i (wfP_i (wfP_i (wfP_a hW v78) ev78) rv78) (w_isub ((rg_sub ev78 q11 kc_1 rfl).2) rfl (rg_i kc_1)))
                    have tv78 := (rg_sub ev78 q11 kc_1 rfl).2
                    have y79 : (1 : Int32).toInt = 1 := by decide
                    have uv78 : (0 : Int) ≤ v78.toInt ∧ v78.toInt ≤ 3 := rv78
                    refine c_puti x L76 1 i0 16 48 hal0 rfl rfl ⟨rfl, by decide +kernel⟩ (wk_in kf_X1_50) dX1_sendCells_129 (crj_48 (rg_w rv78 rfl)) (fun g80 H80 k80 eg80 L80 => ?_)
                    replace hW := (wfP_i (wfP_a hW g80) eg80)
                    obtain ⟨v81, ev81, fv81⟩ := inc_ex a2_2_1 (1) (1 : Int32) (by decide)
                    have rv81 : rg (1) (2147483647) v81 := (rg_add ev81 q6 kc_1 rfl).1
                    have tv81 := (rg_add ev81 q6 kc_1 rfl).2
                    have yv81 : (1 : Int32).toInt = 1 := by decide
                    replace hW := (wfP_i (wfP_i (wfP_i (wfP_a hW v81) ev81) rv81) (w_iadd tv81 rfl (rg_i kc_1)))
                    refine lv_iinc (v := v81) (lv' := [(2, .int v81), (3, .int (1 : Int32)), (0, .ref (Z.ad 1 i0)), (1, .ref (Z.ad 3 q1))]) hx hb dX1_sendCells_132 hl (k := 3) rfl fv81 (by decide) rfl (fun ls hl => ?_)
                    refine lv_goto (tgt := 2) hx hb dX1_sendCells_135 (by decide) ?_
                    exact ih2 _ (ms_up tv81 kc_1 q6 rfl rfl) v81 g80 _ _ ls (mFr.upE (mFr.upE (mFr.upE (mFr.upE (mFr.tr hF2 hp65.1 rfl) eg67 rfl) eg69 rfl) eg76 rfl) eg80 rfl) L80 (cJ_up (cJ_up hJ70 eg76 rfl) eg80 rfl) (rg_w rv81 rfl) (mFi.up (mFi.up (mFi.up (mFi.up (mFi.sub hI2 hi65 (mSub_eq 3 rfl (mSub_eq 4 rfl (mSub_eq 5 rfl (mSub_eq 6 rfl mSub_nil))))) eg67 (mIn_at 2 rfl (Or.inr (Nat.div_one _)))) eg69 (mIn_at 2 rfl (Or.inr (Nat.div_one _)))) eg76 (mIn_at 0 rfl (Or.inr (Nat.div_one _)))) eg80 (mIn_at 1 rfl (Or.inr (Nat.div_one _)))) hW (lv_sub hl [2, 3, 0] rfl) rfl
  have y82 : (0 : Int32).toInt = 0 := by decide
  exact j2_2 _ (0 : Int32) g _ _ ls mFr.rf L hJ (rg_w kc_0 rfl) mFi.rf hW (lv_sub hl [1, 2, 0] rfl) rfl
theorem d_kcsendCells (l : Launch) {G : cG} {Z : cZ} (X : Int) (g : mSt) (i0 : Nat) (q1 : Nat) (hX : 0 ≤ X ∧ X ≤ 2000000000) (hJ : cJ Z g) (hal0 : Z.al 1 i0) (hq1 : Z.al 3 q1) (hq : q1 < 2 * Z.n) {Φ : Int32 → mSt → Prop} (hW : wfP (wp_kcsendCells Z i0 q1 g Φ)) : Met l yX1_sendCells (wk (Cond.code yX1_sendCells cX1_sendCells 4 none)) rm_kcsendCells (va_Pc [.ref (Z.ad 1 i0), .ref (Z.ad 3 q1)] (cPre G Z X g)) (cQv G Z X (fun g1 => wfP (Φ 0 g1) ∧ mFi (im_kcsendCells Z i0 q1) g g1 ∧ (mFr [47, 48, 49, 67, 108, 544, 576] g g1 ∧ cJ Z g1 ∧ True))) 0 0 (cAd Z) := by
  refine Met.ofW (cc := cX1_sendCells) (maxL := 4) (ret := none) (by decide) rfl ?_
  intro p e s m args below meth c s₁ B hml hv
  obtain ⟨rfl, hv⟩ := hv
  have hr := B.returns
  have hlocks := B.notSynchronized
  obtain ⟨x, L⟩ := c_start B rfl (fun w h => wk_in h) hv
  have hl := lv_entry ([.ref (Z.ad 1 i0), .ref (Z.ad 3 q1)]) (n := 4) (Nat.le_of_ble_eq_true rfl)
  rw [lg_entry_eq]
  generalize (lg_sl ([.ref (Z.ad 1 i0), .ref (Z.ad 3 q1)]) ++ List.replicate (4 - (lg_sl ([.ref (Z.ad 1 i0), .ref (Z.ad 3 q1)])).length) Slot.unset).toArray = ls at hl ⊢
  exact v_kcsendCells x hml L hX i0 q1 hJ hal0 hq1 hq hW hl (fun pc' ls' g1 H1 locs1 hdg L hp => c_vret x L hr hlocks (Int.le_refl _) hp hdg)

def im_kesendCells (Z : cZ) (i0 : Nat) (q1 : Nat) : List (Nat × Nat × Nat) := [(47, 0, 0), (48, 0, 0), (49, 0, 0), (67, (2 * q1 + 1), 1), (108, q1, 1), (544, (2 * q1 + 1), 8192), (576, (2 * q1 + 1), 8192)]
def po_kesendCells (Z : cZ) (i0 : Nat) (q1 : Nat) (g : mSt) (r : Int32) (g1 : mSt) : Prop := mFi (im_kesendCells Z i0 q1) g g1 ∧ mFr [47, 48, 49, 67, 108, 544, 576] g g1 ∧ cJ Z g1 ∧ True
def wp_kesendCells (Z : cZ) (i0 : Nat) (q1 : Nat) (g : mSt) (Φ : Int32 → mSt → Prop) : Prop :=
  ∃ P2 : Int32 → mSt → Prop, (∀ (a2_2_1 : Int32) (g2 : mSt), mFr [47, 48, 49, 67, 108, 544, 576] g g2 → mFi (im_kesendCells Z i0 q1) g g2 → cJ Z g2 → rg (0) (40) a2_2_1 → P2 a2_2_1 g2 → ∀ (v3 : Int32), v3 = g2 135 i0 → rg (0) (40) v3 → ((v3.toInt ≤ a2_2_1.toInt) → Φ 0 g2) ∧ ((a2_2_1.toInt < v3.toInt) → ∀ (v8 : Int32), v8 = g2 1536 (16777216 * i0 + a2_2_1.toNatClampNeg) → cD2 Z g2 i0 v8 → ∀ (v11 : Int32), v11 = g2 36 v8.toInt.toNat → rg (-2147483648) (2147483647) v11 → ∃ P12 : mSt → Prop, (∀ (g12 : mSt), mFr [47, 48, 49, 67, 108, 544, 576] g2 g12 → mFi (im_kesendCells Z i0 q1) g2 g12 → cJ Z g12 → P12 g12 → ∀ (v13 : Int32), v13 = a2_2_1 + (1 : Int32) → rg (1) (40) v13 → v13.toInt = a2_2_1.toInt + 1 → P2 v13 g12) ∧ ((v11.toInt ≠ 10) → P12 g2) ∧ ((v11.toInt = 10) → cD2 Z g2 i0 v8 → wp_kcsendCells Z v8.toInt.toNat q1 g2 (fun (_ : Int32) (g20 : mSt) => po_kcsendCells Z v8.toInt.toNat q1 g2 0 g20 → P12 g20)))) ∧ P2 (0 : Int32) g
set_option maxHeartbeats 4000000 in
set_option maxRecDepth 100000 in
theorem v_kesendCells {p : Program} {l : Launch} {e : Env} {s : State} {m : MethodId} {args : Array Value} {below : List Frame} {meth : Method} {c : Code} {H : Heap} {locs : List Loc} {Q : State → Prop} {ls : Array Slot} {G : cG} {Z : cZ} {A : Nat → Prop} {g : mSt} {H0 : Heap} {X : Int} (x : cX p c cX4_sendCells s args (wk (Cond.code yX4_sendCells cX4_sendCells 3 none)) m G Z A RX4 H0) (hml : c.maxLocals = 3) (L : cL G Z A H0 X g H locs) (hX : 0 ≤ X ∧ X ≤ 2000000000) (i0 : Nat) (q1 : Nat) (hJ : cJ Z g) (hi0 : i0 < Z.n) (hq1 : Z.al 3 q1) (hq : q1 < 2 * Z.n) {Φ : Int32 → mSt → Prop} (hW : wfP (wp_kesendCells Z i0 q1 g Φ)) (hl : lv_has ls 3 [(0, .ref (Z.ad 4 i0)), (1, .ref (Z.ad 3 q1))]) (hQ : ∀ (pc' : Nat) (ls' : Array Slot) (g1 : mSt) (H1 : Heap) (locs1 : List Loc), decode cX4_sendCells pc' = .ok (.return_, 1) → cL G Z A H0 X g1 H1 locs1 → (wfP (Φ 0 g1) ∧ mFi (im_kesendCells Z i0 q1) g g1 ∧ (mFr [47, 48, 49, 67, 108, 544, 576] g g1 ∧ cJ Z g1 ∧ True)) → W p l e rm_kesendCells s m args below meth c H1 locs1 0 0 Q (F0 m pc' ls' [])) : W p l e rm_kesendCells s m args below meth c H locs 0 0 Q (F0 m 0 ls []) := by
  have hx := x.1
  have hb := x.2.1
  have hz := x.2.2.2.2.2.2.2.1
  have hzn := hz.1
  have hal0 : Z.al 4 i0 := hz.2 4 i0 (show i0 < Z.n from hi0)
  refine lv_iconst (v := 0) hx hb dX4_sendCells_0 (by decide) ?_
  refine lv_istore_n (lv' := [(2, .int (0 : Int32)), (0, .ref (Z.ad 4 i0)), (1, .ref (Z.ad 3 q1))]) hx hb dX4_sendCells_1 rfl hl (by decide) rfl (fun ls hl => ?_)
  obtain ⟨P2, hP2, hW⟩ := wfP_ex hW
  have j2_2 : ∀ (n : Nat) (a2_2_1 : Int32) (g2 : mSt) (H2 : Heap) (k2 : List Loc) (ls : Array Slot), mFr [47, 48, 49, 67, 108, 544, 576] g g2 → cL G Z A H0 X g2 H2 k2 → cJ Z g2 → rg (0) (40) a2_2_1 → mFi (im_kesendCells Z i0 q1) g g2 → wfP (P2 a2_2_1 g2) → lv_has ls 3 [(0, .ref (Z.ad 4 i0)), (1, .ref (Z.ad 3 q1)), (2, .int a2_2_1)] → ((40 : Int) - a2_2_1.toInt).toNat = n → W p l e rm_kesendCells s m args below meth c H2 k2 0 0 Q (F0 m 2 ls []) := by
    intro n
    induction n using Nat.strongRecOn with
    | _ n ih2 =>
      intro a2_2_1 g2 H2 k2 ls hF2 L2 hJ2 ra2_2_1 hI2 hW hl hn2
      subst hn2
      replace hW := wfP_i (wfP_i (wfP_i (wfP_i (wfP_i (wfP_a (wfP_a hP2 a2_2_1) g2) hF2) hI2) hJ2) ra2_2_1) hW
      have ua2_2_1 : (0 : Int) ≤ a2_2_1.toInt ∧ a2_2_1.toInt ≤ 40 := ra2_2_1
      refine lv_iload_n hx hb dX4_sendCells_2 rfl (lv_at hl 2 rfl) ?_
      refine lv_aload_n hx hb dX4_sendCells_3 rfl (lv_at hl 0 rfl) ?_
      refine c_geti x L2 4 i0 7 135 hal0 rfl rfl (wk_in kf_X4_37) dX4_sendCells_4 (fun v3 ev3 wv3 => ?_)
      have rv3 : rg (0) (40) v3 := clj_135 wv3
      replace hW := (wfP_i (wfP_i (wfP_a hW v3) ev3) rv3)
      have uv3 : (0 : Int) ≤ v3.toInt ∧ v3.toInt ≤ 40 := rv3
      have sv3 : v3.toInt = (g 135 i0).toInt := congrArg Int32.toInt (ev3.trans (congrFun ((show mFr [47, 48, 49, 67, 108, 544, 576] g g2 from (mFr.tr mFr.rf hF2 rfl)).at 135 rfl) _))
      refine lv_icmp_ge (tgt := 40) hx hb dX4_sendCells_7 (by decide) (fun c7_4 => ?_) (fun c7_4 => ?_)
      · skip
        replace hW := wfP_i (wfP_l hW) (i_le c7_4 rfl rfl)
        have ic7_4 := Int32.le_iff_toInt_le.mp c7_4
        exact hQ _ _ _ _ _ dX4_sendCells_40 L2 ⟨hW, (mFi.tr mFi.rf hI2), (mFr.tr mFr.rf hF2 rfl), hJ2, trivial⟩
      · skip
        replace hW := wfP_i (wfP_r hW) (i_lt (rg_nle c7_4) rfl rfl)
        have ic7_4 := Int32.lt_iff_toInt_lt.mp (rg_nle c7_4)
        have q5 : rg (0) (39) a2_2_1 := (rg_lt (rg_nle c7_4) ra2_2_1 rv3).1
        have uq5 : (0 : Int) ≤ a2_2_1.toInt ∧ a2_2_1.toInt ≤ 39 := q5
        have q6 : rg (1) (40) v3 := (rg_lt (rg_nle c7_4) ra2_2_1 rv3).2
        have uq6 : (1 : Int) ≤ v3.toInt ∧ v3.toInt ≤ 40 := q6
        refine lv_aload_n hx hb dX4_sendCells_10 rfl (lv_at hl 0 rfl) ?_
        have al7 : Z.al 48 i0 := hz.2 48 i0 (show i0 < Z.n from (by omega))
        refine c_getr (a := Z.ad 48 i0) x L2 4 i0 6 hal0 rfl rfl (wk_in kf_X4_20) dX4_sendCells_11 ?_
        refine lv_iload_n hx hb dX4_sendCells_14 rfl (lv_at hl 2 rfl) ?_
        obtain ⟨v8, ev8⟩ : ∃ y : Int32, y = g2 1536 (16777216 * i0 + a2_2_1.toNatClampNeg) := ⟨_, rfl⟩
        replace hW := (wfP_i (wfP_a hW v8) ev8)
        have hn10 : ((a2_2_1.toInt.toNat : Nat) : Int) = a2_2_1.toInt := Int.toNat_of_nonneg (by omega)
        have hd9c := hJ2.2.2.2.1 i0 (by omega) a2_2_1.toInt.toNat (by rw [hn10]; rw [← ev3]; omega)
        have hd9e : v8 = g2 1536 (16777216 * i0 + a2_2_1.toInt.toNat) := ev8
        rw [← hd9e] at hd9c
        refine c_ldr (a := Z.ad 1 v8.toInt.toNat) x L2 48 i0 al7 rfl (by omega) (show a2_2_1.toInt < ((40 : Nat) : Int) from (by omega)) (by show cOpt Z 1 (g2 1536 (16777216 * i0 + a2_2_1.toNatClampNeg)) = _; rw [← ev8]; exact cOpt_some hd9c.1) dX4_sendCells_15 ?_
        replace hW := (wfP_i hW hd9c)
        refine c_geti x L2 1 v8.toInt.toNat 4 36 hd9c.2.1 rfl rfl (wk_in kf_X4_140) dX4_sendCells_16 (fun v11 ev11 wv11 => ?_)
        have rv11 : rg (-2147483648) (2147483647) v11 := rg_any v11
        replace hW := (wfP_i (wfP_i (wfP_a hW v11) ev11) rv11)
        have uv11 : (-2147483648 : Int) ≤ v11.toInt ∧ v11.toInt ≤ 2147483647 := rv11
        have sv11 : v11.toInt = (g 36 v8.toInt.toNat).toInt := congrArg Int32.toInt (ev11.trans (congrFun ((show mFr [47, 48, 49, 67, 108, 544, 576] g g2 from (mFr.tr mFr.rf hF2 rfl)).at 36 rfl) _))
        refine lv_bipush (v := 10) hx hb dX4_sendCells_19 (by decide) ?_
        obtain ⟨P12, hP12, hW⟩ := wfP_ex hW
        have j34_12 : ∀ (g12 : mSt) (H12 : Heap) (k12 : List Loc) (ls : Array Slot), mFr [47, 48, 49, 67, 108, 544, 576] g2 g12 → cL G Z A H0 X g12 H12 k12 → cJ Z g12 → mFi (im_kesendCells Z i0 q1) g2 g12 → wfP (P12 g12) → lv_has ls 3 [(0, .ref (Z.ad 4 i0)), (1, .ref (Z.ad 3 q1)), (2, .int a2_2_1)] → W p l e rm_kesendCells s m args below meth c H12 k12 0 0 Q (F0 m 34 ls []) := by
          intro  g12 H12 k12 ls hF12 L12 hJ12  hI12 hW hl
          replace hW := wfP_i (wfP_i (wfP_i (wfP_i (wfP_a hP12 g12) hF12) hI12) hJ12) hW
          obtain ⟨v13, ev13, fv13⟩ := inc_ex a2_2_1 (1) (1 : Int32) (by decide)
          have rv13 : rg (1) (40) v13 := (rg_add ev13 q5 kc_1 rfl).1
          have tv13 := (rg_add ev13 q5 kc_1 rfl).2
          have yv13 : (1 : Int32).toInt = 1 := by decide
          replace hW := (wfP_i (wfP_i (wfP_i (wfP_a hW v13) ev13) rv13) (w_iadd tv13 rfl (rg_i kc_1)))
          refine lv_iinc (v := v13) (lv' := [(2, .int v13), (0, .ref (Z.ad 4 i0)), (1, .ref (Z.ad 3 q1))]) hx hb dX4_sendCells_34 hl (k := 2) rfl fv13 (by decide) rfl (fun ls hl => ?_)
          refine lv_goto (tgt := 2) hx hb dX4_sendCells_37 (by decide) ?_
          exact ih2 _ (ms_up tv13 kc_1 q5 rfl rfl) v13 g12 _ _ ls (mFr.tr hF2 hF12 rfl) L12 hJ12 (rg_w rv13 rfl) (mFi.tr hI2 hI12) hW (lv_sub hl [1, 2, 0] rfl) rfl
        refine lv_icmp_ne (tgt := 34) hx hb dX4_sendCells_21 (by decide) (fun c21_14 => ?_) (fun c21_14 => ?_)
        · skip
          replace hW := wfP_i (wfP_l hW) (i_ne c21_14 rfl (rg_i kc_10))
          have ic21_14 : v11.toInt ≠ (10 : Int32).toInt := fun z => c21_14 (Int32.toInt_inj.mp z)
          have y15 : (10 : Int32).toInt = 10 := by decide
          exact j34_12  g2 _ _ ls mFr.rf L2 hJ2 mFi.rf hW (lv_sub hl [0, 1, 2] rfl)
        · skip
          replace hW := wfP_i (wfP_r hW) (i_eq c21_14 rfl (rg_i kc_10))
          have ic21_14 := congrArg Int32.toInt c21_14
          have y16 : (10 : Int32).toInt = 10 := by decide
          have q17 : rg (10) (10) v11 := (rg_eq c21_14 rv11 kc_10).1
          have uq17 : (10 : Int) ≤ v11.toInt ∧ v11.toInt ≤ 10 := q17
          refine lv_aload_n hx hb dX4_sendCells_24 rfl (lv_at hl 0 rfl) ?_
          refine c_getr (a := Z.ad 48 i0) x L2 4 i0 6 hal0 rfl rfl (wk_in kf_X4_20) dX4_sendCells_25 ?_
          refine lv_iload_n hx hb dX4_sendCells_28 rfl (lv_at hl 2 rfl) ?_
          have hn19 : ((a2_2_1.toInt.toNat : Nat) : Int) = a2_2_1.toInt := Int.toNat_of_nonneg (by omega)
          have hd18c := hJ2.2.2.2.1 i0 (by omega) a2_2_1.toInt.toNat (by rw [hn19]; rw [← ev3]; omega)
          have hd18e : v8 = g2 1536 (16777216 * i0 + a2_2_1.toInt.toNat) := ev8
          rw [← hd18e] at hd18c
          refine c_ldr (a := Z.ad 1 v8.toInt.toNat) x L2 48 i0 al7 rfl (by omega) (show a2_2_1.toInt < ((40 : Nat) : Int) from (by omega)) (by show cOpt Z 1 (g2 1536 (16777216 * i0 + a2_2_1.toNatClampNeg)) = _; rw [← ev8]; exact cOpt_some hd18c.1) dX4_sendCells_29 ?_
          replace hW := (wfP_i hW hd18c)
          refine lv_aload_n hx hb dX4_sendCells_30 rfl (lv_at hl 1 rfl) ?_
          refine c_cv (As := [.ref (Z.ad 3 q1)]) (rest := []) x hml L2 1 v8.toInt.toNat hd18c.2.1 rfl (d_kcsendCells l X g2 v8.toInt.toNat q1 hX hJ2 hd18c.2.1 hq1 (by omega) hW) (wk_V kd_X1_sendCells kl_X4_152 ki_X1_sendCells ks_X1_X1_sendCells kn_X1) rfl ⟨rfl, rfl⟩ hd_kcsendCells ⟨Nat.le_of_ble_eq_true rfl, Nat.le_of_ble_eq_true rfl⟩ rfl hl.1 rfl (lv_room (Nat.le_of_ble_eq_true rfl)) dX4_sendCells_31 (fun  g20 H20 k20 hp20 L20 => ?_)
          obtain ⟨hW, hi20, hp20⟩ := hp20
          replace hW := wfP_i hW ⟨hi20, hp20⟩
          exact j34_12  g20 _ _ ls (mFr.tr mFr.rf hp20.1 rfl) L20 hp20.2.1 (mFi.sub mFi.rf hi20 (mSub_any 0 rfl (mSub_any 1 rfl (mSub_any 2 rfl (mSub_eq 3 rfl (mSub_eq 4 rfl (mSub_eq 5 rfl (mSub_eq 6 rfl mSub_nil)))))))) hW (lv_sub hl [0, 1, 2] rfl)
  have y21 : (0 : Int32).toInt = 0 := by decide
  exact j2_2 _ (0 : Int32) g _ _ ls mFr.rf L hJ (rg_w kc_0 rfl) mFi.rf hW (lv_sub hl [1, 2, 0] rfl) rfl
theorem d_kesendCells (l : Launch) {G : cG} {Z : cZ} (X : Int) (g : mSt) (i0 : Nat) (q1 : Nat) (hX : 0 ≤ X ∧ X ≤ 2000000000) (hJ : cJ Z g) (hi0 : i0 < Z.n) (hq1 : Z.al 3 q1) (hq : q1 < 2 * Z.n) {Φ : Int32 → mSt → Prop} (hW : wfP (wp_kesendCells Z i0 q1 g Φ)) : Met l yX4_sendCells (wk (Cond.code yX4_sendCells cX4_sendCells 3 none)) rm_kesendCells (va_Pc [.ref (Z.ad 4 i0), .ref (Z.ad 3 q1)] (cPre G Z X g)) (cQv G Z X (fun g1 => wfP (Φ 0 g1) ∧ mFi (im_kesendCells Z i0 q1) g g1 ∧ (mFr [47, 48, 49, 67, 108, 544, 576] g g1 ∧ cJ Z g1 ∧ True))) 0 0 (cAd Z) := by
  refine Met.ofW (cc := cX4_sendCells) (maxL := 3) (ret := none) (by decide) rfl ?_
  intro p e s m args below meth c s₁ B hml hv
  obtain ⟨rfl, hv⟩ := hv
  have hr := B.returns
  have hlocks := B.notSynchronized
  obtain ⟨x, L⟩ := c_start B rfl (fun w h => wk_in h) hv
  have hl := lv_entry ([.ref (Z.ad 4 i0), .ref (Z.ad 3 q1)]) (n := 3) (Nat.le_of_ble_eq_true rfl)
  rw [lg_entry_eq]
  generalize (lg_sl ([.ref (Z.ad 4 i0), .ref (Z.ad 3 q1)]) ++ List.replicate (3 - (lg_sl ([.ref (Z.ad 4 i0), .ref (Z.ad 3 q1)])).length) Slot.unset).toArray = ls at hl ⊢
  exact v_kesendCells x hml L hX i0 q1 hJ hi0 hq1 hq hW hl (fun pc' ls' g1 H1 locs1 hdg L hp => c_vret x L hr hlocks (Int.le_refl _) hp hdg)

def im_kcrcOf_38 (Z : cZ) (q1 : Nat) (p2 : Int32) : List (Nat × Nat × Nat) := []
def po_kcrcOf_38 (Z : cZ) (q1 : Nat) (p2 : Int32) (g : mSt) (r : Int32) (g1 : mSt) : Prop := mFi (im_kcrcOf_38 Z q1 p2) g g1 ∧ mFr [] g g1 ∧ rg (-2147483648) (2147483647) r ∧ True
def wp_kcrcOf_38 (Z : cZ) (q1 : Nat) (p2 : Int32) (g : mSt) (Φ : Int32 → mSt → Prop) : Prop :=
  ∃ P3 : Int32 → Int32 → mSt → Prop, (∀ (a4_2_1 a4_3_2 : Int32) (g3 : mSt), mFr [] g g3 → mFi (im_kcrcOf_38 Z q1 p2) g g3 → rg (-2147483648) (2147483647) a4_2_1 → rg (0) (240) a4_3_2 → P3 a4_2_1 a4_3_2 g3 → ∃ P4 : mSt → Prop, (∀ (g4 : mSt), mFr [] g3 g4 → mFi (im_kcrcOf_38 Z q1 p2) g3 g4 → P4 g4 → ∀ (v5 : Int32), v5 = a4_2_1 ^^^ (-1 : Int32) → rg (-2147483648) (2147483647) v5 → Φ v5 g4) ∧ ((p2.toInt ≤ a4_3_2.toInt) → P4 g3) ∧ ((a4_3_2.toInt < p2.toInt) → ((240 ≤ a4_3_2.toInt) → P4 g3) ∧ ((a4_3_2.toInt < 240) → ∀ (v12 : Int32), v12 = g3 1216 (8192 * q1 + a4_3_2.toNatClampNeg) → rg (-2147483648) (2147483647) v12 → ∀ (v13 : Int32), v13 = v12 <<< ((24 : Int32) &&& 31) → rg (-2147483648) (2147483647) v13 → ∀ (v14 : Int32), v14 = a4_2_1 ^^^ v13 → rg (-2147483648) (2147483647) v14 → ∃ P17 : Int32 → Int32 → mSt → Prop, (∀ (a27_2_15 a27_4_16 : Int32) (g17 : mSt), mFr [] g3 g17 → mFi (im_kcrcOf_38 Z q1 p2) g3 g17 → rg (-2147483648) (2147483647) a27_2_15 → rg (0) (8) a27_4_16 → P17 a27_2_15 a27_4_16 g17 → ((8 ≤ a27_4_16.toInt) → ∀ (v20 : Int32), v20 = a4_3_2 + (1 : Int32) → rg (1) (240) v20 → v20.toInt = a4_3_2.toInt + 1 → P3 a27_2_15 v20 g17) ∧ ((a27_4_16.toInt < 8) → ∃ P23 : Int32 → mSt → Prop, (∀ (b51_0_22 : Int32) (g23 : mSt), mFr [] g17 g23 → mFi (im_kcrcOf_38 Z q1 p2) g17 g23 → rg (-2147483648) (2147483647) b51_0_22 → P23 b51_0_22 g23 → ∀ (v24 : Int32), v24 = a27_4_16 + (1 : Int32) → rg (1) (8) v24 → v24.toInt = a27_4_16.toInt + 1 → P17 b51_0_22 v24 g23) ∧ ((0 ≤ a27_2_15.toInt) → ∀ (v27 : Int32), v27 = a27_2_15 <<< ((1 : Int32) &&& 31) → rg (-2147483648) (2147483647) v27 → P23 v27 g17) ∧ ((a27_2_15.toInt < 0) → ∀ (v29 : Int32), v29 = a27_2_15 <<< ((1 : Int32) &&& 31) → rg (-2147483648) (2147483647) v29 → ∀ (v30 : Int32), v30 = v29 ^^^ (79764919 : Int32) → rg (-2147483648) (2147483647) v30 → P23 v30 g17))) ∧ P17 v14 (0 : Int32) g3))) ∧ P3 (-1 : Int32) (0 : Int32) g
set_option maxHeartbeats 4000000 in
set_option maxRecDepth 100000 in
theorem v_kcrcOf_38 {p : Program} {l : Launch} {e : Env} {s : State} {m : MethodId} {args : Array Value} {below : List Frame} {meth : Method} {c : Code} {H : Heap} {locs : List Loc} {Q : State → Prop} {ls : Array Slot} {G : cG} {Z : cZ} {A : Nat → Prop} {g : mSt} {H0 : Heap} {X : Int} (x : cX p c cX11_crcOf s args (wk (Cond.code yX11_crcOf cX11_crcOf 5 (some .int))) m G Z A RX11 H0) (hml : c.maxLocals = 5) (L : cL G Z A H0 X g H locs) (hX : 0 ≤ X ∧ X ≤ 2000000000) (q1 : Nat) (p2 : Int32) (hq1 : Z.al 38 q1) {Φ : Int32 → mSt → Prop} (hW : wfP (wp_kcrcOf_38 Z q1 p2 g Φ)) (hl : lv_has ls 5 [(0, .ref (Z.ad 38 q1)), (1, .int p2)]) (hQ : ∀ (pc' : Nat) (ls' : Array Slot) (r : Int32) (g1 : mSt) (H1 : Heap) (locs1 : List Loc), decode cX11_crcOf pc' = .ok (.ireturn, 1) → cL G Z A H0 X g1 H1 locs1 → (wfP (Φ r g1) ∧ mFi (im_kcrcOf_38 Z q1 p2) g g1 ∧ (mFr [] g g1 ∧ rg (-2147483648) (2147483647) r ∧ True)) → W p l e rm_kcrcOf_38 s m args below meth c H1 locs1 0 0 Q (F0 m pc' ls' [.int r])) : W p l e rm_kcrcOf_38 s m args below meth c H locs 0 0 Q (F0 m 0 ls []) := by
  have hx := x.1
  have hb := x.2.1
  have hz := x.2.2.2.2.2.2.2.1
  have hzn := hz.1
  have up2 : (-2147483648 : Int) ≤ p2.toInt ∧ p2.toInt ≤ 2147483647 := (rg_any p2)
  refine lv_iconst (v := (-1)) hx hb dX11_crcOf_0 (by decide) ?_
  refine lv_istore_n (lv' := [(2, .int (-1 : Int32)), (0, .ref (Z.ad 38 q1)), (1, .int p2)]) hx hb dX11_crcOf_1 rfl hl (by decide) rfl (fun ls hl => ?_)
  refine lv_iconst (v := 0) hx hb dX11_crcOf_2 (by decide) ?_
  refine lv_istore_n (lv' := [(3, .int (0 : Int32)), (2, .int (-1 : Int32)), (0, .ref (Z.ad 38 q1)), (1, .int p2)]) hx hb dX11_crcOf_3 rfl hl (by decide) rfl (fun ls hl => ?_)
  obtain ⟨P3, hP3, hW⟩ := wfP_ex hW
  have j4_3 : ∀ (n : Nat) (a4_2_1 a4_3_2 : Int32) (g3 : mSt) (H3 : Heap) (k3 : List Loc) (ls : Array Slot), mFr [] g g3 → cL G Z A H0 X g3 H3 k3 → rg (-2147483648) (2147483647) a4_2_1 → rg (0) (240) a4_3_2 → mFi (im_kcrcOf_38 Z q1 p2) g g3 → wfP (P3 a4_2_1 a4_3_2 g3) → lv_has ls 5 [(0, .ref (Z.ad 38 q1)), (1, .int p2), (2, .int a4_2_1), (3, .int a4_3_2)] → ((240 : Int) - a4_3_2.toInt).toNat = n → W p l e rm_kcrcOf_38 s m args below meth c H3 k3 0 0 Q (F0 m 4 ls []) := by
    intro n
    induction n using Nat.strongRecOn with
    | _ n ih3 =>
      intro a4_2_1 a4_3_2 g3 H3 k3 ls hF3 L3 ra4_2_1 ra4_3_2 hI3 hW hl hn3
      subst hn3
      replace hW := wfP_i (wfP_i (wfP_i (wfP_i (wfP_i (wfP_a (wfP_a (wfP_a hP3 a4_2_1) a4_3_2) g3) hF3) hI3) ra4_2_1) ra4_3_2) hW
      have ua4_2_1 : (-2147483648 : Int) ≤ a4_2_1.toInt ∧ a4_2_1.toInt ≤ 2147483647 := ra4_2_1
      have ua4_3_2 : (0 : Int) ≤ a4_3_2.toInt ∧ a4_3_2.toInt ≤ 240 := ra4_3_2
      refine lv_iload_n hx hb dX11_crcOf_4 rfl (lv_at hl 3 rfl) ?_
      refine lv_iload_n hx hb dX11_crcOf_5 rfl (lv_at hl 1 rfl) ?_
      obtain ⟨P4, hP4, hW⟩ := wfP_ex hW
      have j64_4 : ∀ (g4 : mSt) (H4 : Heap) (k4 : List Loc) (ls : Array Slot), mFr [] g3 g4 → cL G Z A H0 X g4 H4 k4 → mFi (im_kcrcOf_38 Z q1 p2) g3 g4 → wfP (P4 g4) → lv_has ls 5 [(2, .int a4_2_1)] → W p l e rm_kcrcOf_38 s m args below meth c H4 k4 0 0 Q (F0 m 64 ls []) := by
        intro  g4 H4 k4 ls hF4 L4  hI4 hW hl
        replace hW := wfP_i (wfP_i (wfP_i (wfP_a hP4 g4) hF4) hI4) hW
        refine lv_iload_n hx hb dX11_crcOf_64 rfl (lv_at hl 0 rfl) ?_
        refine lv_iconst (v := (-1)) hx hb dX11_crcOf_65 (by decide) ?_
        refine lv_ixor hx hb dX11_crcOf_66 ?_
        refine lv_topi (fun v5 ev5 => ?_)
        have rv5 : rg (-2147483648) (2147483647) v5 := rg_any v5
        replace hW := (wfP_i (wfP_i (wfP_a hW v5) ev5) rv5)
        have uv5 : (-2147483648 : Int) ≤ v5.toInt ∧ v5.toInt ≤ 2147483647 := rv5
        exact hQ _ _ v5 _ _ _ dX11_crcOf_67 L4 ⟨hW, (mFi.tr (mFi.tr mFi.rf hI3) hI4), (mFr.tr (mFr.tr mFr.rf hF3 rfl) hF4 rfl), rg_w rv5 rfl, trivial⟩
      refine lv_icmp_ge (tgt := 64) hx hb dX11_crcOf_6 (by decide) (fun c6_6 => ?_) (fun c6_6 => ?_)
      · skip
        replace hW := wfP_i (wfP_l hW) (i_le c6_6 rfl rfl)
        have ic6_6 := Int32.le_iff_toInt_le.mp c6_6
        have q7 : rg (-2147483648) (240) p2 := (rg_le c6_6 (rg_any p2) ra4_3_2).1
        have uq7 : (-2147483648 : Int) ≤ p2.toInt ∧ p2.toInt ≤ 240 := q7
        exact j64_4  g3 _ _ ls mFr.rf L3 mFi.rf hW (lv_sub hl [2] rfl)
      · skip
        replace hW := wfP_i (wfP_r hW) (i_lt (rg_nle c6_6) rfl rfl)
        have ic6_6 := Int32.lt_iff_toInt_lt.mp (rg_nle c6_6)
        have q8 : rg (1) (2147483647) p2 := (rg_lt (rg_nle c6_6) ra4_3_2 (rg_any p2)).2
        have uq8 : (1 : Int) ≤ p2.toInt ∧ p2.toInt ≤ 2147483647 := q8
        refine lv_iload_n hx hb dX11_crcOf_9 rfl (lv_at hl 3 rfl) ?_
        refine lv_aload_n hx hb dX11_crcOf_10 rfl (lv_at hl 0 rfl) ?_
        refine c_len (n := 240) x L3 38 q1 hq1 rfl (by decide) dX11_crcOf_11 ?_
        refine lv_icmp_ge (tgt := 64) hx hb dX11_crcOf_12 (by decide) (fun c12_9 => ?_) (fun c12_9 => ?_)
        · skip
          replace hW := wfP_i (wfP_l hW) (i_le c12_9 (rg_i kc_240) rfl)
          have ic12_9 := Int32.le_iff_toInt_le.mp c12_9
          have q10 : rg (240) (240) a4_3_2 := (rg_le c12_9 kc_240 ra4_3_2).2
          have uq10 : (240 : Int) ≤ a4_3_2.toInt ∧ a4_3_2.toInt ≤ 240 := q10
          exact j64_4  g3 _ _ ls mFr.rf L3 mFi.rf hW (lv_sub hl [2] rfl)
        · skip
          replace hW := wfP_i (wfP_r hW) (i_lt (rg_nle c12_9) rfl (rg_i kc_240))
          have ic12_9 := Int32.lt_iff_toInt_lt.mp (rg_nle c12_9)
          have q11 : rg (0) (239) a4_3_2 := (rg_lt (rg_nle c12_9) ra4_3_2 kc_240).1
          have uq11 : (0 : Int) ≤ a4_3_2.toInt ∧ a4_3_2.toInt ≤ 239 := q11
          refine lv_iload_n hx hb dX11_crcOf_15 rfl (lv_at hl 2 rfl) ?_
          refine lv_aload_n hx hb dX11_crcOf_16 rfl (lv_at hl 0 rfl) ?_
          refine lv_iload_n hx hb dX11_crcOf_17 rfl (lv_at hl 3 rfl) ?_
          refine c_ld x L3 38 q1 1216 hq1 rfl rfl q11 rfl dX11_crcOf_18 (fun v12 ev12 wv12 => ?_)
          have rv12 : rg (-2147483648) (2147483647) v12 := rg_any v12
          replace hW := (wfP_i (wfP_i (wfP_a hW v12) ev12) rv12)
          have uv12 : (-2147483648 : Int) ≤ v12.toInt ∧ v12.toInt ≤ 2147483647 := rv12
          have sv12 : v12.toInt = (g 1216 (8192 * q1 + a4_3_2.toNatClampNeg)).toInt := congrArg Int32.toInt (ev12.trans (congrFun ((show mFr [] g g3 from (mFr.tr mFr.rf hF3 rfl)).at 1216 rfl) _))
          refine lv_bipush (v := 24) hx hb dX11_crcOf_19 (by decide) ?_
          refine lv_ishl hx hb dX11_crcOf_21 ?_
          refine lv_topi (fun v13 ev13 => ?_)
          have rv13 : rg (-2147483648) (2147483647) v13 := rg_any v13
          replace hW := (wfP_i (wfP_i (wfP_a hW v13) ev13) rv13)
          have uv13 : (-2147483648 : Int) ≤ v13.toInt ∧ v13.toInt ≤ 2147483647 := rv13
          refine lv_ixor hx hb dX11_crcOf_22 ?_
          refine lv_topi (fun v14 ev14 => ?_)
          have rv14 : rg (-2147483648) (2147483647) v14 := rg_any v14
          replace hW := (wfP_i (wfP_i (wfP_a hW v14) ev14) rv14)
          have uv14 : (-2147483648 : Int) ≤ v14.toInt ∧ v14.toInt ≤ 2147483647 := rv14
          refine lv_istore_n (lv' := [(2, .int v14), (0, .ref (Z.ad 38 q1)), (1, .int p2), (3, .int a4_3_2)]) hx hb dX11_crcOf_23 rfl hl (by decide) rfl (fun ls hl => ?_)
          refine lv_iconst (v := 0) hx hb dX11_crcOf_24 (by decide) ?_
          refine lv_istore (lv' := [(4, .int (0 : Int32)), (2, .int v14), (0, .ref (Z.ad 38 q1)), (1, .int p2), (3, .int a4_3_2)]) hx hb dX11_crcOf_25 hl (by decide) rfl (fun ls hl => ?_)
          obtain ⟨P17, hP17, hW⟩ := wfP_ex hW
          have j27_17 : ∀ (n : Nat) (a27_2_15 a27_4_16 : Int32) (g17 : mSt) (H17 : Heap) (k17 : List Loc) (ls : Array Slot), mFr [] g3 g17 → cL G Z A H0 X g17 H17 k17 → rg (-2147483648) (2147483647) a27_2_15 → rg (0) (8) a27_4_16 → mFi (im_kcrcOf_38 Z q1 p2) g3 g17 → wfP (P17 a27_2_15 a27_4_16 g17) → lv_has ls 5 [(0, .ref (Z.ad 38 q1)), (1, .int p2), (2, .int a27_2_15), (3, .int a4_3_2), (4, .int a27_4_16)] → ((8 : Int) - a27_4_16.toInt).toNat = n → W p l e rm_kcrcOf_38 s m args below meth c H17 k17 0 0 Q (F0 m 27 ls []) := by
            intro n
            induction n using Nat.strongRecOn with
            | _ n ih17 =>
              intro a27_2_15 a27_4_16 g17 H17 k17 ls hF17 L17 ra27_2_15 ra27_4_16 hI17 hW hl hn17
              subst hn17
              replace hW := wfP_i (wfP_i (wfP_i (wfP_i (wfP_i (wfP_a (wfP_a (wfP_a hP17 a27_2_15) a27_4_16) g17) hF17) hI17) ra27_2_15) ra27_4_16) hW
              have ua27_2_15 : (-2147483648 : Int) ≤ a27_2_15.toInt ∧ a27_2_15.toInt ≤ 2147483647 := ra27_2_15
              have ua27_4_16 : (0 : Int) ≤ a27_4_16.toInt ∧ a27_4_16.toInt ≤ 8 := ra27_4_16
              refine lv_iload hx hb dX11_crcOf_27 (lv_at hl 4 rfl) ?_
              refine lv_bipush (v := 8) hx hb dX11_crcOf_29 (by decide) ?_
              refine lv_icmp_ge (tgt := 58) hx hb dX11_crcOf_31 (by decide) (fun c31_18 => ?_) (fun c31_18 => ?_)
              · skip
                replace hW := wfP_i (wfP_l hW) (i_le c31_18 (rg_i kc_8) rfl)
                have ic31_18 := Int32.le_iff_toInt_le.mp c31_18
                have q19 : rg (8) (8) a27_4_16 := (rg_le c31_18 kc_8 ra27_4_16).2
                have uq19 : (8 : Int) ≤ a27_4_16.toInt ∧ a27_4_16.toInt ≤ 8 := q19
                obtain ⟨v20, ev20, fv20⟩ := inc_ex a4_3_2 (1) (1 : Int32) (by decide)
                have rv20 : rg (1) (240) v20 := (rg_add ev20 q11 kc_1 rfl).1
                have tv20 := (rg_add ev20 q11 kc_1 rfl).2
                have yv20 : (1 : Int32).toInt = 1 := by decide
                replace hW := (wfP_i (wfP_i (wfP_i (wfP_a hW v20) ev20) rv20) (w_iadd tv20 rfl (rg_i kc_1)))
                refine lv_iinc (v := v20) (lv' := [(3, .int v20), (0, .ref (Z.ad 38 q1)), (1, .int p2), (2, .int a27_2_15), (4, .int a27_4_16)]) hx hb dX11_crcOf_58 hl (k := 3) rfl fv20 (by decide) rfl (fun ls hl => ?_)
                refine lv_goto (tgt := 4) hx hb dX11_crcOf_61 (by decide) ?_
                exact ih3 _ (ms_up tv20 kc_1 q11 rfl rfl) a27_2_15 v20 g17 _ _ ls (mFr.tr hF3 hF17 rfl) L17 (rg_w ra27_2_15 rfl) (rg_w rv20 rfl) (mFi.tr hI3 hI17) hW (lv_sub hl [1, 2, 3, 0] rfl) rfl
              · skip
                replace hW := wfP_i (wfP_r hW) (i_lt (rg_nle c31_18) rfl (rg_i kc_8))
                have ic31_18 := Int32.lt_iff_toInt_lt.mp (rg_nle c31_18)
                have q21 : rg (0) (7) a27_4_16 := (rg_lt (rg_nle c31_18) ra27_4_16 kc_8).1
                have uq21 : (0 : Int) ≤ a27_4_16.toInt ∧ a27_4_16.toInt ≤ 7 := q21
                refine lv_iload_n hx hb dX11_crcOf_34 rfl (lv_at hl 2 rfl) ?_
                obtain ⟨P23, hP23, hW⟩ := wfP_ex hW
                have j51_23 : ∀ (b51_0_22 : Int32) (g23 : mSt) (H23 : Heap) (k23 : List Loc) (ls : Array Slot), mFr [] g17 g23 → cL G Z A H0 X g23 H23 k23 → rg (-2147483648) (2147483647) b51_0_22 → mFi (im_kcrcOf_38 Z q1 p2) g17 g23 → wfP (P23 b51_0_22 g23) → lv_has ls 5 [(0, .ref (Z.ad 38 q1)), (1, .int p2), (3, .int a4_3_2), (4, .int a27_4_16)] → W p l e rm_kcrcOf_38 s m args below meth c H23 k23 0 0 Q (F0 m 51 ls [.int b51_0_22]) := by
                  intro b51_0_22 g23 H23 k23 ls hF23 L23 rb51_0_22 hI23 hW hl
                  replace hW := wfP_i (wfP_i (wfP_i (wfP_i (wfP_a (wfP_a hP23 b51_0_22) g23) hF23) hI23) rb51_0_22) hW
                  have ub51_0_22 : (-2147483648 : Int) ≤ b51_0_22.toInt ∧ b51_0_22.toInt ≤ 2147483647 := rb51_0_22
                  refine lv_istore_n (lv' := [(2, .int b51_0_22), (0, .ref (Z.ad 38 q1)), (1, .int p2), (3, .int a4_3_2), (4, .int a27_4_16)]) hx hb dX11_crcOf_51 rfl hl (by decide) rfl (fun ls hl => ?_)
                  obtain ⟨v24, ev24, fv24⟩ := inc_ex a27_4_16 (1) (1 : Int32) (by decide)
                  have rv24 : rg (1) (8) v24 := (rg_add ev24 q21 kc_1 rfl).1
                  have tv24 := (rg_add ev24 q21 kc_1 rfl).2
                  have yv24 : (1 : Int32).toInt = 1 := by decide
                  replace hW := (wfP_i (wfP_i (wfP_i (wfP_a hW v24) ev24) rv24) (w_iadd tv24 rfl (rg_i kc_1)))
                  refine lv_iinc (v := v24) (lv' := [(4, .int v24), (2, .int b51_0_22), (0, .ref (Z.ad 38 q1)), (1, .int p2), (3, .int a4_3_2)]) hx hb dX11_crcOf_52 hl (k := 4) rfl fv24 (by decide) rfl (fun ls hl => ?_)
                  refine lv_goto (tgt := 27) hx hb dX11_crcOf_55 (by decide) ?_
                  exact ih17 _ (ms_up tv24 kc_1 q21 rfl rfl) b51_0_22 v24 g23 _ _ ls (mFr.tr hF17 hF23 rfl) L23 (rg_w rb51_0_22 rfl) (rg_w rv24 rfl) (mFi.tr hI17 hI23) hW (lv_sub hl [2, 3, 1, 4, 0] rfl) rfl
                refine lv_if_ge (tgt := 48) hx hb dX11_crcOf_35 (by decide) (fun c35_25 => ?_) (fun c35_25 => ?_)
                · skip
                  replace hW := wfP_i (wfP_l hW) (i_le c35_25 (rg_i kc_0) rfl)
                  have ic35_25 := Int32.le_iff_toInt_le.mp c35_25
                  have q26 : rg (0) (2147483647) a27_2_15 := (rg_le c35_25 kc_0 ra27_2_15).2
                  have uq26 : (0 : Int) ≤ a27_2_15.toInt ∧ a27_2_15.toInt ≤ 2147483647 := q26
                  refine lv_iload_n hx hb dX11_crcOf_48 rfl (lv_at hl 2 rfl) ?_
                  refine lv_iconst (v := 1) hx hb dX11_crcOf_49 (by decide) ?_
                  refine lv_ishl hx hb dX11_crcOf_50 ?_
                  refine lv_topi (fun v27 ev27 => ?_)
                  have rv27 : rg (-2147483648) (2147483647) v27 := rg_any v27
                  replace hW := (wfP_i (wfP_i (wfP_a hW v27) ev27) rv27)
                  have uv27 : (-2147483648 : Int) ≤ v27.toInt ∧ v27.toInt ≤ 2147483647 := rv27
                  exact j51_23 v27 g17 _ _ ls mFr.rf L17 (rg_w rv27 rfl) mFi.rf hW (lv_sub hl [0, 1, 3, 4] rfl)
                · skip
                  replace hW := wfP_i (wfP_r hW) (i_lt (rg_nle c35_25) rfl (rg_i kc_0))
                  have ic35_25 := Int32.lt_iff_toInt_lt.mp (rg_nle c35_25)
                  have q28 : rg (-2147483648) (-1) a27_2_15 := (rg_lt (rg_nle c35_25) ra27_2_15 kc_0).1
                  have uq28 : (-2147483648 : Int) ≤ a27_2_15.toInt ∧ a27_2_15.toInt ≤ -1 := q28
                  refine lv_iload_n hx hb dX11_crcOf_38 rfl (lv_at hl 2 rfl) ?_
                  refine lv_iconst (v := 1) hx hb dX11_crcOf_39 (by decide) ?_
                  refine lv_ishl hx hb dX11_crcOf_40 ?_
                  refine lv_topi (fun v29 ev29 => ?_)
                  have rv29 : rg (-2147483648) (2147483647) v29 := rg_any v29
                  replace hW := (wfP_i (wfP_i (wfP_a hW v29) ev29) rv29)
                  have uv29 : (-2147483648 : Int) ≤ v29.toInt ∧ v29.toInt ≤ 2147483647 := rv29
                  refine lv_ldcw (own := RX11) (v := 79764919) hx hb x.2.2.2.2.1 (x.2.2.1 _ (wk_in kk_X11_360)) dX11_crcOf_41 ?_
                  refine lv_ixor hx hb dX11_crcOf_44 ?_
                  refine lv_topi (fun v30 ev30 => ?_)
                  have rv30 : rg (-2147483648) (2147483647) v30 := rg_any v30
                  replace hW := (wfP_i (wfP_i (wfP_a hW v30) ev30) rv30)
                  have uv30 : (-2147483648 : Int) ≤ v30.toInt ∧ v30.toInt ≤ 2147483647 := rv30
                  refine lv_goto (tgt := 51) hx hb dX11_crcOf_45 (by decide) ?_
                  exact j51_23 v30 g17 _ _ ls mFr.rf L17 (rg_w rv30 rfl) mFi.rf hW (lv_sub hl [0, 1, 3, 4] rfl)
          have y31 : (0 : Int32).toInt = 0 := by decide
          exact j27_17 _ v14 (0 : Int32) g3 _ _ ls mFr.rf L3 (rg_w rv14 rfl) (rg_w kc_0 rfl) mFi.rf hW (lv_sub hl [2, 3, 1, 4, 0] rfl) rfl
  have y32 : (-1 : Int32).toInt = -1 := by decide
  have y33 : (0 : Int32).toInt = 0 := by decide
  exact j4_3 _ (-1 : Int32) (0 : Int32) g _ _ ls mFr.rf L (rg_w kc_m1 rfl) (rg_w kc_0 rfl) mFi.rf hW (lv_sub hl [2, 3, 1, 0] rfl) rfl
theorem d_kcrcOf_38 (l : Launch) {G : cG} {Z : cZ} (X : Int) (g : mSt) (q1 : Nat) (p2 : Int32) (hX : 0 ≤ X ∧ X ≤ 2000000000) (hq1 : Z.al 38 q1) {Φ : Int32 → mSt → Prop} (hW : wfP (wp_kcrcOf_38 Z q1 p2 g Φ)) : Met l yX11_crcOf (wk (Cond.code yX11_crcOf cX11_crcOf 5 (some .int))) rm_kcrcOf_38 (va_Pc [.ref (Z.ad 38 q1), .int p2] (cPre G Z X g)) (cQi G Z X (fun r g1 => wfP (Φ r g1) ∧ mFi (im_kcrcOf_38 Z q1 p2) g g1 ∧ (mFr [] g g1 ∧ rg (-2147483648) (2147483647) r ∧ True))) 0 0 (cAd Z) := by
  refine Met.ofW (cc := cX11_crcOf) (maxL := 5) (ret := (some .int)) (by decide) rfl ?_
  intro p e s m args below meth c s₁ B hml hv
  obtain ⟨rfl, hv⟩ := hv
  have hr := B.returns
  have hlocks := B.notSynchronized
  obtain ⟨x, L⟩ := c_start B rfl (fun w h => wk_in h) hv
  have hl := lv_entry ([.ref (Z.ad 38 q1), .int p2]) (n := 5) (Nat.le_of_ble_eq_true rfl)
  rw [lg_entry_eq]
  generalize (lg_sl ([.ref (Z.ad 38 q1), .int p2]) ++ List.replicate (5 - (lg_sl ([.ref (Z.ad 38 q1), .int p2])).length) Slot.unset).toArray = ls at hl ⊢
  exact v_kcrcOf_38 x hml L hX q1 p2 hq1 hW hl (fun pc' ls' r g1 H1 locs1 hdg L hp => c_iret x L hr hlocks (Int.le_refl _) hp hdg)

def im_kfill_38 (Z : cZ) (q1 : Nat) (p2 : Int32) (p3 : Int32) (p4 : Int32) : List (Nat × Nat × Nat) := [(1216, q1, 8192)]
def po_kfill_38 (Z : cZ) (q1 : Nat) (p2 : Int32) (p3 : Int32) (p4 : Int32) (g : mSt) (r : Int32) (g1 : mSt) : Prop := mFi (im_kfill_38 Z q1 p2 p3 p4) g g1 ∧ mFr [1216] g g1 ∧ True
def wp_kfill_38 (Z : cZ) (q1 : Nat) (p2 : Int32) (p3 : Int32) (p4 : Int32) (g : mSt) (Φ : Int32 → mSt → Prop) : Prop :=
  wp_krangeCheck Z (240 : Int32) p2 p3 g (fun (_ : Int32) (g2 : mSt) => po_krangeCheck Z (240 : Int32) p2 p3 g 0 g2 → ∃ P4 : Int32 → mSt → Prop, (∀ (a10_4_3 : Int32) (g4 : mSt), mFr [1216] g2 g4 → mFi (im_kfill_38 Z q1 p2 p3 p4) g2 g4 → rg (0) (240) a10_4_3 → P4 a10_4_3 g4 → ((p3.toInt ≤ a10_4_3.toInt) → Φ 0 g4) ∧ ((a10_4_3.toInt < p3.toInt) → ∀ (g8 : mSt), g8 = up2 g4 1216 (8192 * q1 + a10_4_3.toNatClampNeg) p4 → ∀ (v9 : Int32), v9 = a10_4_3 + (1 : Int32) → rg (1) (240) v9 → v9.toInt = a10_4_3.toInt + 1 → P4 v9 g8)) ∧ P4 p2 g2)
set_option maxHeartbeats 4000000 in
set_option maxRecDepth 100000 in
theorem v_kfill_38 {p : Program} {l : Launch} {e : Env} {s : State} {m : MethodId} {args : Array Value} {below : List Frame} {meth : Method} {c : Code} {H : Heap} {locs : List Loc} {Q : State → Prop} {ls : Array Slot} {G : cG} {Z : cZ} {A : Nat → Prop} {g : mSt} {H0 : Heap} {X : Int} (x : cX p c cJ7_fill_fda19 s args (wk (Cond.code yJ7_fill_fda19 cJ7_fill_fda19 5 none)) m G Z A RJ7 H0) (hml : c.maxLocals = 5) (L : cL G Z A H0 X g H locs) (hX : 0 ≤ X ∧ X ≤ 2000000000) (q1 : Nat) (p2 : Int32) (p3 : Int32) (p4 : Int32) (hq1 : Z.al 38 q1) (rp2 : rg (0) (240) p2) (rp3 : rg (0) (240) p3) (h1 : p2.toInt ≤ p3.toInt) {Φ : Int32 → mSt → Prop} (hW : wfP (wp_kfill_38 Z q1 p2 p3 p4 g Φ)) (hl : lv_has ls 5 [(0, .ref (Z.ad 38 q1)), (1, .int p2), (2, .int p3), (3, .int p4)]) (hQ : ∀ (pc' : Nat) (ls' : Array Slot) (g1 : mSt) (H1 : Heap) (locs1 : List Loc), decode cJ7_fill_fda19 pc' = .ok (.return_, 1) → cL G Z A H0 X g1 H1 locs1 → (wfP (Φ 0 g1) ∧ mFi (im_kfill_38 Z q1 p2 p3 p4) g g1 ∧ (mFr [1216] g g1 ∧ True)) → W p l e rm_kfill_38 s m args below meth c H1 locs1 0 0 Q (F0 m pc' ls' [])) : W p l e rm_kfill_38 s m args below meth c H locs 0 0 Q (F0 m 0 ls []) := by
  have hx := x.1
  have hb := x.2.1
  have hz := x.2.2.2.2.2.2.2.1
  have hzn := hz.1
  have up2 : (0 : Int) ≤ p2.toInt ∧ p2.toInt ≤ 240 := rp2
  have up3 : (0 : Int) ≤ p3.toInt ∧ p3.toInt ≤ 240 := rp3
  have up4 : (-2147483648 : Int) ≤ p4.toInt ∧ p4.toInt ≤ 2147483647 := (rg_any p4)
  refine lv_aload_n hx hb dJ7_fill_fda19_0 rfl (lv_at hl 0 rfl) ?_
  refine c_len (n := 240) x L 38 q1 hq1 rfl (by decide) dJ7_fill_fda19_1 ?_
  refine lv_iload_n hx hb dJ7_fill_fda19_2 rfl (lv_at hl 1 rfl) ?_
  refine lv_iload_n hx hb dJ7_fill_fda19_3 rfl (lv_at hl 2 rfl) ?_
  have y1 : (240 : Int32).toInt = 240 := by decide
  refine c_sv (As := [.int (240 : Int32), .int p2, .int p3]) (rest := []) x hml L (d_krangeCheck l X g (240 : Int32) p2 p3 hX (by omega) hW) (wk_T kt_J7_rangeCheck_23922 kl_J7_13 kn_J7 (wk_all kd_J7_rangeCheck_23922)) rfl ⟨rfl, rfl⟩ hd_krangeCheck ⟨Nat.le_of_ble_eq_true rfl, Nat.le_of_ble_eq_true rfl⟩ rfl hl.1 rfl (lv_room (Nat.le_of_ble_eq_true rfl)) dJ7_fill_fda19_4 (fun  g2 H2 k2 hp2 L2 => ?_)
  obtain ⟨hW, hi2, hp2⟩ := hp2
  replace hW := wfP_i hW ⟨hi2, hp2⟩
  refine lv_iload_n hx hb dJ7_fill_fda19_7 rfl (lv_at hl 1 rfl) ?_
  refine lv_istore (lv' := [(4, .int p2), (0, .ref (Z.ad 38 q1)), (1, .int p2), (2, .int p3), (3, .int p4)]) hx hb dJ7_fill_fda19_8 hl (by decide) rfl (fun ls hl => ?_)
  obtain ⟨P4, hP4, hW⟩ := wfP_ex hW
  have j10_4 : ∀ (n : Nat) (a10_4_3 : Int32) (g4 : mSt) (H4 : Heap) (k4 : List Loc) (ls : Array Slot), mFr [1216] g2 g4 → cL G Z A H0 X g4 H4 k4 → rg (0) (240) a10_4_3 → mFi (im_kfill_38 Z q1 p2 p3 p4) g2 g4 → wfP (P4 a10_4_3 g4) → lv_has ls 5 [(0, .ref (Z.ad 38 q1)), (2, .int p3), (3, .int p4), (4, .int a10_4_3)] → ((240 : Int) - a10_4_3.toInt).toNat = n → W p l e rm_kfill_38 s m args below meth c H4 k4 0 0 Q (F0 m 10 ls []) := by
    intro n
    induction n using Nat.strongRecOn with
    | _ n ih4 =>
      intro a10_4_3 g4 H4 k4 ls hF4 L4 ra10_4_3 hI4 hW hl hn4
      subst hn4
      replace hW := wfP_i (wfP_i (wfP_i (wfP_i (wfP_a (wfP_a hP4 a10_4_3) g4) hF4) hI4) ra10_4_3) hW
      have ua10_4_3 : (0 : Int) ≤ a10_4_3.toInt ∧ a10_4_3.toInt ≤ 240 := ra10_4_3
      refine lv_iload hx hb dJ7_fill_fda19_10 (lv_at hl 3 rfl) ?_
      refine lv_iload_n hx hb dJ7_fill_fda19_12 rfl (lv_at hl 1 rfl) ?_
      refine lv_icmp_ge (tgt := 27) hx hb dJ7_fill_fda19_13 (by decide) (fun c13_5 => ?_) (fun c13_5 => ?_)
      · skip
        replace hW := wfP_i (wfP_l hW) (i_le c13_5 rfl rfl)
        have ic13_5 := Int32.le_iff_toInt_le.mp c13_5
        exact hQ _ _ _ _ _ dJ7_fill_fda19_27 L4 ⟨hW, (mFi.tr (mFi.sub mFi.rf hi2 mSub_nil) hI4), (mFr.tr (mFr.tr mFr.rf hp2.1 rfl) hF4 rfl), trivial⟩
      · skip
        replace hW := wfP_i (wfP_r hW) (i_lt (rg_nle c13_5) rfl rfl)
        have ic13_5 := Int32.lt_iff_toInt_lt.mp (rg_nle c13_5)
        have q6 : rg (0) (239) a10_4_3 := (rg_lt (rg_nle c13_5) ra10_4_3 rp3).1
        have uq6 : (0 : Int) ≤ a10_4_3.toInt ∧ a10_4_3.toInt ≤ 239 := q6
        have q7 : rg (1) (240) p3 := (rg_lt (rg_nle c13_5) ra10_4_3 rp3).2
        have uq7 : (1 : Int) ≤ p3.toInt ∧ p3.toInt ≤ 240 := q7
        refine lv_aload_n hx hb dJ7_fill_fda19_16 rfl (lv_at hl 0 rfl) ?_
        refine lv_iload hx hb dJ7_fill_fda19_17 (lv_at hl 3 rfl) ?_
        refine lv_iload_n hx hb dJ7_fill_fda19_19 rfl (lv_at hl 2 rfl) ?_
        refine c_st x L4 38 q1 1216 hq1 rfl rfl q6 rfl (rg_any p4) dJ7_fill_fda19_20 (fun g8 H8 k8 eg8 L8 => ?_)
        replace hW := (wfP_i (wfP_a hW g8) eg8)
        obtain ⟨v9, ev9, fv9⟩ := inc_ex a10_4_3 (1) (1 : Int32) (by decide)
        have rv9 : rg (1) (240) v9 := (rg_add ev9 q6 kc_1 rfl).1
        have tv9 := (rg_add ev9 q6 kc_1 rfl).2
        have yv9 : (1 : Int32).toInt = 1 := by decide
        replace hW := (wfP_i (wfP_i (wfP_i (wfP_a hW v9) ev9) rv9) (w_iadd tv9 rfl (rg_i kc_1)))
        refine lv_iinc (v := v9) (lv' := [(4, .int v9), (0, .ref (Z.ad 38 q1)), (2, .int p3), (3, .int p4)]) hx hb dJ7_fill_fda19_21 hl (k := 3) rfl fv9 (by decide) rfl (fun ls hl => ?_)
        refine lv_goto (tgt := 10) hx hb dJ7_fill_fda19_24 (by decide) ?_
        exact ih4 _ (ms_up tv9 kc_1 q6 rfl rfl) v9 g8 _ _ ls (mFr.upE hF4 eg8 rfl) L8 (rg_w rv9 rfl) (mFi.up hI4 eg8 (mIn_at 0 rfl (Or.inr (mIx q6 rfl)))) hW (lv_sub hl [1, 2, 3, 0] rfl) rfl
  exact j10_4 _ p2 g2 _ _ ls mFr.rf L2 (rg_w rp2 rfl) mFi.rf hW (lv_sub hl [1, 3, 4, 0] rfl) rfl
theorem d_kfill_38 (l : Launch) {G : cG} {Z : cZ} (X : Int) (g : mSt) (q1 : Nat) (p2 : Int32) (p3 : Int32) (p4 : Int32) (hX : 0 ≤ X ∧ X ≤ 2000000000) (hq1 : Z.al 38 q1) (rp2 : rg (0) (240) p2) (rp3 : rg (0) (240) p3) (h1 : p2.toInt ≤ p3.toInt) {Φ : Int32 → mSt → Prop} (hW : wfP (wp_kfill_38 Z q1 p2 p3 p4 g Φ)) : Met l yJ7_fill_fda19 (wk (Cond.code yJ7_fill_fda19 cJ7_fill_fda19 5 none)) rm_kfill_38 (va_Pc [.ref (Z.ad 38 q1), .int p2, .int p3, .int p4] (cPre G Z X g)) (cQv G Z X (fun g1 => wfP (Φ 0 g1) ∧ mFi (im_kfill_38 Z q1 p2 p3 p4) g g1 ∧ (mFr [1216] g g1 ∧ True))) 0 0 (cAd Z) := by
  refine Met.ofW (cc := cJ7_fill_fda19) (maxL := 5) (ret := none) (by decide) rfl ?_
  intro p e s m args below meth c s₁ B hml hv
  obtain ⟨rfl, hv⟩ := hv
  have hr := B.returns
  have hlocks := B.notSynchronized
  obtain ⟨x, L⟩ := c_start B rfl (fun w h => wk_in h) hv
  have hl := lv_entry ([.ref (Z.ad 38 q1), .int p2, .int p3, .int p4]) (n := 5) (Nat.le_of_ble_eq_true rfl)
  rw [lg_entry_eq]
  generalize (lg_sl ([.ref (Z.ad 38 q1), .int p2, .int p3, .int p4]) ++ List.replicate (5 - (lg_sl ([.ref (Z.ad 38 q1), .int p2, .int p3, .int p4])).length) Slot.unset).toArray = ls at hl ⊢
  exact v_kfill_38 x hml L hX q1 p2 p3 p4 hq1 rp2 rp3 h1 hW hl (fun pc' ls' g1 H1 locs1 hdg L hp => c_vret x L hr hlocks (Int.le_refl _) hp hdg)

def im_kcloseFrame_38 (Z : cZ) (q1 : Nat) (p2 : Int32) : List (Nat × Nat × Nat) := [(1216, q1, 8192)]
def po_kcloseFrame_38 (Z : cZ) (q1 : Nat) (p2 : Int32) (g : mSt) (r : Int32) (g1 : mSt) : Prop := mFi (im_kcloseFrame_38 Z q1 p2) g g1 ∧ mFr [1216] g g1 ∧ rg (0) (5) r ∧ True
def wp_kcloseFrame_38 (Z : cZ) (q1 : Nat) (p2 : Int32) (g : mSt) (Φ : Int32 → mSt → Prop) : Prop :=
  ((p2.toInt < 1) → Φ (0 : Int32) g) ∧ ((1 ≤ p2.toInt) → ((200 < p2.toInt) → Φ (0 : Int32) g) ∧ ((p2.toInt ≤ 200) → wp_kcellsFor Z p2 g (fun (v9 : Int32) (g8 : mSt) => po_kcellsFor Z p2 g v9 g8 → ∀ (v11 : Int32), v11 = v9 * (48 : Int32) → rg (48) (240) v11 → v11.toInt = v9.toInt * 48 → wp_kfill_38 Z q1 p2 v11 (0 : Int32) g8 (fun (_ : Int32) (g14 : mSt) => po_kfill_38 Z q1 p2 v11 (0 : Int32) g8 0 g14 → ∀ (v15 : Int32), v15 = v11 - (6 : Int32) → rg (42) (234) v15 → v15.toInt = v11.toInt - 6 → ∀ (v17 : Int32), v17 = (p2.toUInt32 >>> ((8 : Int32).toUInt32 &&& Int32.toUInt32 31)).toInt32 → rg (0) (16777215) v17 → ∀ (g18 : mSt), g18 = up2 g14 1216 (8192 * q1 + v15.toNatClampNeg) v17 → ∀ (v19 : Int32), v19 = v11 - (5 : Int32) → rg (43) (235) v19 → v19.toInt = v11.toInt - 5 → ∀ (v21 : Int32), v21 = p2 &&& (255 : Int32) → rg (0) (255) v21 → ∀ (g22 : mSt), g22 = up2 g18 1216 (8192 * q1 + v19.toNatClampNeg) v21 → ∀ (v23 : Int32), v23 = v11 - (4 : Int32) → rg (44) (236) v23 → v23.toInt = v11.toInt - 4 → wp_kcrcOf_38 Z q1 v23 g22 (fun (v26 : Int32) (g25 : mSt) => po_kcrcOf_38 Z q1 v23 g22 v26 g25 → ∃ P29 : Int32 → Int32 → mSt → Prop, (∀ (a71_4_27 a71_5_28 : Int32) (g29 : mSt), mFr [1216] g25 g29 → mFi (im_kcloseFrame_38 Z q1 p2) g25 g29 → rg (-2147483648) (2147483647) a71_4_27 → rg (1) (5) a71_5_28 → P29 a71_4_27 a71_5_28 g29 → ((4 < a71_5_28.toInt) → Φ v9 g29) ∧ ((a71_5_28.toInt ≤ 4) → ∀ (v33 : Int32), v33 = v11 - a71_5_28 → rg (44) (239) v33 → v33.toInt = v11.toInt - a71_5_28.toInt → ∀ (v34 : Int32), v34 = a71_4_27 &&& (255 : Int32) → rg (0) (255) v34 → ∀ (g35 : mSt), g35 = up2 g29 1216 (8192 * q1 + v33.toNatClampNeg) v34 → ∀ (v36 : Int32), v36 = (a71_4_27.toUInt32 >>> ((8 : Int32).toUInt32 &&& Int32.toUInt32 31)).toInt32 → rg (0) (16777215) v36 → ∀ (v37 : Int32), v37 = a71_5_28 + (1 : Int32) → rg (2) (5) v37 → v37.toInt = a71_5_28.toInt + 1 → P29 v36 v37 g35)) ∧ P29 v26 (1 : Int32) g25)))))
set_option maxHeartbeats 4000000 in
set_option maxRecDepth 100000 in
theorem v_kcloseFrame_38 {p : Program} {l : Launch} {e : Env} {s : State} {m : MethodId} {args : Array Value} {below : List Frame} {meth : Method} {c : Code} {H : Heap} {locs : List Loc} {Q : State → Prop} {ls : Array Slot} {G : cG} {Z : cZ} {A : Nat → Prop} {g : mSt} {H0 : Heap} {X : Int} (x : cX p c cX11_closeFrame s args (wk (Cond.code yX11_closeFrame cX11_closeFrame 6 (some .int))) m G Z A RX11 H0) (hml : c.maxLocals = 6) (L : cL G Z A H0 X g H locs) (hX : 0 ≤ X ∧ X ≤ 2000000000) (q1 : Nat) (p2 : Int32) (hq1 : Z.al 38 q1) {Φ : Int32 → mSt → Prop} (hW : wfP (wp_kcloseFrame_38 Z q1 p2 g Φ)) (hl : lv_has ls 6 [(0, .ref (Z.ad 38 q1)), (1, .int p2)]) (hQ : ∀ (pc' : Nat) (ls' : Array Slot) (r : Int32) (g1 : mSt) (H1 : Heap) (locs1 : List Loc), decode cX11_closeFrame pc' = .ok (.ireturn, 1) → cL G Z A H0 X g1 H1 locs1 → (wfP (Φ r g1) ∧ mFi (im_kcloseFrame_38 Z q1 p2) g g1 ∧ (mFr [1216] g g1 ∧ rg (0) (5) r ∧ True)) → W p l e rm_kcloseFrame_38 s m args below meth c H1 locs1 0 0 Q (F0 m pc' ls' [.int r])) : W p l e rm_kcloseFrame_38 s m args below meth c H locs 0 0 Q (F0 m 0 ls []) := by
  have hx := x.1
  have hb := x.2.1
  have hz := x.2.2.2.2.2.2.2.1
  have hzn := hz.1
  have up2 : (-2147483648 : Int) ≤ p2.toInt ∧ p2.toInt ≤ 2147483647 := (rg_any p2)
  refine lv_iload_n hx hb dX11_closeFrame_0 rfl (lv_at hl 1 rfl) ?_
  refine lv_iconst (v := 1) hx hb dX11_closeFrame_1 (by decide) ?_
  refine lv_icmp_lt (tgt := 20) hx hb dX11_closeFrame_2 (by decide) (fun c2_1 => ?_) (fun c2_1 => ?_)
  · skip
    replace hW := wfP_i (wfP_l hW) (i_lt c2_1 rfl (rg_i kc_1))
    have ic2_1 := Int32.lt_iff_toInt_lt.mp c2_1
    have q2 : rg (-2147483648) (0) p2 := (rg_lt c2_1 (rg_any p2) kc_1).1
    have uq2 : (-2147483648 : Int) ≤ p2.toInt ∧ p2.toInt ≤ 0 := q2
    refine lv_iconst (v := 0) hx hb dX11_closeFrame_20 (by decide) ?_
    exact hQ _ _ (0 : Int32) _ _ _ dX11_closeFrame_21 L ⟨hW, mFi.rf, mFr.rf, rg_w kc_0 rfl, trivial⟩
  · skip
    replace hW := wfP_i (wfP_r hW) (i_le (rg_nlt c2_1) (rg_i kc_1) rfl)
    have ic2_1 := Int32.le_iff_toInt_le.mp (rg_nlt c2_1)
    have q3 : rg (1) (2147483647) p2 := (rg_le (rg_nlt c2_1) kc_1 (rg_any p2)).2
    have uq3 : (1 : Int) ≤ p2.toInt ∧ p2.toInt ≤ 2147483647 := q3
    refine lv_iload_n hx hb dX11_closeFrame_5 rfl (lv_at hl 1 rfl) ?_
    refine lv_sipush (v := 200) hx hb dX11_closeFrame_6 (by decide) ?_
    refine lv_icmp_gt (tgt := 20) hx hb dX11_closeFrame_9 (by decide) (fun c9_4 => ?_) (fun c9_4 => ?_)
    · skip
      replace hW := wfP_i (wfP_l hW) (i_lt c9_4 (rg_i kc_200) rfl)
      have ic9_4 := Int32.lt_iff_toInt_lt.mp c9_4
      have q5 : rg (201) (2147483647) p2 := (rg_lt c9_4 kc_200 q3).2
      have uq5 : (201 : Int) ≤ p2.toInt ∧ p2.toInt ≤ 2147483647 := q5
      refine lv_iconst (v := 0) hx hb dX11_closeFrame_20 (by decide) ?_
      exact hQ _ _ (0 : Int32) _ _ _ dX11_closeFrame_21 L ⟨hW, mFi.rf, mFr.rf, rg_w kc_0 rfl, trivial⟩
    · skip
      replace hW := wfP_i (wfP_r hW) (i_le (rg_nlt c9_4) rfl (rg_i kc_200))
      have ic9_4 := Int32.le_iff_toInt_le.mp (rg_nlt c9_4)
      have q6 : rg (1) (200) p2 := (rg_le (rg_nlt c9_4) q3 kc_200).1
      have uq6 : (1 : Int) ≤ p2.toInt ∧ p2.toInt ≤ 200 := q6
      refine lv_aload_n hx hb dX11_closeFrame_12 rfl (lv_at hl 0 rfl) ?_
      refine c_len (n := 240) x L 38 q1 hq1 rfl (by decide) dX11_closeFrame_13 ?_
      refine lv_sipush (v := 240) hx hb dX11_closeFrame_14 (by decide) ?_
      refine lv_icmp_ge (tgt := 22) hx hb dX11_closeFrame_17 (by decide) (fun c17_7 => ?_) (fun c17_7 => ?_)
      · skip
        refine lv_iload_n hx hb dX11_closeFrame_22 rfl (lv_at hl 1 rfl) ?_
        refine c_si (As := [.int p2]) (rest := []) x hml L (d_kcellsFor l X g p2 hX (rg_w q6 rfl) hW) (wk_T kt_X11_cellsFor kl_X11_361 kn_X11 (wk_all kd_X11_cellsFor)) rfl ⟨rfl, rfl⟩ hd_kcellsFor ⟨Nat.le_of_ble_eq_true rfl, Nat.le_of_ble_eq_true rfl⟩ rfl hl.1 rfl (lv_room (Nat.le_of_ble_eq_true rfl)) dX11_closeFrame_23 (fun v9 g8 H8 k8 hp8 L8 => ?_)
        obtain ⟨hW, hi8, hp8⟩ := hp8
        replace hW := wfP_i hW ⟨hi8, hp8⟩
        have rv9 : rg (1) (5) v9 := hp8.2.1
        have uv9 : (1 : Int) ≤ v9.toInt ∧ v9.toInt ≤ 5 := rv9
        have hw10 := hp8.2.2
        refine lv_istore_n (lv' := [(2, .int v9), (0, .ref (Z.ad 38 q1)), (1, .int p2)]) hx hb dX11_closeFrame_26 rfl hl (by decide) rfl (fun ls hl => ?_)
        refine lv_iload_n hx hb dX11_closeFrame_27 rfl (lv_at hl 0 rfl) ?_
        refine lv_bipush (v := 48) hx hb dX11_closeFrame_28 (by decide) ?_
        refine lv_imul hx hb dX11_closeFrame_30 ?_
        refine lv_topi (fun v11 ev11 => ?_)
        have rv11 : rg (48) (240) v11 := (rg_mul ev11 rv9 kc_48 rfl).1
        replace hW := (wfP_i (wfP_i (wfP_i (wfP_a hW v11) ev11) rv11) ((rg_mul ev11 rv9 kc_48 rfl).2))
        have tv11 := (rg_mul ev11 rv9 kc_48 rfl).2
        have y12 : (48 : Int32).toInt = 48 := by decide
        have uv11 : (48 : Int) ≤ v11.toInt ∧ v11.toInt ≤ 240 := rv11
        refine lv_istore_n (lv' := [(3, .int v11), (2, .int v9), (0, .ref (Z.ad 38 q1)), (1, .int p2)]) hx hb dX11_closeFrame_31 rfl hl (by decide) rfl (fun ls hl => ?_)
        refine lv_aload_n hx hb dX11_closeFrame_32 rfl (lv_at hl 2 rfl) ?_
        refine lv_iload_n hx hb dX11_closeFrame_33 rfl (lv_at hl 3 rfl) ?_
        refine lv_iload_n hx hb dX11_closeFrame_34 rfl (lv_at hl 0 rfl) ?_
        refine lv_iconst (v := 0) hx hb dX11_closeFrame_35 (by decide) ?_
        have y13 : (0 : Int32).toInt = 0 := by decide
        refine c_sv (As := [.ref (Z.ad 38 q1), .int p2, .int v11, .int (0 : Int32)]) (rest := []) x hml L8 (d_kfill_38 l X g8 q1 p2 v11 (0 : Int32) hX hq1 (rg_w q6 rfl) (rg_w rv11 rfl) (by omega) hW) (wk_T kt_J7_fill_fda19 kl_X11_364 kn_J7 (wk_all kd_J7_fill_fda19)) rfl ⟨rfl, rfl⟩ hd_kfill_38 ⟨Nat.le_of_ble_eq_true rfl, Nat.le_of_ble_eq_true rfl⟩ rfl hl.1 rfl (lv_room (Nat.le_of_ble_eq_true rfl)) dX11_closeFrame_36 (fun  g14 H14 k14 hp14 L14 => ?_)
        obtain ⟨hW, hi14, hp14⟩ := hp14
        replace hW := wfP_i hW ⟨hi14, hp14⟩
        refine lv_aload_n hx hb dX11_closeFrame_39 rfl (lv_at hl 2 rfl) ?_
        refine lv_iload_n hx hb dX11_closeFrame_40 rfl (lv_at hl 0 rfl) ?_
        refine lv_bipush (v := 6) hx hb dX11_closeFrame_41 (by decide) ?_
        refine lv_isub hx hb dX11_closeFrame_43 ?_
        refine lv_topi (fun v15 ev15 => ?_)
        have rv15 : rg (42) (234) v15 := (rg_sub ev15 rv11 kc_6 rfl).1
        replace hW := (wfP_i (wfP_i (wfP_i (wfP_a hW v15) ev15) rv15) (w_isub ((rg_sub ev15 rv11 kc_6 rfl).2) rfl (rg_i kc_6)))
        have tv15 := (rg_sub ev15 rv11 kc_6 rfl).2
        have y16 : (6 : Int32).toInt = 6 := by decide
        have uv15 : (42 : Int) ≤ v15.toInt ∧ v15.toInt ≤ 234 := rv15
        refine lv_iload_n hx hb dX11_closeFrame_44 rfl (lv_at hl 3 rfl) ?_
        refine lv_bipush (v := 8) hx hb dX11_closeFrame_45 (by decide) ?_
        refine lv_iushr hx hb dX11_closeFrame_47 rfl ?_
        refine lv_topi (fun v17 ev17 => ?_)
        have rv17 : rg (0) (16777215) v17 := rg_ush ev17 8 rfl
        replace hW := (wfP_i (wfP_i (wfP_a hW v17) ev17) rv17)
        have uv17 : (0 : Int) ≤ v17.toInt ∧ v17.toInt ≤ 16777215 := rv17
        refine c_st x L14 38 q1 1216 hq1 rfl rfl rv15 rfl (rg_any v17) dX11_closeFrame_48 (fun g18 H18 k18 eg18 L18 => ?_)
        replace hW := (wfP_i (wfP_a hW g18) eg18)
        refine lv_aload_n hx hb dX11_closeFrame_49 rfl (lv_at hl 2 rfl) ?_
        refine lv_iload_n hx hb dX11_closeFrame_50 rfl (lv_at hl 0 rfl) ?_
        refine lv_iconst (v := 5) hx hb dX11_closeFrame_51 (by decide) ?_
        refine lv_isub hx hb dX11_closeFrame_52 ?_
        refine lv_topi (fun v19 ev19 => ?_)
        have rv19 : rg (43) (235) v19 := (rg_sub ev19 rv11 kc_5 rfl).1
        replace hW := (wfP_i (wfP_i (wfP_i (wfP_a hW v19) ev19) rv19) (w_isub ((rg_sub ev19 rv11 kc_5 rfl).2) rfl (rg_i kc_5)))
        have tv19 := (rg_sub ev19 rv11 kc_5 rfl).2
        have y20 : (5 : Int32).toInt = 5 := by decide
        have uv19 : (43 : Int) ≤ v19.toInt ∧ v19.toInt ≤ 235 := rv19
        refine lv_iload_n hx hb dX11_closeFrame_53 rfl (lv_at hl 3 rfl) ?_
        refine lv_sipush (v := 255) hx hb dX11_closeFrame_54 (by decide) ?_
        refine lv_iand hx hb dX11_closeFrame_57 ?_
        refine lv_topi (fun v21 ev21 => ?_)
        have rv21 : rg (0) (255) v21 := rg_and ev21 8 255 (by decide) rfl
        replace hW := (wfP_i (wfP_i (wfP_a hW v21) ev21) rv21)
        have uv21 : (0 : Int) ≤ v21.toInt ∧ v21.toInt ≤ 255 := rv21
        refine c_st x L18 38 q1 1216 hq1 rfl rfl rv19 rfl (rg_any v21) dX11_closeFrame_58 (fun g22 H22 k22 eg22 L22 => ?_)
        replace hW := (wfP_i (wfP_a hW g22) eg22)
        refine lv_aload_n hx hb dX11_closeFrame_59 rfl (lv_at hl 2 rfl) ?_
        refine lv_iload_n hx hb dX11_closeFrame_60 rfl (lv_at hl 0 rfl) ?_
        refine lv_iconst (v := 4) hx hb dX11_closeFrame_61 (by decide) ?_
        refine lv_isub hx hb dX11_closeFrame_62 ?_
        refine lv_topi (fun v23 ev23 => ?_)
        have rv23 : rg (44) (236) v23 := (rg_sub ev23 rv11 kc_4 rfl).1
        replace hW := (wfP_i (wfP_i (wfP_i (wfP_a hW v23) ev23) rv23) (w_isub ((rg_sub ev23 rv11 kc_4 rfl).2) rfl (rg_i kc_4)))
        have tv23 := (rg_sub ev23 rv11 kc_4 rfl).2
        have y24 : (4 : Int32).toInt = 4 := by decide
        have uv23 : (44 : Int) ≤ v23.toInt ∧ v23.toInt ≤ 236 := rv23
        refine c_si (As := [.ref (Z.ad 38 q1), .int v23]) (rest := []) x hml L22 (d_kcrcOf_38 l X g22 q1 v23 hX hq1 hW) (wk_T kt_X11_crcOf kl_X11_346 kn_X11 (wk_all kd_X11_crcOf)) rfl ⟨rfl, rfl⟩ hd_kcrcOf_38 ⟨Nat.le_of_ble_eq_true rfl, Nat.le_of_ble_eq_true rfl⟩ rfl hl.1 rfl (lv_room (Nat.le_of_ble_eq_true rfl)) dX11_closeFrame_63 (fun v26 g25 H25 k25 hp25 L25 => ?_)
        obtain ⟨hW, hi25, hp25⟩ := hp25
        replace hW := wfP_i hW ⟨hi25, hp25⟩
        have rv26 : rg (-2147483648) (2147483647) v26 := hp25.2.1
        have uv26 : (-2147483648 : Int) ≤ v26.toInt ∧ v26.toInt ≤ 2147483647 := rv26
        refine lv_istore (lv' := [(4, .int v26), (3, .int v11), (2, .int v9), (0, .ref (Z.ad 38 q1)), (1, .int p2)]) hx hb dX11_closeFrame_66 hl (by decide) rfl (fun ls hl => ?_)
        refine lv_iconst (v := 1) hx hb dX11_closeFrame_68 (by decide) ?_
        refine lv_istore (lv' := [(5, .int (1 : Int32)), (4, .int v26), (3, .int v11), (2, .int v9), (0, .ref (Z.ad 38 q1)), (1, .int p2)]) hx hb dX11_closeFrame_69 hl (by decide) rfl (fun ls hl => ?_)
        obtain ⟨P29, hP29, hW⟩ := wfP_ex hW
        have j71_29 : ∀ (n : Nat) (a71_4_27 a71_5_28 : Int32) (g29 : mSt) (H29 : Heap) (k29 : List Loc) (ls : Array Slot), mFr [1216] g25 g29 → cL G Z A H0 X g29 H29 k29 → rg (-2147483648) (2147483647) a71_4_27 → rg (1) (5) a71_5_28 → mFi (im_kcloseFrame_38 Z q1 p2) g25 g29 → wfP (P29 a71_4_27 a71_5_28 g29) → lv_has ls 6 [(0, .ref (Z.ad 38 q1)), (2, .int v9), (3, .int v11), (4, .int a71_4_27), (5, .int a71_5_28)] → ((5 : Int) - a71_5_28.toInt).toNat = n → W p l e rm_kcloseFrame_38 s m args below meth c H29 k29 0 0 Q (F0 m 71 ls []) := by
          intro n
          induction n using Nat.strongRecOn with
          | _ n ih29 =>
            intro a71_4_27 a71_5_28 g29 H29 k29 ls hF29 L29 ra71_4_27 ra71_5_28 hI29 hW hl hn29
            subst hn29
            replace hW := wfP_i (wfP_i (wfP_i (wfP_i (wfP_i (wfP_a (wfP_a (wfP_a hP29 a71_4_27) a71_5_28) g29) hF29) hI29) ra71_4_27) ra71_5_28) hW
            have ua71_4_27 : (-2147483648 : Int) ≤ a71_4_27.toInt ∧ a71_4_27.toInt ≤ 2147483647 := ra71_4_27
            have ua71_5_28 : (1 : Int) ≤ a71_5_28.toInt ∧ a71_5_28.toInt ≤ 5 := ra71_5_28
            refine lv_iload hx hb dX11_closeFrame_71 (lv_at hl 4 rfl) ?_
            refine lv_iconst (v := 4) hx hb dX11_closeFrame_73 (by decide) ?_
            refine lv_icmp_gt (tgt := 102) hx hb dX11_closeFrame_74 (by decide) (fun c74_30 => ?_) (fun c74_30 => ?_)
            · skip
              replace hW := wfP_i (wfP_l hW) (i_lt c74_30 (rg_i kc_4) rfl)
              have ic74_30 := Int32.lt_iff_toInt_lt.mp c74_30
              have q31 : rg (5) (5) a71_5_28 := (rg_lt c74_30 kc_4 ra71_5_28).2
              have uq31 : (5 : Int) ≤ a71_5_28.toInt ∧ a71_5_28.toInt ≤ 5 := q31
              refine lv_iload_n hx hb dX11_closeFrame_102 rfl (lv_at hl 1 rfl) ?_
              exact hQ _ _ v9 _ _ _ dX11_closeFrame_103 L29 ⟨hW, (mFi.tr (mFi.sub (mFi.up (mFi.up (mFi.sub (mFi.sub mFi.rf hi8 mSub_nil) hi14 (mSub_eq 0 rfl mSub_nil)) eg18 (mIn_at 0 rfl (Or.inr (mIx rv15 rfl)))) eg22 (mIn_at 0 rfl (Or.inr (mIx rv19 rfl)))) hi25 mSub_nil) hI29), (mFr.tr (mFr.tr (mFr.upE (mFr.upE (mFr.tr (mFr.tr mFr.rf hp8.1 rfl) hp14.1 rfl) eg18 rfl) eg22 rfl) hp25.1 rfl) hF29 rfl), rg_w rv9 rfl, trivial⟩
            · skip
              replace hW := wfP_i (wfP_r hW) (i_le (rg_nlt c74_30) rfl (rg_i kc_4))
              have ic74_30 := Int32.le_iff_toInt_le.mp (rg_nlt c74_30)
              have q32 : rg (1) (4) a71_5_28 := (rg_le (rg_nlt c74_30) ra71_5_28 kc_4).1
              have uq32 : (1 : Int) ≤ a71_5_28.toInt ∧ a71_5_28.toInt ≤ 4 := q32
              refine lv_aload_n hx hb dX11_closeFrame_77 rfl (lv_at hl 0 rfl) ?_
              refine lv_iload_n hx hb dX11_closeFrame_78 rfl (lv_at hl 2 rfl) ?_
              refine lv_iload hx hb dX11_closeFrame_79 (lv_at hl 4 rfl) ?_
              refine lv_isub hx hb dX11_closeFrame_81 ?_
              refine lv_topi (fun v33 ev33 => ?_)
              have rv33 : rg (44) (239) v33 := (rg_sub ev33 rv11 q32 rfl).1
              replace hW := (wfP_i (wfP_i (wfP_i (wfP_a hW v33) ev33) rv33) (w_isub ((rg_sub ev33 rv11 q32 rfl).2) rfl rfl))
              have tv33 := (rg_sub ev33 rv11 q32 rfl).2
              have uv33 : (44 : Int) ≤ v33.toInt ∧ v33.toInt ≤ 239 := rv33
              refine lv_iload hx hb dX11_closeFrame_82 (lv_at hl 3 rfl) ?_
              refine lv_sipush (v := 255) hx hb dX11_closeFrame_84 (by decide) ?_
              refine lv_iand hx hb dX11_closeFrame_87 ?_
              refine lv_topi (fun v34 ev34 => ?_)
              have rv34 : rg (0) (255) v34 := rg_and ev34 8 255 (by decide) rfl
              replace hW := (wfP_i (wfP_i (wfP_a hW v34) ev34) rv34)
              have uv34 : (0 : Int) ≤ v34.toInt ∧ v34.toInt ≤ 255 := rv34
              refine c_st x L29 38 q1 1216 hq1 rfl rfl rv33 rfl (rg_any v34) dX11_closeFrame_88 (fun g35 H35 k35 eg35 L35 => ?_)
              replace hW := (wfP_i (wfP_a hW g35) eg35)
              refine lv_iload hx hb dX11_closeFrame_89 (lv_at hl 3 rfl) ?_
              refine lv_bipush (v := 8) hx hb dX11_closeFrame_91 (by decide) ?_
              refine lv_iushr hx hb dX11_closeFrame_93 rfl ?_
              refine lv_topi (fun v36 ev36 => ?_)
              have rv36 : rg (0) (16777215) v36 := rg_ush ev36 8 rfl
              replace hW := (wfP_i (wfP_i (wfP_a hW v36) ev36) rv36)
              have uv36 : (0 : Int) ≤ v36.toInt ∧ v36.toInt ≤ 16777215 := rv36
              refine lv_istore (lv' := [(4, .int v36), (0, .ref (Z.ad 38 q1)), (2, .int v9), (3, .int v11), (5, .int a71_5_28)]) hx hb dX11_closeFrame_94 hl (by decide) rfl (fun ls hl => ?_)
              obtain ⟨v37, ev37, fv37⟩ := inc_ex a71_5_28 (1) (1 : Int32) (by decide)
              have rv37 : rg (2) (5) v37 := (rg_add ev37 q32 kc_1 rfl).1
              have tv37 := (rg_add ev37 q32 kc_1 rfl).2
              have yv37 : (1 : Int32).toInt = 1 := by decide
              replace hW := (wfP_i (wfP_i (wfP_i (wfP_a hW v37) ev37) rv37) (w_iadd tv37 rfl (rg_i kc_1)))
              refine lv_iinc (v := v37) (lv' := [(5, .int v37), (4, .int v36), (0, .ref (Z.ad 38 q1)), (2, .int v9), (3, .int v11)]) hx hb dX11_closeFrame_96 hl (k := 4) rfl fv37 (by decide) rfl (fun ls hl => ?_)
              refine lv_goto (tgt := 71) hx hb dX11_closeFrame_99 (by decide) ?_
              exact ih29 _ (ms_up tv37 kc_1 q32 rfl rfl) v36 v37 g35 _ _ ls (mFr.upE hF29 eg35 rfl) L35 (rg_w rv36 rfl) (rg_w rv37 rfl) (mFi.up hI29 eg35 (mIn_at 0 rfl (Or.inr (mIx rv33 rfl)))) hW (lv_sub hl [2, 3, 4, 1, 0] rfl) rfl
        have y38 : (1 : Int32).toInt = 1 := by decide
        exact j71_29 _ v26 (1 : Int32) g25 _ _ ls mFr.rf L25 (rg_w rv26 rfl) (rg_w kc_1 rfl) mFi.rf hW (lv_sub hl [4, 3, 2, 1, 0] rfl) rfl
      · skip
        exact absurd c17_7 (by decide)
theorem d_kcloseFrame_38 (l : Launch) {G : cG} {Z : cZ} (X : Int) (g : mSt) (q1 : Nat) (p2 : Int32) (hX : 0 ≤ X ∧ X ≤ 2000000000) (hq1 : Z.al 38 q1) {Φ : Int32 → mSt → Prop} (hW : wfP (wp_kcloseFrame_38 Z q1 p2 g Φ)) : Met l yX11_closeFrame (wk (Cond.code yX11_closeFrame cX11_closeFrame 6 (some .int))) rm_kcloseFrame_38 (va_Pc [.ref (Z.ad 38 q1), .int p2] (cPre G Z X g)) (cQi G Z X (fun r g1 => wfP (Φ r g1) ∧ mFi (im_kcloseFrame_38 Z q1 p2) g g1 ∧ (mFr [1216] g g1 ∧ rg (0) (5) r ∧ True))) 0 0 (cAd Z) := by
  refine Met.ofW (cc := cX11_closeFrame) (maxL := 6) (ret := (some .int)) (by decide) rfl ?_
  intro p e s m args below meth c s₁ B hml hv
  obtain ⟨rfl, hv⟩ := hv
  have hr := B.returns
  have hlocks := B.notSynchronized
  obtain ⟨x, L⟩ := c_start B rfl (fun w h => wk_in h) hv
  have hl := lv_entry ([.ref (Z.ad 38 q1), .int p2]) (n := 6) (Nat.le_of_ble_eq_true rfl)
  rw [lg_entry_eq]
  generalize (lg_sl ([.ref (Z.ad 38 q1), .int p2]) ++ List.replicate (6 - (lg_sl ([.ref (Z.ad 38 q1), .int p2])).length) Slot.unset).toArray = ls at hl ⊢
  exact v_kcloseFrame_38 x hml L hX q1 p2 hq1 hW hl (fun pc' ls' r g1 H1 locs1 hdg L hp => c_iret x L hr hlocks (Int.le_refl _) hp hdg)
